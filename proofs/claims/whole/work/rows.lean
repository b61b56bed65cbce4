section
-- ===== PART A: goes FIRST, ahead of the names: the tables' words, and 'selects' of the private methods out of them =====
/-- a private method of a class that the tables say can be made, by its rows of tables_1 -/
def lw_okq (q : MethodName × Nat) : Prop := (q.1.cls ≠ "java/lang/invoke/MethodHandle" ∧ q.1.cls ≠ "java/lang/invoke/VarHandle") ∧ Cond.instantiable q.1.cls q.2 ∈ tables_1 ∧ Cond.privateMethod q.1 ∈ tables_1 ∧ Cond.instanceMethod q.1 ∈ tables_1
theorem lw_p0 : lw_okq (⟨"LyingScale$History", "dropOldest", "()V"⟩, 2) := ⟨⟨by decide +kernel, by decide +kernel⟩, List.mem_of_getElem? (i := 106) (by decide +kernel), List.mem_of_getElem? (i := 180) (by decide +kernel), List.mem_of_getElem? (i := 181) (by decide +kernel)⟩
theorem lw_p1 : lw_okq (⟨"LyingScale$History", "stateAt", "(I)LLyingScale$State;"⟩, 2) := ⟨⟨by decide +kernel, by decide +kernel⟩, List.mem_of_getElem? (i := 106) (by decide +kernel), List.mem_of_getElem? (i := 184) (by decide +kernel), List.mem_of_getElem? (i := 185) (by decide +kernel)⟩
theorem lw_p2 : lw_okq (⟨"LyingScale$State", "volumeLeft", "(II)J"⟩, 9) := ⟨⟨by decide +kernel, by decide +kernel⟩, List.mem_of_getElem? (i := 25) (by decide +kernel), List.mem_of_getElem? (i := 222) (by decide +kernel), List.mem_of_getElem? (i := 223) (by decide +kernel)⟩
theorem lw_p3 : lw_okq (⟨"LyingScale$Orders", "take", "(I)Z"⟩, 9) := ⟨⟨by decide +kernel, by decide +kernel⟩, List.mem_of_getElem? (i := 123) (by decide +kernel), List.mem_of_getElem? (i := 289) (by decide +kernel), List.mem_of_getElem? (i := 290) (by decide +kernel)⟩
theorem lw_p4 : lw_okq (⟨"LyingScale$Orders", "takeLeft", "(I)Z"⟩, 9) := ⟨⟨by decide +kernel, by decide +kernel⟩, List.mem_of_getElem? (i := 123) (by decide +kernel), List.mem_of_getElem? (i := 293) (by decide +kernel), List.mem_of_getElem? (i := 294) (by decide +kernel)⟩
theorem lw_p5 : lw_okq (⟨"LyingScale$Orders", "coinOf", "(I)I"⟩, 9) := ⟨⟨by decide +kernel, by decide +kernel⟩, List.mem_of_getElem? (i := 123) (by decide +kernel), List.mem_of_getElem? (i := 297) (by decide +kernel), List.mem_of_getElem? (i := 298) (by decide +kernel)⟩
theorem lw_p6 : lw_okq (⟨"LyingScale$Orders", "goTo", "(I)Z"⟩, 9) := ⟨⟨by decide +kernel, by decide +kernel⟩, List.mem_of_getElem? (i := 123) (by decide +kernel), List.mem_of_getElem? (i := 301) (by decide +kernel), List.mem_of_getElem? (i := 302) (by decide +kernel)⟩
theorem lw_p7 : lw_okq (⟨"LyingScale$Orders", "takeRight", "(I)Z"⟩, 9) := ⟨⟨by decide +kernel, by decide +kernel⟩, List.mem_of_getElem? (i := 123) (by decide +kernel), List.mem_of_getElem? (i := 305) (by decide +kernel), List.mem_of_getElem? (i := 306) (by decide +kernel)⟩
theorem lw_p8 : lw_okq (⟨"LyingScale$Orders", "takeDeed", "(I)Z"⟩, 9) := ⟨⟨by decide +kernel, by decide +kernel⟩, List.mem_of_getElem? (i := 123) (by decide +kernel), List.mem_of_getElem? (i := 309) (by decide +kernel), List.mem_of_getElem? (i := 310) (by decide +kernel)⟩
theorem lw_p9 : lw_okq (⟨"LyingScale$Orders", "decide", "(I)Z"⟩, 9) := ⟨⟨by decide +kernel, by decide +kernel⟩, List.mem_of_getElem? (i := 123) (by decide +kernel), List.mem_of_getElem? (i := 313) (by decide +kernel), List.mem_of_getElem? (i := 314) (by decide +kernel)⟩
theorem lw_p10 : lw_okq (⟨"LyingScale$Orders", "takeAnswer", "(I)Z"⟩, 9) := ⟨⟨by decide +kernel, by decide +kernel⟩, List.mem_of_getElem? (i := 123) (by decide +kernel), List.mem_of_getElem? (i := 318) (by decide +kernel), List.mem_of_getElem? (i := 319) (by decide +kernel)⟩
theorem lw_p11 : lw_okq (⟨"LyingScale$Orders", "close", "()Z"⟩, 9) := ⟨⟨by decide +kernel, by decide +kernel⟩, List.mem_of_getElem? (i := 123) (by decide +kernel), List.mem_of_getElem? (i := 322) (by decide +kernel), List.mem_of_getElem? (i := 323) (by decide +kernel)⟩
theorem lw_p12 : lw_okq (⟨"LyingScale$State", "canDo", "(I)Z"⟩, 9) := ⟨⟨by decide +kernel, by decide +kernel⟩, List.mem_of_getElem? (i := 25) (by decide +kernel), List.mem_of_getElem? (i := 336) (by decide +kernel), List.mem_of_getElem? (i := 337) (by decide +kernel)⟩
theorem lw_p13 : lw_okq (⟨"java/lang/Throwable", "fillInStackTrace", "(I)Ljava/lang/Throwable;"⟩, 6) := ⟨⟨by decide +kernel, by decide +kernel⟩, List.mem_of_getElem? (i := 459) (by decide +kernel), List.mem_of_getElem? (i := 457) (by decide +kernel), List.mem_of_getElem? (i := 458) (by decide +kernel)⟩
theorem lw_p14 : lw_okq (⟨"LyingScaleModel", "sets", "(I)V"⟩, 11) := ⟨⟨by decide +kernel, by decide +kernel⟩, List.mem_of_getElem? (i := 726) (by decide +kernel), List.mem_of_getElem? (i := 732) (by decide +kernel), List.mem_of_getElem? (i := 733) (by decide +kernel)⟩
theorem lw_p15 : lw_okq (⟨"LyingScaleModel", "fails", "(I)I"⟩, 11) := ⟨⟨by decide +kernel, by decide +kernel⟩, List.mem_of_getElem? (i := 726) (by decide +kernel), List.mem_of_getElem? (i := 781) (by decide +kernel), List.mem_of_getElem? (i := 782) (by decide +kernel)⟩
def lw_privs_1 : List (MethodName × Nat) := [(⟨"LyingScale$History", "dropOldest", "()V"⟩, 2), (⟨"LyingScale$History", "stateAt", "(I)LLyingScale$State;"⟩, 2), (⟨"LyingScale$State", "volumeLeft", "(II)J"⟩, 9), (⟨"LyingScale$Orders", "take", "(I)Z"⟩, 9), (⟨"LyingScale$Orders", "takeLeft", "(I)Z"⟩, 9), (⟨"LyingScale$Orders", "coinOf", "(I)I"⟩, 9), (⟨"LyingScale$Orders", "goTo", "(I)Z"⟩, 9), (⟨"LyingScale$Orders", "takeRight", "(I)Z"⟩, 9), (⟨"LyingScale$Orders", "takeDeed", "(I)Z"⟩, 9), (⟨"LyingScale$Orders", "decide", "(I)Z"⟩, 9), (⟨"LyingScale$Orders", "takeAnswer", "(I)Z"⟩, 9), (⟨"LyingScale$Orders", "close", "()Z"⟩, 9), (⟨"LyingScale$State", "canDo", "(I)Z"⟩, 9), (⟨"java/lang/Throwable", "fillInStackTrace", "(I)Ljava/lang/Throwable;"⟩, 6), (⟨"LyingScaleModel", "sets", "(I)V"⟩, 11), (⟨"LyingScaleModel", "fails", "(I)I"⟩, 11)]
theorem lw_r1 : ∀ q ∈ lw_privs_1, lw_okq q := List.forall_mem_cons.mpr ⟨lw_p0, List.forall_mem_cons.mpr ⟨lw_p1, List.forall_mem_cons.mpr ⟨lw_p2, List.forall_mem_cons.mpr ⟨lw_p3, List.forall_mem_cons.mpr ⟨lw_p4, List.forall_mem_cons.mpr ⟨lw_p5, List.forall_mem_cons.mpr ⟨lw_p6, List.forall_mem_cons.mpr ⟨lw_p7, List.forall_mem_cons.mpr ⟨lw_p8, List.forall_mem_cons.mpr ⟨lw_p9, List.forall_mem_cons.mpr ⟨lw_p10, List.forall_mem_cons.mpr ⟨lw_p11, List.forall_mem_cons.mpr ⟨lw_p12, List.forall_mem_cons.mpr ⟨lw_p13, List.forall_mem_cons.mpr ⟨lw_p14, List.forall_mem_cons.mpr ⟨lw_p15, fun _ h => absurd h List.not_mem_nil⟩⟩⟩⟩⟩⟩⟩⟩⟩⟩⟩⟩⟩⟩⟩⟩
theorem lw_p16 : lw_okq (⟨"LyingScaleModel", "begins", "()V"⟩, 11) := ⟨⟨by decide +kernel, by decide +kernel⟩, List.mem_of_getElem? (i := 726) (by decide +kernel), List.mem_of_getElem? (i := 785) (by decide +kernel), List.mem_of_getElem? (i := 786) (by decide +kernel)⟩
theorem lw_p17 : lw_okq (⟨"LyingScaleModel", "saved", "(I)I"⟩, 11) := ⟨⟨by decide +kernel, by decide +kernel⟩, List.mem_of_getElem? (i := 726) (by decide +kernel), List.mem_of_getElem? (i := 789) (by decide +kernel), List.mem_of_getElem? (i := 790) (by decide +kernel)⟩
theorem lw_p18 : lw_okq (⟨"LyingScaleModel", "tells", "(I)I"⟩, 11) := ⟨⟨by decide +kernel, by decide +kernel⟩, List.mem_of_getElem? (i := 726) (by decide +kernel), List.mem_of_getElem? (i := 793) (by decide +kernel), List.mem_of_getElem? (i := 794) (by decide +kernel)⟩
theorem lw_p19 : lw_okq (⟨"LyingScaleModel", "lefts", "()I"⟩, 11) := ⟨⟨by decide +kernel, by decide +kernel⟩, List.mem_of_getElem? (i := 726) (by decide +kernel), List.mem_of_getElem? (i := 801) (by decide +kernel), List.mem_of_getElem? (i := 802) (by decide +kernel)⟩
theorem lw_p20 : lw_okq (⟨"LyingScaleModel", "cases", "()I"⟩, 11) := ⟨⟨by decide +kernel, by decide +kernel⟩, List.mem_of_getElem? (i := 726) (by decide +kernel), List.mem_of_getElem? (i := 805) (by decide +kernel), List.mem_of_getElem? (i := 806) (by decide +kernel)⟩
theorem lw_p21 : lw_okq (⟨"LyingScaleModel", "isLeft", "(I)Z"⟩, 11) := ⟨⟨by decide +kernel, by decide +kernel⟩, List.mem_of_getElem? (i := 726) (by decide +kernel), List.mem_of_getElem? (i := 809) (by decide +kernel), List.mem_of_getElem? (i := 810) (by decide +kernel)⟩
theorem lw_p22 : lw_okq (⟨"LyingScaleModel", "whyNotTell", "(III)I"⟩, 11) := ⟨⟨by decide +kernel, by decide +kernel⟩, List.mem_of_getElem? (i := 726) (by decide +kernel), List.mem_of_getElem? (i := 817) (by decide +kernel), List.mem_of_getElem? (i := 818) (by decide +kernel)⟩
theorem lw_p23 : lw_okq (⟨"LyingScaleModel", "areSides", "(II)Z"⟩, 11) := ⟨⟨by decide +kernel, by decide +kernel⟩, List.mem_of_getElem? (i := 726) (by decide +kernel), List.mem_of_getElem? (i := 821) (by decide +kernel), List.mem_of_getElem? (i := 822) (by decide +kernel)⟩
theorem lw_p24 : lw_okq (⟨"LyingScaleModel", "lays", "(III)V"⟩, 11) := ⟨⟨by decide +kernel, by decide +kernel⟩, List.mem_of_getElem? (i := 726) (by decide +kernel), List.mem_of_getElem? (i := 828) (by decide +kernel), List.mem_of_getElem? (i := 829) (by decide +kernel)⟩
theorem lw_p25 : lw_okq (⟨"LyingScaleModel", "isCase", "(I)Z"⟩, 11) := ⟨⟨by decide +kernel, by decide +kernel⟩, List.mem_of_getElem? (i := 726) (by decide +kernel), List.mem_of_getElem? (i := 843) (by decide +kernel), List.mem_of_getElem? (i := 844) (by decide +kernel)⟩
theorem lw_p26 : lw_okq (⟨"LyingScaleModel", "whyNotAsk", "(II)I"⟩, 11) := ⟨⟨by decide +kernel, by decide +kernel⟩, List.mem_of_getElem? (i := 726) (by decide +kernel), List.mem_of_getElem? (i := 852) (by decide +kernel), List.mem_of_getElem? (i := 853) (by decide +kernel)⟩
theorem lw_p27 : lw_okq (⟨"LyingScaleModel", "asks", "(II)I"⟩, 11) := ⟨⟨by decide +kernel, by decide +kernel⟩, List.mem_of_getElem? (i := 726) (by decide +kernel), List.mem_of_getElem? (i := 856) (by decide +kernel), List.mem_of_getElem? (i := 857) (by decide +kernel)⟩
theorem lw_p28 : lw_okq (⟨"LyingScaleModel", "whyNotAdd", "(II)I"⟩, 11) := ⟨⟨by decide +kernel, by decide +kernel⟩, List.mem_of_getElem? (i := 726) (by decide +kernel), List.mem_of_getElem? (i := 864) (by decide +kernel), List.mem_of_getElem? (i := 865) (by decide +kernel)⟩
theorem lw_p29 : lw_okq (⟨"LyingScaleModel", "adds", "(II)I"⟩, 11) := ⟨⟨by decide +kernel, by decide +kernel⟩, List.mem_of_getElem? (i := 726) (by decide +kernel), List.mem_of_getElem? (i := 868) (by decide +kernel), List.mem_of_getElem? (i := 869) (by decide +kernel)⟩
theorem lw_p30 : lw_okq (⟨"LyingScaleModel", "number", "(I)I"⟩, 11) := ⟨⟨by decide +kernel, by decide +kernel⟩, List.mem_of_getElem? (i := 726) (by decide +kernel), List.mem_of_getElem? (i := 896) (by decide +kernel), List.mem_of_getElem? (i := 897) (by decide +kernel)⟩
theorem lw_p31 : lw_okq (⟨"LyingScaleModel", "falseOnes", "()I"⟩, 11) := ⟨⟨by decide +kernel, by decide +kernel⟩, List.mem_of_getElem? (i := 726) (by decide +kernel), List.mem_of_getElem? (i := 900) (by decide +kernel), List.mem_of_getElem? (i := 901) (by decide +kernel)⟩
def lw_privs_2 : List (MethodName × Nat) := [(⟨"LyingScaleModel", "begins", "()V"⟩, 11), (⟨"LyingScaleModel", "saved", "(I)I"⟩, 11), (⟨"LyingScaleModel", "tells", "(I)I"⟩, 11), (⟨"LyingScaleModel", "lefts", "()I"⟩, 11), (⟨"LyingScaleModel", "cases", "()I"⟩, 11), (⟨"LyingScaleModel", "isLeft", "(I)Z"⟩, 11), (⟨"LyingScaleModel", "whyNotTell", "(III)I"⟩, 11), (⟨"LyingScaleModel", "areSides", "(II)Z"⟩, 11), (⟨"LyingScaleModel", "lays", "(III)V"⟩, 11), (⟨"LyingScaleModel", "isCase", "(I)Z"⟩, 11), (⟨"LyingScaleModel", "whyNotAsk", "(II)I"⟩, 11), (⟨"LyingScaleModel", "asks", "(II)I"⟩, 11), (⟨"LyingScaleModel", "whyNotAdd", "(II)I"⟩, 11), (⟨"LyingScaleModel", "adds", "(II)I"⟩, 11), (⟨"LyingScaleModel", "number", "(I)I"⟩, 11), (⟨"LyingScaleModel", "falseOnes", "()I"⟩, 11)]
theorem lw_r2 : ∀ q ∈ lw_privs_2, lw_okq q := List.forall_mem_cons.mpr ⟨lw_p16, List.forall_mem_cons.mpr ⟨lw_p17, List.forall_mem_cons.mpr ⟨lw_p18, List.forall_mem_cons.mpr ⟨lw_p19, List.forall_mem_cons.mpr ⟨lw_p20, List.forall_mem_cons.mpr ⟨lw_p21, List.forall_mem_cons.mpr ⟨lw_p22, List.forall_mem_cons.mpr ⟨lw_p23, List.forall_mem_cons.mpr ⟨lw_p24, List.forall_mem_cons.mpr ⟨lw_p25, List.forall_mem_cons.mpr ⟨lw_p26, List.forall_mem_cons.mpr ⟨lw_p27, List.forall_mem_cons.mpr ⟨lw_p28, List.forall_mem_cons.mpr ⟨lw_p29, List.forall_mem_cons.mpr ⟨lw_p30, List.forall_mem_cons.mpr ⟨lw_p31, fun _ h => absurd h List.not_mem_nil⟩⟩⟩⟩⟩⟩⟩⟩⟩⟩⟩⟩⟩⟩⟩⟩
theorem lw_p32 : lw_okq (⟨"LyingScaleModel", "weighs", "(IIII)J"⟩, 11) := ⟨⟨by decide +kernel, by decide +kernel⟩, List.mem_of_getElem? (i := 726) (by decide +kernel), List.mem_of_getElem? (i := 908) (by decide +kernel), List.mem_of_getElem? (i := 909) (by decide +kernel)⟩
theorem lw_p33 : lw_okq (⟨"LyingScaleModel", "least", "()I"⟩, 11) := ⟨⟨by decide +kernel, by decide +kernel⟩, List.mem_of_getElem? (i := 726) (by decide +kernel), List.mem_of_getElem? (i := 920) (by decide +kernel), List.mem_of_getElem? (i := 921) (by decide +kernel)⟩
theorem lw_p34 : lw_okq (⟨"LyingScaleModel", "best", "(I)I"⟩, 11) := ⟨⟨by decide +kernel, by decide +kernel⟩, List.mem_of_getElem? (i := 726) (by decide +kernel), List.mem_of_getElem? (i := 933) (by decide +kernel), List.mem_of_getElem? (i := 934) (by decide +kernel)⟩
theorem lw_p35 : lw_okq (⟨"LyingScaleModel", "apart", "(II)I"⟩, 11) := ⟨⟨by decide +kernel, by decide +kernel⟩, List.mem_of_getElem? (i := 726) (by decide +kernel), List.mem_of_getElem? (i := 945) (by decide +kernel), List.mem_of_getElem? (i := 946) (by decide +kernel)⟩
theorem lw_p36 : lw_okq (⟨"LyingScaleModel", "nearest", "()I"⟩, 11) := ⟨⟨by decide +kernel, by decide +kernel⟩, List.mem_of_getElem? (i := 726) (by decide +kernel), List.mem_of_getElem? (i := 953) (by decide +kernel), List.mem_of_getElem? (i := 954) (by decide +kernel)⟩
theorem lw_p37 : lw_okq (⟨"LyingScaleModel", "differs", "(II)I"⟩, 11) := ⟨⟨by decide +kernel, by decide +kernel⟩, List.mem_of_getElem? (i := 726) (by decide +kernel), List.mem_of_getElem? (i := 965) (by decide +kernel), List.mem_of_getElem? (i := 966) (by decide +kernel)⟩
theorem lw_p38 : lw_okq (⟨"LyingScaleModel", "wrong", "()I"⟩, 11) := ⟨⟨by decide +kernel, by decide +kernel⟩, List.mem_of_getElem? (i := 726) (by decide +kernel), List.mem_of_getElem? (i := 985) (by decide +kernel), List.mem_of_getElem? (i := 986) (by decide +kernel)⟩
theorem lw_p39 : lw_okq (⟨"LyingScaleModel", "reads", "()Z"⟩, 11) := ⟨⟨by decide +kernel, by decide +kernel⟩, List.mem_of_getElem? (i := 726) (by decide +kernel), List.mem_of_getElem? (i := 989) (by decide +kernel), List.mem_of_getElem? (i := 990) (by decide +kernel)⟩
theorem lw_p40 : lw_okq (⟨"LyingScaleModel", "side", "(I)I"⟩, 11) := ⟨⟨by decide +kernel, by decide +kernel⟩, List.mem_of_getElem? (i := 726) (by decide +kernel), List.mem_of_getElem? (i := 993) (by decide +kernel), List.mem_of_getElem? (i := 994) (by decide +kernel)⟩
theorem lw_p41 : lw_okq (⟨"LyingScaleModel", "sign", "()I"⟩, 11) := ⟨⟨by decide +kernel, by decide +kernel⟩, List.mem_of_getElem? (i := 726) (by decide +kernel), List.mem_of_getElem? (i := 997) (by decide +kernel), List.mem_of_getElem? (i := 998) (by decide +kernel)⟩
theorem lw_p42 : lw_okq (⟨"LyingScaleModel", "takes", "(I)Z"⟩, 11) := ⟨⟨by decide +kernel, by decide +kernel⟩, List.mem_of_getElem? (i := 726) (by decide +kernel), List.mem_of_getElem? (i := 1001) (by decide +kernel), List.mem_of_getElem? (i := 1002) (by decide +kernel)⟩
theorem lw_p43 : lw_okq (⟨"LyingScaleModel", "kind", "()I"⟩, 11) := ⟨⟨by decide +kernel, by decide +kernel⟩, List.mem_of_getElem? (i := 726) (by decide +kernel), List.mem_of_getElem? (i := 1005) (by decide +kernel), List.mem_of_getElem? (i := 1006) (by decide +kernel)⟩
theorem lw_p44 : lw_okq (⟨"LyingScaleModel", "does", "()Z"⟩, 11) := ⟨⟨by decide +kernel, by decide +kernel⟩, List.mem_of_getElem? (i := 726) (by decide +kernel), List.mem_of_getElem? (i := 1009) (by decide +kernel), List.mem_of_getElem? (i := 1010) (by decide +kernel)⟩
def lw_privs_3 : List (MethodName × Nat) := [(⟨"LyingScaleModel", "weighs", "(IIII)J"⟩, 11), (⟨"LyingScaleModel", "least", "()I"⟩, 11), (⟨"LyingScaleModel", "best", "(I)I"⟩, 11), (⟨"LyingScaleModel", "apart", "(II)I"⟩, 11), (⟨"LyingScaleModel", "nearest", "()I"⟩, 11), (⟨"LyingScaleModel", "differs", "(II)I"⟩, 11), (⟨"LyingScaleModel", "wrong", "()I"⟩, 11), (⟨"LyingScaleModel", "reads", "()Z"⟩, 11), (⟨"LyingScaleModel", "side", "(I)I"⟩, 11), (⟨"LyingScaleModel", "sign", "()I"⟩, 11), (⟨"LyingScaleModel", "takes", "(I)Z"⟩, 11), (⟨"LyingScaleModel", "kind", "()I"⟩, 11), (⟨"LyingScaleModel", "does", "()Z"⟩, 11)]
theorem lw_r3 : ∀ q ∈ lw_privs_3, lw_okq q := List.forall_mem_cons.mpr ⟨lw_p32, List.forall_mem_cons.mpr ⟨lw_p33, List.forall_mem_cons.mpr ⟨lw_p34, List.forall_mem_cons.mpr ⟨lw_p35, List.forall_mem_cons.mpr ⟨lw_p36, List.forall_mem_cons.mpr ⟨lw_p37, List.forall_mem_cons.mpr ⟨lw_p38, List.forall_mem_cons.mpr ⟨lw_p39, List.forall_mem_cons.mpr ⟨lw_p40, List.forall_mem_cons.mpr ⟨lw_p41, List.forall_mem_cons.mpr ⟨lw_p42, List.forall_mem_cons.mpr ⟨lw_p43, List.forall_mem_cons.mpr ⟨lw_p44, fun _ h => absurd h List.not_mem_nil⟩⟩⟩⟩⟩⟩⟩⟩⟩⟩⟩⟩⟩
def lw_privs : List (MethodName × Nat) := lw_privs_1 ++ (lw_privs_2 ++ (lw_privs_3))
def lw_tbl : List Cond := k2_sels lw_privs ++ tables_1
theorem lw_privs_ok : ∀ q ∈ lw_privs, lw_okq q := by
  show ∀ q ∈ lw_privs_1 ++ (lw_privs_2 ++ (lw_privs_3)), lw_okq q
  exact List.forall_mem_append.mpr ⟨lw_r1, List.forall_mem_append.mpr ⟨lw_r2, lw_r3⟩⟩
/-- the streams that the claim lets the run draw from -/
abbrev lw_cs : List Choice := [Jvm.Choice.named "NaN.bits"]
theorem lw_bits : nanBits ∈ lw_cs := by first | decide | exact List.mem_cons_self | simp [lw_cs, nanBits]
-- ===== end of PART A; then your names; then what follows =====
end
section
/-! ===== BEGIN words of one list among another's, by their places ===== -/
theorem goodIn_r {big : List Cond} (ws : List Cond) (ps : List Nat) (hp : ws = ps.filterMap (fun i => big[i]?)) (h : ws.all goodWord = true) : GoodIn big ws := by
  intro w hw
  have h1 := List.all_eq_true.mp h w hw
  rw [hp] at hw
  obtain ⟨i, -, hi⟩ := List.mem_filterMap.mp hw
  have hm : w ∈ big := by first | exact List.mem_of_getElem? hi | exact List.getElem?_mem hi
  exact ⟨hm, good_of_word h1⟩
theorem goodIn_app {big a b : List Cond} (ha : GoodIn big a) (hb : GoodIn big b) : GoodIn big (a ++ b) := fun w h => (List.mem_append.mp h).elim (ha w) (hb w)
theorem goodIn_ca {big a b : List Cond} {c : Cond} (ha : GoodIn big (c :: a)) (hb : GoodIn big b) : GoodIn big (c :: (a ++ b)) := fun w h => (List.mem_cons.mp h).elim (fun e => ha w (List.mem_cons.mpr (Or.inl e))) (fun h => (List.mem_append.mp h).elim (fun h => ha w (List.mem_cons.mpr (Or.inr h))) (hb w))
theorem goodIn_sub {big ws : List Cond} (hm : ∀ w ∈ ws, w ∈ big) (h : ws.all goodWord = true) : GoodIn big ws := fun w hw => ⟨hm w hw, good_of_word (List.all_eq_true.mp h w hw)⟩
/-! ===== END ===== -/

/-! ===== BEGIN exceptions that leave a method, and their catching by the caller (launches without stack traces) ===== -/
section VXA
/-! The laws vx_back, vx_callV, vx_callS, vx_callSW, vx_throw0, vx_throwS follow proofs of the library, with one case more: JvmDerived/Free/Laws.lean (Back.of_free), Shelf42/LK1.lean (callV, callS), Shelf/KitTraced.lean (throwNew0V, throwNewS). -/
/-- where a method has thrown q: the class by its name, the cell, what was written, the world -/
def vx_T (XC : String → State → State → Prop) (st : State) (q : Addr) (t : State) (mc ms : Nat) (free : Addr → Prop) : Prop :=
  ∃ (E : String) (ce : Cell) (L : List Loc), XC E st t ∧ t.heap[q]? = some ce ∧ ce.vm = .none ∧ st.vm.findClass E = some ce.cls ∧ st.WarmedH t.vm ∧ st.sameButNew ({ t with vm := st.vm } : State) L mc ms ∧ ∀ z ∈ L, free z.base
def vx_Q (Qc : Array Value → State → Outcome → State → Prop) (XC : String → State → State → Prop) (mc ms : Nat) (free : Addr → Prop) : Array Value → State → Outcome → State → Prop := fun a st o t =>
  (Qc a st o t ∧ ∃ L, FrameEnd st o t L mc ms ∧ ∀ q ∈ L, free q.base) ∨ ∃ q, o = .threw q ∧ vx_T XC st q t mc ms free
/-- a callee that returns or throws -/
def vx_Met (l : Launch) (y : MethodName) (ws : List Cond) (rm : Room) (Pc : Array Value → State → Prop) (Qc : Array Value → State → Outcome → State → Prop) (XC : String → State → State → Prop) (mc ms : Nat) (free : Addr → Prop) : Prop :=
  MetFree l y (headSpec ws rm) Pc (fun _ _ _ _ _ => True) (vx_Q Qc XC mc ms free)
def vx_Post (XC : String → State → State → Prop) (mc ms : Nat) (free : Addr → Prop) : Pt → Array Value → Addr → Pt → Prop := fun A a q B =>
  ∃ (g : JFrame) (mk : MethodId) (t : State) (L : List Loc) (E : String) (ce : Cell), B.U.heap = t.heap ∧ B.U.vm = t.vm ∧ XC E (A.U.calling g mk a) t ∧ t.heap[q]? = some ce ∧ ce.vm = .none ∧ A.U.vm.findClass E = some ce.cls ∧ B.locs = A.locs ++ L ∧ (∀ z ∈ L, free z.base) ∧ B.cells = A.cells + mc ∧ B.slots = A.slots + ms
def vx_Back (l : Launch) (R : Room) (p : Program) (e : Env) (below : List Frame) (s : State) (sargs : Array Value) (y : MethodName) (len W9 : Nat)
    (Pre : Pt → Array Value → Prop) (Post : Pt → Array Value → Option Value → Pt → Prop) (PostX : Pt → Array Value → Addr → Pt → Prop) : Prop :=
  ∀ (m : MethodId) (meth : Method) (c : Code) (A : Pt) (g : JFrame) (ig : Instr) (mk : MethodId) (a : Array Value),
    Stand p l e R s m sargs below meth c A.U A.locs A.cells A.slots → g.method = m → g.locals.size = c.maxLocals → decode c.code g.pc = .ok (ig, len) →
    2 * g.monitorRoom + (g.stack.map fun v => v.category).sum ≤ W9 → A.U.methodNamed? y = some mk → Pre A a →
    (∃ (v : Option Value) (B : Pt), Stand p l e R s m sargs below meth c B.U B.locs B.cells B.slots ∧ Post A a v B ∧
      Steps p.tables e below (doInvoke e (A.U.setTop g) [] mk a).1 (B.U.setTop { g with pc := g.pc + len, stack := v.toList ++ g.stack })) ∨
    (∃ (q : Addr) (B : Pt), Stand p l e R s m sargs below meth c B.U B.locs B.cells B.slots ∧ PostX A a q B ∧
      Steps p.tables e below (doInvoke e (A.U.setTop g) [] mk a).1 ((B.U.setTop g).pushFrame (.throwing q)))
section Payer
variable {l : Launch} {R : Room} {p : Program} {e : Env} {below : List Frame} {s : State} {sargs : Array Value} {y : MethodName} {len W9 : Nat}
theorem vx_back {ws : List Cond} {rm : Room} {Pc : Array Value → State → Prop} {Qc : Array Value → State → Outcome → State → Prop} {XC : String → State → State → Prop} {mc ms : Nat} {free : Addr → Prop} {bytes : ByteArray} {maxL : Nat} {ret : Option FieldType}
    (hM : vx_Met l y ws rm Pc Qc XC mc ms free) (hblind : FrameBlind Pc) (hrc : rm.cells = mc) (hrs : rm.slots = ms)
    (hframes : rm.frames + 1 ≤ R.frames) (hlocals : W9 + (maxL + 11) + rm.locals ≤ R.locals)
    (hws : ∀ w ∈ ws, ∀ a' U, s.WarmedH U.vm → w.before a' U = true) (hcode : Cond.code y bytes maxL ret ∈ ws) (hinit : ∀ a' U, s.WarmedH U.vm → (Cond.initialized y.cls).before a' U = true) :
    vx_Back l R p e below s sargs y len W9 (PreOf R mc ms Pc) (PostOf Qc mc ms free) (vx_Post XC mc ms free) := by
  intro m meth c A g ig mk a X hg hsize hdg hW hn hp
  have h1 : (headSpec ws rm).pre.before a A.U = true := atoms_intro fun w hw => hws w hw _ _ X.warmed
  have h2 : (Cond.code y bytes maxL ret).before a A.U = true := hws _ hcode _ _ X.warmed
  have h3 : (Cond.initialized y.cls).before a A.U = true := hinit _ _ X.warmed
  have h4 : A.cells + (headSpec ws rm).room.cells ≤ R.cells := by rw [show (headSpec ws rm).room.cells = mc from hrc]; exact hp.1
  have h5 : A.slots + (headSpec ws rm).room.slots ≤ R.slots := by rw [show (headSpec ws rm).room.slots = ms from hrs]; exact hp.2.1
  have hPc : Pc a (A.U.calling g mk a) := hblind _ _ _ _ hp.2.2
  obtain ⟨U, Ls, c0, s0⟩ := A
  dsimp only [Pt.U, Pt.locs, Pt.cells, Pt.slots] at h1 h2 h3 h4 h5 X hn hPc ⊢
  obtain ⟨methY, cY, hmY, hcY, -, hlY, -, -, -, -⟩ := Cond.code_spec hn h2
  obtain ⟨kY, hkY, -⟩ := className_of_methodNamed hn
  have hinitY : kY.init = .initialized := Cond.initialized_spec (findClass_of_methodNamed hn) hkY h3
  have h : At U g.method c below := by rw [hg]; exact X.here
  have hlocals9 : W9 + (maxL + 11) + (headSpec ws rm).room.locals ≤ R.locals := hlocals
  have happ : (headSpec ws rm).appliesLoose y e.platform (U.calling g mk a) = true :=
    Spec.appliesLoose_calling (g := g) h hdg hn hkY hinitY
      (X.room_calling (g := g) (R' := (headSpec ws rm).room) hsize hmY hcY hframes (by rw [hlY]; omega) h4 h5) h1
  obtain ⟨mid, hmid⟩ := h.above
  have hfr : (U.setTop g).frames = (.java g :: mid) ++ below := by rw [State.frames_setTop' g h.top, hmid]; rfl
  obtain ⟨o, s₂, hsteps, -, hend, hq⟩ := Steps.callFree hM p X.admits X.cas X.clock (acts := []) hfr happ hPc trivial
  have hq' : vx_Q Qc XC mc ms free a (U.calling g mk a) o s₂ := hq
  rw [State.frames_setTop' g h.top] at hend
  obtain ⟨g₀, hg0⟩ := Option.isSome_iff_exists.mp h.top
  obtain ⟨r, hr⟩ := State.topJava?_eq_some.mp hg0
  have hr' : (({ U with heap := s₂.heap, slotsUsed := s₂.slotsUsed } : State).setVm s₂.vm).frames = .java g₀ :: r := hr
  rcases hq' with ⟨hqc, L, hfe, hL⟩ | ⟨q, rfl, E, ce, L, hx, hce, hcv, hcl, hW₂, hsm, hL⟩
  · obtain ⟨⟨v, rfl⟩, hW₂, e2, q2, q3, q4, q5, q6⟩ := id hfe
    have e3 : s₂ = ({ (U.calling g mk a).setFrames s₂.frames with heap := s₂.heap, slotsUsed := s₂.slotsUsed } : State).setVm s₂.vm := by
      have : s₂ = ({ s₂ with vm := (U.calling g mk a).vm } : State).setVm s₂.vm := rfl
      rw [e2] at this
      exact this
    obtain ⟨c₂, i₂, len₂, hc₂, hd₂, hf₂⟩ := hend
    have hW' : U.WarmedH s₂.vm := hW₂
    have hcc : c₂ = c := by
      have h1 : s₂.code? g.method = U.code? g.method := by
        rw [State.code?_eq, State.code?_eq, hW'.alike.method?]
      exact Option.some.inj (hc₂.symm.trans (h1.trans h.code))
    subst hcc
    have hlen : len₂ = len := by rw [hdg] at hd₂; cases hd₂; rfl
    subst hlen
    have hs₂ : s₂ = (({ U with heap := s₂.heap, slotsUsed := s₂.slotsUsed } : State).setVm s₂.vm).setTop { g with pc := g.pc + len₂, stack := v.toList ++ g.stack } := by
      refine e3.trans ?_
      rw [hf₂, State.calling_eq h.top, State.setFrames_setFrames, State.setTop_of_frames _ hr', hr]
      rfl
    have hsame : U.sameButNew ({ U with heap := s₂.heap, slotsUsed := s₂.slotsUsed } : State) L mc ms := by
      refine ⟨?_, q2, q3, q4, q5, q6⟩
      obtain ⟨t, ht, -⟩ := State.frames_cons hr
      show ({ U with heap := s₂.heap, slotsUsed := s₂.slotsUsed } : State) = { U.setFrames U.frames with heap := s₂.heap, slotsUsed := s₂.slotsUsed }
      rw [State.setFrames_self ht]
    subst hg
    refine Or.inl ⟨v, ⟨(({ U with heap := s₂.heap, slotsUsed := s₂.slotsUsed } : State).setVm s₂.vm), Ls ++ L, c0 + mc, s0 + ms⟩,
      ⟨X.admits, X.cas, X.clock, X.frames, X.room, X.hears, X.method, X.code, (X.here.setHeapUsed s₂.heap s₂.slotsUsed).setVm hW'.alike, X.tail, State.WarmedH.trans X.warmed hW', X.limits, X.bytes, X.same.trans (hsame.setVm s.vm)⟩,
      ⟨g, mk, s₂, L, rfl, rfl, hqc, rfl, hL, rfl, rfl⟩, ?_⟩
    show Steps p.tables e below _ ((({ U with heap := s₂.heap, slotsUsed := s₂.slotsUsed } : State).setVm s₂.vm).setTop { g with pc := g.pc + len₂, stack := v.toList ++ g.stack })
    rw [← hs₂]
    exact hsteps
  · obtain ⟨e2, q2, q3, q4, q5, q6⟩ := id hsm
    have e3 : s₂ = ({ (U.calling g mk a).setFrames s₂.frames with heap := s₂.heap, slotsUsed := s₂.slotsUsed } : State).setVm s₂.vm := by
      have : s₂ = ({ s₂ with vm := (U.calling g mk a).vm } : State).setVm s₂.vm := rfl
      rw [e2] at this
      exact this
    have hf₂ : s₂.frames = .throwing q :: .java g :: U.frames.tail := hend
    have hW' : U.WarmedH s₂.vm := hW₂
    have hs₂ : s₂ = ((({ U with heap := s₂.heap, slotsUsed := s₂.slotsUsed } : State).setVm s₂.vm).setTop g).pushFrame (.throwing q) := by
      refine e3.trans ?_
      rw [hf₂, State.calling_eq h.top, State.setFrames_setFrames, State.pushFrame, State.frames_setTop _ hr', State.setTop_of_frames _ hr', State.setFrames_setFrames, hr]
      rfl
    have hsame : U.sameButNew ({ U with heap := s₂.heap, slotsUsed := s₂.slotsUsed } : State) L mc ms := by
      refine ⟨?_, q2, q3, q4, q5, q6⟩
      obtain ⟨t, ht, -⟩ := State.frames_cons hr
      show ({ U with heap := s₂.heap, slotsUsed := s₂.slotsUsed } : State) = { U.setFrames U.frames with heap := s₂.heap, slotsUsed := s₂.slotsUsed }
      rw [State.setFrames_self ht]
    subst hg
    refine Or.inr ⟨q, ⟨(({ U with heap := s₂.heap, slotsUsed := s₂.slotsUsed } : State).setVm s₂.vm), Ls ++ L, c0 + mc, s0 + ms⟩,
      ⟨X.admits, X.cas, X.clock, X.frames, X.room, X.hears, X.method, X.code, (X.here.setHeapUsed s₂.heap s₂.slotsUsed).setVm hW'.alike, X.tail, State.WarmedH.trans X.warmed hW', X.limits, X.bytes, X.same.trans (hsame.setVm s.vm)⟩,
      ⟨g, mk, s₂, L, E, ce, rfl, rfl, hx, hce, hcv, hcl, rfl, hL, rfl, rfl⟩, ?_⟩
    show Steps p.tables e below _ (((({ U with heap := s₂.heap, slotsUsed := s₂.slotsUsed } : State).setVm s₂.vm).setTop g).pushFrame (.throwing q))
    rw [← hs₂]
    exact hsteps
end Payer
section Calls
variable {p : Program} {l : Launch} {e : Env} {R : Room} {s : State} {m : MethodId} {args : Array Value} {below : List Frame} {meth : Method} {c : Code} {T : State} {locs : List Loc} {cells slots : Nat}
theorem vx_callV (X : Stand p l e R s m args below meth c T locs cells slots) (hexec : p.tables.exec = Jvm.exec) {own C : String} {index : Nat} {y : MethodName} {bytes : ByteArray} {maxL : Nat} {ret : Option FieldType}
    (hown : s.vm.findClass own = some m.cls) (hlink : (Cond.methodLink own index y).before args s = true) (hinst : (Cond.instanceMethod y).before args s = true) (hsel : (Cond.selects C y y).before args s = true)
    (hcode : (Cond.code y bytes maxL ret).before args s = true) (hy : y.cls ≠ "java/lang/invoke/MethodHandle" ∧ y.cls ≠ "java/lang/invoke/VarHandle")
    {W9 : Nat} {Pre : Pt → Array Value → Prop} {Post : Pt → Array Value → Option Value → Pt → Prop} {PostX : Pt → Array Value → Addr → Pt → Prop} (hK : vx_Back l R p e below s args y 3 W9 Pre Post PostX)
    {b : Addr} {cellB : Cell} (hcell : T.heap[b]? = some cellB) (hobj : cellB.vm.isStatics = false) (hcls : s.vm.findClass C = some cellB.cls)
    {g : JFrame} (hg : g.method = m) (hsize : g.locals.size = c.maxLocals) {argsL rest : List Value} (hlen : ∀ sig, parseMethodDescriptor y.desc = some sig → argsL.length = sig.parameters.length)
    (hstack : g.stack = argsL.reverse ++ .ref b :: rest) (hW : 2 * g.monitorRoom + (rest.map fun v => v.category).sum ≤ W9) (hdg : decode c.code g.pc = .ok (.invokevirtual index, 3))
    (hpre : ∀ vm₁, s.WarmedH vm₁ → Pre ⟨T.setVm vm₁, locs, cells, slots⟩ (Value.ref b :: argsL).toArray) :
    (∃ (v : Option Value) (vm₁ : Vm) (B : Pt), s.WarmedH vm₁ ∧ Stand p l e R s m args below meth c B.U B.locs B.cells B.slots ∧ Post ⟨T.setVm vm₁, locs, cells, slots⟩ (Value.ref b :: argsL).toArray v B ∧
      ∀ target, Steps p.tables e below (B.U.setTop { g with pc := g.pc + 3, stack := v.toList ++ rest }) target → Steps p.tables e below (T.setTop g) target) ∨
    (∃ (q : Addr) (vm₁ : Vm) (B : Pt), s.WarmedH vm₁ ∧ Stand p l e R s m args below meth c B.U B.locs B.cells B.slots ∧ PostX ⟨T.setVm vm₁, locs, cells, slots⟩ (Value.ref b :: argsL).toArray q B ∧
      Steps p.tables e below (T.setTop g) ((B.U.setTop { g with stack := rest }).pushFrame (.throwing q))) := by
  obtain ⟨mk, methM, hnamed, hmethM, hstM, habM⟩ := Cond.instanceMethod_spec hinst
  obtain ⟨methM', cM, hmethM', -, -, -, -, -, -, hsigM⟩ := Cond.code_spec hnamed hcode
  cases hmethM.symm.trans hmethM'
  obtain ⟨c2, r2, m2, q1, q2, q3, q4, kP, hkP, hkPi⟩ := Cond.selects_spec hsel
  cases hcls.symm.trans q1
  cases (State.methodFound?_of_named hnamed hy).symm.trans q2
  cases hnamed.symm.trans q3
  have hselP : selectMethod e.platform s.vm cellB.cls mk = .method mk := by rw [Launch.admits_selectMethod X.admits]; exact q4
  obtain ⟨vm₁, X₁, hstep₁⟩ := X.invokevirtual hexec hown hlink hnamed hmethM hstM hkP hkPi hy (a := b) (cell := cellB) hcell
    (fun z h => by rw [h] at hobj; cases hobj) hselP hmethM habM hkP hkPi (g := g) hg (argsL := argsL) (rest := rest) (hlen _ hsigM) hstack hdg
  rcases hK m meth c ⟨T.setVm vm₁, locs, cells, slots⟩ { g with stack := rest } (.invokevirtual index) mk (Value.ref b :: argsL).toArray X₁ hg hsize hdg hW (X₁.named hnamed) (hpre vm₁ X₁.warmed) with ⟨v, B, X', hpost, hsteps⟩ | ⟨q, B, X', hpost, hsteps⟩
  · exact Or.inl ⟨v, vm₁, B, X₁.warmed, X', hpost, fun target h => hstep₁ _ fun acts => by rw [doInvoke_state]; exact hsteps.trans h⟩
  · exact Or.inr ⟨q, vm₁, B, X₁.warmed, X', hpost, hstep₁ _ fun acts => by rw [doInvoke_state]; exact hsteps⟩
theorem vx_callS (X : Stand p l e R s m args below meth c T locs cells slots) (hexec : p.tables.exec = Jvm.exec) {own : String} {index : Nat} {y : MethodName} {bytes : ByteArray} {maxL : Nat} {ret : Option FieldType}
    (hown : s.vm.findClass own = some m.cls) (hlink : (Cond.methodLink own index y).before args s = true) (hstat : (Cond.static y).before args s = true) (hinit : (Cond.initialized y.cls).before args s = true)
    (hcode : (Cond.code y bytes maxL ret).before args s = true) (hy : y.cls ≠ "java/lang/invoke/MethodHandle" ∧ y.cls ≠ "java/lang/invoke/VarHandle")
    {W9 : Nat} {Pre : Pt → Array Value → Prop} {Post : Pt → Array Value → Option Value → Pt → Prop} {PostX : Pt → Array Value → Addr → Pt → Prop} (hK : vx_Back l R p e below s args y 3 W9 Pre Post PostX)
    {g : JFrame} (hg : g.method = m) (hsize : g.locals.size = c.maxLocals) {argsL rest : List Value} (hlen : ∀ sig, parseMethodDescriptor y.desc = some sig → argsL.length = sig.parameters.length)
    (hstack : g.stack = argsL.reverse ++ rest) (hW : 2 * g.monitorRoom + (rest.map fun v => v.category).sum ≤ W9) (hdg : decode c.code g.pc = .ok (.invokestatic index, 3))
    (hpre : ∀ vm₁, s.WarmedH vm₁ → Pre ⟨T.setVm vm₁, locs, cells, slots⟩ argsL.toArray) :
    (∃ (v : Option Value) (vm₁ : Vm) (B : Pt), s.WarmedH vm₁ ∧ Stand p l e R s m args below meth c B.U B.locs B.cells B.slots ∧ Post ⟨T.setVm vm₁, locs, cells, slots⟩ argsL.toArray v B ∧
      ∀ target, Steps p.tables e below (B.U.setTop { g with pc := g.pc + 3, stack := v.toList ++ rest }) target → Steps p.tables e below (T.setTop g) target) ∨
    (∃ (q : Addr) (vm₁ : Vm) (B : Pt), s.WarmedH vm₁ ∧ Stand p l e R s m args below meth c B.U B.locs B.cells B.slots ∧ PostX ⟨T.setVm vm₁, locs, cells, slots⟩ argsL.toArray q B ∧
      Steps p.tables e below (T.setTop g) ((B.U.setTop { g with stack := rest }).pushFrame (.throwing q))) := by
  obtain ⟨mk, hnamed⟩ := Cond.code_named hcode
  obtain ⟨methM, cM, hmethM, -, -, -, -, -, -, hsigM⟩ := Cond.code_spec hnamed hcode
  have hstatic : methM.isStatic = true := Cond.static_spec hnamed hmethM hstat
  obtain ⟨kP, hkP, -⟩ := className_of_methodNamed hnamed
  have hinitP : kP.init = .initialized := Cond.initialized_spec (findClass_of_methodNamed hnamed) hkP hinit
  obtain ⟨vm₁, X₁, hstep₁⟩ := X.invokestatic hexec hown hlink hnamed hmethM hstatic hkP hinitP hy (g := g) hg (argsL := argsL) (rest := rest) (hlen _ hsigM) hstack hdg
  rcases hK m meth c ⟨T.setVm vm₁, locs, cells, slots⟩ { g with stack := rest } (.invokestatic index) mk argsL.toArray X₁ hg hsize hdg hW (X₁.named hnamed) (hpre vm₁ X₁.warmed) with ⟨v, B, X', hpost, hsteps⟩ | ⟨q, B, X', hpost, hsteps⟩
  · exact Or.inl ⟨v, vm₁, B, X₁.warmed, X', hpost, fun target h => hstep₁ _ fun acts => by rw [doInvoke_state]; exact hsteps.trans h⟩
  · exact Or.inr ⟨q, vm₁, B, X₁.warmed, X', hpost, hstep₁ _ fun acts => by rw [doInvoke_state]; exact hsteps⟩
end Calls
theorem vx_cls {s : State} {T : State} {vm₁ : Vm} {E : String} {k : ClassId} (hW : s.WarmedH vm₁) (h : (T.setVm vm₁).vm.findClass E = some k) : s.vm.findClass E = some k := by
  have h1 : vm₁.findClass E = some k := h
  rw [hW.alike.findClass] at h1
  exact h1
/-- the method's frame g, with q thrown over it -/
def vx_W (p : Program) (l : Launch) (e : Env) (R : Room) (s : State) (m : MethodId) (args : Array Value) (below : List Frame) (meth : Method) (c : Code) (H : Heap) (locs : List Loc) (cells slots : Nat) (Q : State → Prop) (g : JFrame) (q : Addr) : Prop :=
  ∀ T : State, T.heap = H → Stand p l e R s m args below meth c T locs cells slots → ∃ t, Steps p.tables e below ((T.setTop g).pushFrame (.throwing q)) t ∧ Q t
def vx_Run (p : Program) (l : Launch) (e : Env) (R : Room) (s : State) (m : MethodId) (args : Array Value) (below : List Frame) (meth : Method) (c : Code) (H : Heap) (locs : List Loc) (cells slots mc ms : Nat) (g : JFrame) (rest : List Value) (Qa : State → Outcome → State → Prop) (XC : String → State → State → Prop) (free : Addr → Prop) : Prop :=
  ∀ T : State, T.heap = H → Stand p l e R s m args below meth c T locs cells slots →
    (∃ (v : Option Value) (st₀ t T' : State) (L : List Loc), st₀.heap = H ∧ Stand p l e R s m args below meth c T' (locs ++ L) (cells + mc) (slots + ms) ∧ (∀ q ∈ L, free q.base) ∧ T'.heap = t.heap ∧ T'.vm = t.vm ∧ Qa st₀ (.returned v) t ∧
      Goes p e below T g T' { g with pc := g.pc + 3, stack := v.toList ++ rest }) ∨
    (∃ (q : Addr) (st₀ t T' : State) (L : List Loc) (E : String) (ce : Cell), st₀.heap = H ∧ Stand p l e R s m args below meth c T' (locs ++ L) (cells + mc) (slots + ms) ∧ (∀ z ∈ L, free z.base) ∧ T'.heap = t.heap ∧ T'.vm = t.vm ∧ XC E st₀ t ∧ t.heap[q]? = some ce ∧ ce.vm = .none ∧ s.vm.findClass E = some ce.cls ∧
      Steps p.tables e below (T.setTop g) ((T'.setTop { g with stack := rest }).pushFrame (.throwing q)))
def vx_X {S : Type} (px : S → Prop) (B : String → S → State → Prop) (A : Nat → Prop) : String → State → State → Prop := fun E st t => ∃ u : S, px u ∧ B E u t ∧ va_F A st t
section Runs
variable {p : Program} {l : Launch} {e : Env} {R : Room} {s : State} {m : MethodId} {args : Array Value} {below : List Frame} {meth : Method} {c : Code} {H : Heap} {locs : List Loc} {cells slots : Nat}
variable {y : MethodName} {bytes cc : ByteArray} {maxL nL mc ms n index : Nat} {ret : Option FieldType} {ws : List Cond} {rm : Room} {Pc : Array Value → State → Prop} {Qc : Array Value → State → Outcome → State → Prop} {XC : String → State → State → Prop} {free : Addr → Prop} {Ts : List Cond} {own C : String} {b : Addr} {As rest : List Value} {g : JFrame}
theorem vx_callBack (cb : CallB R s args own index y bytes maxL ret ws rm mc ms n) (hM : vx_Met l y ws rm Pc Qc XC mc ms free) (hbl : FrameBlind Pc) : vx_Back l R p e below s args y 3 8 (PreOf R mc ms Pc) (PostOf Qc mc ms free) (vx_Post XC mc ms free) := by
  obtain ⟨hrc, hrs, hfr, hlo, hws, hcw, -, hini, -⟩ := cb
  exact vx_back (bytes := bytes) (maxL := maxL) (ret := ret) hM hbl hrc hrs hfr hlo hws hcw (fun a' U hW => word_at hW (Or.inl (by first | rfl | simp [Cond.onTables, Cond.keeps, Cond.steady])) hini)
theorem vx_runV (S : CallFix p m c cc nL s args Ts own) (hM : vx_Met l y ws rm Pc Qc XC mc ms free) (cw : CallW R s args own C index y bytes maxL ret ws rm mc ms n) (hp : PreV s H C b Pc As)
    (hg : g.method = m) (hn : As.length = n) (hsize : g.locals.size = nL) (hstack : g.stack = As.reverse ++ .ref b :: rest) (hW : 2 * g.monitorRoom + (rest.map fun v => v.category).sum ≤ 8) (hdg : decode cc g.pc = .ok (.invokevirtual index, 3)) (hf : cells + mc ≤ R.cells ∧ slots + ms ≤ R.slots) :
    vx_Run p l e R s m args below meth c H locs cells slots mc ms g rest (Qc (Value.ref b :: As).toArray) XC free := by
  have hK : vx_Back l R p e below s args y 3 8 (PreOf R mc ms Pc) (PostOf Qc mc ms free) (vx_Post XC mc ms free) := vx_callBack cw.1 hM hp.1
  obtain ⟨⟨-, -, -, -, -, -, hcode, -, hy, hlen, hl⟩, hin, hse⟩ := cw
  obtain ⟨hx, hb, hml, ho, -⟩ := S
  obtain ⟨-, ⟨cellB, hcB, hoB, hclB⟩, hPc⟩ := hp
  intro T hT X
  rcases vx_callV X hx (C := C) (bytes := bytes) (maxL := maxL) (ret := ret) ho hl hin hse hcode hy hK (by rw [hT]; exact hcB) hoB hclB hg (hsize.trans hml.symm) (argsL := As) (rest := rest) (fun sig h => hn.trans (hlen sig h)) hstack hW (by rw [hb]; exact hdg)
    (fun vm₁ hW₁ => ⟨hf.1, hf.2, hPc (T.setVm vm₁) hT hW₁⟩) with ⟨v, vm₁, ⟨U', l2, c2, s2⟩, hW₁, X', ⟨g', mk, t, L, e1, e2, hq, h1, hL, h2, h3⟩, st⟩ | ⟨q, vm₁, ⟨U', l2, c2, s2⟩, hW₁, X', ⟨g', mk, t, L, E, ce, e1, e2, hq, hce, hcv, hcl, h1, hL, h2, h3⟩, st⟩
  · dsimp only [Pt.U, Pt.locs, Pt.cells, Pt.slots] at X' e1 e2 h1 h2 h3 st
    subst h1; subst h2; subst h3
    exact Or.inl ⟨v, (T.setVm vm₁).calling g' mk (Value.ref b :: As).toArray, t, U', L, hT, X', hL, e1, e2, hq, st⟩
  · dsimp only [Pt.U, Pt.locs, Pt.cells, Pt.slots] at X' e1 e2 h1 h2 h3 st hcl
    subst h1; subst h2; subst h3
    exact Or.inr ⟨q, (T.setVm vm₁).calling g' mk (Value.ref b :: As).toArray, t, U', L, E, ce, hT, X', hL, e1, e2, hq, hce, hcv, vx_cls hW₁ hcl, st⟩
theorem vx_runS (S : CallFix p m c cc nL s args Ts own) (hM : vx_Met l y ws rm Pc Qc XC mc ms free) (cw : CallB R s args own index y bytes maxL ret ws rm mc ms n ∧ (Cond.static y).before args s = true) (hp : PreS s H Pc As)
    (hg : g.method = m) (hn : As.length = n) (hsize : g.locals.size = nL) (hstack : g.stack = As.reverse ++ rest) (hW : 2 * g.monitorRoom + (rest.map fun v => v.category).sum ≤ 8) (hdg : decode cc g.pc = .ok (.invokestatic index, 3)) (hf : cells + mc ≤ R.cells ∧ slots + ms ≤ R.slots) :
    vx_Run p l e R s m args below meth c H locs cells slots mc ms g rest (Qc As.toArray) XC free := by
  have hK : vx_Back l R p e below s args y 3 8 (PreOf R mc ms Pc) (PostOf Qc mc ms free) (vx_Post XC mc ms free) := vx_callBack cw.1 hM hp.1
  obtain ⟨⟨-, -, -, -, -, -, hcode, hini, hy, hlen, hl⟩, hstt⟩ := cw
  obtain ⟨hx, hb, hml, ho, -⟩ := S
  intro T hT X
  rcases vx_callS X hx (bytes := bytes) (maxL := maxL) (ret := ret) ho hl hstt hini hcode hy hK hg (hsize.trans hml.symm) (argsL := As) (rest := rest) (fun sig h => hn.trans (hlen sig h)) hstack hW (by rw [hb]; exact hdg)
    (fun vm₁ hW₁ => ⟨hf.1, hf.2, hp.2 (T.setVm vm₁) hT hW₁⟩) with ⟨v, vm₁, ⟨U', l2, c2, s2⟩, hW₁, X', ⟨g', mk, t, L, e1, e2, hq, h1, hL, h2, h3⟩, st⟩ | ⟨q, vm₁, ⟨U', l2, c2, s2⟩, hW₁, X', ⟨g', mk, t, L, E, ce, e1, e2, hq, hce, hcv, hcl, h1, hL, h2, h3⟩, st⟩
  · dsimp only [Pt.U, Pt.locs, Pt.cells, Pt.slots] at X' e1 e2 h1 h2 h3 st
    subst h1; subst h2; subst h3
    exact Or.inl ⟨v, (T.setVm vm₁).calling g' mk As.toArray, t, U', L, hT, X', hL, e1, e2, hq, st⟩
  · dsimp only [Pt.U, Pt.locs, Pt.cells, Pt.slots] at X' e1 e2 h1 h2 h3 st hcl
    subst h1; subst h2; subst h3
    exact Or.inr ⟨q, (T.setVm vm₁).calling g' mk As.toArray, t, U', L, E, ce, hT, X', hL, e1, e2, hq, hce, hcv, vx_cls hW₁ hcl, st⟩
end Runs
section Rows
variable {p : Program} {l : Launch} {e : Env} {R : Room} {s : State} {m : MethodId} {args : Array Value} {below : List Frame} {meth : Method} {c : Code} {H : Heap} {locs : List Loc} {cells slots : Nat} {Q : State → Prop}
variable {mc ms : Nat} {free : Addr → Prop} {A0 A1 : Nat → Prop} {H0 : Heap} {a : Array Value} {pc : Nat} {ls : Array Slot} {st0 rest : List Value}
theorem vx_keep {st₀ t T' : State} {L : List Loc} (h0 : st₀.heap = H) (e1 : T'.heap = t.heap) (hS : va_S A0 H0 H locs) (hA : ∀ q, q < H.size → A1 q → A0 q) (hf : ∀ q, free q → A0 q) (hL : ∀ q ∈ L, free q.base) (hF : va_F A1 st₀ t) :
    H.size ≤ T'.heap.size ∧ (∀ q : Nat, q < H.size → ¬ A1 q → T'.heap[q]? = H[q]?) ∧ va_S A0 H0 T'.heap (locs ++ L) := by
  obtain ⟨hz, hk⟩ := hF
  rw [h0] at hz hk
  exact ⟨by rw [e1]; exact hz, fun q h1 h2 => by rw [e1]; exact hk q h1 h2,
    ⟨Nat.le_trans hS.1 (by rw [e1]; exact hz), fun q h1 h2 => by rw [e1, hk q (Nat.lt_of_lt_of_le h1 hS.1) (fun z => h2 (hA q (Nat.lt_of_lt_of_le h1 hS.1) z))]; exact hS.2.1 q h1 h2, fun q hq => by
      rcases List.mem_append.mp hq with h | h
      · exact hS.2.2 q h
      · exact hf _ (hL q h)⟩⟩
theorem vx_calli {S SX : Type} {post : Int32 → S → Prop} {px : SX → Prop} {B : S → State → Prop} {BX : String → SX → State → Prop} {AX : Nat → Prop} (hr : vx_Run p l e R s m args below meth c H locs cells slots mc ms (F0 m pc ls st0) rest (va_Qi post B A1 a) (vx_X px BX AX) free) (hS : va_S A0 H0 H locs) (hA : ∀ q, q < H.size → A1 q → A0 q) (hf : ∀ q, free q → A0 q) (hAX : ∀ q, q < H.size → AX q → A0 q)
    (kx : ∀ (E : String) (ce : Cell) (q9 : Addr) (u : SX) (t : State) (H1 : Heap) (locs1 : List Loc), t.heap = H1 → s.vm.Alike t.vm → px u → BX E u t → H.size ≤ H1.size → (∀ q : Nat, q < H.size → ¬ AX q → H1[q]? = H[q]?) → va_S A0 H0 H1 locs1 → H1[q9]? = some ce → ce.vm = .none → s.vm.findClass E = some ce.cls → vx_W p l e R s m args below meth c H1 locs1 (cells + mc) (slots + ms) Q (F0 m pc ls rest) q9)
    (kk : ∀ (r : Int32) (u : S) (t : State) (H1 : Heap) (locs1 : List Loc), t.heap = H1 → s.vm.Alike t.vm → post r u → B u t → H.size ≤ H1.size → (∀ q : Nat, q < H.size → ¬ A1 q → H1[q]? = H[q]?) → va_S A0 H0 H1 locs1 → W p l e R s m args below meth c H1 locs1 (cells + mc) (slots + ms) Q (F0 m (pc + 3) ls (.int r :: rest))) : W p l e R s m args below meth c H locs cells slots Q (F0 m pc ls st0) := by
  intro T hT X
  rcases hr T hT X with ⟨v, st₀, t, T', L, h0, X', hL, e1, e2, ⟨⟨r, u, hv, hp, hb⟩, hF⟩, st⟩ | ⟨q, st₀, t, T', L, E, ce, h0, X', hL, e1, e2, ⟨u, hp, hb, hF⟩, hce, hcv, hcl, st⟩
  · cases hv
    obtain ⟨k1, k2, k3⟩ := vx_keep h0 e1 hS hA hf hL hF
    obtain ⟨t2, a1, b1⟩ := kk r u t T'.heap (locs ++ L) e1.symm (by rw [← e2]; exact X'.warmed.alike) hp hb k1 k2 k3 T' rfl X'
    exact ⟨t2, st t2 a1, b1⟩
  · obtain ⟨k1, k2, k3⟩ := vx_keep h0 e1 hS hAX hf hL hF
    obtain ⟨t2, a1, b1⟩ := kx E ce q u t T'.heap (locs ++ L) e1.symm (by rw [← e2]; exact X'.warmed.alike) hp hb k1 k2 k3 (by rw [e1]; exact hce) hcv hcl T' rfl X'
    exact ⟨t2, st.trans a1, b1⟩
theorem vx_calll {S SX : Type} {post : Int64 → S → Prop} {px : SX → Prop} {B : S → State → Prop} {BX : String → SX → State → Prop} {AX : Nat → Prop} (hr : vx_Run p l e R s m args below meth c H locs cells slots mc ms (F0 m pc ls st0) rest (va_Ql post B A1 a) (vx_X px BX AX) free) (hS : va_S A0 H0 H locs) (hA : ∀ q, q < H.size → A1 q → A0 q) (hf : ∀ q, free q → A0 q) (hAX : ∀ q, q < H.size → AX q → A0 q)
    (kx : ∀ (E : String) (ce : Cell) (q9 : Addr) (u : SX) (t : State) (H1 : Heap) (locs1 : List Loc), t.heap = H1 → s.vm.Alike t.vm → px u → BX E u t → H.size ≤ H1.size → (∀ q : Nat, q < H.size → ¬ AX q → H1[q]? = H[q]?) → va_S A0 H0 H1 locs1 → H1[q9]? = some ce → ce.vm = .none → s.vm.findClass E = some ce.cls → vx_W p l e R s m args below meth c H1 locs1 (cells + mc) (slots + ms) Q (F0 m pc ls rest) q9)
    (kk : ∀ (r : Int64) (u : S) (t : State) (H1 : Heap) (locs1 : List Loc), t.heap = H1 → s.vm.Alike t.vm → post r u → B u t → H.size ≤ H1.size → (∀ q : Nat, q < H.size → ¬ A1 q → H1[q]? = H[q]?) → va_S A0 H0 H1 locs1 → W p l e R s m args below meth c H1 locs1 (cells + mc) (slots + ms) Q (F0 m (pc + 3) ls (.long r :: rest))) : W p l e R s m args below meth c H locs cells slots Q (F0 m pc ls st0) := by
  intro T hT X
  rcases hr T hT X with ⟨v, st₀, t, T', L, h0, X', hL, e1, e2, ⟨⟨r, u, hv, hp, hb⟩, hF⟩, st⟩ | ⟨q, st₀, t, T', L, E, ce, h0, X', hL, e1, e2, ⟨u, hp, hb, hF⟩, hce, hcv, hcl, st⟩
  · cases hv
    obtain ⟨k1, k2, k3⟩ := vx_keep h0 e1 hS hA hf hL hF
    obtain ⟨t2, a1, b1⟩ := kk r u t T'.heap (locs ++ L) e1.symm (by rw [← e2]; exact X'.warmed.alike) hp hb k1 k2 k3 T' rfl X'
    exact ⟨t2, st t2 a1, b1⟩
  · obtain ⟨k1, k2, k3⟩ := vx_keep h0 e1 hS hAX hf hL hF
    obtain ⟨t2, a1, b1⟩ := kx E ce q u t T'.heap (locs ++ L) e1.symm (by rw [← e2]; exact X'.warmed.alike) hp hb k1 k2 k3 (by rw [e1]; exact hce) hcv hcl T' rfl X'
    exact ⟨t2, st.trans a1, b1⟩
theorem vx_callf {S SX : Type} {post : UInt32 → S → Prop} {px : SX → Prop} {B : S → State → Prop} {BX : String → SX → State → Prop} {AX : Nat → Prop} (hr : vx_Run p l e R s m args below meth c H locs cells slots mc ms (F0 m pc ls st0) rest (va_Qf post B A1 a) (vx_X px BX AX) free) (hS : va_S A0 H0 H locs) (hA : ∀ q, q < H.size → A1 q → A0 q) (hf : ∀ q, free q → A0 q) (hAX : ∀ q, q < H.size → AX q → A0 q)
    (kx : ∀ (E : String) (ce : Cell) (q9 : Addr) (u : SX) (t : State) (H1 : Heap) (locs1 : List Loc), t.heap = H1 → s.vm.Alike t.vm → px u → BX E u t → H.size ≤ H1.size → (∀ q : Nat, q < H.size → ¬ AX q → H1[q]? = H[q]?) → va_S A0 H0 H1 locs1 → H1[q9]? = some ce → ce.vm = .none → s.vm.findClass E = some ce.cls → vx_W p l e R s m args below meth c H1 locs1 (cells + mc) (slots + ms) Q (F0 m pc ls rest) q9)
    (kk : ∀ (r : UInt32) (u : S) (t : State) (H1 : Heap) (locs1 : List Loc), t.heap = H1 → s.vm.Alike t.vm → post r u → B u t → H.size ≤ H1.size → (∀ q : Nat, q < H.size → ¬ A1 q → H1[q]? = H[q]?) → va_S A0 H0 H1 locs1 → W p l e R s m args below meth c H1 locs1 (cells + mc) (slots + ms) Q (F0 m (pc + 3) ls (.float r :: rest))) : W p l e R s m args below meth c H locs cells slots Q (F0 m pc ls st0) := by
  intro T hT X
  rcases hr T hT X with ⟨v, st₀, t, T', L, h0, X', hL, e1, e2, ⟨⟨r, u, hv, hp, hb⟩, hF⟩, st⟩ | ⟨q, st₀, t, T', L, E, ce, h0, X', hL, e1, e2, ⟨u, hp, hb, hF⟩, hce, hcv, hcl, st⟩
  · cases hv
    obtain ⟨k1, k2, k3⟩ := vx_keep h0 e1 hS hA hf hL hF
    obtain ⟨t2, a1, b1⟩ := kk r u t T'.heap (locs ++ L) e1.symm (by rw [← e2]; exact X'.warmed.alike) hp hb k1 k2 k3 T' rfl X'
    exact ⟨t2, st t2 a1, b1⟩
  · obtain ⟨k1, k2, k3⟩ := vx_keep h0 e1 hS hAX hf hL hF
    obtain ⟨t2, a1, b1⟩ := kx E ce q u t T'.heap (locs ++ L) e1.symm (by rw [← e2]; exact X'.warmed.alike) hp hb k1 k2 k3 (by rw [e1]; exact hce) hcv hcl T' rfl X'
    exact ⟨t2, st.trans a1, b1⟩
theorem vx_calld {S SX : Type} {post : UInt64 → S → Prop} {px : SX → Prop} {B : S → State → Prop} {BX : String → SX → State → Prop} {AX : Nat → Prop} (hr : vx_Run p l e R s m args below meth c H locs cells slots mc ms (F0 m pc ls st0) rest (va_Qd post B A1 a) (vx_X px BX AX) free) (hS : va_S A0 H0 H locs) (hA : ∀ q, q < H.size → A1 q → A0 q) (hf : ∀ q, free q → A0 q) (hAX : ∀ q, q < H.size → AX q → A0 q)
    (kx : ∀ (E : String) (ce : Cell) (q9 : Addr) (u : SX) (t : State) (H1 : Heap) (locs1 : List Loc), t.heap = H1 → s.vm.Alike t.vm → px u → BX E u t → H.size ≤ H1.size → (∀ q : Nat, q < H.size → ¬ AX q → H1[q]? = H[q]?) → va_S A0 H0 H1 locs1 → H1[q9]? = some ce → ce.vm = .none → s.vm.findClass E = some ce.cls → vx_W p l e R s m args below meth c H1 locs1 (cells + mc) (slots + ms) Q (F0 m pc ls rest) q9)
    (kk : ∀ (r : UInt64) (u : S) (t : State) (H1 : Heap) (locs1 : List Loc), t.heap = H1 → s.vm.Alike t.vm → post r u → B u t → H.size ≤ H1.size → (∀ q : Nat, q < H.size → ¬ A1 q → H1[q]? = H[q]?) → va_S A0 H0 H1 locs1 → W p l e R s m args below meth c H1 locs1 (cells + mc) (slots + ms) Q (F0 m (pc + 3) ls (.double r :: rest))) : W p l e R s m args below meth c H locs cells slots Q (F0 m pc ls st0) := by
  intro T hT X
  rcases hr T hT X with ⟨v, st₀, t, T', L, h0, X', hL, e1, e2, ⟨⟨r, u, hv, hp, hb⟩, hF⟩, st⟩ | ⟨q, st₀, t, T', L, E, ce, h0, X', hL, e1, e2, ⟨u, hp, hb, hF⟩, hce, hcv, hcl, st⟩
  · cases hv
    obtain ⟨k1, k2, k3⟩ := vx_keep h0 e1 hS hA hf hL hF
    obtain ⟨t2, a1, b1⟩ := kk r u t T'.heap (locs ++ L) e1.symm (by rw [← e2]; exact X'.warmed.alike) hp hb k1 k2 k3 T' rfl X'
    exact ⟨t2, st t2 a1, b1⟩
  · obtain ⟨k1, k2, k3⟩ := vx_keep h0 e1 hS hAX hf hL hF
    obtain ⟨t2, a1, b1⟩ := kx E ce q u t T'.heap (locs ++ L) e1.symm (by rw [← e2]; exact X'.warmed.alike) hp hb k1 k2 k3 (by rw [e1]; exact hce) hcv hcl T' rfl X'
    exact ⟨t2, st.trans a1, b1⟩
theorem vx_callv {S SX : Type} {post : S → Prop} {px : SX → Prop} {B : S → State → Prop} {BX : String → SX → State → Prop} {AX : Nat → Prop} (hr : vx_Run p l e R s m args below meth c H locs cells slots mc ms (F0 m pc ls st0) rest (va_Qv post B A1 a) (vx_X px BX AX) free) (hS : va_S A0 H0 H locs) (hA : ∀ q, q < H.size → A1 q → A0 q) (hf : ∀ q, free q → A0 q) (hAX : ∀ q, q < H.size → AX q → A0 q)
    (kx : ∀ (E : String) (ce : Cell) (q9 : Addr) (u : SX) (t : State) (H1 : Heap) (locs1 : List Loc), t.heap = H1 → s.vm.Alike t.vm → px u → BX E u t → H.size ≤ H1.size → (∀ q : Nat, q < H.size → ¬ AX q → H1[q]? = H[q]?) → va_S A0 H0 H1 locs1 → H1[q9]? = some ce → ce.vm = .none → s.vm.findClass E = some ce.cls → vx_W p l e R s m args below meth c H1 locs1 (cells + mc) (slots + ms) Q (F0 m pc ls rest) q9)
    (kk : ∀ (u : S) (t : State) (H1 : Heap) (locs1 : List Loc), t.heap = H1 → s.vm.Alike t.vm → post u → B u t → H.size ≤ H1.size → (∀ q : Nat, q < H.size → ¬ A1 q → H1[q]? = H[q]?) → va_S A0 H0 H1 locs1 → W p l e R s m args below meth c H1 locs1 (cells + mc) (slots + ms) Q (F0 m (pc + 3) ls (rest))) : W p l e R s m args below meth c H locs cells slots Q (F0 m pc ls st0) := by
  intro T hT X
  rcases hr T hT X with ⟨v, st₀, t, T', L, h0, X', hL, e1, e2, ⟨⟨u, hv, hp, hb⟩, hF⟩, st⟩ | ⟨q, st₀, t, T', L, E, ce, h0, X', hL, e1, e2, ⟨u, hp, hb, hF⟩, hce, hcv, hcl, st⟩
  · cases hv
    obtain ⟨k1, k2, k3⟩ := vx_keep h0 e1 hS hA hf hL hF
    obtain ⟨t2, a1, b1⟩ := kk u t T'.heap (locs ++ L) e1.symm (by rw [← e2]; exact X'.warmed.alike) hp hb k1 k2 k3 T' rfl X'
    exact ⟨t2, st t2 a1, b1⟩
  · obtain ⟨k1, k2, k3⟩ := vx_keep h0 e1 hS hAX hf hL hF
    obtain ⟨t2, a1, b1⟩ := kx E ce q u t T'.heap (locs ++ L) e1.symm (by rw [← e2]; exact X'.warmed.alike) hp hb k1 k2 k3 (by rw [e1]; exact hce) hcv hcl T' rfl X'
    exact ⟨t2, st.trans a1, b1⟩
/-- caught by the row x of this method's table; the rows ahead don't take it -/
theorem vx_catch {own name : String} {E : String} {ce : Cell} {q : Addr} (hown : s.vm.findClass own = some m.cls) (pre : List ExceptionTableEntry) (x : ExceptionTableEntry) (suf : List ExceptionTableEntry) (hsplit : c.exceptionTable.toList = pre ++ x :: suf)
    (hpass : ∀ z ∈ pre, covers z pc = false ∨ (z.catchType ≠ 0 ∧ ∃ nm : String, (Cond.classLink own z.catchType nm).before args s = true ∧ va_Nc E nm s)) (hx : covers x pc = true) (h0 : x.catchType ≠ 0)
    (hlink : (Cond.classLink own x.catchType name).before args s = true) (hcast : (Cond.castable E name).before args s = true) (hcell : H[q]? = some ce) (hv : ce.vm = .none) (hcl : s.vm.findClass E = some ce.cls)
    (kk : W p l e R s m args below meth c H locs cells slots Q (F0 m x.handlerPc ls [.ref q])) : vx_W p l e R s m args below meth c H locs cells slots Q (F0 m pc ls rest) q := by
  intro T hT X
  have hpl : e.platform.magicAccessors = ({} : Platform).magicAccessors := by rw [X.admits.platform]
  obtain ⟨c3, c4, hc3, hc4, hasg⟩ := Cond.castable_spec hcast
  cases Option.some.inj (hc3.symm.trans hcl)
  obtain ⟨c5, hc5, hcl5⟩ := Cond.classLink_spec hown hlink e.platform hpl
  cases Option.some.inj (hc4.symm.trans hc5)
  obtain ⟨vm', X', st⟩ := X.thenCaughtThrough q (g := F0 m pc ls rest) rfl (Steps.refl _) (by rw [hT]; exact hcell) (by rw [hv]; rfl) (by obtain ⟨k9, h9, -⟩ := Vm.findClass_spec hcl; exact ⟨k9, h9⟩) pre x suf hsplit
    (fun z hz => by
      rcases hpass z hz with h | ⟨hz0, nm, hl1, hn1⟩
      · exact Or.inl h
      · obtain ⟨c6, hc6, hcl6⟩ := Cond.classLink_spec hown hl1 e.platform hpl
        obtain ⟨a8, b8, h1, h2, h3⟩ := hn1
        cases Option.some.inj (h1.symm.trans hcl)
        cases Option.some.inj (h2.symm.trans hc6)
        exact Or.inr ⟨hz0, _, hcl6, h3⟩) hx (Or.inr ⟨h0, c4, hcl5, hasg⟩)
  obtain ⟨t, a1, b1⟩ := kk (T.setVm vm') hT X'
  exact ⟨t, st.trans a1, b1⟩
end Rows
section Ends
variable {p : Program} {l : Launch} {e : Env} {R : Room} {s : State} {m : MethodId} {args : Array Value} {below : List Frame} {meth : Method} {c : Code} {H : Heap} {locs : List Loc} {cells slots : Nat} {Q : State → Prop}
variable {mc ms : Nat} {free : Addr → Prop} {A0 A1 : Nat → Prop} {H0 : Heap} {a : Array Value} {ls : Array Slot} {st0 rest : List Value}
variable {Qc : Array Value → State → Outcome → State → Prop} {XC : String → State → State → Prop}
/-- what a body that may throw owes at its end -/
def vx_MQ (below : List Frame) (Qc : Array Value → State → Outcome → State → Prop) (XC : String → State → State → Prop) (a : Array Value) (s : State) (mc ms : Nat) (free : Addr → Prop) : State → Prop := fun t =>
  ∃ o, t.status = .running ∧ Ended t below o ∧ vx_Q Qc XC mc ms free a s o t
theorem vx_ret {g : JFrame} {mc ms : Nat} (k : W p l e R s m args below meth c H locs cells slots (MQ below Qc args s mc ms free) g) : W p l e R s m args below meth c H locs cells slots (vx_MQ below Qc XC args s mc ms free) g := by
  intro T hT X
  obtain ⟨t, a1, o, b1, b2, b3, b4⟩ := k T hT X
  exact ⟨t, a1, o, b1, b2, Or.inl ⟨b3, b4⟩⟩
/-- not caught here: it goes on to the caller -/
theorem vx_widen {g : JFrame} {q : Addr} {k n : Nat} (h1 : cells ≤ k) (h2 : slots ≤ n) (kk : vx_W p l e R s m args below meth c H locs k n Q g q) : vx_W p l e R s m args below meth c H locs cells slots Q g q := fun T hT X => kk T hT (stand_widen X h1 h2)
theorem vx_out {pc : Nat} {E : String} {ce : Cell} {q : Addr} {mc ms : Nat} (hout : ∀ x ∈ c.exceptionTable.toList, covers x pc = false) (hlocks : meth.locks = false) (hcell : H[q]? = some ce) (hv : ce.vm = .none) (hcl : s.vm.findClass E = some ce.cls)
    (hx : ∀ t : State, t.heap = H → s.vm.Alike t.vm → XC E s t) (hf : ∀ z ∈ locs, free z.base) (hc : cells ≤ mc) (hs : slots ≤ ms) :
    vx_W p l e R s m args below meth c H locs cells slots (vx_MQ below Qc XC args s mc ms free) (F0 m pc ls rest) q := by
  intro T hT X
  obtain ⟨st1, hrun, hend, hW, hsm⟩ := X.leaveThrown q (g := F0 m pc ls rest) rfl rfl rfl hout hlocks
  have hcell9 : (T.setFrames (.throwing q :: below)).heap[q]? = some ce := by
    show T.heap[q]? = some ce
    rw [hT]; exact hcell
  exact ⟨_, st1, .threw q, hrun, hend, Or.inr ⟨q, rfl, E, ce, locs, hx _ hT hW.alike, hcell9, hv, hcl, hW, hsm.mono hc hs, hf⟩⟩
theorem vx_frame {U : State} {k n : Nat} (h : s.sameButNew ({ U with vm := s.vm } : State) locs k n) : s.heap.size ≤ U.heap.size ∧ ∀ q : Nat, q < s.heap.size → (∀ z ∈ locs, z.base ≠ q) → U.heap[q]? = s.heap[q]? := by
  obtain ⟨-, h2, -, -, -, h6⟩ := h
  refine ⟨h2, fun q hq hz => ?_⟩
  obtain ⟨c9, e1, e2, e3, e4⟩ := h6 q _ (Array.getElem?_eq_getElem hq)
  have hs : c9.slots = (s.heap[q]).slots := Array.ext_getElem? fun i => e4 i fun hm => hz _ hm rfl
  have h9 : c9 = s.heap[q] := by
    rw [hs] at e2
    exact e2
  have e5 : U.heap[q]? = some c9 := e1
  rw [e5, h9, Array.getElem?_eq_getElem hq]
/-- the words of a throw but the four that speak of the heap -/
def vx_no (w : Cond) : Bool := decide (w ≠ .isRef (.static Bundle.tN "UNASSIGNED_STACK" Bundle.steD)) && decide (w ≠ .isRef (.static Bundle.tN "SUPPRESSED_SENTINEL" Bundle.listD)) && decide (w ≠ .laysStatic Bundle.tN "UNASSIGNED_STACK" Bundle.steD) && decide (w ≠ .laysStatic Bundle.tN "SUPPRESSED_SENTINEL" Bundle.listD)
def vx_at0 (own : String) (ic : Nat) (X : String) (names : List String) : List Cond := (Bundle.ownAtoms0 own ic X names).filter vx_no
def vx_atS (own : String) (ic : Nat) (X : String) (names : List String) : List Cond := (Bundle.ownAtoms own ic X names).filter vx_no
/-- a word that the tables alone decide, or a good one -/
def vx_ot (w : Cond) : Bool := w.onTables || goodWord w
theorem vx_ot_at {args a' : Array Value} {s U : State} {w : Cond} (hW : s.WarmedH U.vm) (hvm : s.vm = U.vm) (hg : vx_ot w = true) (h : w.before args s = true) : w.before a' U = true := by
  simp only [vx_ot, Bool.or_eq_true] at hg
  rcases hg with hg | hg
  · exact va_tabs hg hvm h
  · exact word_at hW (good_of_word hg) h
/-- a list's words: the good ones out of the method's own list, the others by premises of their own -/
theorem vx_hat {args : Array Value} {s : State} {L B : List Cond} (h1 : ∀ w ∈ L.filter goodWord, w.before args s = true) (h2 : ∀ w ∈ L.filter (fun w => !goodWord w), w ∈ B) (h3 : ∀ w ∈ B, w.before args s = true) : ∀ w ∈ L, w.before args s = true := by
  intro w hw
  by_cases g : goodWord w = true
  · exact h1 w (List.mem_filter.mpr ⟨hw, g⟩)
  · refine h3 w (h2 w (List.mem_filter.mpr ⟨hw, ?_⟩))
    show (!goodWord w) = true
    cases hgw : goodWord w
    · rfl
    · exact absurd hgw g
theorem vx_c {args : Array Value} {s : State} {w : Cond} {B : List Cond} (h : w.before args s = true) (t : ∀ w ∈ B, w.before args s = true) : ∀ w' ∈ w :: B, w'.before args s = true := fun w' h' => (List.mem_cons.mp h').elim (fun e => by rw [e]; exact h) (t w')
theorem vx_n {args : Array Value} {s : State} : ∀ w ∈ ([] : List Cond), w.before args s = true := fun _ h => nomatch h
theorem vx_own {args : Array Value} {s : State} {L : List Cond} (h1 : ∀ w ∈ L.filter vx_no, w.before args s = true)
    (hU : (Cond.isRef (.static Bundle.tN "UNASSIGNED_STACK" Bundle.steD)).before args s = true) (hN : (Cond.isRef (.static Bundle.tN "SUPPRESSED_SENTINEL" Bundle.listD)).before args s = true)
    (lU : (Cond.laysStatic Bundle.tN "UNASSIGNED_STACK" Bundle.steD).before args s = true) (lN : (Cond.laysStatic Bundle.tN "SUPPRESSED_SENTINEL" Bundle.listD).before args s = true) : ∀ w ∈ L, w.before args s = true := by
  intro w hw
  by_cases e1 : w = .isRef (.static Bundle.tN "UNASSIGNED_STACK" Bundle.steD)
  · rw [e1]; exact hU
  · by_cases e2 : w = .isRef (.static Bundle.tN "SUPPRESSED_SENTINEL" Bundle.listD)
    · rw [e2]; exact hN
    · by_cases e3 : w = .laysStatic Bundle.tN "UNASSIGNED_STACK" Bundle.steD
      · rw [e3]; exact lU
      · by_cases e4 : w = .laysStatic Bundle.tN "SUPPRESSED_SENTINEL" Bundle.listD
        · rw [e4]; exact lN
        · exact h1 w (List.mem_filter.mpr ⟨hw, by unfold vx_no; rw [decide_eq_true e1, decide_eq_true e2, decide_eq_true e3, decide_eq_true e4]; rfl⟩)
/-- where a static field lies, its class's statics cell in H -/
def vx_L (C n d : String) (A : Nat → Prop) (U : State) (H : Heap) : Prop := ∃ (c : ClassId) (k : Class) (i : Nat) (f : Field) (a : Nat) (cell : Cell), U.vm.findClass C = some c ∧ U.fieldFound? C n d = some (c, k, i, f) ∧ f.isStatic = true ∧ k.statics = some a ∧ H[a]? = some cell ∧ cell.vm.isStatics = true ∧ cell.cls = c ∧ f.slot < cell.slots.size ∧ k.staticTypes[f.slot]? = some f.type ∧ ¬ A a
theorem vx_L.moved {C n d : String} {A : Nat → Prop} {u U : State} {H : Heap} (hvm : u.vm.Alike U.vm) (h : vx_L C n d A u H) : vx_L C n d A U H := by
  obtain ⟨c, k, i, f, a, cell, h1, h2, h3, h4, h5, h6, h7, h8, h9, h10⟩ := h
  obtain ⟨k', hi', he⟩ := State.fieldFound?_setVm hvm h2
  exact ⟨c, k', i, f, a, cell, by rw [hvm.findClass]; exact h1, hi', h3, by rw [he]; exact h4, h5, h6, h7, h8, by rw [he]; exact h9, h10⟩
theorem vx_L.kept {C n d : String} {A : Nat → Prop} {U : State} {H H1 : Heap} (h : vx_L C n d A U H) (hq : ∀ a : Nat, a < H.size → ¬ A a → H1[a]? = H[a]?) : vx_L C n d A U H1 := by
  obtain ⟨c, k, i, f, a, cell, h1, h2, h3, h4, h5, h6, h7, h8, h9, h10⟩ := h
  exact ⟨c, k, i, f, a, cell, h1, h2, h3, h4, by rw [hq a (Array.getElem?_eq_some_iff.mp h5).1 h10]; exact h5, h6, h7, h8, h9, h10⟩
theorem vx_L.narrow {C n d : String} {A B : Nat → Prop} {U : State} {H : Heap} (h : vx_L C n d A U H) (hAB : ∀ q, B q → A q) : vx_L C n d B U H := by
  obtain ⟨c, k, i, f, a, cell, h1, h2, h3, h4, h5, h6, h7, h8, h9, h10⟩ := h
  exact ⟨c, k, i, f, a, cell, h1, h2, h3, h4, h5, h6, h7, h8, h9, fun z => h10 (hAB _ z)⟩
theorem vx_L.word {C n d : String} {A : Nat → Prop} {s : State} {args : Array Value} (h : vx_L C n d A s s.heap) : (Cond.laysStatic C n d).before args s = true := by
  obtain ⟨c, k, i, f, a, cell, h1, h2, h3, h4, h5, h6, h7, h8, h9, -⟩ := h
  show (Cond.laysStatic C n d).holds args s none s [] = true
  exact Cond.laysStatic_of h1 h2 h3 h4 h5 h6 h7 h8 h9
/-- .. and what it holds: null or some reference -/
def vx_Zq (C n d : String) (A : Nat → Prop) (U : State) (H : Heap) : Prop := va_Zq C n d A U H ∧ vx_L C n d A U H
theorem vx_Zq.moved {C n d : String} {A : Nat → Prop} {u U : State} {H : Heap} (hvm : u.vm.Alike U.vm) (h : vx_Zq C n d A u H) : vx_Zq C n d A U H := ⟨va_Zq.moved hvm h.1, vx_L.moved hvm h.2⟩
theorem vx_Zq.kept {C n d : String} {A : Nat → Prop} {U : State} {H H1 : Heap} (h : vx_Zq C n d A U H) (hq : ∀ a : Nat, a < H.size → ¬ A a → H1[a]? = H[a]?) : vx_Zq C n d A U H1 := ⟨va_Zq.kept h.1 hq, vx_L.kept h.2 hq⟩
theorem vx_Zq.narrow {C n d : String} {A B : Nat → Prop} {U : State} {H : Heap} (h : vx_Zq C n d A U H) (hAB : ∀ q, B q → A q) : vx_Zq C n d B U H := ⟨va_Zq.narrow h.1 hAB, vx_L.narrow h.2 hAB⟩
theorem vx_Zqof {args : Array Value} {s : State} {C n d : String} {A : Nat → Prop} (hl : (Cond.laysStatic C n d).before args s = true) (hini : (Cond.initialized C).before args s = true) (h : (Cond.isRef (.static C n d)).before args s = true) (hA : ∀ a : Nat, a < s.heap.size → ¬ A a) : vx_Zq C n d A s s.heap := by
  refine ⟨va_Zqof hl hini h hA, ?_⟩
  obtain ⟨c, k, i, f, a, cell, h1, h2, h3, h4, h5, h6, h7, h8, h9⟩ := Cond.laysStatic_spec hl
  exact ⟨c, k, i, f, a, cell, h1, h2, h3, h4, h5, h6, h7, h8, h9, hA a (Array.getElem?_eq_some_iff.mp h5).1⟩
theorem vx_isRef {C n d : String} {v : Value} {A : Nat → Prop} {s : State} {args : Array Value} (h : va_Z C n d v A s s.heap) (hv : v.isRef = true) : (Cond.isRef (.static C n d)).before args s = true := by
  obtain ⟨cf, kf, fi, f, a, cell, h1, h2, h3, h4, h5, h6, h7, -⟩ := h
  have he : (Term.static C n d).eval args s none [] s = some v := by
    simp [Term.eval, State.fieldNamed?, h1, h2, h4, h5, h6, h7]
  simp only [Cond.before, Cond.holds, Cond.value, he]
  cases v <;> simp_all [Value.isRef]
theorem vx_isRefq {C n d : String} {A : Nat → Prop} {s : State} {args : Array Value} (h : va_Zq C n d A s s.heap) : (Cond.isRef (.static C n d)).before args s = true := by
  rcases h with h | ⟨t, h⟩
  · exact vx_isRef h rfl
  · exact vx_isRef h rfl
/-- the same frame, seen from here: as if the method were called anew in this heap -/
theorem vx_rebase {T : State} (X : Stand p l e R s m args below meth c T locs cells slots) {R' : Room} (hf : R'.frames ≤ R.frames) (hl : R'.locals ≤ R.locals) (hc : cells + R'.cells ≤ R.cells) (hs : slots + R'.slots ≤ R.slots) :
    Stand p l e R' ((T.setVm s.vm).setFrames (.invoking m args :: below)) m args below meth c T [] 0 0 := by
  have htop : (T.setVm s.vm).topJava?.isSome := X.here.top
  have hF : ((T.setVm s.vm).setFrames (.invoking m args :: below)).frames = .invoking m args :: below := State.frames_setFrames _ (State.cur_lt_of_top htop)
  obtain ⟨g₀, hg0⟩ := Option.isSome_iff_exists.mp htop
  obtain ⟨r, hr⟩ := State.topJava?_eq_some.mp hg0
  have hl9 : e.platform.stackLimits (T.setVm s.vm).me = e.platform.stackLimits s.me := X.limits
  have hb9 : (T.setVm s.vm).me.stackBytes = s.me.stackBytes := X.bytes
  refine ⟨X.admits, X.cas, X.clock, hF, ?_, X.hears, X.method, X.code, X.here, X.tail, X.warmed, ?_, ?_, ?_⟩
  · have h := X.room
    have hU : ((T.setVm s.vm).setFrames (.invoking m args :: below)).localsInUse = s.localsInUse := by
      rw [State.localsInUse_invoking hF (meth := meth) (c := c) X.method X.code, State.localsInUse_invoking X.frames X.method X.code]
    simp only [State.hasRoom, Bool.and_eq_true, decide_eq_true_eq] at h ⊢
    obtain ⟨⟨⟨⟨h1, h2, h3, h4, h5, h6⟩, h7⟩, h8⟩, h9⟩ := h
    rw [X.frames, List.length_cons] at h2 h3
    have q1 := X.heapSize
    have q2 := X.used
    simp only [hF, hU, List.length_cons, State.stackLimits_setFrames, State.stackBytes_setFrames, hl9, hb9]
    refine ⟨⟨⟨⟨by omega, by omega, by omega, by omega, by omega, h6⟩, ?_⟩, ?_⟩, X.book⟩
    · show T.heap.size + R'.cells ≤ e.platform.maxCells
      omega
    · show T.slotsUsed + R'.slots ≤ e.platform.maxSlots
      omega
  · rw [State.stackLimits_setFrames]; rfl
  · rw [State.stackBytes_setFrames]; rfl
  · refine ⟨?_, Nat.le_refl _, Nat.le_refl _, ?_, ?_, fun a c9 h9 => ⟨c9, h9, rfl, rfl, fun _ _ => rfl⟩⟩
    · obtain ⟨t, ht, -⟩ := State.frames_cons hr
      show T.setVm s.vm = { ((T.setVm s.vm).setFrames (.invoking m args :: below)).setFrames (T.setVm s.vm).frames with heap := T.heap, slotsUsed := T.slotsUsed }
      rw [State.setFrames_setFrames, State.setFrames_self ht]
      rfl
    · show T.slotsUsed = T.slotsUsed + ((T.heap.toList.drop T.heap.size).map (·.slots.size)).sum
      rw [List.drop_eq_nil_of_le (Nat.le_of_eq Array.length_toList)]
      rfl
    · show ((T.heap.toList.drop T.heap.size).map (·.slots.size)).sum ≤ 0
      rw [List.drop_eq_nil_of_le (Nat.le_of_eq Array.length_toList)]
      exact Nat.le_refl _
/-- 'throw new E()': new; dup; invokespecial; athrow -/
theorem vx_throw0 {cc : ByteArray} {pc : Nat} (hexec : p.tables.exec = Jvm.exec) (hb : c.code = cc) (hl : l.stackTraces = false) {own cls : String} {names : List String} {ik ic mc ms : Nat} {A : Nat → Prop}
    (hown : s.vm.findClass own = some m.cls) (hcls : Bundle.fit cls = true) (hnames : ∀ n ∈ names, Bundle.fit n = true)
    (hk : (Cond.classLink own ik cls).before args s = true) (hini : (Cond.initialized cls).before args s = true) (hat : ∀ w ∈ vx_at0 own ic cls names, w.before args s = true)
    (hgood : ∀ w ∈ Cond.classLink own ik cls :: Cond.initialized cls :: vx_at0 own ic cls names, vx_ot w = true)
    (hU : vx_Zq Bundle.tN "UNASSIGNED_STACK" Bundle.steD A s s.heap) (hN : vx_Zq Bundle.tN "SUPPRESSED_SENTINEL" Bundle.listD A s s.heap) (hS : va_S A s.heap H locs) (hsize : ls.size = c.maxLocals)
    (d0 : decode cc pc = .ok (.new ik, 3)) (d3 : decode cc (pc + 3) = .ok (.dup, 1)) (d4 : decode cc (pc + 4) = .ok (.invokespecial ic, 3)) (d7 : decode cc (pc + 7) = .ok (.athrow, 1))
    (hout : ∀ x ∈ c.exceptionTable.toList, covers x (pc + 7) = false)
    (hRframes : names.length + 3 < R.frames) (hRlocals : (rest.map fun v => v.category).sum + (13 * (names.length + 1) + 42) ≤ R.locals) (hRcells : cells + 1 ≤ R.cells) (hRslots : slots + 6 ≤ R.slots) (hlocks : meth.locks = false)
    (hx : ∀ t : State, s.vm.Alike t.vm → H.size ≤ t.heap.size → (∀ q : Nat, q < H.size → t.heap[q]? = H[q]?) → XC cls s t)
    (hf : ∀ z ∈ locs, free z.base) (hc : cells + 1 ≤ mc) (hs : slots + 6 ≤ ms) :
    W p l e R s m args below meth c H locs cells slots (vx_MQ below Qc XC args s mc ms free) (F0 m pc ls rest) := by
  intro T hT X
  have htr : e.platform.stackTraces = false := (show e.platform.stackTraces = l.stackTraces by rw [X.admits.platform]).trans hl
  have Y := vx_rebase X (R' := { frames := R.frames, locals := R.locals, cells := 1, slots := 6 }) (Nat.le_refl _) (Nat.le_refl _) hRcells hRslots
  obtain ⟨s', hA⟩ : ∃ z, z = (T.setVm s.vm).setFrames (.invoking m args :: below) := ⟨_, rfl⟩
  rw [← hA] at Y
  have hvm : s'.vm = s.vm := by rw [hA]; rfl
  have hhp : s'.heap = H := by rw [hA]; exact hT
  have hW0 : s.WarmedH s'.vm := by rw [hvm]; exact State.WarmedH.refl s
  have hat' : ∀ w ∈ vx_at0 own ic cls names, w.before args s' = true := fun w hw => vx_ot_at hW0 hvm.symm (hgood w (List.mem_cons_of_mem _ (List.mem_cons_of_mem _ hw))) (hat w hw)
  have hk' : (Cond.classLink own ik cls).before args s' = true := vx_ot_at hW0 hvm.symm (hgood _ List.mem_cons_self) hk
  have hini' : (Cond.initialized cls).before args s' = true := vx_ot_at hW0 hvm.symm (hgood _ (List.mem_cons_of_mem _ List.mem_cons_self)) hini
  have hU' : vx_Zq Bundle.tN "UNASSIGNED_STACK" Bundle.steD A s' s'.heap := by rw [hhp]; exact vx_Zq.moved hW0.alike (hU.kept hS.2.1)
  have hN' : vx_Zq Bundle.tN "SUPPRESSED_SENTINEL" Bundle.listD A s' s'.heap := by rw [hhp]; exact vx_Zq.moved hW0.alike (hN.kept hS.2.1)
  have h : ∀ w ∈ Bundle.ownAtoms0 own ic cls names, w.before args s' = true := vx_own hat' (vx_isRefq hU'.1) (vx_isRefq hN'.1) hU'.2.word hN'.2.word
  have hown' : s'.vm.findClass own = some m.cls := by rw [hvm]; exact hown
  have hins : (Cond.instantiable cls 6).before args s' = true := h _ (by simp [Bundle.ownAtoms0])
  obtain ⟨vm₁, cX, kX, hfX, hkX, -, -, X₁, st1⟩ := Y.newCold hexec (own := own) (C := cls) (index := ik) (n := 6) hown' hk' hins hini'
    (g := F0 m pc ls rest) rfl (by rw [hb]; exact d0) (Nat.le_refl _) (Nat.le_refl _)
  generalize hT1 : (T.setVm vm₁).pushCell { cls := cX, slots := kX.instanceTypes.map defaultValue, vm := .none } = T1 at X₁ st1
  have hcat : (Value.ref T.heap.size).category = 1 := rfl
  have hcellA : T1.heap[T.heap.size]? = some (freshCell cX kX) := by rw [← hT1]; exact State.heap_pushCell_size _ _
  have d3' : decode c.code (pc + 3) = .ok (.dup, 1) := by rw [hb]; exact d3
  obtain ⟨U, hsteps, hrun, hend, hW, hsame, ce, hce, hO⟩ := X₁.ctorThrow0 hexec htr (own := own) (cls := cls) (names := names) (ic := ic) hown' hcls hnames h (fun x hx => nomatch hx) hfX hkX hcellA (by rw [hhp, hT]; exact Nat.le_refl _)
    (g := { method := m, pc := pc + 4, locals := ls, stack := .ref T.heap.size :: .ref T.heap.size :: rest, locked := none }) rfl hsize rfl rfl (rest := rest) rfl
    (by rw [hb]; exact d4) (by rw [hb]; exact d7) hout hRframes (by simp only [List.map_cons, List.sum_cons, hcat]; omega) hlocks
  obtain ⟨f1, f2⟩ := vx_frame hsame
  rw [hhp] at f1 f2
  have hWs : s.WarmedH U.vm := State.WarmedH.trans hW0 hW
  have hcl : s.vm.findClass cls = some ce.cls := by
    have h9 := hO.cls
    rw [hvm] at h9
    exact h9
  have hall : s.sameButNew ({ U with vm := s.vm } : State) locs mc ms := by
    subst hA
    obtain ⟨e1, e2⟩ := hsame
    rw [State.setFrames_setFrames] at e1
    have h2 : (T.setVm s.vm).sameButNew ({ U with vm := s.vm } : State) [] (0 + 1) (0 + 6) := ⟨e1, e2⟩
    have h3 := X.same.trans h2
    rw [List.append_nil] at h3
    exact h3.mono hc hs
  refine ⟨U, ?_, .threw T.heap.size, hrun, hend, Or.inr ⟨T.heap.size, rfl, cls, ce, locs, hx U hWs.alike f1 (fun q hq => f2 q hq (fun z hz => nomatch hz)), hce, hO.vm, hcl, hWs, hall, hf⟩⟩
  refine st1 _ ?_
  show Steps p.tables e below (T1.setTop { method := m, pc := pc + 3, locals := ls, stack := .ref T.heap.size :: rest, locked := none }) _
  jvm_step X₁.here [X₁.here.top, hexec, d3', Value.category]
  exact hsteps
/-- 'throw new E("text")': new; dup; ldc; invokespecial; athrow -/
theorem vx_throwS {cc : ByteArray} {pc : Nat} (hexec : p.tables.exec = Jvm.exec) (hb : c.code = cc) (hl : l.stackTraces = false) {own cls text : String} {names : List String} {ik is ic mc ms sa : Nat} {A : Nat → Prop}
    (hown : s.vm.findClass own = some m.cls) (hcls : Bundle.fit cls = true) (hnames : ∀ n ∈ names, Bundle.fit n = true)
    (hk : (Cond.classLink own ik cls).before args s = true) (hini : (Cond.initialized cls).before args s = true) (hstr : vk_R own is text sa s) (hat : ∀ w ∈ vx_atS own ic cls names, w.before args s = true)
    (hgood : ∀ w ∈ Cond.classLink own ik cls :: Cond.initialized cls :: vx_atS own ic cls names, vx_ot w = true)
    (hU : vx_Zq Bundle.tN "UNASSIGNED_STACK" Bundle.steD A s s.heap) (hN : vx_Zq Bundle.tN "SUPPRESSED_SENTINEL" Bundle.listD A s s.heap) (hS : va_S A s.heap H locs) (hsize : ls.size = c.maxLocals)
    (d0 : decode cc pc = .ok (.new ik, 3)) (d3 : decode cc (pc + 3) = .ok (.dup, 1)) (d4 : decode cc (pc + 4) = .ok (.ldc is, 2)) (d6 : decode cc (pc + 6) = .ok (.invokespecial ic, 3)) (d9 : decode cc (pc + 9) = .ok (.athrow, 1))
    (hout : ∀ x ∈ c.exceptionTable.toList, covers x (pc + 9) = false)
    (hRframes : names.length + 3 < R.frames) (hRlocals : (rest.map fun v => v.category).sum + (13 * (names.length + 1) + 43) ≤ R.locals) (hRcells : cells + 1 ≤ R.cells) (hRslots : slots + 6 ≤ R.slots) (hlocks : meth.locks = false)
    (hx : ∀ t : State, s.vm.Alike t.vm → H.size ≤ t.heap.size → (∀ q : Nat, q < H.size → t.heap[q]? = H[q]?) → XC cls s t)
    (hf : ∀ z ∈ locs, free z.base) (hc : cells + 1 ≤ mc) (hs : slots + 6 ≤ ms) :
    W p l e R s m args below meth c H locs cells slots (vx_MQ below Qc XC args s mc ms free) (F0 m pc ls rest) := by
  intro T hT X
  have htr : e.platform.stackTraces = false := (show e.platform.stackTraces = l.stackTraces by rw [X.admits.platform]).trans hl
  have Y := vx_rebase X (R' := { frames := R.frames, locals := R.locals, cells := 1, slots := 6 }) (Nat.le_refl _) (Nat.le_refl _) hRcells hRslots
  obtain ⟨s', hA⟩ : ∃ z, z = (T.setVm s.vm).setFrames (.invoking m args :: below) := ⟨_, rfl⟩
  rw [← hA] at Y
  have hvm : s'.vm = s.vm := by rw [hA]; rfl
  have hhp : s'.heap = H := by rw [hA]; exact hT
  have hW0 : s.WarmedH s'.vm := by rw [hvm]; exact State.WarmedH.refl s
  have hat' : ∀ w ∈ vx_atS own ic cls names, w.before args s' = true := fun w hw => vx_ot_at hW0 hvm.symm (hgood w (List.mem_cons_of_mem _ (List.mem_cons_of_mem _ hw))) (hat w hw)
  have hk' : (Cond.classLink own ik cls).before args s' = true := vx_ot_at hW0 hvm.symm (hgood _ List.mem_cons_self) hk
  have hini' : (Cond.initialized cls).before args s' = true := vx_ot_at hW0 hvm.symm (hgood _ (List.mem_cons_of_mem _ List.mem_cons_self)) hini
  have hU' : vx_Zq Bundle.tN "UNASSIGNED_STACK" Bundle.steD A s' s'.heap := by rw [hhp]; exact vx_Zq.moved hW0.alike (hU.kept hS.2.1)
  have hN' : vx_Zq Bundle.tN "SUPPRESSED_SENTINEL" Bundle.listD A s' s'.heap := by rw [hhp]; exact vx_Zq.moved hW0.alike (hN.kept hS.2.1)
  have h : ∀ w ∈ Bundle.ownAtoms own ic cls names, w.before args s' = true := vx_own hat' (vx_isRefq hU'.1) (vx_isRefq hN'.1) hU'.2.word hN'.2.word
  have hown' : s'.vm.findClass own = some m.cls := by rw [hvm]; exact hown
  have hins : (Cond.instantiable cls 6).before args s' = true := h _ (by simp [Bundle.ownAtoms])
  obtain ⟨vm₁, cX, kX, hfX, hkX, -, -, X₁, st1⟩ := Y.newCold hexec (own := own) (C := cls) (index := ik) (n := 6) hown' hk' hins hini'
    (g := F0 m pc ls rest) rfl (by rw [hb]; exact d0) (Nat.le_refl _) (Nat.le_refl _)
  generalize hT1 : (T.setVm vm₁).pushCell { cls := cX, slots := kX.instanceTypes.map defaultValue, vm := .none } = T1 at X₁ st1
  have hcat : (Value.ref T.heap.size).category = 1 := rfl
  have hcellA : T1.heap[T.heap.size]? = some (freshCell cX kX) := by rw [← hT1]; exact State.heap_pushCell_size _ _
  have d3' : decode c.code (pc + 3) = .ok (.dup, 1) := by rw [hb]; exact d3
  have d4' : decode c.code (pc + 4) = .ok (.ldc is, 2) := by rw [hb]; exact d4
  have hstr' : vk_R own is text sa s' := vk_R.warm hW0 hstr
  obtain ⟨U, hsteps, hrun, hend, hW, hsame, ce, hce, hO⟩ := X₁.ctorThrowS hexec htr (own := own) (cls := cls) (names := names) (ic := ic) hown' hcls hnames h (fun x hx => nomatch hx) hfX hkX hcellA (by rw [hhp, hT]; exact Nat.le_refl _) (msg := .ref sa) rfl
    (g := { method := m, pc := pc + 6, locals := ls, stack := .ref sa :: .ref T.heap.size :: .ref T.heap.size :: rest, locked := none }) rfl hsize rfl rfl (rest := rest) rfl
    (by rw [hb]; exact d6) (by rw [hb]; exact d9) hout hRframes (by simp only [List.map_cons, List.sum_cons, hcat]; omega) hlocks
  obtain ⟨f1, f2⟩ := vx_frame hsame
  rw [hhp] at f1 f2
  have hWs : s.WarmedH U.vm := State.WarmedH.trans hW0 hW
  have hcl : s.vm.findClass cls = some ce.cls := by
    have h9 := hO.cls
    rw [hvm] at h9
    exact h9
  have hall : s.sameButNew ({ U with vm := s.vm } : State) locs mc ms := by
    subst hA
    obtain ⟨e1, e2⟩ := hsame
    rw [State.setFrames_setFrames] at e1
    have h2 : (T.setVm s.vm).sameButNew ({ U with vm := s.vm } : State) [] (0 + 1) (0 + 6) := ⟨e1, e2⟩
    have h3 := X.same.trans h2
    rw [List.append_nil] at h3
    exact h3.mono hc hs
  refine ⟨U, ?_, .threw T.heap.size, hrun, hend, Or.inr ⟨T.heap.size, rfl, cls, ce, locs, hx U hWs.alike f1 (fun q hq => f2 q hq (fun z hz => nomatch hz)), hce, hO.vm, hcl, hWs, hall, hf⟩⟩
  refine st1 _ ?_
  show Steps p.tables e below (T1.setTop { method := m, pc := pc + 3, locals := ls, stack := .ref T.heap.size :: rest, locked := none }) _
  jvm_step X₁.here [X₁.here.top, hexec, d3', Value.category]
  exact X₁.ldcString hexec (own := own) (text := text) (index := is) (a := sa) hown' hstr'.1 hstr'.2
    (g := { method := m, pc := pc + 4, locals := ls, stack := .ref T.heap.size :: .ref T.heap.size :: rest, locked := none }) rfl d4' _ hsteps
/-- 'throw new E("text")', the text by a wide index -/
theorem vx_throwSW {cc : ByteArray} {pc : Nat} (hexec : p.tables.exec = Jvm.exec) (hb : c.code = cc) (hl : l.stackTraces = false) {own cls text : String} {names : List String} {ik is ic mc ms sa : Nat} {A : Nat → Prop}
    (hown : s.vm.findClass own = some m.cls) (hcls : Bundle.fit cls = true) (hnames : ∀ n ∈ names, Bundle.fit n = true)
    (hk : (Cond.classLink own ik cls).before args s = true) (hini : (Cond.initialized cls).before args s = true) (hstr : vk_R own is text sa s) (hat : ∀ w ∈ vx_atS own ic cls names, w.before args s = true)
    (hgood : ∀ w ∈ Cond.classLink own ik cls :: Cond.initialized cls :: vx_atS own ic cls names, vx_ot w = true)
    (hU : vx_Zq Bundle.tN "UNASSIGNED_STACK" Bundle.steD A s s.heap) (hN : vx_Zq Bundle.tN "SUPPRESSED_SENTINEL" Bundle.listD A s s.heap) (hS : va_S A s.heap H locs) (hsize : ls.size = c.maxLocals)
    (d0 : decode cc pc = .ok (.new ik, 3)) (d3 : decode cc (pc + 3) = .ok (.dup, 1)) (d4 : decode cc (pc + 4) = .ok (.ldc_w is, 3)) (d7 : decode cc (pc + 7) = .ok (.invokespecial ic, 3)) (d10 : decode cc (pc + 10) = .ok (.athrow, 1))
    (hout : ∀ x ∈ c.exceptionTable.toList, covers x (pc + 10) = false)
    (hRframes : names.length + 3 < R.frames) (hRlocals : (rest.map fun v => v.category).sum + (13 * (names.length + 1) + 43) ≤ R.locals) (hRcells : cells + 1 ≤ R.cells) (hRslots : slots + 6 ≤ R.slots) (hlocks : meth.locks = false)
    (hx : ∀ t : State, s.vm.Alike t.vm → H.size ≤ t.heap.size → (∀ q : Nat, q < H.size → t.heap[q]? = H[q]?) → XC cls s t)
    (hf : ∀ z ∈ locs, free z.base) (hc : cells + 1 ≤ mc) (hs : slots + 6 ≤ ms) :
    W p l e R s m args below meth c H locs cells slots (vx_MQ below Qc XC args s mc ms free) (F0 m pc ls rest) := by
  intro T hT X
  have htr : e.platform.stackTraces = false := (show e.platform.stackTraces = l.stackTraces by rw [X.admits.platform]).trans hl
  have Y := vx_rebase X (R' := { frames := R.frames, locals := R.locals, cells := 1, slots := 6 }) (Nat.le_refl _) (Nat.le_refl _) hRcells hRslots
  obtain ⟨s', hA⟩ : ∃ z, z = (T.setVm s.vm).setFrames (.invoking m args :: below) := ⟨_, rfl⟩
  rw [← hA] at Y
  have hvm : s'.vm = s.vm := by rw [hA]; rfl
  have hhp : s'.heap = H := by rw [hA]; exact hT
  have hW0 : s.WarmedH s'.vm := by rw [hvm]; exact State.WarmedH.refl s
  have hat' : ∀ w ∈ vx_atS own ic cls names, w.before args s' = true := fun w hw => vx_ot_at hW0 hvm.symm (hgood w (List.mem_cons_of_mem _ (List.mem_cons_of_mem _ hw))) (hat w hw)
  have hk' : (Cond.classLink own ik cls).before args s' = true := vx_ot_at hW0 hvm.symm (hgood _ List.mem_cons_self) hk
  have hini' : (Cond.initialized cls).before args s' = true := vx_ot_at hW0 hvm.symm (hgood _ (List.mem_cons_of_mem _ List.mem_cons_self)) hini
  have hU' : vx_Zq Bundle.tN "UNASSIGNED_STACK" Bundle.steD A s' s'.heap := by rw [hhp]; exact vx_Zq.moved hW0.alike (hU.kept hS.2.1)
  have hN' : vx_Zq Bundle.tN "SUPPRESSED_SENTINEL" Bundle.listD A s' s'.heap := by rw [hhp]; exact vx_Zq.moved hW0.alike (hN.kept hS.2.1)
  have h : ∀ w ∈ Bundle.ownAtoms own ic cls names, w.before args s' = true := vx_own hat' (vx_isRefq hU'.1) (vx_isRefq hN'.1) hU'.2.word hN'.2.word
  have hown' : s'.vm.findClass own = some m.cls := by rw [hvm]; exact hown
  have hins : (Cond.instantiable cls 6).before args s' = true := h _ (by simp [Bundle.ownAtoms])
  obtain ⟨vm₁, cX, kX, hfX, hkX, -, -, X₁, st1⟩ := Y.newCold hexec (own := own) (C := cls) (index := ik) (n := 6) hown' hk' hins hini'
    (g := F0 m pc ls rest) rfl (by rw [hb]; exact d0) (Nat.le_refl _) (Nat.le_refl _)
  generalize hT1 : (T.setVm vm₁).pushCell { cls := cX, slots := kX.instanceTypes.map defaultValue, vm := .none } = T1 at X₁ st1
  have hcat : (Value.ref T.heap.size).category = 1 := rfl
  have hcellA : T1.heap[T.heap.size]? = some (freshCell cX kX) := by rw [← hT1]; exact State.heap_pushCell_size _ _
  have d3' : decode c.code (pc + 3) = .ok (.dup, 1) := by rw [hb]; exact d3
  have d4' : decode c.code (pc + 4) = .ok (.ldc_w is, 3) := by rw [hb]; exact d4
  have hstr' : vk_R own is text sa s' := vk_R.warm hW0 hstr
  obtain ⟨U, hsteps, hrun, hend, hW, hsame, ce, hce, hO⟩ := X₁.ctorThrowS hexec htr (own := own) (cls := cls) (names := names) (ic := ic) hown' hcls hnames h (fun x hx => nomatch hx) hfX hkX hcellA (by rw [hhp, hT]; exact Nat.le_refl _) (msg := .ref sa) rfl
    (g := { method := m, pc := pc + 7, locals := ls, stack := .ref sa :: .ref T.heap.size :: .ref T.heap.size :: rest, locked := none }) rfl hsize rfl rfl (rest := rest) rfl
    (by rw [hb]; exact d7) (by rw [hb]; exact d10) hout hRframes (by simp only [List.map_cons, List.sum_cons, hcat]; omega) hlocks
  obtain ⟨f1, f2⟩ := vx_frame hsame
  rw [hhp] at f1 f2
  have hWs : s.WarmedH U.vm := State.WarmedH.trans hW0 hW
  have hcl : s.vm.findClass cls = some ce.cls := by
    have h9 := hO.cls
    rw [hvm] at h9
    exact h9
  have hall : s.sameButNew ({ U with vm := s.vm } : State) locs mc ms := by
    subst hA
    obtain ⟨e1, e2⟩ := hsame
    rw [State.setFrames_setFrames] at e1
    have h2 : (T.setVm s.vm).sameButNew ({ U with vm := s.vm } : State) [] (0 + 1) (0 + 6) := ⟨e1, e2⟩
    have h3 := X.same.trans h2
    rw [List.append_nil] at h3
    exact h3.mono hc hs
  refine ⟨U, ?_, .threw T.heap.size, hrun, hend, Or.inr ⟨T.heap.size, rfl, cls, ce, locs, hx U hWs.alike f1 (fun q hq => f2 q hq (fun z hz => nomatch hz)), hce, hO.vm, hcl, hWs, hall, hf⟩⟩
  refine st1 _ ?_
  show Steps p.tables e below (T1.setTop { method := m, pc := pc + 3, locals := ls, stack := .ref T.heap.size :: rest, locked := none }) _
  jvm_step X₁.here [X₁.here.top, hexec, d3', Value.category]
  exact X₁.ldcStringW hexec (own := own) (text := text) (index := is) (a := sa) hown' hstr'.1 hstr'.2
    (g := { method := m, pc := pc + 4, locals := ls, stack := .ref T.heap.size :: .ref T.heap.size :: rest, locked := none }) rfl d4' _ hsteps
end Ends
section Bodies
variable {l : Launch}
theorem vx_ofW {y : MethodName} {ws ws' : List Cond} {rm : Room} {Pc : Array Value → State → Prop} {Qc : Array Value → State → Outcome → State → Prop} {XC : String → State → State → Prop} {mc ms : Nat} {free : Addr → Prop} {cc : ByteArray} {maxL : Nat} {ret : Option FieldType}
    (hy : plainName y.cls = true) (hw : ws = Cond.code y cc maxL ret :: ws')
    (body : ∀ p e s m args below meth c s₁, BodyLoose p l y (headSpec ws rm) cc maxL ret e s m args below meth c s₁ → c.maxLocals = maxL → (∀ x ∈ c.exceptionTable.toList, False) → Pc args s →
      W p l e (headSpec ws rm).room s m args below meth c s.heap [] 0 0 (vx_MQ below Qc XC args s mc ms free) (entryFrame m args maxL)) : vx_Met l y ws rm Pc Qc XC mc ms free := by
  refine MetFree.of_bodyS (code := cc) (maxLocals := maxL) (ret := ret) hy ?_ ?_
  · intro args s m h hn
    obtain ⟨meth, c, h1, h2, h3, h4, h5, h6, -, -⟩ := Cond.code_spec hn (atoms_spec (ws := ws) h _ (by rw [hw]; exact List.mem_cons_self))
    exact ⟨meth, c, h1, h2, h3, h4, h5, h6⟩
  · intro p e s m args below meth c s₁ B hml hP _
    have hh0 : s₁.heap = s.heap := by rw [B.state]; rfl
    have ht : ∀ x ∈ c.exceptionTable.toList, False := by
      obtain ⟨meth9, c9, h1, h2, -, -, -, -, h7, -⟩ := Cond.code_spec B.named (atoms_spec (ws := ws) B.pre _ (by rw [hw]; exact List.mem_cons_self))
      cases Option.some.inj (h1.symm.trans B.method)
      cases Option.some.inj (h2.symm.trans (Stand.of_body B).code)
      intro x hx
      rw [Array.isEmpty_iff.mp h7] at hx
      cases hx
    obtain ⟨t, a1, o, b1, b2, b3⟩ := body p e s m args below meth c s₁ B hml ht hP s₁ hh0 (Stand.of_body B)
    exact ⟨t, o, a1, b1, b2, b3⟩
/-- the table of a body with handlers -/
theorem vx_table {p : Program} {x y : MethodName} {S : Spec} {cc bytes : ByteArray} {maxL maxL' : Nat} {ret ret' : Option FieldType} {e : Env} {s s₁ : State} {m : MethodId} {args : Array Value} {below : List Frame} {meth : Method} {c : Code} {hh : List (Nat × Nat × Nat × Nat)}
    (B : BodyLoose p l y S cc maxL ret e s m args below meth c s₁) (h : (Cond.codeWith y bytes maxL' ret' hh).before args s = true) : c.exceptionTable.toList = tableOf hh := by
  obtain ⟨m9, meth9, c9, hn9, h1, h2, -, -, h6, -⟩ := Cond.codeWith_spec h
  cases Option.some.inj (hn9.symm.trans B.named)
  cases Option.some.inj (h1.symm.trans B.method)
  cases Option.some.inj (h2.symm.trans (Stand.of_body B).code)
  rw [← h6, table_eq]
end Bodies
end VXA
/-! ===== END ===== -/
/-! ===== BEGIN a static call of a method with an exception table ===== -/
section VXS
variable {p : Program} {l : Launch} {e : Env} {R : Room} {s : State} {m : MethodId} {args : Array Value} {below : List Frame} {meth : Method} {c : Code} {T : State} {H : Heap} {locs : List Loc} {cells slots : Nat}
abbrev vx_CSW (R : Room) (s : State) (args : Array Value) (own : String) (index : Nat) (y : MethodName) (bytes : ByteArray) (maxL : Nat) (ret : Option FieldType) (hh : List (Nat × Nat × Nat × Nat)) (ws : List Cond) (rm : Room) (mc ms n : Nat) : Prop :=
  (rm.cells = mc ∧ rm.slots = ms ∧ rm.frames + 1 ≤ R.frames ∧ 8 + (maxL + 11) + rm.locals ≤ R.locals ∧ (∀ w ∈ ws, ∀ (a' : Array Value) (U : State), s.WarmedH U.vm → w.before a' U = true) ∧ Cond.codeWith y bytes maxL ret hh ∈ ws) ∧
  (Cond.codeWith y bytes maxL ret hh).before args s = true ∧ (Cond.initialized y.cls).before args s = true ∧ (y.cls ≠ "java/lang/invoke/MethodHandle" ∧ y.cls ≠ "java/lang/invoke/VarHandle") ∧
  (∀ sig, parseMethodDescriptor y.desc = some sig → n = sig.parameters.length) ∧ (Cond.methodLink own index y).before args s = true ∧ (Cond.static y).before args s = true
theorem vx_cwSW {own : String} {index maxL mc ms : Nat} {y : MethodName} {bytes : ByteArray} {ret : Option FieldType} {hh : List (Nat × Nat × Nat × Nat)} {Ts ws ws' : List Cond} {rm : Room} (n : Nat) (ht : ∀ w ∈ Ts, w.before args s = true) (hT : GoodIn Ts (va_wsS own index y ws)) (hw : ws = Cond.codeWith y bytes maxL ret hh :: ws') (hrc : rm.cells = mc) (hrs : rm.slots = ms)
    (hd : y.cls ≠ "java/lang/invoke/MethodHandle" ∧ y.cls ≠ "java/lang/invoke/VarHandle" ∧ (parseMethodDescriptor y.desc).map (fun d => d.parameters.length) = some n) (hR : rm.frames + 1 ≤ R.frames ∧ 8 + (maxL + 11) + rm.locals ≤ R.locals) :
    vx_CSW R s args own index y bytes maxL ret hh ws rm mc ms n := by
  have ok : ∀ w ∈ va_wsS own index y ws, w.before args s = true := fun w h => ht w (hT w h).1
  have hG : GoodIn Ts ws := fun w h => hT w (by unfold va_wsS; exact List.mem_append_right _ h)
  have hc : Cond.codeWith y bytes maxL ret hh ∈ ws := by rw [hw]; exact List.mem_cons_self
  refine ⟨⟨hrc, hrs, hR.1, hR.2, pay_in ht hG, hc⟩, ht _ (hG _ hc).1, ok _ (by simp [va_wsS]), ⟨hd.1, hd.2.1⟩, fun sig h => ?_, ok _ (by simp [va_wsS]), ok _ (by simp [va_wsS])⟩
  have h2 := hd.2.2
  rw [h] at h2
  exact (Option.some.inj h2).symm
theorem vx_callSW (X : Stand p l e R s m args below meth c T locs cells slots) (hexec : p.tables.exec = Jvm.exec) {own : String} {index : Nat} {y : MethodName} {bytes : ByteArray} {maxL : Nat} {ret : Option FieldType} {hh : List (Nat × Nat × Nat × Nat)}
    (hown : s.vm.findClass own = some m.cls) (hlink : (Cond.methodLink own index y).before args s = true) (hstat : (Cond.static y).before args s = true) (hinit : (Cond.initialized y.cls).before args s = true)
    (hcode : (Cond.codeWith y bytes maxL ret hh).before args s = true) (hy : y.cls ≠ "java/lang/invoke/MethodHandle" ∧ y.cls ≠ "java/lang/invoke/VarHandle")
    {W9 : Nat} {Pre : Pt → Array Value → Prop} {Post : Pt → Array Value → Option Value → Pt → Prop} (hK : Back l R p e below s args y 3 W9 Pre Post)
    {g : JFrame} (hg : g.method = m) (hsize : g.locals.size = c.maxLocals) {argsL rest : List Value} (hlen : ∀ sig, parseMethodDescriptor y.desc = some sig → argsL.length = sig.parameters.length)
    (hstack : g.stack = argsL.reverse ++ rest) (hW : 2 * g.monitorRoom + (rest.map fun v => v.category).sum ≤ W9) (hdg : decode c.code g.pc = .ok (.invokestatic index, 3))
    (hpre : ∀ vm₁, s.WarmedH vm₁ → Pre ⟨T.setVm vm₁, locs, cells, slots⟩ argsL.toArray) :
    ∃ (v : Option Value) (vm₁ : Vm) (B : Pt), s.WarmedH vm₁ ∧ Stand p l e R s m args below meth c B.U B.locs B.cells B.slots ∧ Post ⟨T.setVm vm₁, locs, cells, slots⟩ argsL.toArray v B ∧
      ∀ target, Steps p.tables e below (B.U.setTop { g with pc := g.pc + 3, stack := v.toList ++ rest }) target → Steps p.tables e below (T.setTop g) target := by
  obtain ⟨mk, methM, cM, hnamed, hmethM, -, -, -, -, -, -, hsigM⟩ := Cond.codeWith_spec hcode
  have hstatic : methM.isStatic = true := Cond.static_spec hnamed hmethM hstat
  obtain ⟨kP, hkP, -⟩ := className_of_methodNamed hnamed
  have hinitP : kP.init = .initialized := Cond.initialized_spec (findClass_of_methodNamed hnamed) hkP hinit
  obtain ⟨vm₁, X₁, hstep₁⟩ := X.invokestatic hexec hown hlink hnamed hmethM hstatic hkP hinitP hy (g := g) hg (argsL := argsL) (rest := rest) (hlen _ hsigM) hstack hdg
  obtain ⟨v, B, X', hpost, hsteps⟩ := hK m meth c ⟨T.setVm vm₁, locs, cells, slots⟩ { g with stack := rest } (.invokestatic index) mk argsL.toArray X₁ hg hsize hdg hW (X₁.named hnamed) (hpre vm₁ X₁.warmed)
  exact ⟨v, vm₁, B, X₁.warmed, X', hpost, fun target h => hstep₁ _ fun acts => by rw [doInvoke_state]; exact hsteps.trans h⟩
theorem vx_runSW {y : MethodName} {bytes cc : ByteArray} {maxL nL mc ms n index : Nat} {ret : Option FieldType} {hh : List (Nat × Nat × Nat × Nat)} {ws : List Cond} {rm : Room} {Pc : Array Value → State → Prop} {Qc : Array Value → State → Outcome → State → Prop} {free : Addr → Prop} {Ts : List Cond} {own : String} {As rest : List Value} {g : JFrame}
    (S : CallFix p m c cc nL s args Ts own) (hM : Met l y ws rm Pc Qc mc ms free) (cw : vx_CSW R s args own index y bytes maxL ret hh ws rm mc ms n) (hp : PreS s H Pc As)
    (hg : g.method = m) (hn : As.length = n) (hsize : g.locals.size = nL) (hstack : g.stack = As.reverse ++ rest) (hW : 2 * g.monitorRoom + (rest.map fun v => v.category).sum ≤ 8) (hdg : decode cc g.pc = .ok (.invokestatic index, 3)) (hf : cells + mc ≤ R.cells ∧ slots + ms ≤ R.slots) :
    va_Run p l e R s m args below meth c H locs cells slots mc ms g rest (Qc As.toArray) (free) := by
  obtain ⟨⟨hrc, hrs, hfr, hlo, hws, hcw⟩, hcode, hini, hy, hlen, hl, hstt⟩ := cw
  have hK : Back l R p e below s args y 3 8 (PreOf R mc ms Pc) (PostOf Qc mc ms free) := va_backW (hh := hh) (bytes := bytes) (maxL := maxL) (ret := ret) hM hp.1 hrc hrs hfr hlo hws hcw (fun a' U hW => word_at hW (Or.inl (by first | rfl | simp [Cond.onTables, Cond.keeps, Cond.steady])) hini)
  obtain ⟨hx, hb, hml, ho, -⟩ := S
  intro T hT X
  obtain ⟨v, vm₁, ⟨U', l2, c2, s2⟩, hW₁, X', ⟨g', mk, t, L, e1, e2, hq, h1, hL, h2, h3⟩, st⟩ := vx_callSW X hx (hh := hh) (bytes := bytes) (maxL := maxL) (ret := ret) ho hl hstt hini hcode hy hK hg (hsize.trans hml.symm) (argsL := As) (rest := rest) (fun sig h => hn.trans (hlen sig h)) hstack hW (by rw [hb]; exact hdg)
    (fun vm₁ hW₁ => ⟨hf.1, hf.2, hp.2 (T.setVm vm₁) hT hW₁⟩)
  dsimp only [Pt.U, Pt.locs, Pt.cells, Pt.slots] at X' e1 e2 h1 h2 h3 st
  subst h1; subst h2; subst h3
  exact ⟨v, (T.setVm vm₁).calling g' mk As.toArray, t, U', L, hT, X', hL, e1, e2, hq, st⟩
/-- not caught here, past rows that name other classes: it goes on to the caller -/
theorem vx_outP {p : Program} {l : Launch} {e : Env} {R : Room} {s : State} {m : MethodId} {args : Array Value} {below : List Frame} {meth : Method} {c : Code} {H : Heap} {locs : List Loc} {cells slots : Nat} {free : Addr → Prop} {ls : Array Slot} {rest : List Value} {Qc : Array Value → State → Outcome → State → Prop} {XC : String → State → State → Prop}
    {pc : Nat} {own E : String} {ce : Cell} {q : Addr} {mc ms : Nat} (hown : s.vm.findClass own = some m.cls) (hlocks : meth.locks = false)
    (hpass : ∀ z ∈ c.exceptionTable.toList, covers z pc = false ∨ (z.catchType ≠ 0 ∧ ∃ nm : String, (Cond.classLink own z.catchType nm).before args s = true ∧ va_Nc E nm s)) (hcell : H[q]? = some ce) (hv : ce.vm = .none) (hcl : s.vm.findClass E = some ce.cls)
    (hx : ∀ t : State, t.heap = H → s.vm.Alike t.vm → XC E s t) (hf : ∀ z ∈ locs, free z.base) (hc : cells ≤ mc) (hs : slots ≤ ms) :
    vx_W p l e R s m args below meth c H locs cells slots (vx_MQ below Qc XC args s mc ms free) (F0 m pc ls rest) q := by
  intro T hT X
  have hpl : e.platform.magicAccessors = ({} : Platform).magicAccessors := by rw [X.admits.platform]
  obtain ⟨vm', hW', X', st⟩ := X.outThrough hlocks q (g := F0 m pc ls rest) rfl rfl rfl (cell := ce) (by rw [hT]; exact hcell) (by rw [hv]; rfl)
    (by obtain ⟨k9, h9, -⟩ := Vm.findClass_spec hcl; exact ⟨k9, h9⟩) (fun z hz => by
      rcases hpass z hz with h | ⟨hz0, nm, hl1, hn1⟩
      · exact Or.inl h
      · obtain ⟨c6, hc6, hcl6⟩ := Cond.classLink_spec hown hl1 e.platform hpl
        obtain ⟨a8, b8, h1, h2, h3⟩ := hn1
        cases Option.some.inj (h1.symm.trans hcl)
        cases Option.some.inj (h2.symm.trans hc6)
        exact Or.inr ⟨hz0, _, hcl6, h3⟩)
  obtain ⟨g₀, hfr⟩ := X'.frames_eq
  have hcell9 : ((T.setVm vm').setFrames (.throwing q :: below)).heap[q]? = some ce := by
    show T.heap[q]? = some ce
    rw [hT]; exact hcell
  have hend : Ended ((T.setVm vm').setFrames (.throwing q :: below)) below (.threw q) := State.frames_setFrames _ (State.cur_lt_of_frames hfr)
  refine ⟨(T.setVm vm').setFrames (.throwing q :: below), ?_, .threw q, X'.here.running, hend, Or.inr ⟨q, rfl, E, ce, locs, hx _ hT (X'.ends _).1.alike, hcell9, hv, hcl, (X'.ends _).1, (X'.ends _).2.mono hc hs, hf⟩⟩
  rw [X.pushThrowing_eq]
  exact st
/-- a thing of a world lies in the heap -/
theorem vx_lt {D : va_G} {cl : List vw_C} {ws : va_W} {H1 : Heap} (h : va_P D cl ws H1) {k : Nat} {q : Nat × va_E} (hk : ws[k]? = some q) : q.1 < H1.size := (h k q hk).lt
end VXS
/-! ===== END ===== -/
/-! ===== BEGIN methods with a table of their own: called by a name, returning or throwing ===== -/
section VXH
/-! vx_backW, vx_callVX, vx_callSX, vx_callVW, vx_runVW, vx_runVX, vx_runSX, vx_ofWH follow the same proofs as their sisters above (Free/Laws.lean, Shelf42/LK1.lean); vx_outP calls Shelf42/NT130.lean (outThrough). -/
section
variable {l : Launch} {R : Room} {p : Program} {e : Env} {below : List Frame} {s : State} {sargs : Array Value} {y : MethodName} {len W9 : Nat}
theorem vx_backW {ws : List Cond} {rm : Room} {Pc : Array Value → State → Prop} {Qc : Array Value → State → Outcome → State → Prop} {XC : String → State → State → Prop} {mc ms : Nat} {free : Addr → Prop} {bytes : ByteArray} {maxL : Nat} {ret : Option FieldType} {hh : List (Nat × Nat × Nat × Nat)}
    (hM : vx_Met l y ws rm Pc Qc XC mc ms free) (hblind : FrameBlind Pc) (hrc : rm.cells = mc) (hrs : rm.slots = ms)
    (hframes : rm.frames + 1 ≤ R.frames) (hlocals : W9 + (maxL + 11) + rm.locals ≤ R.locals)
    (hws : ∀ w ∈ ws, ∀ a' U, s.WarmedH U.vm → w.before a' U = true) (hcode : Cond.codeWith y bytes maxL ret hh ∈ ws) (hinit : ∀ a' U, s.WarmedH U.vm → (Cond.initialized y.cls).before a' U = true) :
    vx_Back l R p e below s sargs y len W9 (PreOf R mc ms Pc) (PostOf Qc mc ms free) (vx_Post XC mc ms free) := by
  intro m meth c A g ig mk a X hg hsize hdg hW hn hp
  have h1 : (headSpec ws rm).pre.before a A.U = true := atoms_intro fun w hw => hws w hw _ _ X.warmed
  have h2 : (Cond.codeWith y bytes maxL ret hh).before a A.U = true := hws _ hcode _ _ X.warmed
  have h3 : (Cond.initialized y.cls).before a A.U = true := hinit _ _ X.warmed
  have h4 : A.cells + (headSpec ws rm).room.cells ≤ R.cells := by rw [show (headSpec ws rm).room.cells = mc from hrc]; exact hp.1
  have h5 : A.slots + (headSpec ws rm).room.slots ≤ R.slots := by rw [show (headSpec ws rm).room.slots = ms from hrs]; exact hp.2.1
  have hPc : Pc a (A.U.calling g mk a) := hblind _ _ _ _ hp.2.2
  obtain ⟨U, Ls, c0, s0⟩ := A
  dsimp only [Pt.U, Pt.locs, Pt.cells, Pt.slots] at h1 h2 h3 h4 h5 X hn hPc ⊢
  obtain ⟨m9, methY, cY, hn9, hmY, hcY, -, hlY, -⟩ := Cond.codeWith_spec h2
  cases Option.some.inj (hn9.symm.trans hn)
  obtain ⟨kY, hkY, -⟩ := className_of_methodNamed hn
  have hinitY : kY.init = .initialized := Cond.initialized_spec (findClass_of_methodNamed hn) hkY h3
  have h : At U g.method c below := by rw [hg]; exact X.here
  have hlocals9 : W9 + (maxL + 11) + (headSpec ws rm).room.locals ≤ R.locals := hlocals
  have happ : (headSpec ws rm).appliesLoose y e.platform (U.calling g mk a) = true :=
    Spec.appliesLoose_calling (g := g) h hdg hn hkY hinitY
      (X.room_calling (g := g) (R' := (headSpec ws rm).room) hsize hmY hcY hframes (by rw [hlY]; omega) h4 h5) h1
  obtain ⟨mid, hmid⟩ := h.above
  have hfr : (U.setTop g).frames = (.java g :: mid) ++ below := by rw [State.frames_setTop' g h.top, hmid]; rfl
  obtain ⟨o, s₂, hsteps, -, hend, hq⟩ := Steps.callFree hM p X.admits X.cas X.clock (acts := []) hfr happ hPc trivial
  have hq' : vx_Q Qc XC mc ms free a (U.calling g mk a) o s₂ := hq
  rw [State.frames_setTop' g h.top] at hend
  obtain ⟨g₀, hg0⟩ := Option.isSome_iff_exists.mp h.top
  obtain ⟨r, hr⟩ := State.topJava?_eq_some.mp hg0
  have hr' : (({ U with heap := s₂.heap, slotsUsed := s₂.slotsUsed } : State).setVm s₂.vm).frames = .java g₀ :: r := hr
  rcases hq' with ⟨hqc, L, hfe, hL⟩ | ⟨q, rfl, E, ce, L, hx, hce, hcv, hcl, hW₂, hsm, hL⟩
  · obtain ⟨⟨v, rfl⟩, hW₂, e2, q2, q3, q4, q5, q6⟩ := id hfe
    have e3 : s₂ = ({ (U.calling g mk a).setFrames s₂.frames with heap := s₂.heap, slotsUsed := s₂.slotsUsed } : State).setVm s₂.vm := by
      have : s₂ = ({ s₂ with vm := (U.calling g mk a).vm } : State).setVm s₂.vm := rfl
      rw [e2] at this
      exact this
    obtain ⟨c₂, i₂, len₂, hc₂, hd₂, hf₂⟩ := hend
    have hW' : U.WarmedH s₂.vm := hW₂
    have hcc : c₂ = c := by
      have h1 : s₂.code? g.method = U.code? g.method := by
        rw [State.code?_eq, State.code?_eq, hW'.alike.method?]
      exact Option.some.inj (hc₂.symm.trans (h1.trans h.code))
    subst hcc
    have hlen : len₂ = len := by rw [hdg] at hd₂; cases hd₂; rfl
    subst hlen
    have hs₂ : s₂ = (({ U with heap := s₂.heap, slotsUsed := s₂.slotsUsed } : State).setVm s₂.vm).setTop { g with pc := g.pc + len₂, stack := v.toList ++ g.stack } := by
      refine e3.trans ?_
      rw [hf₂, State.calling_eq h.top, State.setFrames_setFrames, State.setTop_of_frames _ hr', hr]
      rfl
    have hsame : U.sameButNew ({ U with heap := s₂.heap, slotsUsed := s₂.slotsUsed } : State) L mc ms := by
      refine ⟨?_, q2, q3, q4, q5, q6⟩
      obtain ⟨t, ht, -⟩ := State.frames_cons hr
      show ({ U with heap := s₂.heap, slotsUsed := s₂.slotsUsed } : State) = { U.setFrames U.frames with heap := s₂.heap, slotsUsed := s₂.slotsUsed }
      rw [State.setFrames_self ht]
    subst hg
    refine Or.inl ⟨v, ⟨(({ U with heap := s₂.heap, slotsUsed := s₂.slotsUsed } : State).setVm s₂.vm), Ls ++ L, c0 + mc, s0 + ms⟩,
      ⟨X.admits, X.cas, X.clock, X.frames, X.room, X.hears, X.method, X.code, (X.here.setHeapUsed s₂.heap s₂.slotsUsed).setVm hW'.alike, X.tail, State.WarmedH.trans X.warmed hW', X.limits, X.bytes, X.same.trans (hsame.setVm s.vm)⟩,
      ⟨g, mk, s₂, L, rfl, rfl, hqc, rfl, hL, rfl, rfl⟩, ?_⟩
    show Steps p.tables e below _ ((({ U with heap := s₂.heap, slotsUsed := s₂.slotsUsed } : State).setVm s₂.vm).setTop { g with pc := g.pc + len₂, stack := v.toList ++ g.stack })
    rw [← hs₂]
    exact hsteps
  · obtain ⟨e2, q2, q3, q4, q5, q6⟩ := id hsm
    have e3 : s₂ = ({ (U.calling g mk a).setFrames s₂.frames with heap := s₂.heap, slotsUsed := s₂.slotsUsed } : State).setVm s₂.vm := by
      have : s₂ = ({ s₂ with vm := (U.calling g mk a).vm } : State).setVm s₂.vm := rfl
      rw [e2] at this
      exact this
    have hf₂ : s₂.frames = .throwing q :: .java g :: U.frames.tail := hend
    have hW' : U.WarmedH s₂.vm := hW₂
    have hs₂ : s₂ = ((({ U with heap := s₂.heap, slotsUsed := s₂.slotsUsed } : State).setVm s₂.vm).setTop g).pushFrame (.throwing q) := by
      refine e3.trans ?_
      rw [hf₂, State.calling_eq h.top, State.setFrames_setFrames, State.pushFrame, State.frames_setTop _ hr', State.setTop_of_frames _ hr', State.setFrames_setFrames, hr]
      rfl
    have hsame : U.sameButNew ({ U with heap := s₂.heap, slotsUsed := s₂.slotsUsed } : State) L mc ms := by
      refine ⟨?_, q2, q3, q4, q5, q6⟩
      obtain ⟨t, ht, -⟩ := State.frames_cons hr
      show ({ U with heap := s₂.heap, slotsUsed := s₂.slotsUsed } : State) = { U.setFrames U.frames with heap := s₂.heap, slotsUsed := s₂.slotsUsed }
      rw [State.setFrames_self ht]
    subst hg
    refine Or.inr ⟨q, ⟨(({ U with heap := s₂.heap, slotsUsed := s₂.slotsUsed } : State).setVm s₂.vm), Ls ++ L, c0 + mc, s0 + ms⟩,
      ⟨X.admits, X.cas, X.clock, X.frames, X.room, X.hears, X.method, X.code, (X.here.setHeapUsed s₂.heap s₂.slotsUsed).setVm hW'.alike, X.tail, State.WarmedH.trans X.warmed hW', X.limits, X.bytes, X.same.trans (hsame.setVm s.vm)⟩,
      ⟨g, mk, s₂, L, E, ce, rfl, rfl, hx, hce, hcv, hcl, rfl, hL, rfl, rfl⟩, ?_⟩
    show Steps p.tables e below _ (((({ U with heap := s₂.heap, slotsUsed := s₂.slotsUsed } : State).setVm s₂.vm).setTop g).pushFrame (.throwing q))
    rw [← hs₂]
    exact hsteps
end
variable {p : Program} {l : Launch} {e : Env} {R : Room} {s : State} {m : MethodId} {args : Array Value} {below : List Frame} {meth : Method} {c : Code} {T : State} {H : Heap} {locs : List Loc} {cells slots : Nat}
theorem vx_callVX (X : Stand p l e R s m args below meth c T locs cells slots) (hexec : p.tables.exec = Jvm.exec) {own C : String} {index : Nat} {y : MethodName} {bytes : ByteArray} {maxL : Nat} {ret : Option FieldType} {hh : List (Nat × Nat × Nat × Nat)}
    (hown : s.vm.findClass own = some m.cls) (hlink : (Cond.methodLink own index y).before args s = true) (hinst : (Cond.instanceMethod y).before args s = true) (hsel : (Cond.selects C y y).before args s = true)
    (hcode : (Cond.codeWith y bytes maxL ret hh).before args s = true) (hy : y.cls ≠ "java/lang/invoke/MethodHandle" ∧ y.cls ≠ "java/lang/invoke/VarHandle")
    {W9 : Nat} {Pre : Pt → Array Value → Prop} {Post : Pt → Array Value → Option Value → Pt → Prop} {PostX : Pt → Array Value → Addr → Pt → Prop} (hK : vx_Back l R p e below s args y 3 W9 Pre Post PostX)
    {b : Addr} {cellB : Cell} (hcell : T.heap[b]? = some cellB) (hobj : cellB.vm.isStatics = false) (hcls : s.vm.findClass C = some cellB.cls)
    {g : JFrame} (hg : g.method = m) (hsize : g.locals.size = c.maxLocals) {argsL rest : List Value} (hlen : ∀ sig, parseMethodDescriptor y.desc = some sig → argsL.length = sig.parameters.length)
    (hstack : g.stack = argsL.reverse ++ .ref b :: rest) (hW : 2 * g.monitorRoom + (rest.map fun v => v.category).sum ≤ W9) (hdg : decode c.code g.pc = .ok (.invokevirtual index, 3))
    (hpre : ∀ vm₁, s.WarmedH vm₁ → Pre ⟨T.setVm vm₁, locs, cells, slots⟩ (Value.ref b :: argsL).toArray) :
    (∃ (v : Option Value) (vm₁ : Vm) (B : Pt), s.WarmedH vm₁ ∧ Stand p l e R s m args below meth c B.U B.locs B.cells B.slots ∧ Post ⟨T.setVm vm₁, locs, cells, slots⟩ (Value.ref b :: argsL).toArray v B ∧
      ∀ target, Steps p.tables e below (B.U.setTop { g with pc := g.pc + 3, stack := v.toList ++ rest }) target → Steps p.tables e below (T.setTop g) target) ∨
    (∃ (q : Addr) (vm₁ : Vm) (B : Pt), s.WarmedH vm₁ ∧ Stand p l e R s m args below meth c B.U B.locs B.cells B.slots ∧ PostX ⟨T.setVm vm₁, locs, cells, slots⟩ (Value.ref b :: argsL).toArray q B ∧
      Steps p.tables e below (T.setTop g) ((B.U.setTop { g with stack := rest }).pushFrame (.throwing q))) := by
  obtain ⟨mk, methM, hnamed, hmethM, hstM, habM⟩ := Cond.instanceMethod_spec hinst
  obtain ⟨m8, methM', cM, hn8, hmethM', -, -, -, -, -, -, hsigM⟩ := Cond.codeWith_spec hcode
  cases Option.some.inj (hn8.symm.trans hnamed)
  cases hmethM.symm.trans hmethM'
  obtain ⟨c2, r2, m2, q1, q2, q3, q4, kP, hkP, hkPi⟩ := Cond.selects_spec hsel
  cases hcls.symm.trans q1
  cases (State.methodFound?_of_named hnamed hy).symm.trans q2
  cases hnamed.symm.trans q3
  have hselP : selectMethod e.platform s.vm cellB.cls mk = .method mk := by rw [Launch.admits_selectMethod X.admits]; exact q4
  obtain ⟨vm₁, X₁, hstep₁⟩ := X.invokevirtual hexec hown hlink hnamed hmethM hstM hkP hkPi hy (a := b) (cell := cellB) hcell
    (fun z h => by rw [h] at hobj; cases hobj) hselP hmethM habM hkP hkPi (g := g) hg (argsL := argsL) (rest := rest) (hlen _ hsigM) hstack hdg
  rcases hK m meth c ⟨T.setVm vm₁, locs, cells, slots⟩ { g with stack := rest } (.invokevirtual index) mk (Value.ref b :: argsL).toArray X₁ hg hsize hdg hW (X₁.named hnamed) (hpre vm₁ X₁.warmed) with ⟨v, B, X', hpost, hsteps⟩ | ⟨q, B, X', hpost, hsteps⟩
  · exact Or.inl ⟨v, vm₁, B, X₁.warmed, X', hpost, fun target h => hstep₁ _ fun acts => by rw [doInvoke_state]; exact hsteps.trans h⟩
  · exact Or.inr ⟨q, vm₁, B, X₁.warmed, X', hpost, hstep₁ _ fun acts => by rw [doInvoke_state]; exact hsteps⟩
theorem vx_callSX (X : Stand p l e R s m args below meth c T locs cells slots) (hexec : p.tables.exec = Jvm.exec) {own : String} {index : Nat} {y : MethodName} {bytes : ByteArray} {maxL : Nat} {ret : Option FieldType} {hh : List (Nat × Nat × Nat × Nat)}
    (hown : s.vm.findClass own = some m.cls) (hlink : (Cond.methodLink own index y).before args s = true) (hstat : (Cond.static y).before args s = true) (hinit : (Cond.initialized y.cls).before args s = true)
    (hcode : (Cond.codeWith y bytes maxL ret hh).before args s = true) (hy : y.cls ≠ "java/lang/invoke/MethodHandle" ∧ y.cls ≠ "java/lang/invoke/VarHandle")
    {W9 : Nat} {Pre : Pt → Array Value → Prop} {Post : Pt → Array Value → Option Value → Pt → Prop} {PostX : Pt → Array Value → Addr → Pt → Prop} (hK : vx_Back l R p e below s args y 3 W9 Pre Post PostX)
    {g : JFrame} (hg : g.method = m) (hsize : g.locals.size = c.maxLocals) {argsL rest : List Value} (hlen : ∀ sig, parseMethodDescriptor y.desc = some sig → argsL.length = sig.parameters.length)
    (hstack : g.stack = argsL.reverse ++ rest) (hW : 2 * g.monitorRoom + (rest.map fun v => v.category).sum ≤ W9) (hdg : decode c.code g.pc = .ok (.invokestatic index, 3))
    (hpre : ∀ vm₁, s.WarmedH vm₁ → Pre ⟨T.setVm vm₁, locs, cells, slots⟩ argsL.toArray) :
    (∃ (v : Option Value) (vm₁ : Vm) (B : Pt), s.WarmedH vm₁ ∧ Stand p l e R s m args below meth c B.U B.locs B.cells B.slots ∧ Post ⟨T.setVm vm₁, locs, cells, slots⟩ argsL.toArray v B ∧
      ∀ target, Steps p.tables e below (B.U.setTop { g with pc := g.pc + 3, stack := v.toList ++ rest }) target → Steps p.tables e below (T.setTop g) target) ∨
    (∃ (q : Addr) (vm₁ : Vm) (B : Pt), s.WarmedH vm₁ ∧ Stand p l e R s m args below meth c B.U B.locs B.cells B.slots ∧ PostX ⟨T.setVm vm₁, locs, cells, slots⟩ argsL.toArray q B ∧
      Steps p.tables e below (T.setTop g) ((B.U.setTop { g with stack := rest }).pushFrame (.throwing q))) := by
  obtain ⟨mk, methM, cM, hnamed, hmethM, -, -, -, -, -, -, hsigM⟩ := Cond.codeWith_spec hcode
  have hstatic : methM.isStatic = true := Cond.static_spec hnamed hmethM hstat
  obtain ⟨kP, hkP, -⟩ := className_of_methodNamed hnamed
  have hinitP : kP.init = .initialized := Cond.initialized_spec (findClass_of_methodNamed hnamed) hkP hinit
  obtain ⟨vm₁, X₁, hstep₁⟩ := X.invokestatic hexec hown hlink hnamed hmethM hstatic hkP hinitP hy (g := g) hg (argsL := argsL) (rest := rest) (hlen _ hsigM) hstack hdg
  rcases hK m meth c ⟨T.setVm vm₁, locs, cells, slots⟩ { g with stack := rest } (.invokestatic index) mk argsL.toArray X₁ hg hsize hdg hW (X₁.named hnamed) (hpre vm₁ X₁.warmed) with ⟨v, B, X', hpost, hsteps⟩ | ⟨q, B, X', hpost, hsteps⟩
  · exact Or.inl ⟨v, vm₁, B, X₁.warmed, X', hpost, fun target h => hstep₁ _ fun acts => by rw [doInvoke_state]; exact hsteps.trans h⟩
  · exact Or.inr ⟨q, vm₁, B, X₁.warmed, X', hpost, hstep₁ _ fun acts => by rw [doInvoke_state]; exact hsteps⟩
theorem vx_callVW (X : Stand p l e R s m args below meth c T locs cells slots) (hexec : p.tables.exec = Jvm.exec) {own C : String} {index : Nat} {y : MethodName} {bytes : ByteArray} {maxL : Nat} {ret : Option FieldType} {hh : List (Nat × Nat × Nat × Nat)}
    (hown : s.vm.findClass own = some m.cls) (hlink : (Cond.methodLink own index y).before args s = true) (hinst : (Cond.instanceMethod y).before args s = true) (hsel : (Cond.selects C y y).before args s = true)
    (hcode : (Cond.codeWith y bytes maxL ret hh).before args s = true) (hy : y.cls ≠ "java/lang/invoke/MethodHandle" ∧ y.cls ≠ "java/lang/invoke/VarHandle")
    {W9 : Nat} {Pre : Pt → Array Value → Prop} {Post : Pt → Array Value → Option Value → Pt → Prop} (hK : Back l R p e below s args y 3 W9 Pre Post)
    {b : Addr} {cellB : Cell} (hcell : T.heap[b]? = some cellB) (hobj : cellB.vm.isStatics = false) (hcls : s.vm.findClass C = some cellB.cls)
    {g : JFrame} (hg : g.method = m) (hsize : g.locals.size = c.maxLocals) {argsL rest : List Value} (hlen : ∀ sig, parseMethodDescriptor y.desc = some sig → argsL.length = sig.parameters.length)
    (hstack : g.stack = argsL.reverse ++ .ref b :: rest) (hW : 2 * g.monitorRoom + (rest.map fun v => v.category).sum ≤ W9) (hdg : decode c.code g.pc = .ok (.invokevirtual index, 3))
    (hpre : ∀ vm₁, s.WarmedH vm₁ → Pre ⟨T.setVm vm₁, locs, cells, slots⟩ (Value.ref b :: argsL).toArray) :
    ∃ (v : Option Value) (vm₁ : Vm) (B : Pt), s.WarmedH vm₁ ∧ Stand p l e R s m args below meth c B.U B.locs B.cells B.slots ∧ Post ⟨T.setVm vm₁, locs, cells, slots⟩ (Value.ref b :: argsL).toArray v B ∧
      ∀ target, Steps p.tables e below (B.U.setTop { g with pc := g.pc + 3, stack := v.toList ++ rest }) target → Steps p.tables e below (T.setTop g) target := by
  obtain ⟨mk, methM, hnamed, hmethM, hstM, habM⟩ := Cond.instanceMethod_spec hinst
  obtain ⟨m8, methM', cM, hn8, hmethM', -, -, -, -, -, -, hsigM⟩ := Cond.codeWith_spec hcode
  cases Option.some.inj (hn8.symm.trans hnamed)
  cases hmethM.symm.trans hmethM'
  obtain ⟨c2, r2, m2, q1, q2, q3, q4, kP, hkP, hkPi⟩ := Cond.selects_spec hsel
  cases hcls.symm.trans q1
  cases (State.methodFound?_of_named hnamed hy).symm.trans q2
  cases hnamed.symm.trans q3
  have hselP : selectMethod e.platform s.vm cellB.cls mk = .method mk := by rw [Launch.admits_selectMethod X.admits]; exact q4
  obtain ⟨vm₁, X₁, hstep₁⟩ := X.invokevirtual hexec hown hlink hnamed hmethM hstM hkP hkPi hy (a := b) (cell := cellB) hcell
    (fun z h => by rw [h] at hobj; cases hobj) hselP hmethM habM hkP hkPi (g := g) hg (argsL := argsL) (rest := rest) (hlen _ hsigM) hstack hdg
  obtain ⟨v, B, X', hpost, hsteps⟩ := hK m meth c ⟨T.setVm vm₁, locs, cells, slots⟩ { g with stack := rest } (.invokevirtual index) mk (Value.ref b :: argsL).toArray X₁ hg hsize hdg hW (X₁.named hnamed) (hpre vm₁ X₁.warmed)
  exact ⟨v, vm₁, B, X₁.warmed, X', hpost, fun target h => hstep₁ _ fun acts => by rw [doInvoke_state]; exact hsteps.trans h⟩
abbrev vx_CVW (R : Room) (s : State) (args : Array Value) (own C : String) (index : Nat) (y : MethodName) (bytes : ByteArray) (maxL : Nat) (ret : Option FieldType) (hh : List (Nat × Nat × Nat × Nat)) (ws : List Cond) (rm : Room) (mc ms n : Nat) : Prop :=
  (rm.cells = mc ∧ rm.slots = ms ∧ rm.frames + 1 ≤ R.frames ∧ 8 + (maxL + 11) + rm.locals ≤ R.locals ∧ (∀ w ∈ ws, ∀ (a' : Array Value) (U : State), s.WarmedH U.vm → w.before a' U = true) ∧ Cond.codeWith y bytes maxL ret hh ∈ ws) ∧
  (Cond.codeWith y bytes maxL ret hh).before args s = true ∧ (Cond.initialized y.cls).before args s = true ∧ (y.cls ≠ "java/lang/invoke/MethodHandle" ∧ y.cls ≠ "java/lang/invoke/VarHandle") ∧
  (∀ sig, parseMethodDescriptor y.desc = some sig → n = sig.parameters.length) ∧ (Cond.methodLink own index y).before args s = true ∧ (Cond.instanceMethod y).before args s = true ∧ (Cond.selects C y y).before args s = true
theorem vx_cwVW {own C : String} {index maxL mc ms : Nat} {y : MethodName} {bytes : ByteArray} {ret : Option FieldType} {hh : List (Nat × Nat × Nat × Nat)} {Ts ws ws' : List Cond} {rm : Room} (n : Nat) (ht : ∀ w ∈ Ts, w.before args s = true) (hT : GoodIn Ts (wsV own index C y ws)) (hw : ws = Cond.codeWith y bytes maxL ret hh :: ws') (hrc : rm.cells = mc) (hrs : rm.slots = ms)
    (hd : y.cls = C ∧ y.cls ≠ "java/lang/invoke/MethodHandle" ∧ y.cls ≠ "java/lang/invoke/VarHandle" ∧ (parseMethodDescriptor y.desc).map (fun d => d.parameters.length) = some n) (hR : rm.frames + 1 ≤ R.frames ∧ 8 + (maxL + 11) + rm.locals ≤ R.locals) :
    vx_CVW R s args own C index y bytes maxL ret hh ws rm mc ms n := by
  obtain ⟨hC, hd⟩ := hd
  subst hC
  have ok : ∀ w ∈ wsV own index y.cls y ws, w.before args s = true := fun w h => ht w (hT w h).1
  have hG : GoodIn Ts ws := fun w h => hT w (by unfold wsV; exact List.mem_append_right _ h)
  have hc : Cond.codeWith y bytes maxL ret hh ∈ ws := by rw [hw]; exact List.mem_cons_self
  refine ⟨⟨hrc, hrs, hR.1, hR.2, pay_in ht hG, hc⟩, ht _ (hG _ hc).1, ok _ (by simp [wsV]), ⟨hd.1, hd.2.1⟩, fun sig h => ?_, ok _ (by simp [wsV]), ok _ (by simp [wsV]), ok _ (by simp [wsV])⟩
  have h2 := hd.2.2
  rw [h] at h2
  exact (Option.some.inj h2).symm
theorem vx_runVW {y : MethodName} {bytes cc : ByteArray} {maxL nL mc ms n index : Nat} {ret : Option FieldType} {hh : List (Nat × Nat × Nat × Nat)} {ws : List Cond} {rm : Room} {Pc : Array Value → State → Prop} {Qc : Array Value → State → Outcome → State → Prop} {free : Addr → Prop} {Ts : List Cond} {own C : String} {b : Addr} {As rest : List Value} {g : JFrame}
    (S : CallFix p m c cc nL s args Ts own) (hM : Met l y ws rm Pc Qc mc ms free) (cw : vx_CVW R s args own C index y bytes maxL ret hh ws rm mc ms n) (hp : PreV s H C b Pc As)
    (hg : g.method = m) (hn : As.length = n) (hsize : g.locals.size = nL) (hstack : g.stack = As.reverse ++ .ref b :: rest) (hW : 2 * g.monitorRoom + (rest.map fun v => v.category).sum ≤ 8) (hdg : decode cc g.pc = .ok (.invokevirtual index, 3)) (hf : cells + mc ≤ R.cells ∧ slots + ms ≤ R.slots) :
    va_Run p l e R s m args below meth c H locs cells slots mc ms g rest (Qc (Value.ref b :: As).toArray) free := by
  obtain ⟨⟨hrc, hrs, hfr, hlo, hws, hcw⟩, hcode, hini, hy, hlen, hl, hin, hse⟩ := cw
  have hK : Back l R p e below s args y 3 8 (PreOf R mc ms Pc) (PostOf Qc mc ms free) := va_backW (hh := hh) (bytes := bytes) (maxL := maxL) (ret := ret) hM hp.1 hrc hrs hfr hlo hws hcw (fun a' U hW => word_at hW (Or.inl (by first | rfl | simp [Cond.onTables, Cond.keeps, Cond.steady])) hini)
  obtain ⟨hx, hb, hml, ho, -⟩ := S
  obtain ⟨-, ⟨cellB, hcB, hoB, hclB⟩, hPc⟩ := hp
  intro T hT X
  obtain ⟨v, vm₁, ⟨U', l2, c2, s2⟩, hW₁, X', ⟨g', mk, t, L, e1, e2, hq, h1, hL, h2, h3⟩, st⟩ := vx_callVW X hx (C := C) (hh := hh) (bytes := bytes) (maxL := maxL) (ret := ret) ho hl hin hse hcode hy hK (by rw [hT]; exact hcB) hoB hclB hg (hsize.trans hml.symm) (argsL := As) (rest := rest) (fun sig h => hn.trans (hlen sig h)) hstack hW (by rw [hb]; exact hdg)
    (fun vm₁ hW₁ => ⟨hf.1, hf.2, hPc (T.setVm vm₁) hT hW₁⟩)
  dsimp only [Pt.U, Pt.locs, Pt.cells, Pt.slots] at X' e1 e2 h1 h2 h3 st
  subst h1; subst h2; subst h3
  exact ⟨v, (T.setVm vm₁).calling g' mk (Value.ref b :: As).toArray, t, U', L, hT, X', hL, e1, e2, hq, st⟩
section
variable {y : MethodName} {bytes cc : ByteArray} {maxL nL mc ms n index : Nat} {ret : Option FieldType} {ws : List Cond} {rm : Room} {Pc : Array Value → State → Prop} {Qc : Array Value → State → Outcome → State → Prop} {XC : String → State → State → Prop} {free : Addr → Prop} {Ts : List Cond} {own C : String} {b : Addr} {As rest : List Value} {g : JFrame}
theorem vx_runVX {hh : List (Nat × Nat × Nat × Nat)} (S : CallFix p m c cc nL s args Ts own) (hM : vx_Met l y ws rm Pc Qc XC mc ms free) (cw : vx_CVW R s args own C index y bytes maxL ret hh ws rm mc ms n) (hp : PreV s H C b Pc As)
    (hg : g.method = m) (hn : As.length = n) (hsize : g.locals.size = nL) (hstack : g.stack = As.reverse ++ .ref b :: rest) (hW : 2 * g.monitorRoom + (rest.map fun v => v.category).sum ≤ 8) (hdg : decode cc g.pc = .ok (.invokevirtual index, 3)) (hf : cells + mc ≤ R.cells ∧ slots + ms ≤ R.slots) :
    vx_Run p l e R s m args below meth c H locs cells slots mc ms g rest (Qc (Value.ref b :: As).toArray) XC free := by
  obtain ⟨⟨hrc, hrs, hfr, hlo, hws, hcw⟩, hcode, hini, hy, hlen, hl, hin, hse⟩ := cw
  have hK : vx_Back l R p e below s args y 3 8 (PreOf R mc ms Pc) (PostOf Qc mc ms free) (vx_Post XC mc ms free) := vx_backW (hh := hh) (bytes := bytes) (maxL := maxL) (ret := ret) hM hp.1 hrc hrs hfr hlo hws hcw (fun a' U hW => word_at hW (Or.inl (by first | rfl | simp [Cond.onTables, Cond.keeps, Cond.steady])) hini)
  obtain ⟨hx, hb, hml, ho, -⟩ := S
  obtain ⟨-, ⟨cellB, hcB, hoB, hclB⟩, hPc⟩ := hp
  intro T hT X
  rcases vx_callVX X hx (C := C) (hh := hh) (bytes := bytes) (maxL := maxL) (ret := ret) ho hl hin hse hcode hy hK (by rw [hT]; exact hcB) hoB hclB hg (hsize.trans hml.symm) (argsL := As) (rest := rest) (fun sig h => hn.trans (hlen sig h)) hstack hW (by rw [hb]; exact hdg)
    (fun vm₁ hW₁ => ⟨hf.1, hf.2, hPc (T.setVm vm₁) hT hW₁⟩) with ⟨v, vm₁, ⟨U', l2, c2, s2⟩, hW₁, X', ⟨g', mk, t, L, e1, e2, hq, h1, hL, h2, h3⟩, st⟩ | ⟨q, vm₁, ⟨U', l2, c2, s2⟩, hW₁, X', ⟨g', mk, t, L, E, ce, e1, e2, hq, hce, hcv, hcl, h1, hL, h2, h3⟩, st⟩
  · dsimp only [Pt.U, Pt.locs, Pt.cells, Pt.slots] at X' e1 e2 h1 h2 h3 st
    subst h1; subst h2; subst h3
    exact Or.inl ⟨v, (T.setVm vm₁).calling g' mk (Value.ref b :: As).toArray, t, U', L, hT, X', hL, e1, e2, hq, st⟩
  · dsimp only [Pt.U, Pt.locs, Pt.cells, Pt.slots] at X' e1 e2 h1 h2 h3 st hcl
    subst h1; subst h2; subst h3
    exact Or.inr ⟨q, (T.setVm vm₁).calling g' mk (Value.ref b :: As).toArray, t, U', L, E, ce, hT, X', hL, e1, e2, hq, hce, hcv, vx_cls hW₁ hcl, st⟩
theorem vx_runSX {hh : List (Nat × Nat × Nat × Nat)} (S : CallFix p m c cc nL s args Ts own) (hM : vx_Met l y ws rm Pc Qc XC mc ms free) (cw : vx_CSW R s args own index y bytes maxL ret hh ws rm mc ms n) (hp : PreS s H Pc As)
    (hg : g.method = m) (hn : As.length = n) (hsize : g.locals.size = nL) (hstack : g.stack = As.reverse ++ rest) (hW : 2 * g.monitorRoom + (rest.map fun v => v.category).sum ≤ 8) (hdg : decode cc g.pc = .ok (.invokestatic index, 3)) (hf : cells + mc ≤ R.cells ∧ slots + ms ≤ R.slots) :
    vx_Run p l e R s m args below meth c H locs cells slots mc ms g rest (Qc As.toArray) XC free := by
  obtain ⟨⟨hrc, hrs, hfr, hlo, hws, hcw⟩, hcode, hini, hy, hlen, hl, hstt⟩ := cw
  have hK : vx_Back l R p e below s args y 3 8 (PreOf R mc ms Pc) (PostOf Qc mc ms free) (vx_Post XC mc ms free) := vx_backW (hh := hh) (bytes := bytes) (maxL := maxL) (ret := ret) hM hp.1 hrc hrs hfr hlo hws hcw (fun a' U hW => word_at hW (Or.inl (by first | rfl | simp [Cond.onTables, Cond.keeps, Cond.steady])) hini)
  obtain ⟨hx, hb, hml, ho, -⟩ := S
  intro T hT X
  rcases vx_callSX X hx (hh := hh) (bytes := bytes) (maxL := maxL) (ret := ret) ho hl hstt hini hcode hy hK hg (hsize.trans hml.symm) (argsL := As) (rest := rest) (fun sig h => hn.trans (hlen sig h)) hstack hW (by rw [hb]; exact hdg)
    (fun vm₁ hW₁ => ⟨hf.1, hf.2, hp.2 (T.setVm vm₁) hT hW₁⟩) with ⟨v, vm₁, ⟨U', l2, c2, s2⟩, hW₁, X', ⟨g', mk, t, L, e1, e2, hq, h1, hL, h2, h3⟩, st⟩ | ⟨q, vm₁, ⟨U', l2, c2, s2⟩, hW₁, X', ⟨g', mk, t, L, E, ce, e1, e2, hq, hce, hcv, hcl, h1, hL, h2, h3⟩, st⟩
  · dsimp only [Pt.U, Pt.locs, Pt.cells, Pt.slots] at X' e1 e2 h1 h2 h3 st
    subst h1; subst h2; subst h3
    exact Or.inl ⟨v, (T.setVm vm₁).calling g' mk As.toArray, t, U', L, hT, X', hL, e1, e2, hq, st⟩
  · dsimp only [Pt.U, Pt.locs, Pt.cells, Pt.slots] at X' e1 e2 h1 h2 h3 st hcl
    subst h1; subst h2; subst h3
    exact Or.inr ⟨q, (T.setVm vm₁).calling g' mk As.toArray, t, U', L, E, ce, hT, X', hL, e1, e2, hq, hce, hcv, vx_cls hW₁ hcl, st⟩
end
end VXH
theorem vx_ofWH {l : Launch} {y : MethodName} {ws ws' : List Cond} {rm : Room} {Pc : Array Value → State → Prop} {Qc : Array Value → State → Outcome → State → Prop} {XC : String → State → State → Prop} {mc ms : Nat} {free : Addr → Prop} {cc : ByteArray} {maxL : Nat} {ret : Option FieldType} {hh : List (Nat × Nat × Nat × Nat)}
    (hy : plainName y.cls = true) (hw : ws = Cond.codeWith y cc maxL ret hh :: ws')
    (body : ∀ p e s m args below meth c s₁, BodyLoose p l y (headSpec ws rm) cc maxL ret e s m args below meth c s₁ → c.maxLocals = maxL → Pc args s →
      W p l e (headSpec ws rm).room s m args below meth c s.heap [] 0 0 (vx_MQ below Qc XC args s mc ms free) (entryFrame m args maxL)) : vx_Met l y ws rm Pc Qc XC mc ms free := by
  refine MetFree.of_bodyS (code := cc) (maxLocals := maxL) (ret := ret) hy ?_ ?_
  · intro args s m h hn
    obtain ⟨m9, meth, c, hn9, h1, h2, h3, h4, -, h5, h6, -⟩ := Cond.codeWith_spec (atoms_spec (ws := ws) h _ (by rw [hw]; exact List.mem_cons_self))
    cases hn.symm.trans hn9
    exact ⟨meth, c, h1, h2, h3, h4, h5, h6⟩
  · intro p e s m args below meth c s₁ B hml hP _
    have hh0 : s₁.heap = s.heap := by rw [B.state]; rfl
    obtain ⟨t, a1, o, b1, b2, b3⟩ := body p e s m args below meth c s₁ B hml hP s₁ hh0 (Stand.of_body B)
    exact ⟨t, o, a1, b1, b2, b3⟩
/-! ===== END ===== -/
end
section
/-! ===== BEGIN printed: names, fields, word lists, decode rows ===== -/
def RX0 : String := "LyingScale$History"
def TX0 : u_T := fun k => match k with
  | 0 => ("LyingScale$History", "states", "[LLyingScale$State;", true)
  | _ => ("LyingScale$History", "count", "I", false)
def tyX0 : Nat → FieldType := fun k => match k with
  | 0 => .array (.object "LyingScale$State")
  | _ => .int
abbrev wsX00 : List Cond := u_ws RX0 TX0 2
theorem nmX0 : ∀ a, a < 2 → ∀ b, b < 2 → a ≠ b → (TX0 a).2.1 ≠ (TX0 b).2.1 := by decide +kernel
theorem tyX0_ok : ∀ k, k < 2 → parseFieldDescriptor (TX0 k).2.2.1 = some (tyX0 k) := by decide +kernel
abbrev cX0_init : ByteArray := prog_2_method_1_code
def yX0_init : MethodName := ⟨RX0, "<init>", "()V"⟩
abbrev cX0_save : ByteArray := prog_2_method_2_code
def yX0_save : MethodName := ⟨RX0, "save", "(LLyingScale$State;)V"⟩
abbrev cX0_restore : ByteArray := prog_2_method_3_code
def yX0_restore : MethodName := ⟨RX0, "restore", "(LLyingScale$State;)V"⟩
abbrev cX0_stateAt : ByteArray := prog_2_method_4_code
def yX0_stateAt : MethodName := ⟨RX0, "stateAt", "(I)LLyingScale$State;"⟩
abbrev cX0_dropOldest : ByteArray := prog_2_method_5_code
def yX0_dropOldest : MethodName := ⟨RX0, "dropOldest", "()V"⟩
def RX1 : String := "LyingScale$Orders"
def TX1 : u_T := fun k => match k with
  | 0 => ("LyingScale$Orders", "bytes", "[I", true)
  | 1 => ("LyingScale$Orders", "lefts", "[I", true)
  | 2 => ("LyingScale$Orders", "rights", "[I", true)
  | 3 => ("LyingScale$Orders", "deeds", "[I", true)
  | 4 => ("LyingScale$Orders", "length", "I", false)
  | 5 => ("LyingScale$Orders", "count", "I", false)
  | 6 => ("LyingScale$Orders", "place", "I", false)
  | 7 => ("LyingScale$Orders", "left", "I", false)
  | _ => ("LyingScale$Orders", "right", "I", false)
def tyX1 : Nat → FieldType := fun k => match k with
  | 0 => .array .int
  | 1 => .array .int
  | 2 => .array .int
  | 3 => .array .int
  | 4 => .int
  | 5 => .int
  | 6 => .int
  | 7 => .int
  | _ => .int
abbrev wsX10 : List Cond := u_ws RX1 TX1 9
theorem nmX1 : ∀ a, a < 9 → ∀ b, b < 9 → a ≠ b → (TX1 a).2.1 ≠ (TX1 b).2.1 := by decide +kernel
theorem tyX1_ok : ∀ k, k < 9 → parseFieldDescriptor (TX1 k).2.2.1 = some (tyX1 k) := by decide +kernel
abbrev cX1_init : ByteArray := prog_3_method_1_code
def yX1_init : MethodName := ⟨RX1, "<init>", "()V"⟩
abbrev cX1_write : ByteArray := prog_3_method_2_code
def yX1_write : MethodName := ⟨RX1, "write", "(I)V"⟩
abbrev cX1_read : ByteArray := prog_3_method_3_code
def yX1_read : MethodName := ⟨RX1, "read", "()I"⟩
abbrev cX1_take : ByteArray := prog_3_method_4_code
def yX1_take : MethodName := ⟨RX1, "take", "(I)Z"⟩
abbrev cX1_goTo : ByteArray := prog_3_method_5_code
def yX1_goTo : MethodName := ⟨RX1, "goTo", "(I)Z"⟩
abbrev cX1_coinOf : ByteArray := prog_3_method_6_code
def yX1_coinOf : MethodName := ⟨RX1, "coinOf", "(I)I"⟩
abbrev cX1_takeLeft : ByteArray := prog_3_method_7_code
def yX1_takeLeft : MethodName := ⟨RX1, "takeLeft", "(I)Z"⟩
abbrev cX1_takeRight : ByteArray := prog_3_method_8_code
def yX1_takeRight : MethodName := ⟨RX1, "takeRight", "(I)Z"⟩
abbrev cX1_takeDeed : ByteArray := prog_3_method_9_code
def yX1_takeDeed : MethodName := ⟨RX1, "takeDeed", "(I)Z"⟩
abbrev cX1_takeAnswer : ByteArray := prog_3_method_10_code
def yX1_takeAnswer : MethodName := ⟨RX1, "takeAnswer", "(I)Z"⟩
abbrev cX1_decide : ByteArray := prog_3_method_11_code
def yX1_decide : MethodName := ⟨RX1, "decide", "(I)Z"⟩
abbrev cX1_close : ByteArray := prog_3_method_12_code
def yX1_close : MethodName := ⟨RX1, "close", "()Z"⟩
def RX2 : String := "LyingScale$State"
def TX2 : u_T := fun k => match k with
  | 0 => ("LyingScale$State", "told", "LLyingScale$Weighings;", true)
  | 1 => ("LyingScale$State", "plan", "LLyingScale$Weighings;", true)
  | 2 => ("LyingScale$State", "liesOf", "[I", true)
  | 3 => ("LyingScale$State", "words", "[I", true)
  | 4 => ("LyingScale$State", "coins", "I", false)
  | 5 => ("LyingScale$State", "limit", "I", false)
  | 6 => ("LyingScale$State", "hidden", "I", false)
  | 7 => ("LyingScale$State", "lieSet", "I", false)
  | _ => ("LyingScale$State", "answered", "I", false)
def tyX2 : Nat → FieldType := fun k => match k with
  | 0 => .object "LyingScale$Weighings"
  | 1 => .object "LyingScale$Weighings"
  | 2 => .array .int
  | 3 => .array .int
  | 4 => .int
  | 5 => .int
  | 6 => .int
  | 7 => .int
  | _ => .int
abbrev wsX20 : List Cond := u_ws RX2 TX2 9
theorem nmX2 : ∀ a, a < 9 → ∀ b, b < 9 → a ≠ b → (TX2 a).2.1 ≠ (TX2 b).2.1 := by decide +kernel
theorem tyX2_ok : ∀ k, k < 9 → parseFieldDescriptor (TX2 k).2.2.1 = some (tyX2 k) := by decide +kernel
abbrev cX2_init : ByteArray := prog_4_method_1_code
def yX2_init : MethodName := ⟨RX2, "<init>", "()V"⟩
abbrev cX2_start : ByteArray := prog_4_method_2_code
def yX2_start : MethodName := ⟨RX2, "start", "(I)V"⟩
abbrev cX2_copyFrom : ByteArray := prog_4_method_3_code
def yX2_copyFrom : MethodName := ⟨RX2, "copyFrom", "(LLyingScale$State;)V"⟩
abbrev cX2_cases : ByteArray := prog_4_method_4_code
def yX2_cases : MethodName := ⟨RX2, "cases", "()I"⟩
abbrev cX2_isCase : ByteArray := prog_4_method_5_code
def yX2_isCase : MethodName := ⟨RX2, "isCase", "(I)Z"⟩
abbrev cX2_isWeighing : ByteArray := prog_4_method_6_code
def yX2_isWeighing : MethodName := ⟨RX2, "isWeighing", "(II)Z"⟩
abbrev cX2_canLearn : ByteArray := prog_4_method_7_code
def yX2_canLearn : MethodName := ⟨RX2, "canLearn", "()Z"⟩
abbrev cX2_learn : ByteArray := prog_4_method_8_code
def yX2_learn : MethodName := ⟨RX2, "learn", "(III)V"⟩
abbrev cX2_liesIfTold : ByteArray := prog_4_method_9_code
def yX2_liesIfTold : MethodName := ⟨RX2, "liesIfTold", "(IIII)I"⟩
abbrev cX2_forgetTold : ByteArray := prog_4_method_10_code
def yX2_forgetTold : MethodName := ⟨RX2, "forgetTold", "()V"⟩
abbrev cX2_hideCase : ByteArray := prog_4_method_11_code
def yX2_hideCase : MethodName := ⟨RX2, "hideCase", "(II)V"⟩
abbrev cX2_canReply : ByteArray := prog_4_method_12_code
def yX2_canReply : MethodName := ⟨RX2, "canReply", "()Z"⟩
abbrev cX2_reply : ByteArray := prog_4_method_13_code
def yX2_reply : MethodName := ⟨RX2, "reply", "(II)I"⟩
abbrev cX2_canPlan : ByteArray := prog_4_method_14_code
def yX2_canPlan : MethodName := ⟨RX2, "canPlan", "()Z"⟩
abbrev cX2_planWeighing : ByteArray := prog_4_method_15_code
def yX2_planWeighing : MethodName := ⟨RX2, "planWeighing", "(II)V"⟩
abbrev cX2_obey : ByteArray := prog_4_method_16_code
def yX2_obey : MethodName := ⟨RX2, "obey", "(III)Z"⟩
abbrev cX2_canDo : ByteArray := prog_4_method_17_code
def yX2_canDo : MethodName := ⟨RX2, "canDo", "(I)Z"⟩
abbrev cX2_isLeft : ByteArray := prog_4_method_18_code
def yX2_isLeft : MethodName := ⟨RX2, "isLeft", "(I)Z"⟩
abbrev cX2_countLeft : ByteArray := prog_4_method_19_code
def yX2_countLeft : MethodName := ⟨RX2, "countLeft", "()I"⟩
abbrev cX2_findLeft : ByteArray := prog_4_method_20_code
def yX2_findLeft : MethodName := ⟨RX2, "findLeft", "(I)I"⟩
abbrev cX2_falseCoins : ByteArray := prog_4_method_21_code
def yX2_falseCoins : MethodName := ⟨RX2, "falseCoins", "()I"⟩
abbrev cX2_number : ByteArray := prog_4_method_22_code
def yX2_number : MethodName := ⟨RX2, "number", "(I)I"⟩
abbrev cX2_weightAhead : ByteArray := prog_4_method_23_code
def yX2_weightAhead : MethodName := ⟨RX2, "weightAhead", "(I)J"⟩
abbrev cX2_weightIfTold : ByteArray := prog_4_method_24_code
def yX2_weightIfTold : MethodName := ⟨RX2, "weightIfTold", "(IIII)J"⟩
abbrev cX2_volumeLeft : ByteArray := prog_4_method_25_code
def yX2_volumeLeft : MethodName := ⟨RX2, "volumeLeft", "(II)J"⟩
abbrev cX2_badness : ByteArray := prog_4_method_26_code
def yX2_badness : MethodName := ⟨RX2, "badness", "(II)J"⟩
abbrev cX2_findGroup : ByteArray := prog_4_method_27_code
def yX2_findGroup : MethodName := ⟨RX2, "findGroup", "(I)I"⟩
abbrev cX2_differs : ByteArray := prog_4_method_28_code
def yX2_differs : MethodName := ⟨RX2, "differs", "(II)Z"⟩
abbrev cX2_leastDifferences : ByteArray := prog_4_method_29_code
def yX2_leastDifferences : MethodName := ⟨RX2, "leastDifferences", "()I"⟩
abbrev cX2_nearestCase : ByteArray := prog_4_method_30_code
def yX2_nearestCase : MethodName := ⟨RX2, "nearestCase", "(I)I"⟩
def RX3 : String := "LyingScale$Weighings"
def TX3 : u_T := fun k => match k with
  | 0 => ("LyingScale$Weighings", "lefts", "[I", true)
  | 1 => ("LyingScale$Weighings", "rights", "[I", true)
  | 2 => ("LyingScale$Weighings", "answers", "[I", true)
  | _ => ("LyingScale$Weighings", "count", "I", false)
def tyX3 : Nat → FieldType := fun k => match k with
  | 0 => .array .int
  | 1 => .array .int
  | 2 => .array .int
  | _ => .int
abbrev wsX30 : List Cond := u_ws RX3 TX3 4
theorem nmX3 : ∀ a, a < 4 → ∀ b, b < 4 → a ≠ b → (TX3 a).2.1 ≠ (TX3 b).2.1 := by decide +kernel
theorem tyX3_ok : ∀ k, k < 4 → parseFieldDescriptor (TX3 k).2.2.1 = some (tyX3 k) := by decide +kernel
abbrev cX3_init : ByteArray := prog_5_method_1_code
def yX3_init : MethodName := ⟨RX3, "<init>", "(I)V"⟩
abbrev cX3_copyFrom : ByteArray := prog_5_method_2_code
def yX3_copyFrom : MethodName := ⟨RX3, "copyFrom", "(LLyingScale$Weighings;)V"⟩
abbrev cX3_write : ByteArray := prog_5_method_3_code
def yX3_write : MethodName := ⟨RX3, "write", "(III)V"⟩
abbrev cX3_dropLast : ByteArray := prog_5_method_4_code
def yX3_dropLast : MethodName := ⟨RX3, "dropLast", "()V"⟩
abbrev cX3_part : ByteArray := prog_5_method_5_code
def yX3_part : MethodName := ⟨RX3, "part", "(II)I"⟩
abbrev cX3_codeWord : ByteArray := prog_5_method_6_code
def yX3_codeWord : MethodName := ⟨RX3, "codeWord", "(I)I"⟩
abbrev cX3_answerRows : ByteArray := prog_5_method_7_code
def yX3_answerRows : MethodName := ⟨RX3, "answerRows", "()I"⟩
def RX4 : String := "LyingScale"
def TX4 : u_T := fun k => match k with
  | 0 => ("LyingScale", "now", "LLyingScale$State;", true)
  | 1 => ("LyingScale", "history", "LLyingScale$History;", true)
  | _ => ("LyingScale", "orders", "LLyingScale$Orders;", true)
def tyX4 : Nat → FieldType := fun k => match k with
  | 0 => .object "LyingScale$State"
  | 1 => .object "LyingScale$History"
  | _ => .object "LyingScale$Orders"
abbrev wsX40 : List Cond := u_ws RX4 TX4 3
theorem nmX4 : ∀ a, a < 3 → ∀ b, b < 3 → a ≠ b → (TX4 a).2.1 ≠ (TX4 b).2.1 := by decide +kernel
theorem tyX4_ok : ∀ k, k < 3 → parseFieldDescriptor (TX4 k).2.2.1 = some (tyX4 k) := by decide +kernel
abbrev cX4_init : ByteArray := prog_1_method_1_code
def yX4_init : MethodName := ⟨RX4, "<init>", "()V"⟩
abbrev cX4_begin : ByteArray := prog_1_method_2_code
def yX4_begin : MethodName := ⟨RX4, "begin", "(I)I"⟩
abbrev cX4_setLimit : ByteArray := prog_1_method_3_code
def yX4_setLimit : MethodName := ⟨RX4, "setLimit", "(I)I"⟩
abbrev cX4_tell : ByteArray := prog_1_method_4_code
def yX4_tell : MethodName := ⟨RX4, "tell", "(III)I"⟩
abbrev cX4_forget : ByteArray := prog_1_method_5_code
def yX4_forget : MethodName := ⟨RX4, "forget", "()I"⟩
abbrev cX4_hide : ByteArray := prog_1_method_6_code
def yX4_hide : MethodName := ⟨RX4, "hide", "(II)I"⟩
abbrev cX4_ask : ByteArray := prog_1_method_7_code
def yX4_ask : MethodName := ⟨RX4, "ask", "(II)I"⟩
abbrev cX4_add : ByteArray := prog_1_method_8_code
def yX4_add : MethodName := ⟨RX4, "add", "(II)I"⟩
abbrev cX4_removeLast : ByteArray := prog_1_method_9_code
def yX4_removeLast : MethodName := ⟨RX4, "removeLast", "()I"⟩
abbrev cX4_lies : ByteArray := prog_1_method_10_code
def yX4_lies : MethodName := ⟨RX4, "lies", "(I)I"⟩
abbrev cX4_answer : ByteArray := prog_1_method_11_code
def yX4_answer : MethodName := ⟨RX4, "answer", "(III)I"⟩
abbrev cX4_leftCase : ByteArray := prog_1_method_12_code
def yX4_leftCase : MethodName := ⟨RX4, "leftCase", "(I)I"⟩
abbrev cX4_weighing : ByteArray := prog_1_method_13_code
def yX4_weighing : MethodName := ⟨RX4, "weighing", "(II)I"⟩
abbrev cX4_value : ByteArray := prog_1_method_14_code
def yX4_value : MethodName := ⟨RX4, "value", "(I)I"⟩
abbrev cX4_weight : ByteArray := prog_1_method_15_code
def yX4_weight : MethodName := ⟨RX4, "weight", "(I)J"⟩
abbrev cX4_bound : ByteArray := prog_1_method_16_code
def yX4_bound : MethodName := ⟨RX4, "bound", "()I"⟩
abbrev cX4_weightBehind : ByteArray := prog_1_method_17_code
def yX4_weightBehind : MethodName := ⟨RX4, "weightBehind", "(IIII)J"⟩
abbrev cX4_bestGroup : ByteArray := prog_1_method_18_code
def yX4_bestGroup : MethodName := ⟨RX4, "bestGroup", "(I)I"⟩
abbrev cX4_teaches : ByteArray := prog_1_method_19_code
def yX4_teaches : MethodName := ⟨RX4, "teaches", "(II)Z"⟩
abbrev cX4_distance : ByteArray := prog_1_method_20_code
def yX4_distance : MethodName := ⟨RX4, "distance", "(II)I"⟩
abbrev cX4_leastDistance : ByteArray := prog_1_method_21_code
def yX4_leastDistance : MethodName := ⟨RX4, "leastDistance", "()I"⟩
abbrev cX4_bears : ByteArray := prog_1_method_22_code
def yX4_bears : MethodName := ⟨RX4, "bears", "()I"⟩
abbrev cX4_decode : ByteArray := prog_1_method_23_code
def yX4_decode : MethodName := ⟨RX4, "decode", "(I)I"⟩
abbrev cX4_share : ByteArray := prog_1_method_24_code
def yX4_share : MethodName := ⟨RX4, "share", "()D"⟩
abbrev cX4_append : ByteArray := prog_1_method_25_code
def yX4_append : MethodName := ⟨RX4, "append", "(I)I"⟩
abbrev cX4_clearText : ByteArray := prog_1_method_26_code
def yX4_clearText : MethodName := ⟨RX4, "clearText", "()I"⟩
abbrev cX4_carryOut : ByteArray := prog_1_method_27_code
def yX4_carryOut : MethodName := ⟨RX4, "carryOut", "()I"⟩
abbrev cX4_undo : ByteArray := prog_1_method_28_code
def yX4_undo : MethodName := ⟨RX4, "undo", "()I"⟩
abbrev cX4_digest : ByteArray := prog_1_method_29_code
def yX4_digest : MethodName := ⟨RX4, "digest", "()J"⟩
abbrev cX4_mix : ByteArray := prog_1_method_30_code
def yX4_mix : MethodName := ⟨RX4, "mix", "(JJ)J"⟩
abbrev cX4_isAnswer : ByteArray := prog_1_method_31_code
def yX4_isAnswer : MethodName := ⟨RX4, "isAnswer", "(I)Z"⟩
abbrev cX4_isAhead : ByteArray := prog_1_method_32_code
def yX4_isAhead : MethodName := ⟨RX4, "isAhead", "(I)Z"⟩
abbrev cX4_at : ByteArray := prog_1_method_33_code
def yX4_at : MethodName := ⟨RX4, "at", "([II)I"⟩
abbrev cX4_put : ByteArray := prog_1_method_34_code
def yX4_put : MethodName := ⟨RX4, "put", "([III)V"⟩
abbrev cX4_copyRow : ByteArray := prog_1_method_35_code
def yX4_copyRow : MethodName := ⟨RX4, "copyRow", "([I[I)V"⟩
abbrev cX4_coinBit : ByteArray := prog_1_method_36_code
def yX4_coinBit : MethodName := ⟨RX4, "coinBit", "(I)I"⟩
abbrev cX4_trueAnswer : ByteArray := prog_1_method_37_code
def yX4_trueAnswer : MethodName := ⟨RX4, "trueAnswer", "(III)I"⟩
abbrev cX4_volume : ByteArray := prog_1_method_38_code
def yX4_volume : MethodName := ⟨RX4, "volume", "(II)J"⟩
abbrev cX4_differences : ByteArray := prog_1_method_39_code
def yX4_differences : MethodName := ⟨RX4, "differences", "(II)I"⟩
abbrev cX4_wordOf : ByteArray := prog_1_method_40_code
def yX4_wordOf : MethodName := ⟨RX4, "wordOf", "(I)I"⟩
def RX5 : String := "LyingScaleModel"
def TX5 : u_T := fun k => match k with
  | 0 => ("LyingScaleModel", "s", "[I", true)
  | 1 => ("LyingScaleModel", "past", "[I", true)
  | 2 => ("LyingScaleModel", "begun", "[I", true)
  | 3 => ("LyingScaleModel", "pasts", "I", false)
  | 4 => ("LyingScaleModel", "thrown", "I", false)
  | 5 => ("LyingScaleModel", "text", "[B", true)
  | 6 => ("LyingScaleModel", "typed", "I", false)
  | 7 => ("LyingScaleModel", "at", "I", false)
  | 8 => ("LyingScaleModel", "left", "I", false)
  | 9 => ("LyingScaleModel", "right", "I", false)
  | _ => ("LyingScaleModel", "what", "I", false)
def tyX5 : Nat → FieldType := fun k => match k with
  | 0 => .array .int
  | 1 => .array .int
  | 2 => .array .int
  | 3 => .int
  | 4 => .int
  | 5 => .array .byte
  | 6 => .int
  | 7 => .int
  | 8 => .int
  | 9 => .int
  | _ => .int
abbrev wsX50 : List Cond := u_ws RX5 TX5 11
theorem nmX5 : ∀ a, a < 11 → ∀ b, b < 11 → a ≠ b → (TX5 a).2.1 ≠ (TX5 b).2.1 := by decide +kernel
theorem tyX5_ok : ∀ k, k < 11 → parseFieldDescriptor (TX5 k).2.2.1 = some (tyX5 k) := by decide +kernel
abbrev cX5_init : ByteArray := prog_7_method_1_code
def yX5_init : MethodName := ⟨RX5, "<init>", "()V"⟩
abbrev cX5_thrown : ByteArray := prog_7_method_2_code
def yX5_thrown : MethodName := ⟨RX5, "thrown", "()I"⟩
abbrev cX5_in : ByteArray := prog_7_method_3_code
def yX5_in : MethodName := ⟨RX5, "in", "(III)Z"⟩
abbrev cX5_fails : ByteArray := prog_7_method_4_code
def yX5_fails : MethodName := ⟨RX5, "fails", "(I)I"⟩
abbrev cX5_tells : ByteArray := prog_7_method_5_code
def yX5_tells : MethodName := ⟨RX5, "tells", "(I)I"⟩
abbrev cX5_begins : ByteArray := prog_7_method_6_code
def yX5_begins : MethodName := ⟨RX5, "begins", "()V"⟩
abbrev cX5_saved : ByteArray := prog_7_method_7_code
def yX5_saved : MethodName := ⟨RX5, "saved", "(I)I"⟩
abbrev cX5_sets : ByteArray := prog_7_method_8_code
def yX5_sets : MethodName := ⟨RX5, "sets", "(I)V"⟩
abbrev cX5_cases : ByteArray := prog_7_method_9_code
def yX5_cases : MethodName := ⟨RX5, "cases", "()I"⟩
abbrev cX5_isCase : ByteArray := prog_7_method_10_code
def yX5_isCase : MethodName := ⟨RX5, "isCase", "(I)Z"⟩
abbrev cX5_ones : ByteArray := prog_7_method_11_code
def yX5_ones : MethodName := ⟨RX5, "ones", "(I)I"⟩
abbrev cX5_areSides : ByteArray := prog_7_method_12_code
def yX5_areSides : MethodName := ⟨RX5, "areSides", "(II)Z"⟩
abbrev cX5_truth : ByteArray := prog_7_method_13_code
def yX5_truth : MethodName := ⟨RX5, "truth", "(III)I"⟩
abbrev cX5_isLeft : ByteArray := prog_7_method_14_code
def yX5_isLeft : MethodName := ⟨RX5, "isLeft", "(I)Z"⟩
abbrev cX5_lefts : ByteArray := prog_7_method_15_code
def yX5_lefts : MethodName := ⟨RX5, "lefts", "()I"⟩
abbrev cX5_begin : ByteArray := prog_7_method_16_code
def yX5_begin : MethodName := ⟨RX5, "begin", "(I)I"⟩
abbrev cX5_setLimit : ByteArray := prog_7_method_17_code
def yX5_setLimit : MethodName := ⟨RX5, "setLimit", "(I)I"⟩
abbrev cX5_lays : ByteArray := prog_7_method_18_code
def yX5_lays : MethodName := ⟨RX5, "lays", "(III)V"⟩
abbrev cX5_whyNotTell : ByteArray := prog_7_method_19_code
def yX5_whyNotTell : MethodName := ⟨RX5, "whyNotTell", "(III)I"⟩
abbrev cX5_tell : ByteArray := prog_7_method_20_code
def yX5_tell : MethodName := ⟨RX5, "tell", "(III)I"⟩
abbrev cX5_forget : ByteArray := prog_7_method_21_code
def yX5_forget : MethodName := ⟨RX5, "forget", "()I"⟩
abbrev cX5_hide : ByteArray := prog_7_method_22_code
def yX5_hide : MethodName := ⟨RX5, "hide", "(II)I"⟩
abbrev cX5_whyNotAsk : ByteArray := prog_7_method_23_code
def yX5_whyNotAsk : MethodName := ⟨RX5, "whyNotAsk", "(II)I"⟩
abbrev cX5_asks : ByteArray := prog_7_method_24_code
def yX5_asks : MethodName := ⟨RX5, "asks", "(II)I"⟩
abbrev cX5_ask : ByteArray := prog_7_method_25_code
def yX5_ask : MethodName := ⟨RX5, "ask", "(II)I"⟩
abbrev cX5_whyNotAdd : ByteArray := prog_7_method_26_code
def yX5_whyNotAdd : MethodName := ⟨RX5, "whyNotAdd", "(II)I"⟩
abbrev cX5_adds : ByteArray := prog_7_method_27_code
def yX5_adds : MethodName := ⟨RX5, "adds", "(II)I"⟩
abbrev cX5_add : ByteArray := prog_7_method_28_code
def yX5_add : MethodName := ⟨RX5, "add", "(II)I"⟩
abbrev cX5_removeLast : ByteArray := prog_7_method_29_code
def yX5_removeLast : MethodName := ⟨RX5, "removeLast", "()I"⟩
abbrev cX5_lies : ByteArray := prog_7_method_30_code
def yX5_lies : MethodName := ⟨RX5, "lies", "(I)I"⟩
abbrev cX5_answer : ByteArray := prog_7_method_31_code
def yX5_answer : MethodName := ⟨RX5, "answer", "(III)I"⟩
abbrev cX5_leftCase : ByteArray := prog_7_method_32_code
def yX5_leftCase : MethodName := ⟨RX5, "leftCase", "(I)I"⟩
abbrev cX5_weighing : ByteArray := prog_7_method_33_code
def yX5_weighing : MethodName := ⟨RX5, "weighing", "(II)I"⟩
abbrev cX5_falseOnes : ByteArray := prog_7_method_34_code
def yX5_falseOnes : MethodName := ⟨RX5, "falseOnes", "()I"⟩
abbrev cX5_number : ByteArray := prog_7_method_35_code
def yX5_number : MethodName := ⟨RX5, "number", "(I)I"⟩
abbrev cX5_value : ByteArray := prog_7_method_36_code
def yX5_value : MethodName := ⟨RX5, "value", "(I)I"⟩
abbrev cX5_volume : ByteArray := prog_7_method_37_code
def yX5_volume : MethodName := ⟨RX5, "volume", "(II)J"⟩
abbrev cX5_weighs : ByteArray := prog_7_method_38_code
def yX5_weighs : MethodName := ⟨RX5, "weighs", "(IIII)J"⟩
abbrev cX5_weight : ByteArray := prog_7_method_39_code
def yX5_weight : MethodName := ⟨RX5, "weight", "(I)J"⟩
abbrev cX5_least : ByteArray := prog_7_method_40_code
def yX5_least : MethodName := ⟨RX5, "least", "()I"⟩
abbrev cX5_bound : ByteArray := prog_7_method_41_code
def yX5_bound : MethodName := ⟨RX5, "bound", "()I"⟩
abbrev cX5_weightBehind : ByteArray := prog_7_method_42_code
def yX5_weightBehind : MethodName := ⟨RX5, "weightBehind", "(IIII)J"⟩
abbrev cX5_best : ByteArray := prog_7_method_43_code
def yX5_best : MethodName := ⟨RX5, "best", "(I)I"⟩
abbrev cX5_bestGroup : ByteArray := prog_7_method_44_code
def yX5_bestGroup : MethodName := ⟨RX5, "bestGroup", "(I)I"⟩
abbrev cX5_teaches : ByteArray := prog_7_method_45_code
def yX5_teaches : MethodName := ⟨RX5, "teaches", "(II)Z"⟩
abbrev cX5_apart : ByteArray := prog_7_method_46_code
def yX5_apart : MethodName := ⟨RX5, "apart", "(II)I"⟩
abbrev cX5_distance : ByteArray := prog_7_method_47_code
def yX5_distance : MethodName := ⟨RX5, "distance", "(II)I"⟩
abbrev cX5_nearest : ByteArray := prog_7_method_48_code
def yX5_nearest : MethodName := ⟨RX5, "nearest", "()I"⟩
abbrev cX5_leastDistance : ByteArray := prog_7_method_49_code
def yX5_leastDistance : MethodName := ⟨RX5, "leastDistance", "()I"⟩
abbrev cX5_bears : ByteArray := prog_7_method_50_code
def yX5_bears : MethodName := ⟨RX5, "bears", "()I"⟩
abbrev cX5_differs : ByteArray := prog_7_method_51_code
def yX5_differs : MethodName := ⟨RX5, "differs", "(II)I"⟩
abbrev cX5_decode : ByteArray := prog_7_method_52_code
def yX5_decode : MethodName := ⟨RX5, "decode", "(I)I"⟩
abbrev cX5_share : ByteArray := prog_7_method_53_code
def yX5_share : MethodName := ⟨RX5, "share", "()D"⟩
abbrev cX5_append : ByteArray := prog_7_method_54_code
def yX5_append : MethodName := ⟨RX5, "append", "(I)I"⟩
abbrev cX5_clearText : ByteArray := prog_7_method_55_code
def yX5_clearText : MethodName := ⟨RX5, "clearText", "()I"⟩
abbrev cX5_sign : ByteArray := prog_7_method_56_code
def yX5_sign : MethodName := ⟨RX5, "sign", "()I"⟩
abbrev cX5_side : ByteArray := prog_7_method_57_code
def yX5_side : MethodName := ⟨RX5, "side", "(I)I"⟩
abbrev cX5_takes : ByteArray := prog_7_method_58_code
def yX5_takes : MethodName := ⟨RX5, "takes", "(I)Z"⟩
abbrev cX5_kind : ByteArray := prog_7_method_59_code
def yX5_kind : MethodName := ⟨RX5, "kind", "()I"⟩
abbrev cX5_reads : ByteArray := prog_7_method_60_code
def yX5_reads : MethodName := ⟨RX5, "reads", "()Z"⟩
abbrev cX5_wrong : ByteArray := prog_7_method_61_code
def yX5_wrong : MethodName := ⟨RX5, "wrong", "()I"⟩
abbrev cX5_does : ByteArray := prog_7_method_62_code
def yX5_does : MethodName := ⟨RX5, "does", "()Z"⟩
abbrev cX5_carryOut : ByteArray := prog_7_method_63_code
def yX5_carryOut : MethodName := ⟨RX5, "carryOut", "()I"⟩
abbrev cX5_undo : ByteArray := prog_7_method_64_code
def yX5_undo : MethodName := ⟨RX5, "undo", "()I"⟩
abbrev cX5_digest : ByteArray := prog_7_method_65_code
def yX5_digest : MethodName := ⟨RX5, "digest", "()J"⟩
def RJ6 : String := "java/lang/Integer"
def TJ6 : u_T := fun k => match k with
  | _ => ("", "", "", false)
def tyJ6 : Nat → FieldType := fun k => match k with
  | _ => .int
abbrev wsJ60 : List Cond := u_ws RJ6 TJ6 0
theorem nmJ6 : ∀ a, a < 0 → ∀ b, b < 0 → a ≠ b → (TJ6 a).2.1 ≠ (TJ6 b).2.1 := by decide +kernel
theorem tyJ6_ok : ∀ k, k < 0 → parseFieldDescriptor (TJ6 k).2.2.1 = some (tyJ6 k) := by decide +kernel
abbrev cJ6_bitCount_0f7a4 : ByteArray := prog_12_method_49_code
def yJ6_bitCount_0f7a4 : MethodName := ⟨RJ6, "bitCount", "(I)I"⟩
def RJ9 : String := "java/lang/Math"
def TJ9 : u_T := fun k => match k with
  | _ => ("", "", "", false)
def tyJ9 : Nat → FieldType := fun k => match k with
  | _ => .int
abbrev wsJ90 : List Cond := u_ws RJ9 TJ9 0
theorem nmJ9 : ∀ a, a < 0 → ∀ b, b < 0 → a ≠ b → (TJ9 a).2.1 ≠ (TJ9 b).2.1 := by decide +kernel
theorem tyJ9_ok : ∀ k, k < 0 → parseFieldDescriptor (TJ9 k).2.2.1 = some (tyJ9 k) := by decide +kernel
abbrev cJ9_max_7cf53 : ByteArray := prog_13_method_65_code
def yJ9_max_7cf53 : MethodName := ⟨RJ9, "max", "(II)I"⟩
abbrev cJ9_max_f86c9 : ByteArray := prog_13_method_66_code
def yJ9_max_f86c9 : MethodName := ⟨RJ9, "max", "(JJ)J"⟩
abbrev cJ9_min_7cf53 : ByteArray := prog_13_method_69_code
def yJ9_min_7cf53 : MethodName := ⟨RJ9, "min", "(II)I"⟩
def RJ0 : String := "java/lang/String"
def TJ0 : u_T := fun k => match k with
  | _ => ("", "", "", false)
def tyJ0 : Nat → FieldType := fun k => match k with
  | _ => .int
abbrev wsJ00 : List Cond := u_ws RJ0 TJ0 0
theorem nmJ0 : ∀ a, a < 0 → ∀ b, b < 0 → a ≠ b → (TJ0 a).2.1 ≠ (TJ0 b).2.1 := by decide +kernel
theorem tyJ0_ok : ∀ k, k < 0 → parseFieldDescriptor (TJ0 k).2.2.1 = some (tyJ0 k) := by decide +kernel
def RJ10 : String := "java/lang/System"
def TJ10 : u_T := fun k => match k with
  | _ => ("", "", "", false)
def tyJ10 : Nat → FieldType := fun k => match k with
  | _ => .int
abbrev wsJ100 : List Cond := u_ws RJ10 TJ10 0
theorem nmJ10 : ∀ a, a < 0 → ∀ b, b < 0 → a ≠ b → (TJ10 a).2.1 ≠ (TJ10 b).2.1 := by decide +kernel
theorem tyJ10_ok : ∀ k, k < 0 → parseFieldDescriptor (TJ10 k).2.2.1 = some (tyJ10 k) := by decide +kernel
def RL : String := "LyingScaleLaw"
abbrev cL_begin : ByteArray := method_3_code
def yL_begin : MethodName := ⟨RL, "begin", "(LLyingScale;I[J)I"⟩
abbrev cL_setLimit : ByteArray := method_4_code
def yL_setLimit : MethodName := ⟨RL, "setLimit", "(LLyingScale;I[J)I"⟩
abbrev cL_tell : ByteArray := method_5_code
def yL_tell : MethodName := ⟨RL, "tell", "(LLyingScale;III[J)I"⟩
abbrev cL_hide : ByteArray := method_6_code
def yL_hide : MethodName := ⟨RL, "hide", "(LLyingScale;II[J)I"⟩
abbrev cL_ask : ByteArray := method_7_code
def yL_ask : MethodName := ⟨RL, "ask", "(LLyingScale;II[J)I"⟩
abbrev cL_add : ByteArray := method_8_code
def yL_add : MethodName := ⟨RL, "add", "(LLyingScale;II[J)I"⟩
abbrev cL_removeLast : ByteArray := method_9_code
def yL_removeLast : MethodName := ⟨RL, "removeLast", "(LLyingScale;[J)I"⟩
abbrev cL_lies : ByteArray := method_10_code
def yL_lies : MethodName := ⟨RL, "lies", "(LLyingScale;I[J)I"⟩
abbrev cL_answer : ByteArray := method_11_code
def yL_answer : MethodName := ⟨RL, "answer", "(LLyingScale;III[J)I"⟩
abbrev cL_leftCase : ByteArray := method_12_code
def yL_leftCase : MethodName := ⟨RL, "leftCase", "(LLyingScale;I[J)I"⟩
abbrev cL_weighing : ByteArray := method_13_code
def yL_weighing : MethodName := ⟨RL, "weighing", "(LLyingScale;II[J)I"⟩
abbrev cL_value : ByteArray := method_14_code
def yL_value : MethodName := ⟨RL, "value", "(LLyingScale;I[J)I"⟩
abbrev cL_weight : ByteArray := method_15_code
def yL_weight : MethodName := ⟨RL, "weight", "(LLyingScale;I[J)I"⟩
abbrev cL_weightBehind : ByteArray := method_16_code
def yL_weightBehind : MethodName := ⟨RL, "weightBehind", "(LLyingScale;IIII[J)I"⟩
abbrev cL_bestGroup : ByteArray := method_17_code
def yL_bestGroup : MethodName := ⟨RL, "bestGroup", "(LLyingScale;I[J)I"⟩
abbrev cL_teaches : ByteArray := method_18_code
def yL_teaches : MethodName := ⟨RL, "teaches", "(LLyingScale;II[J)I"⟩
abbrev cL_distance : ByteArray := method_19_code
def yL_distance : MethodName := ⟨RL, "distance", "(LLyingScale;II[J)I"⟩
abbrev cL_decode : ByteArray := method_20_code
def yL_decode : MethodName := ⟨RL, "decode", "(LLyingScale;I[J)I"⟩
abbrev cL_append : ByteArray := method_21_code
def yL_append : MethodName := ⟨RL, "append", "(LLyingScale;I[J)I"⟩
abbrev cL_undo : ByteArray := method_22_code
def yL_undo : MethodName := ⟨RL, "undo", "(LLyingScale;[J)I"⟩
abbrev cL_law : ByteArray := code
def yL_law : MethodName := ⟨RL, "law", "([I)Z"⟩
def wsX3_init : List Cond := .code yX3_init cX3_init 3 none :: ([.methodLink RX3 3 objectInit, .instanceMethod objectInit, .code objectInit ⟨#[0xb1]⟩ 1 none, .methodLink RX3 9 Lib.Math.max.name, .static Lib.Math.max.name, .initialized "java/lang/Math", .code Lib.Math.max.name Lib.Math.max.code 2 (some .int), .arrayClass .int, .fieldLink RX3 15 "LyingScale$Weighings" "lefts" "[I", .fieldLink RX3 21 "LyingScale$Weighings" "rights" "[I", .fieldLink RX3 24 "LyingScale$Weighings" "answers" "[I"] ++ wsX30)
def wsX2_hideCase : List Cond := .code yX2_hideCase cX2_hideCase 3 none :: ([.fieldLink RX2 58 "LyingScale$State" "hidden" "I", .fieldLink RX2 61 "LyingScale$State" "lieSet" "I", .fieldLink RX2 64 "LyingScale$State" "answered" "I"] ++ wsX20)
def wsX4_put : List Cond := .code yX4_put cX4_put 3 none :: ([])
def wsX2_forgetTold : List Cond := .code yX2_forgetTold cX2_forgetTold 2 none :: ([.fieldLink RX2 14 "LyingScale$State" "told" "LLyingScale$Weighings;", .fieldLink RX2 23 "LyingScale$State" "liesOf" "[I", .static yX4_put, .initialized RX4, .code yX4_put cX4_put 3 none] ++ wsX20 ++ wsX30)
def wsX2_start : List Cond := .code yX2_start cX2_start 2 none :: ([.fieldLink RX2 33 "LyingScale$State" "coins" "I", .fieldLink RX2 37 "LyingScale$State" "limit" "I", .fieldLink RX2 20 "LyingScale$State" "plan" "LLyingScale$Weighings;", .methodLink RX2 43 yX2_hideCase, .instanceMethod yX2_hideCase, .selects RX2 yX2_hideCase yX2_hideCase, .initialized RX2, .code yX2_hideCase cX2_hideCase 3 none, .fieldLink RX2 58 "LyingScale$State" "hidden" "I", .fieldLink RX2 61 "LyingScale$State" "lieSet" "I", .fieldLink RX2 64 "LyingScale$State" "answered" "I", .methodLink RX2 47 yX2_forgetTold, .instanceMethod yX2_forgetTold, .selects RX2 yX2_forgetTold yX2_forgetTold, .code yX2_forgetTold cX2_forgetTold 2 none, .fieldLink RX2 14 "LyingScale$State" "told" "LLyingScale$Weighings;", .fieldLink RX2 23 "LyingScale$State" "liesOf" "[I", .static yX4_put, .initialized RX4, .code yX4_put cX4_put 3 none] ++ wsX20 ++ wsX30)
def wsX2_init_r1 : List Cond := [Cond.methodLink RX2 3 objectInit, Cond.instanceMethod objectInit, Cond.code objectInit ⟨#[0xb1]⟩ 1 none, Cond.classLink RX2 9 RX3, Cond.instantiable RX3 4, Cond.initialized RX3, Cond.fieldLink RX2 14 "LyingScale$State" "told" "LLyingScale$Weighings;", Cond.fieldLink RX2 20 "LyingScale$State" "plan" "LLyingScale$Weighings;", Cond.arrayClass .int, Cond.fieldLink RX2 23 "LyingScale$State" "liesOf" "[I", Cond.fieldLink RX2 27 "LyingScale$State" "words" "[I", Cond.methodLink RX2 11 yX3_init, Cond.instanceMethod yX3_init, Cond.code yX3_init cX3_init 3 none, Cond.methodLink RX3 3 objectInit, Cond.methodLink RX3 9 Lib.Math.max.name, Cond.static Lib.Math.max.name, Cond.initialized "java/lang/Math", Cond.code Lib.Math.max.name Lib.Math.max.code 2 (some .int), Cond.fieldLink RX3 15 "LyingScale$Weighings" "lefts" "[I", Cond.fieldLink RX3 21 "LyingScale$Weighings" "rights" "[I", Cond.fieldLink RX3 24 "LyingScale$Weighings" "answers" "[I", Cond.methodLink RX2 30 yX2_start, Cond.instanceMethod yX2_start]
def wsX2_init_r2 : List Cond := [Cond.selects RX2 yX2_start yX2_start, Cond.initialized RX2, Cond.code yX2_start cX2_start 2 none, Cond.fieldLink RX2 33 "LyingScale$State" "coins" "I", Cond.fieldLink RX2 37 "LyingScale$State" "limit" "I", Cond.methodLink RX2 43 yX2_hideCase, Cond.instanceMethod yX2_hideCase, Cond.selects RX2 yX2_hideCase yX2_hideCase, Cond.code yX2_hideCase cX2_hideCase 3 none, Cond.fieldLink RX2 58 "LyingScale$State" "hidden" "I", Cond.fieldLink RX2 61 "LyingScale$State" "lieSet" "I", Cond.fieldLink RX2 64 "LyingScale$State" "answered" "I", Cond.methodLink RX2 47 yX2_forgetTold, Cond.instanceMethod yX2_forgetTold, Cond.selects RX2 yX2_forgetTold yX2_forgetTold, Cond.code yX2_forgetTold cX2_forgetTold 2 none, Cond.static yX4_put, Cond.initialized RX4, Cond.code yX4_put cX4_put 3 none]
def wsX2_init : List Cond := .code yX2_init cX2_init 1 none :: ((wsX2_init_r1 ++ wsX2_init_r2) ++ wsX30 ++ wsX20)
def wsX0_init_r1 : List Cond := [Cond.methodLink RX0 3 objectInit, Cond.instanceMethod objectInit, Cond.code objectInit ⟨#[0xb1]⟩ 1 none, Cond.classLink RX0 9 RX2, Cond.fieldLink RX0 11 "LyingScale$History" "states" "[LLyingScale$State;", Cond.instantiable RX2 9, Cond.initialized RX2, Cond.methodLink RX0 17 yX2_init, Cond.instanceMethod yX2_init, Cond.code yX2_init cX2_init 1 none, Cond.methodLink RX2 3 objectInit, Cond.classLink RX2 9 RX3, Cond.instantiable RX3 4, Cond.initialized RX3, Cond.fieldLink RX2 14 "LyingScale$State" "told" "LLyingScale$Weighings;", Cond.fieldLink RX2 20 "LyingScale$State" "plan" "LLyingScale$Weighings;", Cond.arrayClass .int, Cond.fieldLink RX2 23 "LyingScale$State" "liesOf" "[I", Cond.fieldLink RX2 27 "LyingScale$State" "words" "[I", Cond.methodLink RX2 11 yX3_init, Cond.instanceMethod yX3_init, Cond.code yX3_init cX3_init 3 none, Cond.methodLink RX3 3 objectInit, Cond.methodLink RX3 9 Lib.Math.max.name]
def wsX0_init_r2 : List Cond := [Cond.static Lib.Math.max.name, Cond.initialized "java/lang/Math", Cond.code Lib.Math.max.name Lib.Math.max.code 2 (some .int), Cond.fieldLink RX3 15 "LyingScale$Weighings" "lefts" "[I", Cond.fieldLink RX3 21 "LyingScale$Weighings" "rights" "[I", Cond.fieldLink RX3 24 "LyingScale$Weighings" "answers" "[I", Cond.methodLink RX2 30 yX2_start, Cond.instanceMethod yX2_start, Cond.selects RX2 yX2_start yX2_start, Cond.code yX2_start cX2_start 2 none, Cond.fieldLink RX2 33 "LyingScale$State" "coins" "I", Cond.fieldLink RX2 37 "LyingScale$State" "limit" "I", Cond.methodLink RX2 43 yX2_hideCase, Cond.instanceMethod yX2_hideCase, Cond.selects RX2 yX2_hideCase yX2_hideCase, Cond.code yX2_hideCase cX2_hideCase 3 none, Cond.fieldLink RX2 58 "LyingScale$State" "hidden" "I", Cond.fieldLink RX2 61 "LyingScale$State" "lieSet" "I", Cond.fieldLink RX2 64 "LyingScale$State" "answered" "I", Cond.methodLink RX2 47 yX2_forgetTold, Cond.instanceMethod yX2_forgetTold, Cond.selects RX2 yX2_forgetTold yX2_forgetTold, Cond.code yX2_forgetTold cX2_forgetTold 2 none, Cond.static yX4_put]
def wsX0_init_r3 : List Cond := [Cond.initialized RX4, Cond.code yX4_put cX4_put 3 none]
def wsX0_init : List Cond := .code yX0_init cX0_init 2 none :: ((wsX0_init_r1 ++ (wsX0_init_r2 ++ wsX0_init_r3)) ++ wsX00 ++ wsX20 ++ wsX30)
def wsX0_stateAt : List Cond := .code yX0_stateAt cX0_stateAt 2 (some (.object "LyingScale$State")) :: ([.fieldLink RX0 11 "LyingScale$History" "states" "[LLyingScale$State;"] ++ wsX00)
def wsX0_dropOldest : List Cond := .code yX0_dropOldest cX0_dropOldest 4 none :: ([.fieldLink RX0 11 "LyingScale$History" "states" "[LLyingScale$State;", .fieldLink RX0 18 "LyingScale$History" "count" "I", .methodLink RX0 25 yX0_stateAt, .instanceMethod yX0_stateAt, .selects RX0 yX0_stateAt yX0_stateAt, .initialized RX0, .code yX0_stateAt cX0_stateAt 2 (some (.object "LyingScale$State"))] ++ wsX00)
def wsX4_copyRow : List Cond := .code yX4_copyRow cX4_copyRow 2 none :: ([.methodLink RX4 253 Lib.Math.min.name, .static Lib.Math.min.name, .initialized "java/lang/Math", .code Lib.Math.min.name Lib.Math.min.code 2 (some .int), .methodLink RX4 258 arraycopyName, .native arraycopyName, .static arraycopyName, .initialized "java/lang/System"])
def wsX3_copyFrom : List Cond := .code yX3_copyFrom cX3_copyFrom 2 none :: ([.fieldLink RX3 15 "LyingScale$Weighings" "lefts" "[I", .fieldLink RX3 21 "LyingScale$Weighings" "rights" "[I", .fieldLink RX3 24 "LyingScale$Weighings" "answers" "[I", .fieldLink RX3 31 "LyingScale$Weighings" "count" "I", .static yX4_copyRow, .initialized RX4, .code yX4_copyRow cX4_copyRow 2 none, .methodLink RX4 253 Lib.Math.min.name, .static Lib.Math.min.name, .initialized "java/lang/Math", .code Lib.Math.min.name Lib.Math.min.code 2 (some .int), .methodLink RX4 258 arraycopyName, .native arraycopyName, .static arraycopyName, .initialized "java/lang/System"] ++ wsX30)
def wsX2_copyFrom_r1 : List Cond := [Cond.fieldLink RX2 14 "LyingScale$State" "told" "LLyingScale$Weighings;", Cond.fieldLink RX2 20 "LyingScale$State" "plan" "LLyingScale$Weighings;", Cond.fieldLink RX2 23 "LyingScale$State" "liesOf" "[I", Cond.fieldLink RX2 33 "LyingScale$State" "coins" "I", Cond.fieldLink RX2 37 "LyingScale$State" "limit" "I", Cond.fieldLink RX2 58 "LyingScale$State" "hidden" "I", Cond.fieldLink RX2 61 "LyingScale$State" "lieSet" "I", Cond.fieldLink RX2 64 "LyingScale$State" "answered" "I", Cond.methodLink RX2 50 yX3_copyFrom, Cond.instanceMethod yX3_copyFrom, Cond.selects RX3 yX3_copyFrom yX3_copyFrom, Cond.initialized RX3, Cond.code yX3_copyFrom cX3_copyFrom 2 none, Cond.fieldLink RX3 15 "LyingScale$Weighings" "lefts" "[I", Cond.fieldLink RX3 21 "LyingScale$Weighings" "rights" "[I", Cond.fieldLink RX3 24 "LyingScale$Weighings" "answers" "[I", Cond.fieldLink RX3 31 "LyingScale$Weighings" "count" "I", Cond.static yX4_copyRow, Cond.initialized RX4, Cond.code yX4_copyRow cX4_copyRow 2 none, Cond.methodLink RX4 253 Lib.Math.min.name, Cond.static Lib.Math.min.name, Cond.initialized "java/lang/Math", Cond.code Lib.Math.min.name Lib.Math.min.code 2 (some .int)]
def wsX2_copyFrom_r2 : List Cond := [Cond.methodLink RX4 258 arraycopyName, Cond.native arraycopyName, Cond.static arraycopyName, Cond.initialized "java/lang/System"]
def wsX2_copyFrom : List Cond := .code yX2_copyFrom cX2_copyFrom 2 none :: ((wsX2_copyFrom_r1 ++ wsX2_copyFrom_r2) ++ wsX20 ++ wsX30)
def wsX0_save_r1 : List Cond := [Cond.fieldLink RX0 18 "LyingScale$History" "count" "I", Cond.fieldLink RX0 11 "LyingScale$History" "states" "[LLyingScale$State;", Cond.methodLink RX0 22 yX0_dropOldest, Cond.instanceMethod yX0_dropOldest, Cond.selects RX0 yX0_dropOldest yX0_dropOldest, Cond.initialized RX0, Cond.code yX0_dropOldest cX0_dropOldest 4 none, Cond.methodLink RX0 25 yX0_stateAt, Cond.instanceMethod yX0_stateAt, Cond.selects RX0 yX0_stateAt yX0_stateAt, Cond.code yX0_stateAt cX0_stateAt 2 (some (.object "LyingScale$State")), Cond.methodLink RX0 29 yX2_copyFrom, Cond.instanceMethod yX2_copyFrom, Cond.selects RX2 yX2_copyFrom yX2_copyFrom, Cond.initialized RX2, Cond.code yX2_copyFrom cX2_copyFrom 2 none, Cond.fieldLink RX2 14 "LyingScale$State" "told" "LLyingScale$Weighings;", Cond.fieldLink RX2 20 "LyingScale$State" "plan" "LLyingScale$Weighings;", Cond.fieldLink RX2 23 "LyingScale$State" "liesOf" "[I", Cond.fieldLink RX2 33 "LyingScale$State" "coins" "I", Cond.fieldLink RX2 37 "LyingScale$State" "limit" "I", Cond.fieldLink RX2 58 "LyingScale$State" "hidden" "I", Cond.fieldLink RX2 61 "LyingScale$State" "lieSet" "I", Cond.fieldLink RX2 64 "LyingScale$State" "answered" "I"]
def wsX0_save_r2 : List Cond := [Cond.methodLink RX2 50 yX3_copyFrom, Cond.instanceMethod yX3_copyFrom, Cond.selects RX3 yX3_copyFrom yX3_copyFrom, Cond.initialized RX3, Cond.code yX3_copyFrom cX3_copyFrom 2 none, Cond.fieldLink RX3 15 "LyingScale$Weighings" "lefts" "[I", Cond.fieldLink RX3 21 "LyingScale$Weighings" "rights" "[I", Cond.fieldLink RX3 24 "LyingScale$Weighings" "answers" "[I", Cond.fieldLink RX3 31 "LyingScale$Weighings" "count" "I", Cond.static yX4_copyRow, Cond.initialized RX4, Cond.code yX4_copyRow cX4_copyRow 2 none, Cond.methodLink RX4 253 Lib.Math.min.name, Cond.static Lib.Math.min.name, Cond.initialized "java/lang/Math", Cond.code Lib.Math.min.name Lib.Math.min.code 2 (some .int), Cond.methodLink RX4 258 arraycopyName, Cond.native arraycopyName, Cond.static arraycopyName, Cond.initialized "java/lang/System"]
def wsX0_save : List Cond := .code yX0_save cX0_save 3 none :: ((wsX0_save_r1 ++ wsX0_save_r2) ++ wsX00 ++ wsX20 ++ wsX30)
def wsX0_restore_r1 : List Cond := [Cond.fieldLink RX0 18 "LyingScale$History" "count" "I", Cond.methodLink RX0 25 yX0_stateAt, Cond.instanceMethod yX0_stateAt, Cond.selects RX0 yX0_stateAt yX0_stateAt, Cond.initialized RX0, Cond.code yX0_stateAt cX0_stateAt 2 (some (.object "LyingScale$State")), Cond.fieldLink RX0 11 "LyingScale$History" "states" "[LLyingScale$State;", Cond.methodLink RX0 29 yX2_copyFrom, Cond.instanceMethod yX2_copyFrom, Cond.selects RX2 yX2_copyFrom yX2_copyFrom, Cond.initialized RX2, Cond.code yX2_copyFrom cX2_copyFrom 2 none, Cond.fieldLink RX2 14 "LyingScale$State" "told" "LLyingScale$Weighings;", Cond.fieldLink RX2 20 "LyingScale$State" "plan" "LLyingScale$Weighings;", Cond.fieldLink RX2 23 "LyingScale$State" "liesOf" "[I", Cond.fieldLink RX2 33 "LyingScale$State" "coins" "I", Cond.fieldLink RX2 37 "LyingScale$State" "limit" "I", Cond.fieldLink RX2 58 "LyingScale$State" "hidden" "I", Cond.fieldLink RX2 61 "LyingScale$State" "lieSet" "I", Cond.fieldLink RX2 64 "LyingScale$State" "answered" "I", Cond.methodLink RX2 50 yX3_copyFrom, Cond.instanceMethod yX3_copyFrom, Cond.selects RX3 yX3_copyFrom yX3_copyFrom, Cond.initialized RX3]
def wsX0_restore_r2 : List Cond := [Cond.code yX3_copyFrom cX3_copyFrom 2 none, Cond.fieldLink RX3 15 "LyingScale$Weighings" "lefts" "[I", Cond.fieldLink RX3 21 "LyingScale$Weighings" "rights" "[I", Cond.fieldLink RX3 24 "LyingScale$Weighings" "answers" "[I", Cond.fieldLink RX3 31 "LyingScale$Weighings" "count" "I", Cond.static yX4_copyRow, Cond.initialized RX4, Cond.code yX4_copyRow cX4_copyRow 2 none, Cond.methodLink RX4 253 Lib.Math.min.name, Cond.static Lib.Math.min.name, Cond.initialized "java/lang/Math", Cond.code Lib.Math.min.name Lib.Math.min.code 2 (some .int), Cond.methodLink RX4 258 arraycopyName, Cond.native arraycopyName, Cond.static arraycopyName, Cond.initialized "java/lang/System"]
def wsX0_restore : List Cond := .code yX0_restore cX0_restore 3 none :: ((wsX0_restore_r1 ++ wsX0_restore_r2) ++ wsX00 ++ wsX20 ++ wsX30)
def wsX1_init : List Cond := .code yX1_init cX1_init 1 none :: ([.methodLink RX1 3 objectInit, .instanceMethod objectInit, .code objectInit ⟨#[0xb1]⟩ 1 none, .arrayClass .int, .fieldLink RX1 9 "LyingScale$Orders" "bytes" "[I", .fieldLink RX1 15 "LyingScale$Orders" "lefts" "[I", .fieldLink RX1 18 "LyingScale$Orders" "rights" "[I", .fieldLink RX1 21 "LyingScale$Orders" "deeds" "[I"] ++ wsX10)
def wsX1_write : List Cond := .code yX1_write cX1_write 2 none :: ([.fieldLink RX1 24 "LyingScale$Orders" "length" "I", .fieldLink RX1 9 "LyingScale$Orders" "bytes" "[I", .static yX4_put, .initialized RX4, .code yX4_put cX4_put 3 none] ++ wsX10)
def wsX4_at : List Cond := .code yX4_at cX4_at 2 (some .int) :: ([])
def wsX1_coinOf : List Cond := .code yX1_coinOf cX1_coinOf 2 (some .int) :: ([.fieldLink RX1 46 "LyingScale$Orders" "left" "I", .fieldLink RX1 49 "LyingScale$Orders" "right" "I"] ++ wsX10)
def wsX1_goTo : List Cond := .code yX1_goTo cX1_goTo 2 (some .boolean) :: ([.fieldLink RX1 35 "LyingScale$Orders" "place" "I"] ++ wsX10)
def wsX1_takeLeft : List Cond := .code yX1_takeLeft cX1_takeLeft 3 (some .boolean) :: ([.fieldLink RX1 46 "LyingScale$Orders" "left" "I", .methodLink RX1 71 yX1_coinOf, .instanceMethod yX1_coinOf, .selects RX1 yX1_coinOf yX1_coinOf, .initialized RX1, .code yX1_coinOf cX1_coinOf 2 (some .int), .fieldLink RX1 49 "LyingScale$Orders" "right" "I", .methodLink RX1 55 yX1_goTo, .instanceMethod yX1_goTo, .selects RX1 yX1_goTo yX1_goTo, .code yX1_goTo cX1_goTo 2 (some .boolean), .fieldLink RX1 35 "LyingScale$Orders" "place" "I"] ++ wsX10)
def wsX1_takeRight : List Cond := .code yX1_takeRight cX1_takeRight 3 (some .boolean) :: ([.fieldLink RX1 49 "LyingScale$Orders" "right" "I", .methodLink RX1 71 yX1_coinOf, .instanceMethod yX1_coinOf, .selects RX1 yX1_coinOf yX1_coinOf, .initialized RX1, .code yX1_coinOf cX1_coinOf 2 (some .int), .fieldLink RX1 46 "LyingScale$Orders" "left" "I", .methodLink RX1 55 yX1_goTo, .instanceMethod yX1_goTo, .selects RX1 yX1_goTo yX1_goTo, .code yX1_goTo cX1_goTo 2 (some .boolean), .fieldLink RX1 35 "LyingScale$Orders" "place" "I"] ++ wsX10)
def wsX1_decide : List Cond := .code yX1_decide cX1_decide 2 (some .boolean) :: ([.fieldLink RX1 15 "LyingScale$Orders" "lefts" "[I", .fieldLink RX1 32 "LyingScale$Orders" "count" "I", .fieldLink RX1 46 "LyingScale$Orders" "left" "I", .fieldLink RX1 18 "LyingScale$Orders" "rights" "[I", .fieldLink RX1 49 "LyingScale$Orders" "right" "I", .fieldLink RX1 21 "LyingScale$Orders" "deeds" "[I", .static yX4_put, .initialized RX4, .code yX4_put cX4_put 3 none, .methodLink RX1 55 yX1_goTo, .instanceMethod yX1_goTo, .selects RX1 yX1_goTo yX1_goTo, .initialized RX1, .code yX1_goTo cX1_goTo 2 (some .boolean), .fieldLink RX1 35 "LyingScale$Orders" "place" "I"] ++ wsX10)
def wsX1_takeDeed : List Cond := .code yX1_takeDeed cX1_takeDeed 2 (some .boolean) :: ([.methodLink RX1 55 yX1_goTo, .instanceMethod yX1_goTo, .selects RX1 yX1_goTo yX1_goTo, .initialized RX1, .code yX1_goTo cX1_goTo 2 (some .boolean), .fieldLink RX1 35 "LyingScale$Orders" "place" "I", .methodLink RX1 75 yX1_decide, .instanceMethod yX1_decide, .selects RX1 yX1_decide yX1_decide, .code yX1_decide cX1_decide 2 (some .boolean), .fieldLink RX1 15 "LyingScale$Orders" "lefts" "[I", .fieldLink RX1 32 "LyingScale$Orders" "count" "I", .fieldLink RX1 46 "LyingScale$Orders" "left" "I", .fieldLink RX1 18 "LyingScale$Orders" "rights" "[I", .fieldLink RX1 49 "LyingScale$Orders" "right" "I", .fieldLink RX1 21 "LyingScale$Orders" "deeds" "[I", .static yX4_put, .initialized RX4, .code yX4_put cX4_put 3 none] ++ wsX10)
def wsX1_takeAnswer : List Cond := .code yX1_takeAnswer cX1_takeAnswer 2 (some .boolean) :: ([.methodLink RX1 75 yX1_decide, .instanceMethod yX1_decide, .selects RX1 yX1_decide yX1_decide, .initialized RX1, .code yX1_decide cX1_decide 2 (some .boolean), .fieldLink RX1 15 "LyingScale$Orders" "lefts" "[I", .fieldLink RX1 32 "LyingScale$Orders" "count" "I", .fieldLink RX1 46 "LyingScale$Orders" "left" "I", .fieldLink RX1 18 "LyingScale$Orders" "rights" "[I", .fieldLink RX1 49 "LyingScale$Orders" "right" "I", .fieldLink RX1 21 "LyingScale$Orders" "deeds" "[I", .static yX4_put, .initialized RX4, .code yX4_put cX4_put 3 none, .methodLink RX1 55 yX1_goTo, .instanceMethod yX1_goTo, .selects RX1 yX1_goTo yX1_goTo, .code yX1_goTo cX1_goTo 2 (some .boolean), .fieldLink RX1 35 "LyingScale$Orders" "place" "I"] ++ wsX10)
def wsX1_close : List Cond := .code yX1_close cX1_close 1 (some .boolean) :: ([.fieldLink RX1 32 "LyingScale$Orders" "count" "I", .methodLink RX1 55 yX1_goTo, .instanceMethod yX1_goTo, .selects RX1 yX1_goTo yX1_goTo, .initialized RX1, .code yX1_goTo cX1_goTo 2 (some .boolean), .fieldLink RX1 35 "LyingScale$Orders" "place" "I"] ++ wsX10)
def wsX1_take_r1 : List Cond := [Cond.fieldLink RX1 35 "LyingScale$Orders" "place" "I", Cond.fieldLink RX1 46 "LyingScale$Orders" "left" "I", Cond.fieldLink RX1 49 "LyingScale$Orders" "right" "I", Cond.methodLink RX1 52 yX1_takeLeft, Cond.instanceMethod yX1_takeLeft, Cond.selects RX1 yX1_takeLeft yX1_takeLeft, Cond.initialized RX1, Cond.code yX1_takeLeft cX1_takeLeft 3 (some .boolean), Cond.methodLink RX1 71 yX1_coinOf, Cond.instanceMethod yX1_coinOf, Cond.selects RX1 yX1_coinOf yX1_coinOf, Cond.code yX1_coinOf cX1_coinOf 2 (some .int), Cond.methodLink RX1 55 yX1_goTo, Cond.instanceMethod yX1_goTo, Cond.selects RX1 yX1_goTo yX1_goTo, Cond.code yX1_goTo cX1_goTo 2 (some .boolean), Cond.methodLink RX1 58 yX1_takeRight, Cond.instanceMethod yX1_takeRight, Cond.selects RX1 yX1_takeRight yX1_takeRight, Cond.code yX1_takeRight cX1_takeRight 3 (some .boolean), Cond.methodLink RX1 61 yX1_takeDeed, Cond.instanceMethod yX1_takeDeed, Cond.selects RX1 yX1_takeDeed yX1_takeDeed, Cond.code yX1_takeDeed cX1_takeDeed 2 (some .boolean)]
def wsX1_take_r2 : List Cond := [Cond.methodLink RX1 75 yX1_decide, Cond.instanceMethod yX1_decide, Cond.selects RX1 yX1_decide yX1_decide, Cond.code yX1_decide cX1_decide 2 (some .boolean), Cond.fieldLink RX1 15 "LyingScale$Orders" "lefts" "[I", Cond.fieldLink RX1 32 "LyingScale$Orders" "count" "I", Cond.fieldLink RX1 18 "LyingScale$Orders" "rights" "[I", Cond.fieldLink RX1 21 "LyingScale$Orders" "deeds" "[I", Cond.static yX4_put, Cond.initialized RX4, Cond.code yX4_put cX4_put 3 none, Cond.methodLink RX1 64 yX1_takeAnswer, Cond.instanceMethod yX1_takeAnswer, Cond.selects RX1 yX1_takeAnswer yX1_takeAnswer, Cond.code yX1_takeAnswer cX1_takeAnswer 2 (some .boolean), Cond.methodLink RX1 67 yX1_close, Cond.instanceMethod yX1_close, Cond.selects RX1 yX1_close yX1_close, Cond.code yX1_close cX1_close 1 (some .boolean)]
def wsX1_take : List Cond := .code yX1_take cX1_take 2 (some .boolean) :: ((wsX1_take_r1 ++ wsX1_take_r2) ++ wsX10)
def wsX1_read_r1 : List Cond := [Cond.fieldLink RX1 32 "LyingScale$Orders" "count" "I", Cond.fieldLink RX1 35 "LyingScale$Orders" "place" "I", Cond.fieldLink RX1 24 "LyingScale$Orders" "length" "I", Cond.fieldLink RX1 9 "LyingScale$Orders" "bytes" "[I", Cond.static yX4_at, Cond.initialized RX4, Cond.code yX4_at cX4_at 2 (some .int), Cond.methodLink RX1 42 yX1_take, Cond.instanceMethod yX1_take, Cond.selects RX1 yX1_take yX1_take, Cond.initialized RX1, Cond.code yX1_take cX1_take 2 (some .boolean), Cond.fieldLink RX1 46 "LyingScale$Orders" "left" "I", Cond.fieldLink RX1 49 "LyingScale$Orders" "right" "I", Cond.methodLink RX1 52 yX1_takeLeft, Cond.instanceMethod yX1_takeLeft, Cond.selects RX1 yX1_takeLeft yX1_takeLeft, Cond.code yX1_takeLeft cX1_takeLeft 3 (some .boolean), Cond.methodLink RX1 71 yX1_coinOf, Cond.instanceMethod yX1_coinOf, Cond.selects RX1 yX1_coinOf yX1_coinOf, Cond.code yX1_coinOf cX1_coinOf 2 (some .int), Cond.methodLink RX1 55 yX1_goTo, Cond.instanceMethod yX1_goTo]
def wsX1_read_r2 : List Cond := [Cond.selects RX1 yX1_goTo yX1_goTo, Cond.code yX1_goTo cX1_goTo 2 (some .boolean), Cond.methodLink RX1 58 yX1_takeRight, Cond.instanceMethod yX1_takeRight, Cond.selects RX1 yX1_takeRight yX1_takeRight, Cond.code yX1_takeRight cX1_takeRight 3 (some .boolean), Cond.methodLink RX1 61 yX1_takeDeed, Cond.instanceMethod yX1_takeDeed, Cond.selects RX1 yX1_takeDeed yX1_takeDeed, Cond.code yX1_takeDeed cX1_takeDeed 2 (some .boolean), Cond.methodLink RX1 75 yX1_decide, Cond.instanceMethod yX1_decide, Cond.selects RX1 yX1_decide yX1_decide, Cond.code yX1_decide cX1_decide 2 (some .boolean), Cond.fieldLink RX1 15 "LyingScale$Orders" "lefts" "[I", Cond.fieldLink RX1 18 "LyingScale$Orders" "rights" "[I", Cond.fieldLink RX1 21 "LyingScale$Orders" "deeds" "[I", Cond.static yX4_put, Cond.code yX4_put cX4_put 3 none, Cond.methodLink RX1 64 yX1_takeAnswer, Cond.instanceMethod yX1_takeAnswer, Cond.selects RX1 yX1_takeAnswer yX1_takeAnswer, Cond.code yX1_takeAnswer cX1_takeAnswer 2 (some .boolean), Cond.methodLink RX1 67 yX1_close]
def wsX1_read_r3 : List Cond := [Cond.instanceMethod yX1_close, Cond.selects RX1 yX1_close yX1_close, Cond.code yX1_close cX1_close 1 (some .boolean)]
def wsX1_read : List Cond := .code yX1_read cX1_read 2 (some .int) :: ((wsX1_read_r1 ++ (wsX1_read_r2 ++ wsX1_read_r3)) ++ wsX10)
def wsX2_cases : List Cond := .code yX2_cases cX2_cases 1 (some .int) :: ([.fieldLink RX2 33 "LyingScale$State" "coins" "I"] ++ wsX20)
def wsX2_isCase : List Cond := .code yX2_isCase cX2_isCase 2 (some .boolean) :: ([.methodLink RX2 67 yX2_cases, .instanceMethod yX2_cases, .selects RX2 yX2_cases yX2_cases, .initialized RX2, .code yX2_cases cX2_cases 1 (some .int), .fieldLink RX2 33 "LyingScale$State" "coins" "I"] ++ wsX20)
def wsJ6_bitCount_0f7a4 : List Cond := .code yJ6_bitCount_0f7a4 cJ6_bitCount_0f7a4 1 (some .int) :: ([.constant RJ6 265 (1431655765), .constant RJ6 266 (858993459), .constant RJ6 267 (252645135)])
def wsX2_isWeighing : List Cond := .code yX2_isWeighing cX2_isWeighing 3 (some .boolean) :: ([.fieldLink RX2 33 "LyingScale$State" "coins" "I", .methodLink RX2 71 yJ6_bitCount_0f7a4, .static yJ6_bitCount_0f7a4, .initialized RJ6, .code yJ6_bitCount_0f7a4 cJ6_bitCount_0f7a4 1 (some .int), .constant RJ6 265 (1431655765), .constant RJ6 266 (858993459), .constant RJ6 267 (252645135)] ++ wsX20)
def wsX2_canLearn : List Cond := .code yX2_canLearn cX2_canLearn 1 (some .boolean) :: ([.fieldLink RX2 14 "LyingScale$State" "told" "LLyingScale$Weighings;"] ++ wsX20 ++ wsX30)
def wsX3_write : List Cond := .code yX3_write cX3_write 4 none :: ([.fieldLink RX3 31 "LyingScale$Weighings" "count" "I", .fieldLink RX3 15 "LyingScale$Weighings" "lefts" "[I", .fieldLink RX3 21 "LyingScale$Weighings" "rights" "[I", .fieldLink RX3 24 "LyingScale$Weighings" "answers" "[I", .static yX4_put, .initialized RX4, .code yX4_put cX4_put 3 none] ++ wsX30)
def wsX4_coinBit : List Cond := .code yX4_coinBit cX4_coinBit 1 (some .int) :: ([])
def wsX4_trueAnswer : List Cond := .code yX4_trueAnswer cX4_trueAnswer 5 (some .int) :: ([.methodLink RX4 264 yX4_coinBit, .static yX4_coinBit, .initialized RX4, .code yX4_coinBit cX4_coinBit 1 (some .int)])
def wsX2_liesIfTold : List Cond := .code yX2_liesIfTold cX2_liesIfTold 6 (some .int) :: ([.fieldLink RX2 23 "LyingScale$State" "liesOf" "[I", .static yX4_at, .initialized RX4, .code yX4_at cX4_at 2 (some .int), .static yX4_trueAnswer, .code yX4_trueAnswer cX4_trueAnswer 5 (some .int), .methodLink RX4 264 yX4_coinBit, .static yX4_coinBit, .code yX4_coinBit cX4_coinBit 1 (some .int)] ++ wsX20)
def wsX2_learn_r1 : List Cond := [Cond.fieldLink RX2 14 "LyingScale$State" "told" "LLyingScale$Weighings;", Cond.fieldLink RX2 23 "LyingScale$State" "liesOf" "[I", Cond.methodLink RX2 77 yX3_write, Cond.instanceMethod yX3_write, Cond.selects RX3 yX3_write yX3_write, Cond.initialized RX3, Cond.code yX3_write cX3_write 4 none, Cond.fieldLink RX3 31 "LyingScale$Weighings" "count" "I", Cond.fieldLink RX3 15 "LyingScale$Weighings" "lefts" "[I", Cond.fieldLink RX3 21 "LyingScale$Weighings" "rights" "[I", Cond.fieldLink RX3 24 "LyingScale$Weighings" "answers" "[I", Cond.static yX4_put, Cond.initialized RX4, Cond.code yX4_put cX4_put 3 none, Cond.methodLink RX2 67 yX2_cases, Cond.instanceMethod yX2_cases, Cond.selects RX2 yX2_cases yX2_cases, Cond.initialized RX2, Cond.code yX2_cases cX2_cases 1 (some .int), Cond.fieldLink RX2 33 "LyingScale$State" "coins" "I", Cond.methodLink RX2 81 yX2_liesIfTold, Cond.instanceMethod yX2_liesIfTold, Cond.selects RX2 yX2_liesIfTold yX2_liesIfTold, Cond.code yX2_liesIfTold cX2_liesIfTold 6 (some .int)]
def wsX2_learn_r2 : List Cond := [Cond.static yX4_at, Cond.code yX4_at cX4_at 2 (some .int), Cond.static yX4_trueAnswer, Cond.code yX4_trueAnswer cX4_trueAnswer 5 (some .int), Cond.methodLink RX4 264 yX4_coinBit, Cond.static yX4_coinBit, Cond.code yX4_coinBit cX4_coinBit 1 (some .int)]
def wsX2_learn : List Cond := .code yX2_learn cX2_learn 5 none :: ((wsX2_learn_r1 ++ wsX2_learn_r2) ++ wsX20 ++ wsX30)
def wsX2_canReply : List Cond := .code yX2_canReply cX2_canReply 1 (some .boolean) :: ([.fieldLink RX2 58 "LyingScale$State" "hidden" "I", .fieldLink RX2 64 "LyingScale$State" "answered" "I", .methodLink RX2 97 yX2_canLearn, .instanceMethod yX2_canLearn, .selects RX2 yX2_canLearn yX2_canLearn, .initialized RX2, .code yX2_canLearn cX2_canLearn 1 (some .boolean), .fieldLink RX2 14 "LyingScale$State" "told" "LLyingScale$Weighings;"] ++ wsX20 ++ wsX30)
def wsX2_reply_r1 : List Cond := [Cond.fieldLink RX2 58 "LyingScale$State" "hidden" "I", Cond.fieldLink RX2 61 "LyingScale$State" "lieSet" "I", Cond.fieldLink RX2 64 "LyingScale$State" "answered" "I", Cond.static yX4_trueAnswer, Cond.initialized RX4, Cond.code yX4_trueAnswer cX4_trueAnswer 5 (some .int), Cond.methodLink RX4 264 yX4_coinBit, Cond.static yX4_coinBit, Cond.code yX4_coinBit cX4_coinBit 1 (some .int), Cond.methodLink RX2 101 yX2_learn, Cond.instanceMethod yX2_learn, Cond.selects RX2 yX2_learn yX2_learn, Cond.initialized RX2, Cond.code yX2_learn cX2_learn 5 none, Cond.fieldLink RX2 14 "LyingScale$State" "told" "LLyingScale$Weighings;", Cond.fieldLink RX2 23 "LyingScale$State" "liesOf" "[I", Cond.methodLink RX2 77 yX3_write, Cond.instanceMethod yX3_write, Cond.selects RX3 yX3_write yX3_write, Cond.initialized RX3, Cond.code yX3_write cX3_write 4 none, Cond.fieldLink RX3 31 "LyingScale$Weighings" "count" "I", Cond.fieldLink RX3 15 "LyingScale$Weighings" "lefts" "[I", Cond.fieldLink RX3 21 "LyingScale$Weighings" "rights" "[I"]
def wsX2_reply_r2 : List Cond := [Cond.fieldLink RX3 24 "LyingScale$Weighings" "answers" "[I", Cond.static yX4_put, Cond.code yX4_put cX4_put 3 none, Cond.methodLink RX2 67 yX2_cases, Cond.instanceMethod yX2_cases, Cond.selects RX2 yX2_cases yX2_cases, Cond.code yX2_cases cX2_cases 1 (some .int), Cond.fieldLink RX2 33 "LyingScale$State" "coins" "I", Cond.methodLink RX2 81 yX2_liesIfTold, Cond.instanceMethod yX2_liesIfTold, Cond.selects RX2 yX2_liesIfTold yX2_liesIfTold, Cond.code yX2_liesIfTold cX2_liesIfTold 6 (some .int), Cond.static yX4_at, Cond.code yX4_at cX4_at 2 (some .int)]
def wsX2_reply : List Cond := .code yX2_reply cX2_reply 4 (some .int) :: ((wsX2_reply_r1 ++ wsX2_reply_r2) ++ wsX20 ++ wsX30)
def wsX2_canPlan : List Cond := .code yX2_canPlan cX2_canPlan 1 (some .boolean) :: ([.fieldLink RX2 20 "LyingScale$State" "plan" "LLyingScale$Weighings;"] ++ wsX20 ++ wsX30)
def wsX2_planWeighing : List Cond := .code yX2_planWeighing cX2_planWeighing 3 none :: ([.fieldLink RX2 20 "LyingScale$State" "plan" "LLyingScale$Weighings;", .methodLink RX2 77 yX3_write, .instanceMethod yX3_write, .selects RX3 yX3_write yX3_write, .initialized RX3, .code yX3_write cX3_write 4 none, .fieldLink RX3 31 "LyingScale$Weighings" "count" "I", .fieldLink RX3 15 "LyingScale$Weighings" "lefts" "[I", .fieldLink RX3 21 "LyingScale$Weighings" "rights" "[I", .fieldLink RX3 24 "LyingScale$Weighings" "answers" "[I", .static yX4_put, .initialized RX4, .code yX4_put cX4_put 3 none] ++ wsX20 ++ wsX30)
def wsX2_canDo : List Cond := .code yX2_canDo cX2_canDo 2 (some .boolean) :: ([.methodLink RX2 119 yX2_canReply, .instanceMethod yX2_canReply, .selects RX2 yX2_canReply yX2_canReply, .initialized RX2, .code yX2_canReply cX2_canReply 1 (some .boolean), .fieldLink RX2 58 "LyingScale$State" "hidden" "I", .fieldLink RX2 64 "LyingScale$State" "answered" "I", .methodLink RX2 97 yX2_canLearn, .instanceMethod yX2_canLearn, .selects RX2 yX2_canLearn yX2_canLearn, .code yX2_canLearn cX2_canLearn 1 (some .boolean), .fieldLink RX2 14 "LyingScale$State" "told" "LLyingScale$Weighings;", .methodLink RX2 122 yX2_canPlan, .instanceMethod yX2_canPlan, .selects RX2 yX2_canPlan yX2_canPlan, .code yX2_canPlan cX2_canPlan 1 (some .boolean), .fieldLink RX2 20 "LyingScale$State" "plan" "LLyingScale$Weighings;"] ++ wsX20 ++ wsX30)
def wsX2_obey_r1 : List Cond := [Cond.methodLink RX2 104 yX2_isWeighing, Cond.instanceMethod yX2_isWeighing, Cond.selects RX2 yX2_isWeighing yX2_isWeighing, Cond.initialized RX2, Cond.code yX2_isWeighing cX2_isWeighing 3 (some .boolean), Cond.fieldLink RX2 33 "LyingScale$State" "coins" "I", Cond.methodLink RX2 71 yJ6_bitCount_0f7a4, Cond.static yJ6_bitCount_0f7a4, Cond.initialized RJ6, Cond.code yJ6_bitCount_0f7a4 cJ6_bitCount_0f7a4 1 (some .int), Cond.constant RJ6 265 (1431655765), Cond.constant RJ6 266 (858993459), Cond.constant RJ6 267 (252645135), Cond.methodLink RX2 108 yX2_canDo, Cond.instanceMethod yX2_canDo, Cond.selects RX2 yX2_canDo yX2_canDo, Cond.code yX2_canDo cX2_canDo 2 (some .boolean), Cond.methodLink RX2 119 yX2_canReply, Cond.instanceMethod yX2_canReply, Cond.selects RX2 yX2_canReply yX2_canReply, Cond.code yX2_canReply cX2_canReply 1 (some .boolean), Cond.fieldLink RX2 58 "LyingScale$State" "hidden" "I", Cond.fieldLink RX2 64 "LyingScale$State" "answered" "I", Cond.methodLink RX2 97 yX2_canLearn]
def wsX2_obey_r2 : List Cond := [Cond.instanceMethod yX2_canLearn, Cond.selects RX2 yX2_canLearn yX2_canLearn, Cond.code yX2_canLearn cX2_canLearn 1 (some .boolean), Cond.fieldLink RX2 14 "LyingScale$State" "told" "LLyingScale$Weighings;", Cond.methodLink RX2 122 yX2_canPlan, Cond.instanceMethod yX2_canPlan, Cond.selects RX2 yX2_canPlan yX2_canPlan, Cond.code yX2_canPlan cX2_canPlan 1 (some .boolean), Cond.fieldLink RX2 20 "LyingScale$State" "plan" "LLyingScale$Weighings;", Cond.methodLink RX2 112 yX2_reply, Cond.instanceMethod yX2_reply, Cond.selects RX2 yX2_reply yX2_reply, Cond.code yX2_reply cX2_reply 4 (some .int), Cond.fieldLink RX2 61 "LyingScale$State" "lieSet" "I", Cond.static yX4_trueAnswer, Cond.initialized RX4, Cond.code yX4_trueAnswer cX4_trueAnswer 5 (some .int), Cond.methodLink RX4 264 yX4_coinBit, Cond.static yX4_coinBit, Cond.code yX4_coinBit cX4_coinBit 1 (some .int), Cond.methodLink RX2 101 yX2_learn, Cond.instanceMethod yX2_learn, Cond.selects RX2 yX2_learn yX2_learn, Cond.code yX2_learn cX2_learn 5 none]
def wsX2_obey_r3 : List Cond := [Cond.fieldLink RX2 23 "LyingScale$State" "liesOf" "[I", Cond.methodLink RX2 77 yX3_write, Cond.instanceMethod yX3_write, Cond.selects RX3 yX3_write yX3_write, Cond.initialized RX3, Cond.code yX3_write cX3_write 4 none, Cond.fieldLink RX3 31 "LyingScale$Weighings" "count" "I", Cond.fieldLink RX3 15 "LyingScale$Weighings" "lefts" "[I", Cond.fieldLink RX3 21 "LyingScale$Weighings" "rights" "[I", Cond.fieldLink RX3 24 "LyingScale$Weighings" "answers" "[I", Cond.static yX4_put, Cond.code yX4_put cX4_put 3 none, Cond.methodLink RX2 67 yX2_cases, Cond.instanceMethod yX2_cases, Cond.selects RX2 yX2_cases yX2_cases, Cond.code yX2_cases cX2_cases 1 (some .int), Cond.methodLink RX2 81 yX2_liesIfTold, Cond.instanceMethod yX2_liesIfTold, Cond.selects RX2 yX2_liesIfTold yX2_liesIfTold, Cond.code yX2_liesIfTold cX2_liesIfTold 6 (some .int), Cond.static yX4_at, Cond.code yX4_at cX4_at 2 (some .int), Cond.methodLink RX2 116 yX2_planWeighing, Cond.instanceMethod yX2_planWeighing]
def wsX2_obey_r4 : List Cond := [Cond.selects RX2 yX2_planWeighing yX2_planWeighing, Cond.code yX2_planWeighing cX2_planWeighing 3 none]
def wsX2_obey : List Cond := .code yX2_obey cX2_obey 4 (some .boolean) :: ((wsX2_obey_r1 ++ (wsX2_obey_r2 ++ (wsX2_obey_r3 ++ wsX2_obey_r4))) ++ wsX20 ++ wsX30)
def wsX2_isLeft : List Cond := .code yX2_isLeft cX2_isLeft 2 (some .boolean) :: ([.fieldLink RX2 23 "LyingScale$State" "liesOf" "[I", .fieldLink RX2 37 "LyingScale$State" "limit" "I", .static yX4_at, .initialized RX4, .code yX4_at cX4_at 2 (some .int)] ++ wsX20)
def wsX2_countLeft : List Cond := .code yX2_countLeft cX2_countLeft 3 (some .int) :: ([.methodLink RX2 67 yX2_cases, .instanceMethod yX2_cases, .selects RX2 yX2_cases yX2_cases, .initialized RX2, .code yX2_cases cX2_cases 1 (some .int), .fieldLink RX2 33 "LyingScale$State" "coins" "I", .methodLink RX2 125 yX2_isLeft, .instanceMethod yX2_isLeft, .selects RX2 yX2_isLeft yX2_isLeft, .code yX2_isLeft cX2_isLeft 2 (some .boolean), .fieldLink RX2 23 "LyingScale$State" "liesOf" "[I", .fieldLink RX2 37 "LyingScale$State" "limit" "I", .static yX4_at, .initialized RX4, .code yX4_at cX4_at 2 (some .int)] ++ wsX20)
def wsX2_findLeft : List Cond := .code yX2_findLeft cX2_findLeft 4 (some .int) :: ([.methodLink RX2 67 yX2_cases, .instanceMethod yX2_cases, .selects RX2 yX2_cases yX2_cases, .initialized RX2, .code yX2_cases cX2_cases 1 (some .int), .fieldLink RX2 33 "LyingScale$State" "coins" "I", .methodLink RX2 125 yX2_isLeft, .instanceMethod yX2_isLeft, .selects RX2 yX2_isLeft yX2_isLeft, .code yX2_isLeft cX2_isLeft 2 (some .boolean), .fieldLink RX2 23 "LyingScale$State" "liesOf" "[I", .fieldLink RX2 37 "LyingScale$State" "limit" "I", .static yX4_at, .initialized RX4, .code yX4_at cX4_at 2 (some .int)] ++ wsX20)
def wsX2_falseCoins : List Cond := .code yX2_falseCoins cX2_falseCoins 3 (some .int) :: ([.methodLink RX2 67 yX2_cases, .instanceMethod yX2_cases, .selects RX2 yX2_cases yX2_cases, .initialized RX2, .code yX2_cases cX2_cases 1 (some .int), .fieldLink RX2 33 "LyingScale$State" "coins" "I", .methodLink RX2 125 yX2_isLeft, .instanceMethod yX2_isLeft, .selects RX2 yX2_isLeft yX2_isLeft, .code yX2_isLeft cX2_isLeft 2 (some .boolean), .fieldLink RX2 23 "LyingScale$State" "liesOf" "[I", .fieldLink RX2 37 "LyingScale$State" "limit" "I", .static yX4_at, .initialized RX4, .code yX4_at cX4_at 2 (some .int), .static yX4_coinBit, .code yX4_coinBit cX4_coinBit 1 (some .int)] ++ wsX20)
def wsX2_number_r1 : List Cond := [Cond.fieldLink RX2 33 "LyingScale$State" "coins" "I", Cond.fieldLink RX2 37 "LyingScale$State" "limit" "I", Cond.fieldLink RX2 14 "LyingScale$State" "told" "LLyingScale$Weighings;", Cond.fieldLink RX2 20 "LyingScale$State" "plan" "LLyingScale$Weighings;", Cond.fieldLink RX2 58 "LyingScale$State" "hidden" "I", Cond.fieldLink RX2 64 "LyingScale$State" "answered" "I", Cond.methodLink RX2 131 yX2_countLeft, Cond.instanceMethod yX2_countLeft, Cond.selects RX2 yX2_countLeft yX2_countLeft, Cond.initialized RX2, Cond.code yX2_countLeft cX2_countLeft 3 (some .int), Cond.methodLink RX2 67 yX2_cases, Cond.instanceMethod yX2_cases, Cond.selects RX2 yX2_cases yX2_cases, Cond.code yX2_cases cX2_cases 1 (some .int), Cond.methodLink RX2 125 yX2_isLeft, Cond.instanceMethod yX2_isLeft, Cond.selects RX2 yX2_isLeft yX2_isLeft, Cond.code yX2_isLeft cX2_isLeft 2 (some .boolean), Cond.fieldLink RX2 23 "LyingScale$State" "liesOf" "[I", Cond.static yX4_at, Cond.initialized RX4, Cond.code yX4_at cX4_at 2 (some .int), Cond.methodLink RX2 134 yX2_falseCoins]
def wsX2_number_r2 : List Cond := [Cond.instanceMethod yX2_falseCoins, Cond.selects RX2 yX2_falseCoins yX2_falseCoins, Cond.code yX2_falseCoins cX2_falseCoins 3 (some .int), Cond.static yX4_coinBit, Cond.code yX4_coinBit cX4_coinBit 1 (some .int)]
def wsX2_number : List Cond := .code yX2_number cX2_number 2 (some .int) :: ((wsX2_number_r1 ++ wsX2_number_r2) ++ wsX20 ++ wsX30)
def wsX4_volume : List Cond := .code yX4_volume cX4_volume 8 (some .long) :: ([.methodLink RX4 253 Lib.Math.min.name, .static Lib.Math.min.name, .initialized "java/lang/Math", .code Lib.Math.min.name Lib.Math.min.code 2 (some .int)])
def wsX2_volumeLeft : List Cond := .code yX2_volumeLeft cX2_volumeLeft 3 (some .long) :: ([.fieldLink RX2 37 "LyingScale$State" "limit" "I", .static yX4_volume, .initialized RX4, .code yX4_volume cX4_volume 8 (some .long), .methodLink RX4 253 Lib.Math.min.name, .static Lib.Math.min.name, .initialized "java/lang/Math", .code Lib.Math.min.name Lib.Math.min.code 2 (some .int)] ++ wsX20)
def wsX2_weightAhead : List Cond := .code yX2_weightAhead cX2_weightAhead 5 (some .long) :: ([.fieldLink RX2 23 "LyingScale$State" "liesOf" "[I", .methodLink RX2 67 yX2_cases, .instanceMethod yX2_cases, .selects RX2 yX2_cases yX2_cases, .initialized RX2, .code yX2_cases cX2_cases 1 (some .int), .fieldLink RX2 33 "LyingScale$State" "coins" "I", .static yX4_at, .initialized RX4, .code yX4_at cX4_at 2 (some .int), .methodLink RX2 137 yX2_volumeLeft, .instanceMethod yX2_volumeLeft, .selects RX2 yX2_volumeLeft yX2_volumeLeft, .code yX2_volumeLeft cX2_volumeLeft 3 (some .long), .fieldLink RX2 37 "LyingScale$State" "limit" "I", .static yX4_volume, .code yX4_volume cX4_volume 8 (some .long), .methodLink RX4 253 Lib.Math.min.name, .static Lib.Math.min.name, .initialized "java/lang/Math", .code Lib.Math.min.name Lib.Math.min.code 2 (some .int)] ++ wsX20)
def wsX2_weightIfTold_r1 : List Cond := [Cond.methodLink RX2 67 yX2_cases, Cond.instanceMethod yX2_cases, Cond.selects RX2 yX2_cases yX2_cases, Cond.initialized RX2, Cond.code yX2_cases cX2_cases 1 (some .int), Cond.fieldLink RX2 33 "LyingScale$State" "coins" "I", Cond.methodLink RX2 81 yX2_liesIfTold, Cond.instanceMethod yX2_liesIfTold, Cond.selects RX2 yX2_liesIfTold yX2_liesIfTold, Cond.code yX2_liesIfTold cX2_liesIfTold 6 (some .int), Cond.fieldLink RX2 23 "LyingScale$State" "liesOf" "[I", Cond.static yX4_at, Cond.initialized RX4, Cond.code yX4_at cX4_at 2 (some .int), Cond.static yX4_trueAnswer, Cond.code yX4_trueAnswer cX4_trueAnswer 5 (some .int), Cond.methodLink RX4 264 yX4_coinBit, Cond.static yX4_coinBit, Cond.code yX4_coinBit cX4_coinBit 1 (some .int), Cond.methodLink RX2 137 yX2_volumeLeft, Cond.instanceMethod yX2_volumeLeft, Cond.selects RX2 yX2_volumeLeft yX2_volumeLeft, Cond.code yX2_volumeLeft cX2_volumeLeft 3 (some .long), Cond.fieldLink RX2 37 "LyingScale$State" "limit" "I"]
def wsX2_weightIfTold_r2 : List Cond := [Cond.static yX4_volume, Cond.code yX4_volume cX4_volume 8 (some .long), Cond.methodLink RX4 253 Lib.Math.min.name, Cond.static Lib.Math.min.name, Cond.initialized "java/lang/Math", Cond.code Lib.Math.min.name Lib.Math.min.code 2 (some .int)]
def wsX2_weightIfTold : List Cond := .code yX2_weightIfTold cX2_weightIfTold 8 (some .long) :: ((wsX2_weightIfTold_r1 ++ wsX2_weightIfTold_r2) ++ wsX20)
def wsX2_badness_r1 : List Cond := [Cond.methodLink RX2 148 Lib.MathLoose.max_long.x, Cond.static Lib.MathLoose.max_long.x, Cond.initialized "java/lang/Math", Cond.code Lib.MathLoose.max_long.x Lib.MathLoose.max_long.code 4 (some .long), Cond.methodLink RX2 144 yX2_weightIfTold, Cond.instanceMethod yX2_weightIfTold, Cond.selects RX2 yX2_weightIfTold yX2_weightIfTold, Cond.initialized RX2, Cond.code yX2_weightIfTold cX2_weightIfTold 8 (some .long), Cond.methodLink RX2 67 yX2_cases, Cond.instanceMethod yX2_cases, Cond.selects RX2 yX2_cases yX2_cases, Cond.code yX2_cases cX2_cases 1 (some .int), Cond.fieldLink RX2 33 "LyingScale$State" "coins" "I", Cond.methodLink RX2 81 yX2_liesIfTold, Cond.instanceMethod yX2_liesIfTold, Cond.selects RX2 yX2_liesIfTold yX2_liesIfTold, Cond.code yX2_liesIfTold cX2_liesIfTold 6 (some .int), Cond.fieldLink RX2 23 "LyingScale$State" "liesOf" "[I", Cond.static yX4_at, Cond.initialized RX4, Cond.code yX4_at cX4_at 2 (some .int), Cond.static yX4_trueAnswer, Cond.code yX4_trueAnswer cX4_trueAnswer 5 (some .int)]
def wsX2_badness_r2 : List Cond := [Cond.methodLink RX4 264 yX4_coinBit, Cond.static yX4_coinBit, Cond.code yX4_coinBit cX4_coinBit 1 (some .int), Cond.methodLink RX2 137 yX2_volumeLeft, Cond.instanceMethod yX2_volumeLeft, Cond.selects RX2 yX2_volumeLeft yX2_volumeLeft, Cond.code yX2_volumeLeft cX2_volumeLeft 3 (some .long), Cond.fieldLink RX2 37 "LyingScale$State" "limit" "I", Cond.static yX4_volume, Cond.code yX4_volume cX4_volume 8 (some .long), Cond.methodLink RX4 253 Lib.Math.min.name, Cond.static Lib.Math.min.name, Cond.code Lib.Math.min.name Lib.Math.min.code 2 (some .int)]
def wsX2_badness : List Cond := .code yX2_badness cX2_badness 8 (some .long) :: ((wsX2_badness_r1 ++ wsX2_badness_r2) ++ wsX20)
def wsX2_findGroup_r1 : List Cond := [Cond.fieldLink RX2 33 "LyingScale$State" "coins" "I", Cond.methodLink RX2 154 yX2_badness, Cond.instanceMethod yX2_badness, Cond.selects RX2 yX2_badness yX2_badness, Cond.initialized RX2, Cond.code yX2_badness cX2_badness 8 (some .long), Cond.methodLink RX2 148 Lib.MathLoose.max_long.x, Cond.static Lib.MathLoose.max_long.x, Cond.initialized "java/lang/Math", Cond.code Lib.MathLoose.max_long.x Lib.MathLoose.max_long.code 4 (some .long), Cond.methodLink RX2 144 yX2_weightIfTold, Cond.instanceMethod yX2_weightIfTold, Cond.selects RX2 yX2_weightIfTold yX2_weightIfTold, Cond.code yX2_weightIfTold cX2_weightIfTold 8 (some .long), Cond.methodLink RX2 67 yX2_cases, Cond.instanceMethod yX2_cases, Cond.selects RX2 yX2_cases yX2_cases, Cond.code yX2_cases cX2_cases 1 (some .int), Cond.methodLink RX2 81 yX2_liesIfTold, Cond.instanceMethod yX2_liesIfTold, Cond.selects RX2 yX2_liesIfTold yX2_liesIfTold, Cond.code yX2_liesIfTold cX2_liesIfTold 6 (some .int), Cond.fieldLink RX2 23 "LyingScale$State" "liesOf" "[I", Cond.static yX4_at]
def wsX2_findGroup_r2 : List Cond := [Cond.initialized RX4, Cond.code yX4_at cX4_at 2 (some .int), Cond.static yX4_trueAnswer, Cond.code yX4_trueAnswer cX4_trueAnswer 5 (some .int), Cond.methodLink RX4 264 yX4_coinBit, Cond.static yX4_coinBit, Cond.code yX4_coinBit cX4_coinBit 1 (some .int), Cond.methodLink RX2 137 yX2_volumeLeft, Cond.instanceMethod yX2_volumeLeft, Cond.selects RX2 yX2_volumeLeft yX2_volumeLeft, Cond.code yX2_volumeLeft cX2_volumeLeft 3 (some .long), Cond.fieldLink RX2 37 "LyingScale$State" "limit" "I", Cond.static yX4_volume, Cond.code yX4_volume cX4_volume 8 (some .long), Cond.methodLink RX4 253 Lib.Math.min.name, Cond.static Lib.Math.min.name, Cond.code Lib.Math.min.name Lib.Math.min.code 2 (some .int)]
def wsX2_findGroup : List Cond := .code yX2_findGroup cX2_findGroup 8 (some .int) :: ((wsX2_findGroup_r1 ++ wsX2_findGroup_r2) ++ wsX20)
def wsX2_differs : List Cond := .code yX2_differs cX2_differs 6 (some .boolean) :: ([.methodLink RX2 67 yX2_cases, .instanceMethod yX2_cases, .selects RX2 yX2_cases yX2_cases, .initialized RX2, .code yX2_cases cX2_cases 1 (some .int), .fieldLink RX2 33 "LyingScale$State" "coins" "I", .methodLink RX2 125 yX2_isLeft, .instanceMethod yX2_isLeft, .selects RX2 yX2_isLeft yX2_isLeft, .code yX2_isLeft cX2_isLeft 2 (some .boolean), .fieldLink RX2 23 "LyingScale$State" "liesOf" "[I", .fieldLink RX2 37 "LyingScale$State" "limit" "I", .static yX4_at, .initialized RX4, .code yX4_at cX4_at 2 (some .int), .static yX4_trueAnswer, .code yX4_trueAnswer cX4_trueAnswer 5 (some .int), .methodLink RX4 264 yX4_coinBit, .static yX4_coinBit, .code yX4_coinBit cX4_coinBit 1 (some .int)] ++ wsX20)
def wsX3_codeWord : List Cond := .code yX3_codeWord cX3_codeWord 4 (some .int) :: ([.fieldLink RX3 31 "LyingScale$Weighings" "count" "I", .fieldLink RX3 15 "LyingScale$Weighings" "lefts" "[I", .fieldLink RX3 21 "LyingScale$Weighings" "rights" "[I", .static yX4_at, .initialized RX4, .code yX4_at cX4_at 2 (some .int), .static yX4_trueAnswer, .code yX4_trueAnswer cX4_trueAnswer 5 (some .int), .methodLink RX4 264 yX4_coinBit, .static yX4_coinBit, .code yX4_coinBit cX4_coinBit 1 (some .int)] ++ wsX30)
def wsX4_differences : List Cond := .code yX4_differences cX4_differences 3 (some .int) :: ([.methodLink RX4 267 yJ6_bitCount_0f7a4, .static yJ6_bitCount_0f7a4, .initialized RJ6, .code yJ6_bitCount_0f7a4 cJ6_bitCount_0f7a4 1 (some .int), .constant RJ6 265 (1431655765), .constant RJ6 266 (858993459), .constant RJ6 267 (252645135)])
def wsX2_leastDifferences_r1 : List Cond := [Cond.fieldLink RX2 27 "LyingScale$State" "words" "[I", Cond.fieldLink RX2 20 "LyingScale$State" "plan" "LLyingScale$Weighings;", Cond.methodLink RX2 163 Lib.Math.min.name, Cond.static Lib.Math.min.name, Cond.initialized "java/lang/Math", Cond.code Lib.Math.min.name Lib.Math.min.code 2 (some .int), Cond.methodLink RX2 67 yX2_cases, Cond.instanceMethod yX2_cases, Cond.selects RX2 yX2_cases yX2_cases, Cond.initialized RX2, Cond.code yX2_cases cX2_cases 1 (some .int), Cond.fieldLink RX2 33 "LyingScale$State" "coins" "I", Cond.methodLink RX2 157 yX3_codeWord, Cond.instanceMethod yX3_codeWord, Cond.selects RX3 yX3_codeWord yX3_codeWord, Cond.initialized RX3, Cond.code yX3_codeWord cX3_codeWord 4 (some .int), Cond.fieldLink RX3 31 "LyingScale$Weighings" "count" "I", Cond.fieldLink RX3 15 "LyingScale$Weighings" "lefts" "[I", Cond.fieldLink RX3 21 "LyingScale$Weighings" "rights" "[I", Cond.static yX4_at, Cond.initialized RX4, Cond.code yX4_at cX4_at 2 (some .int), Cond.static yX4_trueAnswer]
def wsX2_leastDifferences_r2 : List Cond := [Cond.code yX4_trueAnswer cX4_trueAnswer 5 (some .int), Cond.methodLink RX4 264 yX4_coinBit, Cond.static yX4_coinBit, Cond.code yX4_coinBit cX4_coinBit 1 (some .int), Cond.static yX4_put, Cond.code yX4_put cX4_put 3 none, Cond.static yX4_differences, Cond.code yX4_differences cX4_differences 3 (some .int), Cond.methodLink RX4 267 yJ6_bitCount_0f7a4, Cond.static yJ6_bitCount_0f7a4, Cond.initialized RJ6, Cond.code yJ6_bitCount_0f7a4 cJ6_bitCount_0f7a4 1 (some .int), Cond.constant RJ6 265 (1431655765), Cond.constant RJ6 266 (858993459), Cond.constant RJ6 267 (252645135)]
def wsX2_leastDifferences : List Cond := .code yX2_leastDifferences cX2_leastDifferences 4 (some .int) :: ((wsX2_leastDifferences_r1 ++ wsX2_leastDifferences_r2) ++ wsX20 ++ wsX30)
def wsX2_nearestCase_r1 : List Cond := [Cond.fieldLink RX2 20 "LyingScale$State" "plan" "LLyingScale$Weighings;", Cond.methodLink RX2 67 yX2_cases, Cond.instanceMethod yX2_cases, Cond.selects RX2 yX2_cases yX2_cases, Cond.initialized RX2, Cond.code yX2_cases cX2_cases 1 (some .int), Cond.fieldLink RX2 33 "LyingScale$State" "coins" "I", Cond.methodLink RX2 157 yX3_codeWord, Cond.instanceMethod yX3_codeWord, Cond.selects RX3 yX3_codeWord yX3_codeWord, Cond.initialized RX3, Cond.code yX3_codeWord cX3_codeWord 4 (some .int), Cond.fieldLink RX3 31 "LyingScale$Weighings" "count" "I", Cond.fieldLink RX3 15 "LyingScale$Weighings" "lefts" "[I", Cond.fieldLink RX3 21 "LyingScale$Weighings" "rights" "[I", Cond.static yX4_at, Cond.initialized RX4, Cond.code yX4_at cX4_at 2 (some .int), Cond.static yX4_trueAnswer, Cond.code yX4_trueAnswer cX4_trueAnswer 5 (some .int), Cond.methodLink RX4 264 yX4_coinBit, Cond.static yX4_coinBit, Cond.code yX4_coinBit cX4_coinBit 1 (some .int), Cond.static yX4_differences]
def wsX2_nearestCase_r2 : List Cond := [Cond.code yX4_differences cX4_differences 3 (some .int), Cond.methodLink RX4 267 yJ6_bitCount_0f7a4, Cond.static yJ6_bitCount_0f7a4, Cond.initialized RJ6, Cond.code yJ6_bitCount_0f7a4 cJ6_bitCount_0f7a4 1 (some .int), Cond.constant RJ6 265 (1431655765), Cond.constant RJ6 266 (858993459), Cond.constant RJ6 267 (252645135)]
def wsX2_nearestCase : List Cond := .code yX2_nearestCase cX2_nearestCase 6 (some .int) :: ((wsX2_nearestCase_r1 ++ wsX2_nearestCase_r2) ++ wsX20 ++ wsX30)
def wsX3_dropLast : List Cond := .code yX3_dropLast cX3_dropLast 1 none :: ([.fieldLink RX3 31 "LyingScale$Weighings" "count" "I"] ++ wsX30)
def wsX3_part : List Cond := .code yX3_part cX3_part 3 (some .int) :: ([.fieldLink RX3 15 "LyingScale$Weighings" "lefts" "[I", .fieldLink RX3 21 "LyingScale$Weighings" "rights" "[I", .fieldLink RX3 24 "LyingScale$Weighings" "answers" "[I", .static yX4_at, .initialized RX4, .code yX4_at cX4_at 2 (some .int)] ++ wsX30)
def wsX3_answerRows : List Cond := .code yX3_answerRows cX3_answerRows 3 (some .int) :: ([.fieldLink RX3 31 "LyingScale$Weighings" "count" "I"] ++ wsX30)
def wsX4_init_r1 : List Cond := [Cond.methodLink RX4 3 objectInit, Cond.instanceMethod objectInit, Cond.code objectInit ⟨#[0xb1]⟩ 1 none, Cond.classLink RX4 9 RX2, Cond.instantiable RX2 9, Cond.initialized RX2, Cond.fieldLink RX4 12 "LyingScale" "now" "LLyingScale$State;", Cond.classLink RX4 16 RX0, Cond.instantiable RX0 2, Cond.initialized RX0, Cond.fieldLink RX4 19 "LyingScale" "history" "LLyingScale$History;", Cond.classLink RX4 23 RX1, Cond.instantiable RX1 9, Cond.initialized RX1, Cond.fieldLink RX4 26 "LyingScale" "orders" "LLyingScale$Orders;", Cond.methodLink RX4 11 yX2_init, Cond.instanceMethod yX2_init, Cond.code yX2_init cX2_init 1 none, Cond.methodLink RX2 3 objectInit, Cond.classLink RX2 9 RX3, Cond.instantiable RX3 4, Cond.initialized RX3, Cond.fieldLink RX2 14 "LyingScale$State" "told" "LLyingScale$Weighings;", Cond.fieldLink RX2 20 "LyingScale$State" "plan" "LLyingScale$Weighings;"]
def wsX4_init_r2 : List Cond := [Cond.arrayClass .int, Cond.fieldLink RX2 23 "LyingScale$State" "liesOf" "[I", Cond.fieldLink RX2 27 "LyingScale$State" "words" "[I", Cond.methodLink RX2 11 yX3_init, Cond.instanceMethod yX3_init, Cond.code yX3_init cX3_init 3 none, Cond.methodLink RX3 3 objectInit, Cond.methodLink RX3 9 Lib.Math.max.name, Cond.static Lib.Math.max.name, Cond.initialized "java/lang/Math", Cond.code Lib.Math.max.name Lib.Math.max.code 2 (some .int), Cond.fieldLink RX3 15 "LyingScale$Weighings" "lefts" "[I", Cond.fieldLink RX3 21 "LyingScale$Weighings" "rights" "[I", Cond.fieldLink RX3 24 "LyingScale$Weighings" "answers" "[I", Cond.methodLink RX2 30 yX2_start, Cond.instanceMethod yX2_start, Cond.selects RX2 yX2_start yX2_start, Cond.code yX2_start cX2_start 2 none, Cond.fieldLink RX2 33 "LyingScale$State" "coins" "I", Cond.fieldLink RX2 37 "LyingScale$State" "limit" "I", Cond.methodLink RX2 43 yX2_hideCase, Cond.instanceMethod yX2_hideCase, Cond.selects RX2 yX2_hideCase yX2_hideCase, Cond.code yX2_hideCase cX2_hideCase 3 none]
def wsX4_init_r3 : List Cond := [Cond.fieldLink RX2 58 "LyingScale$State" "hidden" "I", Cond.fieldLink RX2 61 "LyingScale$State" "lieSet" "I", Cond.fieldLink RX2 64 "LyingScale$State" "answered" "I", Cond.methodLink RX2 47 yX2_forgetTold, Cond.instanceMethod yX2_forgetTold, Cond.selects RX2 yX2_forgetTold yX2_forgetTold, Cond.code yX2_forgetTold cX2_forgetTold 2 none, Cond.static yX4_put, Cond.initialized RX4, Cond.code yX4_put cX4_put 3 none, Cond.methodLink RX4 18 yX0_init, Cond.instanceMethod yX0_init, Cond.code yX0_init cX0_init 2 none, Cond.methodLink RX0 3 objectInit, Cond.classLink RX0 9 RX2, Cond.fieldLink RX0 11 "LyingScale$History" "states" "[LLyingScale$State;", Cond.methodLink RX0 17 yX2_init, Cond.methodLink RX4 25 yX1_init, Cond.instanceMethod yX1_init, Cond.code yX1_init cX1_init 1 none, Cond.methodLink RX1 3 objectInit, Cond.fieldLink RX1 9 "LyingScale$Orders" "bytes" "[I", Cond.fieldLink RX1 15 "LyingScale$Orders" "lefts" "[I", Cond.fieldLink RX1 18 "LyingScale$Orders" "rights" "[I"]
def wsX4_init_r4 : List Cond := [Cond.fieldLink RX1 21 "LyingScale$Orders" "deeds" "[I"]
def wsX4_init : List Cond := .code yX4_init cX4_init 1 none :: ((wsX4_init_r1 ++ (wsX4_init_r2 ++ (wsX4_init_r3 ++ wsX4_init_r4))) ++ wsX20 ++ wsX40 ++ wsX00 ++ wsX10 ++ wsX30)
def wsX4_begin_r1 : List Cond := [Cond.classLink RX4 30 "java/lang/IllegalArgumentException", Cond.initialized "java/lang/IllegalArgumentException", Cond.fieldLink RX4 19 "LyingScale" "history" "LLyingScale$History;", Cond.fieldLink RX4 12 "LyingScale" "now" "LLyingScale$State;", Cond.methodLink RX4 37 yX0_save, Cond.instanceMethod yX0_save, Cond.selects RX0 yX0_save yX0_save, Cond.initialized RX0, Cond.code yX0_save cX0_save 3 none, Cond.fieldLink RX0 18 "LyingScale$History" "count" "I", Cond.fieldLink RX0 11 "LyingScale$History" "states" "[LLyingScale$State;", Cond.methodLink RX0 22 yX0_dropOldest, Cond.instanceMethod yX0_dropOldest, Cond.selects RX0 yX0_dropOldest yX0_dropOldest, Cond.code yX0_dropOldest cX0_dropOldest 4 none, Cond.methodLink RX0 25 yX0_stateAt, Cond.instanceMethod yX0_stateAt, Cond.selects RX0 yX0_stateAt yX0_stateAt, Cond.code yX0_stateAt cX0_stateAt 2 (some (.object "LyingScale$State")), Cond.methodLink RX0 29 yX2_copyFrom, Cond.instanceMethod yX2_copyFrom, Cond.selects RX2 yX2_copyFrom yX2_copyFrom, Cond.initialized RX2, Cond.code yX2_copyFrom cX2_copyFrom 2 none]
def wsX4_begin_r2 : List Cond := [Cond.fieldLink RX2 14 "LyingScale$State" "told" "LLyingScale$Weighings;", Cond.fieldLink RX2 20 "LyingScale$State" "plan" "LLyingScale$Weighings;", Cond.fieldLink RX2 23 "LyingScale$State" "liesOf" "[I", Cond.fieldLink RX2 33 "LyingScale$State" "coins" "I", Cond.fieldLink RX2 37 "LyingScale$State" "limit" "I", Cond.fieldLink RX2 58 "LyingScale$State" "hidden" "I", Cond.fieldLink RX2 61 "LyingScale$State" "lieSet" "I", Cond.fieldLink RX2 64 "LyingScale$State" "answered" "I", Cond.methodLink RX2 50 yX3_copyFrom, Cond.instanceMethod yX3_copyFrom, Cond.selects RX3 yX3_copyFrom yX3_copyFrom, Cond.initialized RX3, Cond.code yX3_copyFrom cX3_copyFrom 2 none, Cond.fieldLink RX3 15 "LyingScale$Weighings" "lefts" "[I", Cond.fieldLink RX3 21 "LyingScale$Weighings" "rights" "[I", Cond.fieldLink RX3 24 "LyingScale$Weighings" "answers" "[I", Cond.fieldLink RX3 31 "LyingScale$Weighings" "count" "I", Cond.static yX4_copyRow, Cond.initialized RX4, Cond.code yX4_copyRow cX4_copyRow 2 none, Cond.methodLink RX4 253 Lib.Math.min.name, Cond.static Lib.Math.min.name, Cond.initialized "java/lang/Math", Cond.code Lib.Math.min.name Lib.Math.min.code 2 (some .int)]
def wsX4_begin_r3 : List Cond := [Cond.methodLink RX4 258 arraycopyName, Cond.native arraycopyName, Cond.static arraycopyName, Cond.initialized "java/lang/System", Cond.methodLink RX4 51 yX2_start, Cond.instanceMethod yX2_start, Cond.selects RX2 yX2_start yX2_start, Cond.code yX2_start cX2_start 2 none, Cond.methodLink RX2 43 yX2_hideCase, Cond.instanceMethod yX2_hideCase, Cond.selects RX2 yX2_hideCase yX2_hideCase, Cond.code yX2_hideCase cX2_hideCase 3 none, Cond.methodLink RX2 47 yX2_forgetTold, Cond.instanceMethod yX2_forgetTold, Cond.selects RX2 yX2_forgetTold yX2_forgetTold, Cond.code yX2_forgetTold cX2_forgetTold 2 none, Cond.static yX4_put, Cond.code yX4_put cX4_put 3 none]
def wsX4_begin : List Cond := .code yX4_begin cX4_begin 3 (some .int) :: ((wsX4_begin_r1 ++ (wsX4_begin_r2 ++ wsX4_begin_r3)) ++ wsX40 ++ wsX20 ++ wsX30 ++ wsX00 ++ (vx_atS RX4 34 "java/lang/IllegalArgumentException" ["java/lang/RuntimeException", "java/lang/Exception"]).filter goodWord)
def wsX4_setLimit_r1 : List Cond := [Cond.classLink RX4 30 "java/lang/IllegalArgumentException", Cond.initialized "java/lang/IllegalArgumentException", Cond.fieldLink RX4 19 "LyingScale" "history" "LLyingScale$History;", Cond.fieldLink RX4 12 "LyingScale" "now" "LLyingScale$State;", Cond.methodLink RX4 37 yX0_save, Cond.instanceMethod yX0_save, Cond.selects RX0 yX0_save yX0_save, Cond.initialized RX0, Cond.code yX0_save cX0_save 3 none, Cond.fieldLink RX0 18 "LyingScale$History" "count" "I", Cond.fieldLink RX0 11 "LyingScale$History" "states" "[LLyingScale$State;", Cond.methodLink RX0 22 yX0_dropOldest, Cond.instanceMethod yX0_dropOldest, Cond.selects RX0 yX0_dropOldest yX0_dropOldest, Cond.code yX0_dropOldest cX0_dropOldest 4 none, Cond.methodLink RX0 25 yX0_stateAt, Cond.instanceMethod yX0_stateAt, Cond.selects RX0 yX0_stateAt yX0_stateAt, Cond.code yX0_stateAt cX0_stateAt 2 (some (.object "LyingScale$State")), Cond.methodLink RX0 29 yX2_copyFrom, Cond.instanceMethod yX2_copyFrom, Cond.selects RX2 yX2_copyFrom yX2_copyFrom, Cond.initialized RX2, Cond.code yX2_copyFrom cX2_copyFrom 2 none]
def wsX4_setLimit_r2 : List Cond := [Cond.fieldLink RX2 14 "LyingScale$State" "told" "LLyingScale$Weighings;", Cond.fieldLink RX2 20 "LyingScale$State" "plan" "LLyingScale$Weighings;", Cond.fieldLink RX2 23 "LyingScale$State" "liesOf" "[I", Cond.fieldLink RX2 33 "LyingScale$State" "coins" "I", Cond.fieldLink RX2 37 "LyingScale$State" "limit" "I", Cond.fieldLink RX2 58 "LyingScale$State" "hidden" "I", Cond.fieldLink RX2 61 "LyingScale$State" "lieSet" "I", Cond.fieldLink RX2 64 "LyingScale$State" "answered" "I", Cond.methodLink RX2 50 yX3_copyFrom, Cond.instanceMethod yX3_copyFrom, Cond.selects RX3 yX3_copyFrom yX3_copyFrom, Cond.initialized RX3, Cond.code yX3_copyFrom cX3_copyFrom 2 none, Cond.fieldLink RX3 15 "LyingScale$Weighings" "lefts" "[I", Cond.fieldLink RX3 21 "LyingScale$Weighings" "rights" "[I", Cond.fieldLink RX3 24 "LyingScale$Weighings" "answers" "[I", Cond.fieldLink RX3 31 "LyingScale$Weighings" "count" "I", Cond.static yX4_copyRow, Cond.initialized RX4, Cond.code yX4_copyRow cX4_copyRow 2 none, Cond.methodLink RX4 253 Lib.Math.min.name, Cond.static Lib.Math.min.name, Cond.initialized "java/lang/Math", Cond.code Lib.Math.min.name Lib.Math.min.code 2 (some .int)]
def wsX4_setLimit_r3 : List Cond := [Cond.methodLink RX4 258 arraycopyName, Cond.native arraycopyName, Cond.static arraycopyName, Cond.initialized "java/lang/System", Cond.methodLink RX4 60 yX2_countLeft, Cond.instanceMethod yX2_countLeft, Cond.selects RX2 yX2_countLeft yX2_countLeft, Cond.code yX2_countLeft cX2_countLeft 3 (some .int), Cond.methodLink RX2 67 yX2_cases, Cond.instanceMethod yX2_cases, Cond.selects RX2 yX2_cases yX2_cases, Cond.code yX2_cases cX2_cases 1 (some .int), Cond.methodLink RX2 125 yX2_isLeft, Cond.instanceMethod yX2_isLeft, Cond.selects RX2 yX2_isLeft yX2_isLeft, Cond.code yX2_isLeft cX2_isLeft 2 (some .boolean), Cond.static yX4_at, Cond.code yX4_at cX4_at 2 (some .int)]
def wsX4_setLimit : List Cond := .code yX4_setLimit cX4_setLimit 2 (some .int) :: ((wsX4_setLimit_r1 ++ (wsX4_setLimit_r2 ++ wsX4_setLimit_r3)) ++ wsX40 ++ wsX20 ++ wsX00 ++ wsX30 ++ (vx_atS RX4 34 "java/lang/IllegalArgumentException" ["java/lang/RuntimeException", "java/lang/Exception"]).filter goodWord)
def wsX4_isAnswer : List Cond := .code yX4_isAnswer cX4_isAnswer 1 (some .boolean) :: ([])
def wsX4_tell_r1 : List Cond := [Cond.classLink RX4 30 "java/lang/IllegalArgumentException", Cond.initialized "java/lang/IllegalArgumentException", Cond.classLink RX4 78 "java/lang/IllegalStateException", Cond.initialized "java/lang/IllegalStateException", Cond.fieldLink RX4 12 "LyingScale" "now" "LLyingScale$State;", Cond.fieldLink RX4 19 "LyingScale" "history" "LLyingScale$History;", Cond.methodLink RX4 64 yX2_isWeighing, Cond.instanceMethod yX2_isWeighing, Cond.selects RX2 yX2_isWeighing yX2_isWeighing, Cond.initialized RX2, Cond.code yX2_isWeighing cX2_isWeighing 3 (some .boolean), Cond.fieldLink RX2 33 "LyingScale$State" "coins" "I", Cond.methodLink RX2 71 yJ6_bitCount_0f7a4, Cond.static yJ6_bitCount_0f7a4, Cond.initialized RJ6, Cond.code yJ6_bitCount_0f7a4 cJ6_bitCount_0f7a4 1 (some .int), Cond.constant RJ6 265 (1431655765), Cond.constant RJ6 266 (858993459), Cond.constant RJ6 267 (252645135), Cond.methodLink RX4 68 yX4_isAnswer, Cond.static yX4_isAnswer, Cond.initialized RX4, Cond.code yX4_isAnswer cX4_isAnswer 1 (some .boolean), Cond.methodLink RX4 74 yX2_canLearn]
def wsX4_tell_r2 : List Cond := [Cond.instanceMethod yX2_canLearn, Cond.selects RX2 yX2_canLearn yX2_canLearn, Cond.code yX2_canLearn cX2_canLearn 1 (some .boolean), Cond.fieldLink RX2 14 "LyingScale$State" "told" "LLyingScale$Weighings;", Cond.methodLink RX4 37 yX0_save, Cond.instanceMethod yX0_save, Cond.selects RX0 yX0_save yX0_save, Cond.initialized RX0, Cond.code yX0_save cX0_save 3 none, Cond.fieldLink RX0 18 "LyingScale$History" "count" "I", Cond.fieldLink RX0 11 "LyingScale$History" "states" "[LLyingScale$State;", Cond.methodLink RX0 22 yX0_dropOldest, Cond.instanceMethod yX0_dropOldest, Cond.selects RX0 yX0_dropOldest yX0_dropOldest, Cond.code yX0_dropOldest cX0_dropOldest 4 none, Cond.methodLink RX0 25 yX0_stateAt, Cond.instanceMethod yX0_stateAt, Cond.selects RX0 yX0_stateAt yX0_stateAt, Cond.code yX0_stateAt cX0_stateAt 2 (some (.object "LyingScale$State")), Cond.methodLink RX0 29 yX2_copyFrom, Cond.instanceMethod yX2_copyFrom, Cond.selects RX2 yX2_copyFrom yX2_copyFrom, Cond.code yX2_copyFrom cX2_copyFrom 2 none, Cond.fieldLink RX2 20 "LyingScale$State" "plan" "LLyingScale$Weighings;"]
def wsX4_tell_r3 : List Cond := [Cond.fieldLink RX2 23 "LyingScale$State" "liesOf" "[I", Cond.fieldLink RX2 37 "LyingScale$State" "limit" "I", Cond.fieldLink RX2 58 "LyingScale$State" "hidden" "I", Cond.fieldLink RX2 61 "LyingScale$State" "lieSet" "I", Cond.fieldLink RX2 64 "LyingScale$State" "answered" "I", Cond.methodLink RX2 50 yX3_copyFrom, Cond.instanceMethod yX3_copyFrom, Cond.selects RX3 yX3_copyFrom yX3_copyFrom, Cond.initialized RX3, Cond.code yX3_copyFrom cX3_copyFrom 2 none, Cond.fieldLink RX3 15 "LyingScale$Weighings" "lefts" "[I", Cond.fieldLink RX3 21 "LyingScale$Weighings" "rights" "[I", Cond.fieldLink RX3 24 "LyingScale$Weighings" "answers" "[I", Cond.fieldLink RX3 31 "LyingScale$Weighings" "count" "I", Cond.static yX4_copyRow, Cond.code yX4_copyRow cX4_copyRow 2 none, Cond.methodLink RX4 253 Lib.Math.min.name, Cond.static Lib.Math.min.name, Cond.initialized "java/lang/Math", Cond.code Lib.Math.min.name Lib.Math.min.code 2 (some .int), Cond.methodLink RX4 258 arraycopyName, Cond.native arraycopyName, Cond.static arraycopyName, Cond.initialized "java/lang/System"]
def wsX4_tell_r4 : List Cond := [Cond.methodLink RX4 83 yX2_learn, Cond.instanceMethod yX2_learn, Cond.selects RX2 yX2_learn yX2_learn, Cond.code yX2_learn cX2_learn 5 none, Cond.methodLink RX2 77 yX3_write, Cond.instanceMethod yX3_write, Cond.selects RX3 yX3_write yX3_write, Cond.code yX3_write cX3_write 4 none, Cond.static yX4_put, Cond.code yX4_put cX4_put 3 none, Cond.methodLink RX2 67 yX2_cases, Cond.instanceMethod yX2_cases, Cond.selects RX2 yX2_cases yX2_cases, Cond.code yX2_cases cX2_cases 1 (some .int), Cond.methodLink RX2 81 yX2_liesIfTold, Cond.instanceMethod yX2_liesIfTold, Cond.selects RX2 yX2_liesIfTold yX2_liesIfTold, Cond.code yX2_liesIfTold cX2_liesIfTold 6 (some .int), Cond.static yX4_at, Cond.code yX4_at cX4_at 2 (some .int), Cond.static yX4_trueAnswer, Cond.code yX4_trueAnswer cX4_trueAnswer 5 (some .int), Cond.methodLink RX4 264 yX4_coinBit, Cond.static yX4_coinBit]
def wsX4_tell_r5 : List Cond := [Cond.code yX4_coinBit cX4_coinBit 1 (some .int), Cond.methodLink RX4 60 yX2_countLeft, Cond.instanceMethod yX2_countLeft, Cond.selects RX2 yX2_countLeft yX2_countLeft, Cond.code yX2_countLeft cX2_countLeft 3 (some .int), Cond.methodLink RX2 125 yX2_isLeft, Cond.instanceMethod yX2_isLeft, Cond.selects RX2 yX2_isLeft yX2_isLeft, Cond.code yX2_isLeft cX2_isLeft 2 (some .boolean)]
def wsX4_tell : List Cond := .code yX4_tell cX4_tell 4 (some .int) :: ((wsX4_tell_r1 ++ (wsX4_tell_r2 ++ (wsX4_tell_r3 ++ (wsX4_tell_r4 ++ wsX4_tell_r5)))) ++ wsX40 ++ wsX20 ++ wsX30 ++ wsX00 ++ (vx_atS RX4 34 "java/lang/IllegalArgumentException" ["java/lang/RuntimeException", "java/lang/Exception"]).filter goodWord ++ (vx_atS RX4 82 "java/lang/IllegalStateException" ["java/lang/RuntimeException", "java/lang/Exception"]).filter goodWord)
def wsX4_forget_r1 : List Cond := [Cond.fieldLink RX4 19 "LyingScale" "history" "LLyingScale$History;", Cond.fieldLink RX4 12 "LyingScale" "now" "LLyingScale$State;", Cond.methodLink RX4 37 yX0_save, Cond.instanceMethod yX0_save, Cond.selects RX0 yX0_save yX0_save, Cond.initialized RX0, Cond.code yX0_save cX0_save 3 none, Cond.fieldLink RX0 18 "LyingScale$History" "count" "I", Cond.fieldLink RX0 11 "LyingScale$History" "states" "[LLyingScale$State;", Cond.methodLink RX0 22 yX0_dropOldest, Cond.instanceMethod yX0_dropOldest, Cond.selects RX0 yX0_dropOldest yX0_dropOldest, Cond.code yX0_dropOldest cX0_dropOldest 4 none, Cond.methodLink RX0 25 yX0_stateAt, Cond.instanceMethod yX0_stateAt, Cond.selects RX0 yX0_stateAt yX0_stateAt, Cond.code yX0_stateAt cX0_stateAt 2 (some (.object "LyingScale$State")), Cond.methodLink RX0 29 yX2_copyFrom, Cond.instanceMethod yX2_copyFrom, Cond.selects RX2 yX2_copyFrom yX2_copyFrom, Cond.initialized RX2, Cond.code yX2_copyFrom cX2_copyFrom 2 none, Cond.fieldLink RX2 14 "LyingScale$State" "told" "LLyingScale$Weighings;", Cond.fieldLink RX2 20 "LyingScale$State" "plan" "LLyingScale$Weighings;"]
def wsX4_forget_r2 : List Cond := [Cond.fieldLink RX2 23 "LyingScale$State" "liesOf" "[I", Cond.fieldLink RX2 33 "LyingScale$State" "coins" "I", Cond.fieldLink RX2 37 "LyingScale$State" "limit" "I", Cond.fieldLink RX2 58 "LyingScale$State" "hidden" "I", Cond.fieldLink RX2 61 "LyingScale$State" "lieSet" "I", Cond.fieldLink RX2 64 "LyingScale$State" "answered" "I", Cond.methodLink RX2 50 yX3_copyFrom, Cond.instanceMethod yX3_copyFrom, Cond.selects RX3 yX3_copyFrom yX3_copyFrom, Cond.initialized RX3, Cond.code yX3_copyFrom cX3_copyFrom 2 none, Cond.fieldLink RX3 15 "LyingScale$Weighings" "lefts" "[I", Cond.fieldLink RX3 21 "LyingScale$Weighings" "rights" "[I", Cond.fieldLink RX3 24 "LyingScale$Weighings" "answers" "[I", Cond.fieldLink RX3 31 "LyingScale$Weighings" "count" "I", Cond.static yX4_copyRow, Cond.initialized RX4, Cond.code yX4_copyRow cX4_copyRow 2 none, Cond.methodLink RX4 253 Lib.Math.min.name, Cond.static Lib.Math.min.name, Cond.initialized "java/lang/Math", Cond.code Lib.Math.min.name Lib.Math.min.code 2 (some .int), Cond.methodLink RX4 258 arraycopyName, Cond.native arraycopyName]
def wsX4_forget_r3 : List Cond := [Cond.static arraycopyName, Cond.initialized "java/lang/System", Cond.methodLink RX4 87 yX2_forgetTold, Cond.instanceMethod yX2_forgetTold, Cond.selects RX2 yX2_forgetTold yX2_forgetTold, Cond.code yX2_forgetTold cX2_forgetTold 2 none, Cond.static yX4_put, Cond.code yX4_put cX4_put 3 none]
def wsX4_forget : List Cond := .code yX4_forget cX4_forget 2 (some .int) :: ((wsX4_forget_r1 ++ (wsX4_forget_r2 ++ wsX4_forget_r3)) ++ wsX40 ++ wsX20 ++ wsX30 ++ wsX00)
def wsX4_hide_r1 : List Cond := [Cond.classLink RX4 93 "java/lang/IndexOutOfBoundsException", Cond.initialized "java/lang/IndexOutOfBoundsException", Cond.classLink RX4 30 "java/lang/IllegalArgumentException", Cond.initialized "java/lang/IllegalArgumentException", Cond.fieldLink RX4 12 "LyingScale" "now" "LLyingScale$State;", Cond.constant RX4 98 (1073741823), Cond.fieldLink RX4 19 "LyingScale" "history" "LLyingScale$History;", Cond.methodLink RX4 90 yX2_isCase, Cond.instanceMethod yX2_isCase, Cond.selects RX2 yX2_isCase yX2_isCase, Cond.initialized RX2, Cond.code yX2_isCase cX2_isCase 2 (some .boolean), Cond.methodLink RX2 67 yX2_cases, Cond.instanceMethod yX2_cases, Cond.selects RX2 yX2_cases yX2_cases, Cond.code yX2_cases cX2_cases 1 (some .int), Cond.fieldLink RX2 33 "LyingScale$State" "coins" "I", Cond.methodLink RX4 37 yX0_save, Cond.instanceMethod yX0_save, Cond.selects RX0 yX0_save yX0_save, Cond.initialized RX0, Cond.code yX0_save cX0_save 3 none, Cond.fieldLink RX0 18 "LyingScale$History" "count" "I", Cond.fieldLink RX0 11 "LyingScale$History" "states" "[LLyingScale$State;"]
def wsX4_hide_r2 : List Cond := [Cond.methodLink RX0 22 yX0_dropOldest, Cond.instanceMethod yX0_dropOldest, Cond.selects RX0 yX0_dropOldest yX0_dropOldest, Cond.code yX0_dropOldest cX0_dropOldest 4 none, Cond.methodLink RX0 25 yX0_stateAt, Cond.instanceMethod yX0_stateAt, Cond.selects RX0 yX0_stateAt yX0_stateAt, Cond.code yX0_stateAt cX0_stateAt 2 (some (.object "LyingScale$State")), Cond.methodLink RX0 29 yX2_copyFrom, Cond.instanceMethod yX2_copyFrom, Cond.selects RX2 yX2_copyFrom yX2_copyFrom, Cond.code yX2_copyFrom cX2_copyFrom 2 none, Cond.fieldLink RX2 14 "LyingScale$State" "told" "LLyingScale$Weighings;", Cond.fieldLink RX2 20 "LyingScale$State" "plan" "LLyingScale$Weighings;", Cond.fieldLink RX2 23 "LyingScale$State" "liesOf" "[I", Cond.fieldLink RX2 37 "LyingScale$State" "limit" "I", Cond.fieldLink RX2 58 "LyingScale$State" "hidden" "I", Cond.fieldLink RX2 61 "LyingScale$State" "lieSet" "I", Cond.fieldLink RX2 64 "LyingScale$State" "answered" "I", Cond.methodLink RX2 50 yX3_copyFrom, Cond.instanceMethod yX3_copyFrom, Cond.selects RX3 yX3_copyFrom yX3_copyFrom, Cond.initialized RX3, Cond.code yX3_copyFrom cX3_copyFrom 2 none]
def wsX4_hide_r3 : List Cond := [Cond.fieldLink RX3 15 "LyingScale$Weighings" "lefts" "[I", Cond.fieldLink RX3 21 "LyingScale$Weighings" "rights" "[I", Cond.fieldLink RX3 24 "LyingScale$Weighings" "answers" "[I", Cond.fieldLink RX3 31 "LyingScale$Weighings" "count" "I", Cond.static yX4_copyRow, Cond.initialized RX4, Cond.code yX4_copyRow cX4_copyRow 2 none, Cond.methodLink RX4 253 Lib.Math.min.name, Cond.static Lib.Math.min.name, Cond.initialized "java/lang/Math", Cond.code Lib.Math.min.name Lib.Math.min.code 2 (some .int), Cond.methodLink RX4 258 arraycopyName, Cond.native arraycopyName, Cond.static arraycopyName, Cond.initialized "java/lang/System", Cond.methodLink RX4 102 yX2_hideCase, Cond.instanceMethod yX2_hideCase, Cond.selects RX2 yX2_hideCase yX2_hideCase, Cond.code yX2_hideCase cX2_hideCase 3 none]
def wsX4_hide : List Cond := .code yX4_hide cX4_hide 4 (some .int) :: ((wsX4_hide_r1 ++ (wsX4_hide_r2 ++ wsX4_hide_r3)) ++ wsX40 ++ wsX20 ++ wsX00 ++ wsX30 ++ (vx_atS RX4 97 "java/lang/IndexOutOfBoundsException" ["java/lang/RuntimeException", "java/lang/Exception"]).filter goodWord ++ (vx_atS RX4 34 "java/lang/IllegalArgumentException" ["java/lang/RuntimeException", "java/lang/Exception"]).filter goodWord)
def wsX4_ask_r1 : List Cond := [Cond.classLink RX4 30 "java/lang/IllegalArgumentException", Cond.initialized "java/lang/IllegalArgumentException", Cond.classLink RX4 78 "java/lang/IllegalStateException", Cond.initialized "java/lang/IllegalStateException", Cond.fieldLink RX4 12 "LyingScale" "now" "LLyingScale$State;", Cond.fieldLink RX4 19 "LyingScale" "history" "LLyingScale$History;", Cond.methodLink RX4 64 yX2_isWeighing, Cond.instanceMethod yX2_isWeighing, Cond.selects RX2 yX2_isWeighing yX2_isWeighing, Cond.initialized RX2, Cond.code yX2_isWeighing cX2_isWeighing 3 (some .boolean), Cond.fieldLink RX2 33 "LyingScale$State" "coins" "I", Cond.methodLink RX2 71 yJ6_bitCount_0f7a4, Cond.static yJ6_bitCount_0f7a4, Cond.initialized RJ6, Cond.code yJ6_bitCount_0f7a4 cJ6_bitCount_0f7a4 1 (some .int), Cond.constant RJ6 265 (1431655765), Cond.constant RJ6 266 (858993459), Cond.constant RJ6 267 (252645135), Cond.methodLink RX4 108 yX2_canReply, Cond.instanceMethod yX2_canReply, Cond.selects RX2 yX2_canReply yX2_canReply, Cond.code yX2_canReply cX2_canReply 1 (some .boolean), Cond.fieldLink RX2 58 "LyingScale$State" "hidden" "I"]
def wsX4_ask_r2 : List Cond := [Cond.fieldLink RX2 64 "LyingScale$State" "answered" "I", Cond.methodLink RX2 97 yX2_canLearn, Cond.instanceMethod yX2_canLearn, Cond.selects RX2 yX2_canLearn yX2_canLearn, Cond.code yX2_canLearn cX2_canLearn 1 (some .boolean), Cond.fieldLink RX2 14 "LyingScale$State" "told" "LLyingScale$Weighings;", Cond.methodLink RX4 37 yX0_save, Cond.instanceMethod yX0_save, Cond.selects RX0 yX0_save yX0_save, Cond.initialized RX0, Cond.code yX0_save cX0_save 3 none, Cond.fieldLink RX0 18 "LyingScale$History" "count" "I", Cond.fieldLink RX0 11 "LyingScale$History" "states" "[LLyingScale$State;", Cond.methodLink RX0 22 yX0_dropOldest, Cond.instanceMethod yX0_dropOldest, Cond.selects RX0 yX0_dropOldest yX0_dropOldest, Cond.code yX0_dropOldest cX0_dropOldest 4 none, Cond.methodLink RX0 25 yX0_stateAt, Cond.instanceMethod yX0_stateAt, Cond.selects RX0 yX0_stateAt yX0_stateAt, Cond.code yX0_stateAt cX0_stateAt 2 (some (.object "LyingScale$State")), Cond.methodLink RX0 29 yX2_copyFrom, Cond.instanceMethod yX2_copyFrom, Cond.selects RX2 yX2_copyFrom yX2_copyFrom]
def wsX4_ask_r3 : List Cond := [Cond.code yX2_copyFrom cX2_copyFrom 2 none, Cond.fieldLink RX2 20 "LyingScale$State" "plan" "LLyingScale$Weighings;", Cond.fieldLink RX2 23 "LyingScale$State" "liesOf" "[I", Cond.fieldLink RX2 37 "LyingScale$State" "limit" "I", Cond.fieldLink RX2 61 "LyingScale$State" "lieSet" "I", Cond.methodLink RX2 50 yX3_copyFrom, Cond.instanceMethod yX3_copyFrom, Cond.selects RX3 yX3_copyFrom yX3_copyFrom, Cond.initialized RX3, Cond.code yX3_copyFrom cX3_copyFrom 2 none, Cond.fieldLink RX3 15 "LyingScale$Weighings" "lefts" "[I", Cond.fieldLink RX3 21 "LyingScale$Weighings" "rights" "[I", Cond.fieldLink RX3 24 "LyingScale$Weighings" "answers" "[I", Cond.fieldLink RX3 31 "LyingScale$Weighings" "count" "I", Cond.static yX4_copyRow, Cond.initialized RX4, Cond.code yX4_copyRow cX4_copyRow 2 none, Cond.methodLink RX4 253 Lib.Math.min.name, Cond.static Lib.Math.min.name, Cond.initialized "java/lang/Math", Cond.code Lib.Math.min.name Lib.Math.min.code 2 (some .int), Cond.methodLink RX4 258 arraycopyName, Cond.native arraycopyName, Cond.static arraycopyName]
def wsX4_ask_r4 : List Cond := [Cond.initialized "java/lang/System", Cond.methodLink RX4 113 yX2_reply, Cond.instanceMethod yX2_reply, Cond.selects RX2 yX2_reply yX2_reply, Cond.code yX2_reply cX2_reply 4 (some .int), Cond.static yX4_trueAnswer, Cond.code yX4_trueAnswer cX4_trueAnswer 5 (some .int), Cond.methodLink RX4 264 yX4_coinBit, Cond.static yX4_coinBit, Cond.code yX4_coinBit cX4_coinBit 1 (some .int), Cond.methodLink RX2 101 yX2_learn, Cond.instanceMethod yX2_learn, Cond.selects RX2 yX2_learn yX2_learn, Cond.code yX2_learn cX2_learn 5 none, Cond.methodLink RX2 77 yX3_write, Cond.instanceMethod yX3_write, Cond.selects RX3 yX3_write yX3_write, Cond.code yX3_write cX3_write 4 none, Cond.static yX4_put, Cond.code yX4_put cX4_put 3 none, Cond.methodLink RX2 67 yX2_cases, Cond.instanceMethod yX2_cases, Cond.selects RX2 yX2_cases yX2_cases, Cond.code yX2_cases cX2_cases 1 (some .int)]
def wsX4_ask_r5 : List Cond := [Cond.methodLink RX2 81 yX2_liesIfTold, Cond.instanceMethod yX2_liesIfTold, Cond.selects RX2 yX2_liesIfTold yX2_liesIfTold, Cond.code yX2_liesIfTold cX2_liesIfTold 6 (some .int), Cond.static yX4_at, Cond.code yX4_at cX4_at 2 (some .int)]
def wsX4_ask : List Cond := .code yX4_ask cX4_ask 3 (some .int) :: ((wsX4_ask_r1 ++ (wsX4_ask_r2 ++ (wsX4_ask_r3 ++ (wsX4_ask_r4 ++ wsX4_ask_r5)))) ++ wsX40 ++ wsX20 ++ wsX30 ++ wsX00 ++ (vx_atS RX4 34 "java/lang/IllegalArgumentException" ["java/lang/RuntimeException", "java/lang/Exception"]).filter goodWord ++ (vx_atS RX4 82 "java/lang/IllegalStateException" ["java/lang/RuntimeException", "java/lang/Exception"]).filter goodWord)
def wsX4_add_r1 : List Cond := [Cond.classLink RX4 30 "java/lang/IllegalArgumentException", Cond.initialized "java/lang/IllegalArgumentException", Cond.classLink RX4 78 "java/lang/IllegalStateException", Cond.initialized "java/lang/IllegalStateException", Cond.fieldLink RX4 12 "LyingScale" "now" "LLyingScale$State;", Cond.fieldLink RX4 19 "LyingScale" "history" "LLyingScale$History;", Cond.methodLink RX4 64 yX2_isWeighing, Cond.instanceMethod yX2_isWeighing, Cond.selects RX2 yX2_isWeighing yX2_isWeighing, Cond.initialized RX2, Cond.code yX2_isWeighing cX2_isWeighing 3 (some .boolean), Cond.fieldLink RX2 33 "LyingScale$State" "coins" "I", Cond.methodLink RX2 71 yJ6_bitCount_0f7a4, Cond.static yJ6_bitCount_0f7a4, Cond.initialized RJ6, Cond.code yJ6_bitCount_0f7a4 cJ6_bitCount_0f7a4 1 (some .int), Cond.constant RJ6 265 (1431655765), Cond.constant RJ6 266 (858993459), Cond.constant RJ6 267 (252645135), Cond.methodLink RX4 117 yX2_canPlan, Cond.instanceMethod yX2_canPlan, Cond.selects RX2 yX2_canPlan yX2_canPlan, Cond.code yX2_canPlan cX2_canPlan 1 (some .boolean), Cond.fieldLink RX2 20 "LyingScale$State" "plan" "LLyingScale$Weighings;"]
def wsX4_add_r2 : List Cond := [Cond.methodLink RX4 37 yX0_save, Cond.instanceMethod yX0_save, Cond.selects RX0 yX0_save yX0_save, Cond.initialized RX0, Cond.code yX0_save cX0_save 3 none, Cond.fieldLink RX0 18 "LyingScale$History" "count" "I", Cond.fieldLink RX0 11 "LyingScale$History" "states" "[LLyingScale$State;", Cond.methodLink RX0 22 yX0_dropOldest, Cond.instanceMethod yX0_dropOldest, Cond.selects RX0 yX0_dropOldest yX0_dropOldest, Cond.code yX0_dropOldest cX0_dropOldest 4 none, Cond.methodLink RX0 25 yX0_stateAt, Cond.instanceMethod yX0_stateAt, Cond.selects RX0 yX0_stateAt yX0_stateAt, Cond.code yX0_stateAt cX0_stateAt 2 (some (.object "LyingScale$State")), Cond.methodLink RX0 29 yX2_copyFrom, Cond.instanceMethod yX2_copyFrom, Cond.selects RX2 yX2_copyFrom yX2_copyFrom, Cond.code yX2_copyFrom cX2_copyFrom 2 none, Cond.fieldLink RX2 14 "LyingScale$State" "told" "LLyingScale$Weighings;", Cond.fieldLink RX2 23 "LyingScale$State" "liesOf" "[I", Cond.fieldLink RX2 37 "LyingScale$State" "limit" "I", Cond.fieldLink RX2 58 "LyingScale$State" "hidden" "I", Cond.fieldLink RX2 61 "LyingScale$State" "lieSet" "I"]
def wsX4_add_r3 : List Cond := [Cond.fieldLink RX2 64 "LyingScale$State" "answered" "I", Cond.methodLink RX2 50 yX3_copyFrom, Cond.instanceMethod yX3_copyFrom, Cond.selects RX3 yX3_copyFrom yX3_copyFrom, Cond.initialized RX3, Cond.code yX3_copyFrom cX3_copyFrom 2 none, Cond.fieldLink RX3 15 "LyingScale$Weighings" "lefts" "[I", Cond.fieldLink RX3 21 "LyingScale$Weighings" "rights" "[I", Cond.fieldLink RX3 24 "LyingScale$Weighings" "answers" "[I", Cond.fieldLink RX3 31 "LyingScale$Weighings" "count" "I", Cond.static yX4_copyRow, Cond.initialized RX4, Cond.code yX4_copyRow cX4_copyRow 2 none, Cond.methodLink RX4 253 Lib.Math.min.name, Cond.static Lib.Math.min.name, Cond.initialized "java/lang/Math", Cond.code Lib.Math.min.name Lib.Math.min.code 2 (some .int), Cond.methodLink RX4 258 arraycopyName, Cond.native arraycopyName, Cond.static arraycopyName, Cond.initialized "java/lang/System", Cond.methodLink RX4 125 yX2_planWeighing, Cond.instanceMethod yX2_planWeighing, Cond.selects RX2 yX2_planWeighing yX2_planWeighing]
def wsX4_add_r4 : List Cond := [Cond.code yX2_planWeighing cX2_planWeighing 3 none, Cond.methodLink RX2 77 yX3_write, Cond.instanceMethod yX3_write, Cond.selects RX3 yX3_write yX3_write, Cond.code yX3_write cX3_write 4 none, Cond.static yX4_put, Cond.code yX4_put cX4_put 3 none]
def wsX4_add : List Cond := .code yX4_add cX4_add 4 (some .int) :: ((wsX4_add_r1 ++ (wsX4_add_r2 ++ (wsX4_add_r3 ++ wsX4_add_r4))) ++ wsX40 ++ wsX20 ++ wsX30 ++ wsX00 ++ (vx_atS RX4 34 "java/lang/IllegalArgumentException" ["java/lang/RuntimeException", "java/lang/Exception"]).filter goodWord ++ (vx_atS RX4 82 "java/lang/IllegalStateException" ["java/lang/RuntimeException", "java/lang/Exception"]).filter goodWord)
def wsX4_removeLast_r1 : List Cond := [Cond.classLink RX4 78 "java/lang/IllegalStateException", Cond.initialized "java/lang/IllegalStateException", Cond.fieldLink RX4 12 "LyingScale" "now" "LLyingScale$State;", Cond.fieldLink RX4 19 "LyingScale" "history" "LLyingScale$History;", Cond.methodLink RX4 37 yX0_save, Cond.instanceMethod yX0_save, Cond.selects RX0 yX0_save yX0_save, Cond.initialized RX0, Cond.code yX0_save cX0_save 3 none, Cond.fieldLink RX0 18 "LyingScale$History" "count" "I", Cond.fieldLink RX0 11 "LyingScale$History" "states" "[LLyingScale$State;", Cond.methodLink RX0 22 yX0_dropOldest, Cond.instanceMethod yX0_dropOldest, Cond.selects RX0 yX0_dropOldest yX0_dropOldest, Cond.code yX0_dropOldest cX0_dropOldest 4 none, Cond.methodLink RX0 25 yX0_stateAt, Cond.instanceMethod yX0_stateAt, Cond.selects RX0 yX0_stateAt yX0_stateAt, Cond.code yX0_stateAt cX0_stateAt 2 (some (.object "LyingScale$State")), Cond.methodLink RX0 29 yX2_copyFrom, Cond.instanceMethod yX2_copyFrom, Cond.selects RX2 yX2_copyFrom yX2_copyFrom, Cond.initialized RX2, Cond.code yX2_copyFrom cX2_copyFrom 2 none]
def wsX4_removeLast_r2 : List Cond := [Cond.fieldLink RX2 14 "LyingScale$State" "told" "LLyingScale$Weighings;", Cond.fieldLink RX2 20 "LyingScale$State" "plan" "LLyingScale$Weighings;", Cond.fieldLink RX2 23 "LyingScale$State" "liesOf" "[I", Cond.fieldLink RX2 33 "LyingScale$State" "coins" "I", Cond.fieldLink RX2 37 "LyingScale$State" "limit" "I", Cond.fieldLink RX2 58 "LyingScale$State" "hidden" "I", Cond.fieldLink RX2 61 "LyingScale$State" "lieSet" "I", Cond.fieldLink RX2 64 "LyingScale$State" "answered" "I", Cond.methodLink RX2 50 yX3_copyFrom, Cond.instanceMethod yX3_copyFrom, Cond.selects RX3 yX3_copyFrom yX3_copyFrom, Cond.initialized RX3, Cond.code yX3_copyFrom cX3_copyFrom 2 none, Cond.fieldLink RX3 15 "LyingScale$Weighings" "lefts" "[I", Cond.fieldLink RX3 21 "LyingScale$Weighings" "rights" "[I", Cond.fieldLink RX3 24 "LyingScale$Weighings" "answers" "[I", Cond.fieldLink RX3 31 "LyingScale$Weighings" "count" "I", Cond.static yX4_copyRow, Cond.initialized RX4, Cond.code yX4_copyRow cX4_copyRow 2 none, Cond.methodLink RX4 253 Lib.Math.min.name, Cond.static Lib.Math.min.name, Cond.initialized "java/lang/Math", Cond.code Lib.Math.min.name Lib.Math.min.code 2 (some .int)]
def wsX4_removeLast_r3 : List Cond := [Cond.methodLink RX4 258 arraycopyName, Cond.native arraycopyName, Cond.static arraycopyName, Cond.initialized "java/lang/System", Cond.methodLink RX4 130 yX3_dropLast, Cond.instanceMethod yX3_dropLast, Cond.selects RX3 yX3_dropLast yX3_dropLast, Cond.code yX3_dropLast cX3_dropLast 1 none]
def wsX4_removeLast : List Cond := .code yX4_removeLast cX4_removeLast 1 (some .int) :: ((wsX4_removeLast_r1 ++ (wsX4_removeLast_r2 ++ wsX4_removeLast_r3)) ++ wsX40 ++ wsX20 ++ wsX30 ++ wsX00 ++ (vx_atS RX4 82 "java/lang/IllegalStateException" ["java/lang/RuntimeException", "java/lang/Exception"]).filter goodWord)
def wsX4_lies : List Cond := .code yX4_lies cX4_lies 2 (some .int) :: ([.classLink RX4 93 "java/lang/IndexOutOfBoundsException", .initialized "java/lang/IndexOutOfBoundsException", .fieldLink RX4 12 "LyingScale" "now" "LLyingScale$State;", .methodLink RX4 90 yX2_isCase, .instanceMethod yX2_isCase, .selects RX2 yX2_isCase yX2_isCase, .initialized RX2, .code yX2_isCase cX2_isCase 2 (some .boolean), .methodLink RX2 67 yX2_cases, .instanceMethod yX2_cases, .selects RX2 yX2_cases yX2_cases, .code yX2_cases cX2_cases 1 (some .int), .fieldLink RX2 33 "LyingScale$State" "coins" "I", .methodLink RX4 137 yX4_at, .static yX4_at, .initialized RX4, .code yX4_at cX4_at 2 (some .int)] ++ wsX40 ++ wsX20 ++ (vx_atS RX4 97 "java/lang/IndexOutOfBoundsException" ["java/lang/RuntimeException", "java/lang/Exception"]).filter goodWord)
def wsX4_answer_r1 : List Cond := [Cond.classLink RX4 93 "java/lang/IndexOutOfBoundsException", Cond.initialized "java/lang/IndexOutOfBoundsException", Cond.classLink RX4 30 "java/lang/IllegalArgumentException", Cond.initialized "java/lang/IllegalArgumentException", Cond.fieldLink RX4 12 "LyingScale" "now" "LLyingScale$State;", Cond.methodLink RX4 90 yX2_isCase, Cond.instanceMethod yX2_isCase, Cond.selects RX2 yX2_isCase yX2_isCase, Cond.initialized RX2, Cond.code yX2_isCase cX2_isCase 2 (some .boolean), Cond.methodLink RX2 67 yX2_cases, Cond.instanceMethod yX2_cases, Cond.selects RX2 yX2_cases yX2_cases, Cond.code yX2_cases cX2_cases 1 (some .int), Cond.fieldLink RX2 33 "LyingScale$State" "coins" "I", Cond.methodLink RX4 64 yX2_isWeighing, Cond.instanceMethod yX2_isWeighing, Cond.selects RX2 yX2_isWeighing yX2_isWeighing, Cond.code yX2_isWeighing cX2_isWeighing 3 (some .boolean), Cond.methodLink RX2 71 yJ6_bitCount_0f7a4, Cond.static yJ6_bitCount_0f7a4, Cond.initialized RJ6, Cond.code yJ6_bitCount_0f7a4 cJ6_bitCount_0f7a4 1 (some .int), Cond.constant RJ6 265 (1431655765)]
def wsX4_answer_r2 : List Cond := [Cond.constant RJ6 266 (858993459), Cond.constant RJ6 267 (252645135), Cond.methodLink RX4 141 yX4_trueAnswer, Cond.static yX4_trueAnswer, Cond.initialized RX4, Cond.code yX4_trueAnswer cX4_trueAnswer 5 (some .int), Cond.methodLink RX4 264 yX4_coinBit, Cond.static yX4_coinBit, Cond.code yX4_coinBit cX4_coinBit 1 (some .int)]
def wsX4_answer : List Cond := .code yX4_answer cX4_answer 4 (some .int) :: ((wsX4_answer_r1 ++ wsX4_answer_r2) ++ wsX40 ++ wsX20 ++ (vx_atS RX4 97 "java/lang/IndexOutOfBoundsException" ["java/lang/RuntimeException", "java/lang/Exception"]).filter goodWord ++ (vx_atS RX4 34 "java/lang/IllegalArgumentException" ["java/lang/RuntimeException", "java/lang/Exception"]).filter goodWord)
def wsX4_leftCase : List Cond := .code yX4_leftCase cX4_leftCase 3 (some .int) :: ([.classLink RX4 93 "java/lang/IndexOutOfBoundsException", .initialized "java/lang/IndexOutOfBoundsException", .fieldLink RX4 12 "LyingScale" "now" "LLyingScale$State;", .methodLink RX4 145 yX2_findLeft, .instanceMethod yX2_findLeft, .selects RX2 yX2_findLeft yX2_findLeft, .initialized RX2, .code yX2_findLeft cX2_findLeft 4 (some .int), .methodLink RX2 67 yX2_cases, .instanceMethod yX2_cases, .selects RX2 yX2_cases yX2_cases, .code yX2_cases cX2_cases 1 (some .int), .fieldLink RX2 33 "LyingScale$State" "coins" "I", .methodLink RX2 125 yX2_isLeft, .instanceMethod yX2_isLeft, .selects RX2 yX2_isLeft yX2_isLeft, .code yX2_isLeft cX2_isLeft 2 (some .boolean), .fieldLink RX2 23 "LyingScale$State" "liesOf" "[I", .fieldLink RX2 37 "LyingScale$State" "limit" "I", .static yX4_at, .initialized RX4, .code yX4_at cX4_at 2 (some .int)] ++ wsX40 ++ wsX20 ++ (vx_atS RX4 97 "java/lang/IndexOutOfBoundsException" ["java/lang/RuntimeException", "java/lang/Exception"]).filter goodWord)
def wsX4_weighing : List Cond := .code yX4_weighing cX4_weighing 3 (some .int) :: ([.classLink RX4 93 "java/lang/IndexOutOfBoundsException", .initialized "java/lang/IndexOutOfBoundsException", .classLink RX4 30 "java/lang/IllegalArgumentException", .initialized "java/lang/IllegalArgumentException", .fieldLink RX4 12 "LyingScale" "now" "LLyingScale$State;", .methodLink RX4 155 yX3_part, .instanceMethod yX3_part, .selects RX3 yX3_part yX3_part, .initialized RX3, .code yX3_part cX3_part 3 (some .int), .fieldLink RX3 15 "LyingScale$Weighings" "lefts" "[I", .fieldLink RX3 21 "LyingScale$Weighings" "rights" "[I", .fieldLink RX3 24 "LyingScale$Weighings" "answers" "[I", .static yX4_at, .initialized RX4, .code yX4_at cX4_at 2 (some .int)] ++ wsX40 ++ wsX20 ++ wsX30 ++ (vx_atS RX4 97 "java/lang/IndexOutOfBoundsException" ["java/lang/RuntimeException", "java/lang/Exception"]).filter goodWord ++ (vx_atS RX4 34 "java/lang/IllegalArgumentException" ["java/lang/RuntimeException", "java/lang/Exception"]).filter goodWord)
def wsX4_value_r1 : List Cond := [Cond.classLink RX4 30 "java/lang/IllegalArgumentException", Cond.initialized "java/lang/IllegalArgumentException", Cond.fieldLink RX4 12 "LyingScale" "now" "LLyingScale$State;", Cond.methodLink RX4 158 yX2_number, Cond.instanceMethod yX2_number, Cond.selects RX2 yX2_number yX2_number, Cond.initialized RX2, Cond.code yX2_number cX2_number 2 (some .int), Cond.fieldLink RX2 33 "LyingScale$State" "coins" "I", Cond.fieldLink RX2 37 "LyingScale$State" "limit" "I", Cond.fieldLink RX2 14 "LyingScale$State" "told" "LLyingScale$Weighings;", Cond.fieldLink RX2 20 "LyingScale$State" "plan" "LLyingScale$Weighings;", Cond.fieldLink RX2 58 "LyingScale$State" "hidden" "I", Cond.fieldLink RX2 64 "LyingScale$State" "answered" "I", Cond.methodLink RX2 131 yX2_countLeft, Cond.instanceMethod yX2_countLeft, Cond.selects RX2 yX2_countLeft yX2_countLeft, Cond.code yX2_countLeft cX2_countLeft 3 (some .int), Cond.methodLink RX2 67 yX2_cases, Cond.instanceMethod yX2_cases, Cond.selects RX2 yX2_cases yX2_cases, Cond.code yX2_cases cX2_cases 1 (some .int), Cond.methodLink RX2 125 yX2_isLeft, Cond.instanceMethod yX2_isLeft]
def wsX4_value_r2 : List Cond := [Cond.selects RX2 yX2_isLeft yX2_isLeft, Cond.code yX2_isLeft cX2_isLeft 2 (some .boolean), Cond.fieldLink RX2 23 "LyingScale$State" "liesOf" "[I", Cond.static yX4_at, Cond.initialized RX4, Cond.code yX4_at cX4_at 2 (some .int), Cond.methodLink RX2 134 yX2_falseCoins, Cond.instanceMethod yX2_falseCoins, Cond.selects RX2 yX2_falseCoins yX2_falseCoins, Cond.code yX2_falseCoins cX2_falseCoins 3 (some .int), Cond.static yX4_coinBit, Cond.code yX4_coinBit cX4_coinBit 1 (some .int)]
def wsX4_value : List Cond := .code yX4_value cX4_value 2 (some .int) :: ((wsX4_value_r1 ++ wsX4_value_r2) ++ wsX40 ++ wsX20 ++ wsX30 ++ (vx_atS RX4 34 "java/lang/IllegalArgumentException" ["java/lang/RuntimeException", "java/lang/Exception"]).filter goodWord)
def wsX4_isAhead : List Cond := .code yX4_isAhead cX4_isAhead 1 (some .boolean) :: ([])
def wsX4_weight_r1 : List Cond := [Cond.classLink RX4 30 "java/lang/IllegalArgumentException", Cond.initialized "java/lang/IllegalArgumentException", Cond.fieldLink RX4 12 "LyingScale" "now" "LLyingScale$State;", Cond.methodLink RX4 161 yX4_isAhead, Cond.static yX4_isAhead, Cond.initialized RX4, Cond.code yX4_isAhead cX4_isAhead 1 (some .boolean), Cond.methodLink RX4 166 yX2_weightAhead, Cond.instanceMethod yX2_weightAhead, Cond.selects RX2 yX2_weightAhead yX2_weightAhead, Cond.initialized RX2, Cond.code yX2_weightAhead cX2_weightAhead 5 (some .long), Cond.fieldLink RX2 23 "LyingScale$State" "liesOf" "[I", Cond.methodLink RX2 67 yX2_cases, Cond.instanceMethod yX2_cases, Cond.selects RX2 yX2_cases yX2_cases, Cond.code yX2_cases cX2_cases 1 (some .int), Cond.fieldLink RX2 33 "LyingScale$State" "coins" "I", Cond.static yX4_at, Cond.code yX4_at cX4_at 2 (some .int), Cond.methodLink RX2 137 yX2_volumeLeft, Cond.instanceMethod yX2_volumeLeft, Cond.selects RX2 yX2_volumeLeft yX2_volumeLeft, Cond.code yX2_volumeLeft cX2_volumeLeft 3 (some .long)]
def wsX4_weight_r2 : List Cond := [Cond.fieldLink RX2 37 "LyingScale$State" "limit" "I", Cond.static yX4_volume, Cond.code yX4_volume cX4_volume 8 (some .long), Cond.methodLink RX4 253 Lib.Math.min.name, Cond.static Lib.Math.min.name, Cond.initialized "java/lang/Math", Cond.code Lib.Math.min.name Lib.Math.min.code 2 (some .int)]
def wsX4_weight : List Cond := .code yX4_weight cX4_weight 2 (some .long) :: ((wsX4_weight_r1 ++ wsX4_weight_r2) ++ wsX40 ++ wsX20 ++ (vx_atS RX4 34 "java/lang/IllegalArgumentException" ["java/lang/RuntimeException", "java/lang/Exception"]).filter goodWord)
def wsX4_bound_r1 : List Cond := [Cond.fieldLink RX4 12 "LyingScale" "now" "LLyingScale$State;", Cond.constantLong RX4 170 (3), Cond.methodLink RX4 166 yX2_weightAhead, Cond.instanceMethod yX2_weightAhead, Cond.selects RX2 yX2_weightAhead yX2_weightAhead, Cond.initialized RX2, Cond.code yX2_weightAhead cX2_weightAhead 5 (some .long), Cond.fieldLink RX2 23 "LyingScale$State" "liesOf" "[I", Cond.methodLink RX2 67 yX2_cases, Cond.instanceMethod yX2_cases, Cond.selects RX2 yX2_cases yX2_cases, Cond.code yX2_cases cX2_cases 1 (some .int), Cond.fieldLink RX2 33 "LyingScale$State" "coins" "I", Cond.static yX4_at, Cond.initialized RX4, Cond.code yX4_at cX4_at 2 (some .int), Cond.methodLink RX2 137 yX2_volumeLeft, Cond.instanceMethod yX2_volumeLeft, Cond.selects RX2 yX2_volumeLeft yX2_volumeLeft, Cond.code yX2_volumeLeft cX2_volumeLeft 3 (some .long), Cond.fieldLink RX2 37 "LyingScale$State" "limit" "I", Cond.static yX4_volume, Cond.code yX4_volume cX4_volume 8 (some .long), Cond.methodLink RX4 253 Lib.Math.min.name]
def wsX4_bound_r2 : List Cond := [Cond.static Lib.Math.min.name, Cond.initialized "java/lang/Math", Cond.code Lib.Math.min.name Lib.Math.min.code 2 (some .int)]
def wsX4_bound : List Cond := .code yX4_bound cX4_bound 4 (some .int) :: ((wsX4_bound_r1 ++ wsX4_bound_r2) ++ wsX40 ++ wsX20)
def wsX4_weightBehind_r1 : List Cond := [Cond.classLink RX4 30 "java/lang/IllegalArgumentException", Cond.initialized "java/lang/IllegalArgumentException", Cond.fieldLink RX4 12 "LyingScale" "now" "LLyingScale$State;", Cond.methodLink RX4 64 yX2_isWeighing, Cond.instanceMethod yX2_isWeighing, Cond.selects RX2 yX2_isWeighing yX2_isWeighing, Cond.initialized RX2, Cond.code yX2_isWeighing cX2_isWeighing 3 (some .boolean), Cond.fieldLink RX2 33 "LyingScale$State" "coins" "I", Cond.methodLink RX2 71 yJ6_bitCount_0f7a4, Cond.static yJ6_bitCount_0f7a4, Cond.initialized RJ6, Cond.code yJ6_bitCount_0f7a4 cJ6_bitCount_0f7a4 1 (some .int), Cond.constant RJ6 265 (1431655765), Cond.constant RJ6 266 (858993459), Cond.constant RJ6 267 (252645135), Cond.methodLink RX4 68 yX4_isAnswer, Cond.static yX4_isAnswer, Cond.initialized RX4, Cond.code yX4_isAnswer cX4_isAnswer 1 (some .boolean), Cond.methodLink RX4 161 yX4_isAhead, Cond.static yX4_isAhead, Cond.code yX4_isAhead cX4_isAhead 1 (some .boolean), Cond.methodLink RX4 174 yX2_weightIfTold]
def wsX4_weightBehind_r2 : List Cond := [Cond.instanceMethod yX2_weightIfTold, Cond.selects RX2 yX2_weightIfTold yX2_weightIfTold, Cond.code yX2_weightIfTold cX2_weightIfTold 8 (some .long), Cond.methodLink RX2 67 yX2_cases, Cond.instanceMethod yX2_cases, Cond.selects RX2 yX2_cases yX2_cases, Cond.code yX2_cases cX2_cases 1 (some .int), Cond.methodLink RX2 81 yX2_liesIfTold, Cond.instanceMethod yX2_liesIfTold, Cond.selects RX2 yX2_liesIfTold yX2_liesIfTold, Cond.code yX2_liesIfTold cX2_liesIfTold 6 (some .int), Cond.fieldLink RX2 23 "LyingScale$State" "liesOf" "[I", Cond.static yX4_at, Cond.code yX4_at cX4_at 2 (some .int), Cond.static yX4_trueAnswer, Cond.code yX4_trueAnswer cX4_trueAnswer 5 (some .int), Cond.methodLink RX4 264 yX4_coinBit, Cond.static yX4_coinBit, Cond.code yX4_coinBit cX4_coinBit 1 (some .int), Cond.methodLink RX2 137 yX2_volumeLeft, Cond.instanceMethod yX2_volumeLeft, Cond.selects RX2 yX2_volumeLeft yX2_volumeLeft, Cond.code yX2_volumeLeft cX2_volumeLeft 3 (some .long), Cond.fieldLink RX2 37 "LyingScale$State" "limit" "I"]
def wsX4_weightBehind_r3 : List Cond := [Cond.static yX4_volume, Cond.code yX4_volume cX4_volume 8 (some .long), Cond.methodLink RX4 253 Lib.Math.min.name, Cond.static Lib.Math.min.name, Cond.initialized "java/lang/Math", Cond.code Lib.Math.min.name Lib.Math.min.code 2 (some .int)]
def wsX4_weightBehind : List Cond := .code yX4_weightBehind cX4_weightBehind 5 (some .long) :: ((wsX4_weightBehind_r1 ++ (wsX4_weightBehind_r2 ++ wsX4_weightBehind_r3)) ++ wsX40 ++ wsX20 ++ (vx_atS RX4 34 "java/lang/IllegalArgumentException" ["java/lang/RuntimeException", "java/lang/Exception"]).filter goodWord)
def wsX4_bestGroup_r1 : List Cond := [Cond.classLink RX4 30 "java/lang/IllegalArgumentException", Cond.initialized "java/lang/IllegalArgumentException", Cond.fieldLink RX4 12 "LyingScale" "now" "LLyingScale$State;", Cond.methodLink RX4 161 yX4_isAhead, Cond.static yX4_isAhead, Cond.initialized RX4, Cond.code yX4_isAhead cX4_isAhead 1 (some .boolean), Cond.methodLink RX4 178 yX2_findGroup, Cond.instanceMethod yX2_findGroup, Cond.selects RX2 yX2_findGroup yX2_findGroup, Cond.initialized RX2, Cond.code yX2_findGroup cX2_findGroup 8 (some .int), Cond.fieldLink RX2 33 "LyingScale$State" "coins" "I", Cond.methodLink RX2 154 yX2_badness, Cond.instanceMethod yX2_badness, Cond.selects RX2 yX2_badness yX2_badness, Cond.code yX2_badness cX2_badness 8 (some .long), Cond.methodLink RX2 148 Lib.MathLoose.max_long.x, Cond.static Lib.MathLoose.max_long.x, Cond.initialized "java/lang/Math", Cond.code Lib.MathLoose.max_long.x Lib.MathLoose.max_long.code 4 (some .long), Cond.methodLink RX2 144 yX2_weightIfTold, Cond.instanceMethod yX2_weightIfTold, Cond.selects RX2 yX2_weightIfTold yX2_weightIfTold]
def wsX4_bestGroup_r2 : List Cond := [Cond.code yX2_weightIfTold cX2_weightIfTold 8 (some .long), Cond.methodLink RX2 67 yX2_cases, Cond.instanceMethod yX2_cases, Cond.selects RX2 yX2_cases yX2_cases, Cond.code yX2_cases cX2_cases 1 (some .int), Cond.methodLink RX2 81 yX2_liesIfTold, Cond.instanceMethod yX2_liesIfTold, Cond.selects RX2 yX2_liesIfTold yX2_liesIfTold, Cond.code yX2_liesIfTold cX2_liesIfTold 6 (some .int), Cond.fieldLink RX2 23 "LyingScale$State" "liesOf" "[I", Cond.static yX4_at, Cond.code yX4_at cX4_at 2 (some .int), Cond.static yX4_trueAnswer, Cond.code yX4_trueAnswer cX4_trueAnswer 5 (some .int), Cond.methodLink RX4 264 yX4_coinBit, Cond.static yX4_coinBit, Cond.code yX4_coinBit cX4_coinBit 1 (some .int), Cond.methodLink RX2 137 yX2_volumeLeft, Cond.instanceMethod yX2_volumeLeft, Cond.selects RX2 yX2_volumeLeft yX2_volumeLeft, Cond.code yX2_volumeLeft cX2_volumeLeft 3 (some .long), Cond.fieldLink RX2 37 "LyingScale$State" "limit" "I", Cond.static yX4_volume, Cond.code yX4_volume cX4_volume 8 (some .long)]
def wsX4_bestGroup_r3 : List Cond := [Cond.methodLink RX4 253 Lib.Math.min.name, Cond.static Lib.Math.min.name, Cond.code Lib.Math.min.name Lib.Math.min.code 2 (some .int)]
def wsX4_bestGroup : List Cond := .code yX4_bestGroup cX4_bestGroup 2 (some .int) :: ((wsX4_bestGroup_r1 ++ (wsX4_bestGroup_r2 ++ wsX4_bestGroup_r3)) ++ wsX40 ++ wsX20 ++ (vx_atS RX4 34 "java/lang/IllegalArgumentException" ["java/lang/RuntimeException", "java/lang/Exception"]).filter goodWord)
def wsX4_teaches_r1 : List Cond := [Cond.classLink RX4 30 "java/lang/IllegalArgumentException", Cond.initialized "java/lang/IllegalArgumentException", Cond.fieldLink RX4 12 "LyingScale" "now" "LLyingScale$State;", Cond.methodLink RX4 64 yX2_isWeighing, Cond.instanceMethod yX2_isWeighing, Cond.selects RX2 yX2_isWeighing yX2_isWeighing, Cond.initialized RX2, Cond.code yX2_isWeighing cX2_isWeighing 3 (some .boolean), Cond.fieldLink RX2 33 "LyingScale$State" "coins" "I", Cond.methodLink RX2 71 yJ6_bitCount_0f7a4, Cond.static yJ6_bitCount_0f7a4, Cond.initialized RJ6, Cond.code yJ6_bitCount_0f7a4 cJ6_bitCount_0f7a4 1 (some .int), Cond.constant RJ6 265 (1431655765), Cond.constant RJ6 266 (858993459), Cond.constant RJ6 267 (252645135), Cond.methodLink RX4 181 yX2_differs, Cond.instanceMethod yX2_differs, Cond.selects RX2 yX2_differs yX2_differs, Cond.code yX2_differs cX2_differs 6 (some .boolean), Cond.methodLink RX2 67 yX2_cases, Cond.instanceMethod yX2_cases, Cond.selects RX2 yX2_cases yX2_cases, Cond.code yX2_cases cX2_cases 1 (some .int)]
def wsX4_teaches_r2 : List Cond := [Cond.methodLink RX2 125 yX2_isLeft, Cond.instanceMethod yX2_isLeft, Cond.selects RX2 yX2_isLeft yX2_isLeft, Cond.code yX2_isLeft cX2_isLeft 2 (some .boolean), Cond.fieldLink RX2 23 "LyingScale$State" "liesOf" "[I", Cond.fieldLink RX2 37 "LyingScale$State" "limit" "I", Cond.static yX4_at, Cond.initialized RX4, Cond.code yX4_at cX4_at 2 (some .int), Cond.static yX4_trueAnswer, Cond.code yX4_trueAnswer cX4_trueAnswer 5 (some .int), Cond.methodLink RX4 264 yX4_coinBit, Cond.static yX4_coinBit, Cond.code yX4_coinBit cX4_coinBit 1 (some .int)]
def wsX4_teaches : List Cond := .code yX4_teaches cX4_teaches 3 (some .boolean) :: ((wsX4_teaches_r1 ++ wsX4_teaches_r2) ++ wsX40 ++ wsX20 ++ (vx_atS RX4 34 "java/lang/IllegalArgumentException" ["java/lang/RuntimeException", "java/lang/Exception"]).filter goodWord)
def wsX4_distance_r1 : List Cond := [Cond.classLink RX4 93 "java/lang/IndexOutOfBoundsException", Cond.initialized "java/lang/IndexOutOfBoundsException", Cond.fieldLink RX4 12 "LyingScale" "now" "LLyingScale$State;", Cond.methodLink RX4 90 yX2_isCase, Cond.instanceMethod yX2_isCase, Cond.selects RX2 yX2_isCase yX2_isCase, Cond.initialized RX2, Cond.code yX2_isCase cX2_isCase 2 (some .boolean), Cond.methodLink RX2 67 yX2_cases, Cond.instanceMethod yX2_cases, Cond.selects RX2 yX2_cases yX2_cases, Cond.code yX2_cases cX2_cases 1 (some .int), Cond.fieldLink RX2 33 "LyingScale$State" "coins" "I", Cond.methodLink RX4 184 yX3_codeWord, Cond.instanceMethod yX3_codeWord, Cond.selects RX3 yX3_codeWord yX3_codeWord, Cond.initialized RX3, Cond.code yX3_codeWord cX3_codeWord 4 (some .int), Cond.fieldLink RX3 31 "LyingScale$Weighings" "count" "I", Cond.fieldLink RX3 15 "LyingScale$Weighings" "lefts" "[I", Cond.fieldLink RX3 21 "LyingScale$Weighings" "rights" "[I", Cond.static yX4_at, Cond.initialized RX4, Cond.code yX4_at cX4_at 2 (some .int)]
def wsX4_distance_r2 : List Cond := [Cond.static yX4_trueAnswer, Cond.code yX4_trueAnswer cX4_trueAnswer 5 (some .int), Cond.methodLink RX4 264 yX4_coinBit, Cond.static yX4_coinBit, Cond.code yX4_coinBit cX4_coinBit 1 (some .int), Cond.methodLink RX4 187 yX4_differences, Cond.static yX4_differences, Cond.code yX4_differences cX4_differences 3 (some .int), Cond.methodLink RX4 267 yJ6_bitCount_0f7a4, Cond.static yJ6_bitCount_0f7a4, Cond.initialized RJ6, Cond.code yJ6_bitCount_0f7a4 cJ6_bitCount_0f7a4 1 (some .int), Cond.constant RJ6 265 (1431655765), Cond.constant RJ6 266 (858993459), Cond.constant RJ6 267 (252645135)]
def wsX4_distance : List Cond := .code yX4_distance cX4_distance 3 (some .int) :: ((wsX4_distance_r1 ++ wsX4_distance_r2) ++ wsX40 ++ wsX20 ++ wsX30 ++ (vx_atS RX4 97 "java/lang/IndexOutOfBoundsException" ["java/lang/RuntimeException", "java/lang/Exception"]).filter goodWord)
def wsX4_leastDistance_r1 : List Cond := [Cond.fieldLink RX4 12 "LyingScale" "now" "LLyingScale$State;", Cond.methodLink RX4 190 yX2_leastDifferences, Cond.instanceMethod yX2_leastDifferences, Cond.selects RX2 yX2_leastDifferences yX2_leastDifferences, Cond.initialized RX2, Cond.code yX2_leastDifferences cX2_leastDifferences 4 (some .int), Cond.fieldLink RX2 27 "LyingScale$State" "words" "[I", Cond.fieldLink RX2 20 "LyingScale$State" "plan" "LLyingScale$Weighings;", Cond.methodLink RX2 163 Lib.Math.min.name, Cond.static Lib.Math.min.name, Cond.initialized "java/lang/Math", Cond.code Lib.Math.min.name Lib.Math.min.code 2 (some .int), Cond.methodLink RX2 67 yX2_cases, Cond.instanceMethod yX2_cases, Cond.selects RX2 yX2_cases yX2_cases, Cond.code yX2_cases cX2_cases 1 (some .int), Cond.fieldLink RX2 33 "LyingScale$State" "coins" "I", Cond.methodLink RX2 157 yX3_codeWord, Cond.instanceMethod yX3_codeWord, Cond.selects RX3 yX3_codeWord yX3_codeWord, Cond.initialized RX3, Cond.code yX3_codeWord cX3_codeWord 4 (some .int), Cond.fieldLink RX3 31 "LyingScale$Weighings" "count" "I", Cond.fieldLink RX3 15 "LyingScale$Weighings" "lefts" "[I"]
def wsX4_leastDistance_r2 : List Cond := [Cond.fieldLink RX3 21 "LyingScale$Weighings" "rights" "[I", Cond.static yX4_at, Cond.initialized RX4, Cond.code yX4_at cX4_at 2 (some .int), Cond.static yX4_trueAnswer, Cond.code yX4_trueAnswer cX4_trueAnswer 5 (some .int), Cond.methodLink RX4 264 yX4_coinBit, Cond.static yX4_coinBit, Cond.code yX4_coinBit cX4_coinBit 1 (some .int), Cond.static yX4_put, Cond.code yX4_put cX4_put 3 none, Cond.static yX4_differences, Cond.code yX4_differences cX4_differences 3 (some .int), Cond.methodLink RX4 267 yJ6_bitCount_0f7a4, Cond.static yJ6_bitCount_0f7a4, Cond.initialized RJ6, Cond.code yJ6_bitCount_0f7a4 cJ6_bitCount_0f7a4 1 (some .int), Cond.constant RJ6 265 (1431655765), Cond.constant RJ6 266 (858993459), Cond.constant RJ6 267 (252645135)]
def wsX4_leastDistance : List Cond := .code yX4_leastDistance cX4_leastDistance 1 (some .int) :: ((wsX4_leastDistance_r1 ++ wsX4_leastDistance_r2) ++ wsX40 ++ wsX20 ++ wsX30)
def wsX4_bears_r1 : List Cond := [Cond.fieldLink RX4 12 "LyingScale" "now" "LLyingScale$State;", Cond.methodLink RX4 190 yX2_leastDifferences, Cond.instanceMethod yX2_leastDifferences, Cond.selects RX2 yX2_leastDifferences yX2_leastDifferences, Cond.initialized RX2, Cond.code yX2_leastDifferences cX2_leastDifferences 4 (some .int), Cond.fieldLink RX2 27 "LyingScale$State" "words" "[I", Cond.fieldLink RX2 20 "LyingScale$State" "plan" "LLyingScale$Weighings;", Cond.methodLink RX2 163 Lib.Math.min.name, Cond.static Lib.Math.min.name, Cond.initialized "java/lang/Math", Cond.code Lib.Math.min.name Lib.Math.min.code 2 (some .int), Cond.methodLink RX2 67 yX2_cases, Cond.instanceMethod yX2_cases, Cond.selects RX2 yX2_cases yX2_cases, Cond.code yX2_cases cX2_cases 1 (some .int), Cond.fieldLink RX2 33 "LyingScale$State" "coins" "I", Cond.methodLink RX2 157 yX3_codeWord, Cond.instanceMethod yX3_codeWord, Cond.selects RX3 yX3_codeWord yX3_codeWord, Cond.initialized RX3, Cond.code yX3_codeWord cX3_codeWord 4 (some .int), Cond.fieldLink RX3 31 "LyingScale$Weighings" "count" "I", Cond.fieldLink RX3 15 "LyingScale$Weighings" "lefts" "[I"]
def wsX4_bears_r2 : List Cond := [Cond.fieldLink RX3 21 "LyingScale$Weighings" "rights" "[I", Cond.static yX4_at, Cond.initialized RX4, Cond.code yX4_at cX4_at 2 (some .int), Cond.static yX4_trueAnswer, Cond.code yX4_trueAnswer cX4_trueAnswer 5 (some .int), Cond.methodLink RX4 264 yX4_coinBit, Cond.static yX4_coinBit, Cond.code yX4_coinBit cX4_coinBit 1 (some .int), Cond.static yX4_put, Cond.code yX4_put cX4_put 3 none, Cond.static yX4_differences, Cond.code yX4_differences cX4_differences 3 (some .int), Cond.methodLink RX4 267 yJ6_bitCount_0f7a4, Cond.static yJ6_bitCount_0f7a4, Cond.initialized RJ6, Cond.code yJ6_bitCount_0f7a4 cJ6_bitCount_0f7a4 1 (some .int), Cond.constant RJ6 265 (1431655765), Cond.constant RJ6 266 (858993459), Cond.constant RJ6 267 (252645135)]
def wsX4_bears : List Cond := .code yX4_bears cX4_bears 2 (some .int) :: ((wsX4_bears_r1 ++ wsX4_bears_r2) ++ wsX40 ++ wsX20 ++ wsX30)
def wsX4_wordOf : List Cond := .code yX4_wordOf cX4_wordOf 4 (some .int) :: ([])
def wsX4_decode_r1 : List Cond := [Cond.classLink RX4 30 "java/lang/IllegalArgumentException", Cond.initialized "java/lang/IllegalArgumentException", Cond.fieldLink RX4 12 "LyingScale" "now" "LLyingScale$State;", Cond.methodLink RX4 193 yX3_answerRows, Cond.instanceMethod yX3_answerRows, Cond.selects RX3 yX3_answerRows yX3_answerRows, Cond.initialized RX3, Cond.code yX3_answerRows cX3_answerRows 3 (some .int), Cond.fieldLink RX3 31 "LyingScale$Weighings" "count" "I", Cond.methodLink RX4 198 yX4_wordOf, Cond.static yX4_wordOf, Cond.initialized RX4, Cond.code yX4_wordOf cX4_wordOf 4 (some .int), Cond.methodLink RX4 201 yX2_nearestCase, Cond.instanceMethod yX2_nearestCase, Cond.selects RX2 yX2_nearestCase yX2_nearestCase, Cond.initialized RX2, Cond.code yX2_nearestCase cX2_nearestCase 6 (some .int), Cond.fieldLink RX2 20 "LyingScale$State" "plan" "LLyingScale$Weighings;", Cond.methodLink RX2 67 yX2_cases, Cond.instanceMethod yX2_cases, Cond.selects RX2 yX2_cases yX2_cases, Cond.code yX2_cases cX2_cases 1 (some .int), Cond.fieldLink RX2 33 "LyingScale$State" "coins" "I"]
def wsX4_decode_r2 : List Cond := [Cond.methodLink RX2 157 yX3_codeWord, Cond.instanceMethod yX3_codeWord, Cond.selects RX3 yX3_codeWord yX3_codeWord, Cond.code yX3_codeWord cX3_codeWord 4 (some .int), Cond.fieldLink RX3 15 "LyingScale$Weighings" "lefts" "[I", Cond.fieldLink RX3 21 "LyingScale$Weighings" "rights" "[I", Cond.static yX4_at, Cond.code yX4_at cX4_at 2 (some .int), Cond.static yX4_trueAnswer, Cond.code yX4_trueAnswer cX4_trueAnswer 5 (some .int), Cond.methodLink RX4 264 yX4_coinBit, Cond.static yX4_coinBit, Cond.code yX4_coinBit cX4_coinBit 1 (some .int), Cond.static yX4_differences, Cond.code yX4_differences cX4_differences 3 (some .int), Cond.methodLink RX4 267 yJ6_bitCount_0f7a4, Cond.static yJ6_bitCount_0f7a4, Cond.initialized RJ6, Cond.code yJ6_bitCount_0f7a4 cJ6_bitCount_0f7a4 1 (some .int), Cond.constant RJ6 265 (1431655765), Cond.constant RJ6 266 (858993459), Cond.constant RJ6 267 (252645135)]
def wsX4_decode : List Cond := .code yX4_decode cX4_decode 2 (some .int) :: ((wsX4_decode_r1 ++ wsX4_decode_r2) ++ wsX40 ++ wsX20 ++ wsX30 ++ (vx_atS RX4 34 "java/lang/IllegalArgumentException" ["java/lang/RuntimeException", "java/lang/Exception"]).filter goodWord)
def wsX4_share : List Cond := .code yX4_share cX4_share 1 (some .double) :: ([.fieldLink RX4 12 "LyingScale" "now" "LLyingScale$State;", .methodLink RX4 60 yX2_countLeft, .instanceMethod yX2_countLeft, .selects RX2 yX2_countLeft yX2_countLeft, .initialized RX2, .code yX2_countLeft cX2_countLeft 3 (some .int), .methodLink RX2 67 yX2_cases, .instanceMethod yX2_cases, .selects RX2 yX2_cases yX2_cases, .code yX2_cases cX2_cases 1 (some .int), .fieldLink RX2 33 "LyingScale$State" "coins" "I", .methodLink RX2 125 yX2_isLeft, .instanceMethod yX2_isLeft, .selects RX2 yX2_isLeft yX2_isLeft, .code yX2_isLeft cX2_isLeft 2 (some .boolean), .fieldLink RX2 23 "LyingScale$State" "liesOf" "[I", .fieldLink RX2 37 "LyingScale$State" "limit" "I", .static yX4_at, .initialized RX4, .code yX4_at cX4_at 2 (some .int), .methodLink RX4 204 yX2_cases] ++ wsX40 ++ wsX20)
def wsX4_append : List Cond := .code yX4_append cX4_append 2 (some .int) :: ([.classLink RX4 30 "java/lang/IllegalArgumentException", .initialized "java/lang/IllegalArgumentException", .classLink RX4 78 "java/lang/IllegalStateException", .initialized "java/lang/IllegalStateException", .fieldLink RX4 26 "LyingScale" "orders" "LLyingScale$Orders;", .methodLink RX4 214 yX1_write, .instanceMethod yX1_write, .selects RX1 yX1_write yX1_write, .initialized RX1, .code yX1_write cX1_write 2 none, .fieldLink RX1 24 "LyingScale$Orders" "length" "I", .fieldLink RX1 9 "LyingScale$Orders" "bytes" "[I", .static yX4_put, .initialized RX4, .code yX4_put cX4_put 3 none] ++ wsX40 ++ wsX10 ++ (vx_atS RX4 34 "java/lang/IllegalArgumentException" ["java/lang/RuntimeException", "java/lang/Exception"]).filter goodWord ++ (vx_atS RX4 82 "java/lang/IllegalStateException" ["java/lang/RuntimeException", "java/lang/Exception"]).filter goodWord)
def wsX4_clearText : List Cond := .code yX4_clearText cX4_clearText 2 (some .int) :: ([.fieldLink RX4 26 "LyingScale" "orders" "LLyingScale$Orders;"] ++ wsX40 ++ wsX10)
def wsX4_carryOut_r1 : List Cond := [Cond.fieldLink RX4 26 "LyingScale" "orders" "LLyingScale$Orders;", Cond.fieldLink RX4 19 "LyingScale" "history" "LLyingScale$History;", Cond.fieldLink RX4 12 "LyingScale" "now" "LLyingScale$State;", Cond.methodLink RX4 217 yX1_read, Cond.instanceMethod yX1_read, Cond.selects RX1 yX1_read yX1_read, Cond.initialized RX1, Cond.code yX1_read cX1_read 2 (some .int), Cond.fieldLink RX1 32 "LyingScale$Orders" "count" "I", Cond.fieldLink RX1 35 "LyingScale$Orders" "place" "I", Cond.fieldLink RX1 24 "LyingScale$Orders" "length" "I", Cond.fieldLink RX1 9 "LyingScale$Orders" "bytes" "[I", Cond.static yX4_at, Cond.initialized RX4, Cond.code yX4_at cX4_at 2 (some .int), Cond.methodLink RX1 42 yX1_take, Cond.instanceMethod yX1_take, Cond.selects RX1 yX1_take yX1_take, Cond.code yX1_take cX1_take 2 (some .boolean), Cond.fieldLink RX1 46 "LyingScale$Orders" "left" "I", Cond.fieldLink RX1 49 "LyingScale$Orders" "right" "I", Cond.methodLink RX1 52 yX1_takeLeft, Cond.instanceMethod yX1_takeLeft, Cond.selects RX1 yX1_takeLeft yX1_takeLeft]
def wsX4_carryOut_r2 : List Cond := [Cond.code yX1_takeLeft cX1_takeLeft 3 (some .boolean), Cond.methodLink RX1 71 yX1_coinOf, Cond.instanceMethod yX1_coinOf, Cond.selects RX1 yX1_coinOf yX1_coinOf, Cond.code yX1_coinOf cX1_coinOf 2 (some .int), Cond.methodLink RX1 55 yX1_goTo, Cond.instanceMethod yX1_goTo, Cond.selects RX1 yX1_goTo yX1_goTo, Cond.code yX1_goTo cX1_goTo 2 (some .boolean), Cond.methodLink RX1 58 yX1_takeRight, Cond.instanceMethod yX1_takeRight, Cond.selects RX1 yX1_takeRight yX1_takeRight, Cond.code yX1_takeRight cX1_takeRight 3 (some .boolean), Cond.methodLink RX1 61 yX1_takeDeed, Cond.instanceMethod yX1_takeDeed, Cond.selects RX1 yX1_takeDeed yX1_takeDeed, Cond.code yX1_takeDeed cX1_takeDeed 2 (some .boolean), Cond.methodLink RX1 75 yX1_decide, Cond.instanceMethod yX1_decide, Cond.selects RX1 yX1_decide yX1_decide, Cond.code yX1_decide cX1_decide 2 (some .boolean), Cond.fieldLink RX1 15 "LyingScale$Orders" "lefts" "[I", Cond.fieldLink RX1 18 "LyingScale$Orders" "rights" "[I", Cond.fieldLink RX1 21 "LyingScale$Orders" "deeds" "[I"]
def wsX4_carryOut_r3 : List Cond := [Cond.static yX4_put, Cond.code yX4_put cX4_put 3 none, Cond.methodLink RX1 64 yX1_takeAnswer, Cond.instanceMethod yX1_takeAnswer, Cond.selects RX1 yX1_takeAnswer yX1_takeAnswer, Cond.code yX1_takeAnswer cX1_takeAnswer 2 (some .boolean), Cond.methodLink RX1 67 yX1_close, Cond.instanceMethod yX1_close, Cond.selects RX1 yX1_close yX1_close, Cond.code yX1_close cX1_close 1 (some .boolean), Cond.methodLink RX4 37 yX0_save, Cond.instanceMethod yX0_save, Cond.selects RX0 yX0_save yX0_save, Cond.initialized RX0, Cond.code yX0_save cX0_save 3 none, Cond.fieldLink RX0 18 "LyingScale$History" "count" "I", Cond.fieldLink RX0 11 "LyingScale$History" "states" "[LLyingScale$State;", Cond.methodLink RX0 22 yX0_dropOldest, Cond.instanceMethod yX0_dropOldest, Cond.selects RX0 yX0_dropOldest yX0_dropOldest, Cond.code yX0_dropOldest cX0_dropOldest 4 none, Cond.methodLink RX0 25 yX0_stateAt, Cond.instanceMethod yX0_stateAt, Cond.selects RX0 yX0_stateAt yX0_stateAt]
def wsX4_carryOut_r4 : List Cond := [Cond.code yX0_stateAt cX0_stateAt 2 (some (.object "LyingScale$State")), Cond.methodLink RX0 29 yX2_copyFrom, Cond.instanceMethod yX2_copyFrom, Cond.selects RX2 yX2_copyFrom yX2_copyFrom, Cond.initialized RX2, Cond.code yX2_copyFrom cX2_copyFrom 2 none, Cond.fieldLink RX2 14 "LyingScale$State" "told" "LLyingScale$Weighings;", Cond.fieldLink RX2 20 "LyingScale$State" "plan" "LLyingScale$Weighings;", Cond.fieldLink RX2 23 "LyingScale$State" "liesOf" "[I", Cond.fieldLink RX2 33 "LyingScale$State" "coins" "I", Cond.fieldLink RX2 37 "LyingScale$State" "limit" "I", Cond.fieldLink RX2 58 "LyingScale$State" "hidden" "I", Cond.fieldLink RX2 61 "LyingScale$State" "lieSet" "I", Cond.fieldLink RX2 64 "LyingScale$State" "answered" "I", Cond.methodLink RX2 50 yX3_copyFrom, Cond.instanceMethod yX3_copyFrom, Cond.selects RX3 yX3_copyFrom yX3_copyFrom, Cond.initialized RX3, Cond.code yX3_copyFrom cX3_copyFrom 2 none, Cond.fieldLink RX3 15 "LyingScale$Weighings" "lefts" "[I", Cond.fieldLink RX3 21 "LyingScale$Weighings" "rights" "[I", Cond.fieldLink RX3 24 "LyingScale$Weighings" "answers" "[I", Cond.fieldLink RX3 31 "LyingScale$Weighings" "count" "I", Cond.static yX4_copyRow]
def wsX4_carryOut_r5 : List Cond := [Cond.code yX4_copyRow cX4_copyRow 2 none, Cond.methodLink RX4 253 Lib.Math.min.name, Cond.static Lib.Math.min.name, Cond.initialized "java/lang/Math", Cond.code Lib.Math.min.name Lib.Math.min.code 2 (some .int), Cond.methodLink RX4 258 arraycopyName, Cond.native arraycopyName, Cond.static arraycopyName, Cond.initialized "java/lang/System", Cond.methodLink RX4 137 yX4_at, Cond.methodLink RX4 230 yX2_obey, Cond.instanceMethod yX2_obey, Cond.selects RX2 yX2_obey yX2_obey, Cond.code yX2_obey cX2_obey 4 (some .boolean), Cond.methodLink RX2 104 yX2_isWeighing, Cond.instanceMethod yX2_isWeighing, Cond.selects RX2 yX2_isWeighing yX2_isWeighing, Cond.code yX2_isWeighing cX2_isWeighing 3 (some .boolean), Cond.methodLink RX2 71 yJ6_bitCount_0f7a4, Cond.static yJ6_bitCount_0f7a4, Cond.initialized RJ6, Cond.code yJ6_bitCount_0f7a4 cJ6_bitCount_0f7a4 1 (some .int), Cond.constant RJ6 265 (1431655765), Cond.constant RJ6 266 (858993459)]
def wsX4_carryOut_r6 : List Cond := [Cond.constant RJ6 267 (252645135), Cond.methodLink RX2 108 yX2_canDo, Cond.instanceMethod yX2_canDo, Cond.selects RX2 yX2_canDo yX2_canDo, Cond.code yX2_canDo cX2_canDo 2 (some .boolean), Cond.methodLink RX2 119 yX2_canReply, Cond.instanceMethod yX2_canReply, Cond.selects RX2 yX2_canReply yX2_canReply, Cond.code yX2_canReply cX2_canReply 1 (some .boolean), Cond.methodLink RX2 97 yX2_canLearn, Cond.instanceMethod yX2_canLearn, Cond.selects RX2 yX2_canLearn yX2_canLearn, Cond.code yX2_canLearn cX2_canLearn 1 (some .boolean), Cond.methodLink RX2 122 yX2_canPlan, Cond.instanceMethod yX2_canPlan, Cond.selects RX2 yX2_canPlan yX2_canPlan, Cond.code yX2_canPlan cX2_canPlan 1 (some .boolean), Cond.methodLink RX2 112 yX2_reply, Cond.instanceMethod yX2_reply, Cond.selects RX2 yX2_reply yX2_reply, Cond.code yX2_reply cX2_reply 4 (some .int), Cond.static yX4_trueAnswer, Cond.code yX4_trueAnswer cX4_trueAnswer 5 (some .int), Cond.methodLink RX4 264 yX4_coinBit]
def wsX4_carryOut_r7 : List Cond := [Cond.static yX4_coinBit, Cond.code yX4_coinBit cX4_coinBit 1 (some .int), Cond.methodLink RX2 101 yX2_learn, Cond.instanceMethod yX2_learn, Cond.selects RX2 yX2_learn yX2_learn, Cond.code yX2_learn cX2_learn 5 none, Cond.methodLink RX2 77 yX3_write, Cond.instanceMethod yX3_write, Cond.selects RX3 yX3_write yX3_write, Cond.code yX3_write cX3_write 4 none, Cond.methodLink RX2 67 yX2_cases, Cond.instanceMethod yX2_cases, Cond.selects RX2 yX2_cases yX2_cases, Cond.code yX2_cases cX2_cases 1 (some .int), Cond.methodLink RX2 81 yX2_liesIfTold, Cond.instanceMethod yX2_liesIfTold, Cond.selects RX2 yX2_liesIfTold yX2_liesIfTold, Cond.code yX2_liesIfTold cX2_liesIfTold 6 (some .int), Cond.methodLink RX2 116 yX2_planWeighing, Cond.instanceMethod yX2_planWeighing, Cond.selects RX2 yX2_planWeighing yX2_planWeighing, Cond.code yX2_planWeighing cX2_planWeighing 3 none]
def wsX4_carryOut : List Cond := .code yX4_carryOut cX4_carryOut 3 (some .int) :: ((wsX4_carryOut_r1 ++ (wsX4_carryOut_r2 ++ (wsX4_carryOut_r3 ++ (wsX4_carryOut_r4 ++ (wsX4_carryOut_r5 ++ (wsX4_carryOut_r6 ++ wsX4_carryOut_r7)))))) ++ wsX40 ++ wsX10 ++ wsX00 ++ wsX20 ++ wsX30)
def wsX4_undo_r1 : List Cond := [Cond.classLink RX4 78 "java/lang/IllegalStateException", Cond.initialized "java/lang/IllegalStateException", Cond.fieldLink RX4 19 "LyingScale" "history" "LLyingScale$History;", Cond.fieldLink RX4 12 "LyingScale" "now" "LLyingScale$State;", Cond.methodLink RX4 237 yX0_restore, Cond.instanceMethod yX0_restore, Cond.selects RX0 yX0_restore yX0_restore, Cond.initialized RX0, Cond.code yX0_restore cX0_restore 3 none, Cond.fieldLink RX0 18 "LyingScale$History" "count" "I", Cond.methodLink RX0 25 yX0_stateAt, Cond.instanceMethod yX0_stateAt, Cond.selects RX0 yX0_stateAt yX0_stateAt, Cond.code yX0_stateAt cX0_stateAt 2 (some (.object "LyingScale$State")), Cond.fieldLink RX0 11 "LyingScale$History" "states" "[LLyingScale$State;", Cond.methodLink RX0 29 yX2_copyFrom, Cond.instanceMethod yX2_copyFrom, Cond.selects RX2 yX2_copyFrom yX2_copyFrom, Cond.initialized RX2, Cond.code yX2_copyFrom cX2_copyFrom 2 none, Cond.fieldLink RX2 14 "LyingScale$State" "told" "LLyingScale$Weighings;", Cond.fieldLink RX2 20 "LyingScale$State" "plan" "LLyingScale$Weighings;", Cond.fieldLink RX2 23 "LyingScale$State" "liesOf" "[I", Cond.fieldLink RX2 33 "LyingScale$State" "coins" "I"]
def wsX4_undo_r2 : List Cond := [Cond.fieldLink RX2 37 "LyingScale$State" "limit" "I", Cond.fieldLink RX2 58 "LyingScale$State" "hidden" "I", Cond.fieldLink RX2 61 "LyingScale$State" "lieSet" "I", Cond.fieldLink RX2 64 "LyingScale$State" "answered" "I", Cond.methodLink RX2 50 yX3_copyFrom, Cond.instanceMethod yX3_copyFrom, Cond.selects RX3 yX3_copyFrom yX3_copyFrom, Cond.initialized RX3, Cond.code yX3_copyFrom cX3_copyFrom 2 none, Cond.fieldLink RX3 15 "LyingScale$Weighings" "lefts" "[I", Cond.fieldLink RX3 21 "LyingScale$Weighings" "rights" "[I", Cond.fieldLink RX3 24 "LyingScale$Weighings" "answers" "[I", Cond.fieldLink RX3 31 "LyingScale$Weighings" "count" "I", Cond.static yX4_copyRow, Cond.initialized RX4, Cond.code yX4_copyRow cX4_copyRow 2 none, Cond.methodLink RX4 253 Lib.Math.min.name, Cond.static Lib.Math.min.name, Cond.initialized "java/lang/Math", Cond.code Lib.Math.min.name Lib.Math.min.code 2 (some .int), Cond.methodLink RX4 258 arraycopyName, Cond.native arraycopyName, Cond.static arraycopyName, Cond.initialized "java/lang/System"]
def wsX4_undo : List Cond := .code yX4_undo cX4_undo 1 (some .int) :: ((wsX4_undo_r1 ++ wsX4_undo_r2) ++ wsX40 ++ wsX00 ++ wsX20 ++ wsX30 ++ (vx_atS RX4 82 "java/lang/IllegalStateException" ["java/lang/RuntimeException", "java/lang/Exception"]).filter goodWord)
def wsX4_mix : List Cond := .code yX4_mix cX4_mix 4 (some .long) :: ([.constantLong RX4 251 (31)])
def wsX4_digest_r1 : List Cond := [Cond.constantLong RX4 240 (3821), Cond.fieldLink RX4 26 "LyingScale" "orders" "LLyingScale$Orders;", Cond.fieldLink RX4 12 "LyingScale" "now" "LLyingScale$State;", Cond.fieldLink RX4 19 "LyingScale" "history" "LLyingScale$History;", Cond.methodLink RX4 242 yX4_mix, Cond.static yX4_mix, Cond.initialized RX4, Cond.code yX4_mix cX4_mix 4 (some .long), Cond.constantLong RX4 251 (31), Cond.methodLink RX4 158 yX2_number, Cond.instanceMethod yX2_number, Cond.selects RX2 yX2_number yX2_number, Cond.initialized RX2, Cond.code yX2_number cX2_number 2 (some .int), Cond.fieldLink RX2 33 "LyingScale$State" "coins" "I", Cond.fieldLink RX2 37 "LyingScale$State" "limit" "I", Cond.fieldLink RX2 14 "LyingScale$State" "told" "LLyingScale$Weighings;", Cond.fieldLink RX2 20 "LyingScale$State" "plan" "LLyingScale$Weighings;", Cond.fieldLink RX2 58 "LyingScale$State" "hidden" "I", Cond.fieldLink RX2 64 "LyingScale$State" "answered" "I", Cond.methodLink RX2 131 yX2_countLeft, Cond.instanceMethod yX2_countLeft, Cond.selects RX2 yX2_countLeft yX2_countLeft, Cond.code yX2_countLeft cX2_countLeft 3 (some .int)]
def wsX4_digest_r2 : List Cond := [Cond.methodLink RX2 67 yX2_cases, Cond.instanceMethod yX2_cases, Cond.selects RX2 yX2_cases yX2_cases, Cond.code yX2_cases cX2_cases 1 (some .int), Cond.methodLink RX2 125 yX2_isLeft, Cond.instanceMethod yX2_isLeft, Cond.selects RX2 yX2_isLeft yX2_isLeft, Cond.code yX2_isLeft cX2_isLeft 2 (some .boolean), Cond.fieldLink RX2 23 "LyingScale$State" "liesOf" "[I", Cond.static yX4_at, Cond.code yX4_at cX4_at 2 (some .int), Cond.methodLink RX2 134 yX2_falseCoins, Cond.instanceMethod yX2_falseCoins, Cond.selects RX2 yX2_falseCoins yX2_falseCoins, Cond.code yX2_falseCoins cX2_falseCoins 3 (some .int), Cond.static yX4_coinBit, Cond.code yX4_coinBit cX4_coinBit 1 (some .int), Cond.methodLink RX4 155 yX3_part, Cond.instanceMethod yX3_part, Cond.selects RX3 yX3_part yX3_part, Cond.initialized RX3, Cond.code yX3_part cX3_part 3 (some .int), Cond.fieldLink RX3 15 "LyingScale$Weighings" "lefts" "[I", Cond.fieldLink RX3 21 "LyingScale$Weighings" "rights" "[I"]
def wsX4_digest_r3 : List Cond := [Cond.fieldLink RX3 24 "LyingScale$Weighings" "answers" "[I", Cond.methodLink RX4 204 yX2_cases, Cond.methodLink RX4 137 yX4_at, Cond.methodLink RX4 190 yX2_leastDifferences, Cond.instanceMethod yX2_leastDifferences, Cond.selects RX2 yX2_leastDifferences yX2_leastDifferences, Cond.code yX2_leastDifferences cX2_leastDifferences 4 (some .int), Cond.fieldLink RX2 27 "LyingScale$State" "words" "[I", Cond.methodLink RX2 163 Lib.Math.min.name, Cond.static Lib.Math.min.name, Cond.initialized "java/lang/Math", Cond.code Lib.Math.min.name Lib.Math.min.code 2 (some .int), Cond.methodLink RX2 157 yX3_codeWord, Cond.instanceMethod yX3_codeWord, Cond.selects RX3 yX3_codeWord yX3_codeWord, Cond.code yX3_codeWord cX3_codeWord 4 (some .int), Cond.fieldLink RX3 31 "LyingScale$Weighings" "count" "I", Cond.static yX4_trueAnswer, Cond.code yX4_trueAnswer cX4_trueAnswer 5 (some .int), Cond.methodLink RX4 264 yX4_coinBit, Cond.static yX4_put, Cond.code yX4_put cX4_put 3 none, Cond.static yX4_differences, Cond.code yX4_differences cX4_differences 3 (some .int)]
def wsX4_digest_r4 : List Cond := [Cond.methodLink RX4 267 yJ6_bitCount_0f7a4, Cond.static yJ6_bitCount_0f7a4, Cond.initialized RJ6, Cond.code yJ6_bitCount_0f7a4 cJ6_bitCount_0f7a4 1 (some .int), Cond.constant RJ6 265 (1431655765), Cond.constant RJ6 266 (858993459), Cond.constant RJ6 267 (252645135), Cond.methodLink RX4 248 yX4_bound, Cond.instanceMethod yX4_bound, Cond.selects RX4 yX4_bound yX4_bound, Cond.code yX4_bound cX4_bound 4 (some .int), Cond.constantLong RX4 170 (3), Cond.methodLink RX4 166 yX2_weightAhead, Cond.instanceMethod yX2_weightAhead, Cond.selects RX2 yX2_weightAhead yX2_weightAhead, Cond.code yX2_weightAhead cX2_weightAhead 5 (some .long), Cond.methodLink RX2 137 yX2_volumeLeft, Cond.instanceMethod yX2_volumeLeft, Cond.selects RX2 yX2_volumeLeft yX2_volumeLeft, Cond.code yX2_volumeLeft cX2_volumeLeft 3 (some .long), Cond.static yX4_volume, Cond.code yX4_volume cX4_volume 8 (some .long), Cond.methodLink RX4 253 Lib.Math.min.name, Cond.methodLink RX4 178 yX2_findGroup]
def wsX4_digest_r5 : List Cond := [Cond.instanceMethod yX2_findGroup, Cond.selects RX2 yX2_findGroup yX2_findGroup, Cond.code yX2_findGroup cX2_findGroup 8 (some .int), Cond.methodLink RX2 154 yX2_badness, Cond.instanceMethod yX2_badness, Cond.selects RX2 yX2_badness yX2_badness, Cond.code yX2_badness cX2_badness 8 (some .long), Cond.methodLink RX2 148 Lib.MathLoose.max_long.x, Cond.static Lib.MathLoose.max_long.x, Cond.code Lib.MathLoose.max_long.x Lib.MathLoose.max_long.code 4 (some .long), Cond.methodLink RX2 144 yX2_weightIfTold, Cond.instanceMethod yX2_weightIfTold, Cond.selects RX2 yX2_weightIfTold yX2_weightIfTold, Cond.code yX2_weightIfTold cX2_weightIfTold 8 (some .long), Cond.methodLink RX2 81 yX2_liesIfTold, Cond.instanceMethod yX2_liesIfTold, Cond.selects RX2 yX2_liesIfTold yX2_liesIfTold, Cond.code yX2_liesIfTold cX2_liesIfTold 6 (some .int)]
def wsX4_digest : List Cond := .code yX4_digest cX4_digest 5 (some .long) :: ((wsX4_digest_r1 ++ (wsX4_digest_r2 ++ (wsX4_digest_r3 ++ (wsX4_digest_r4 ++ wsX4_digest_r5)))) ++ wsX40 ++ wsX10 ++ wsX20 ++ wsX30 ++ wsX00)
def wsX5_sets : List Cond := .code yX5_sets cX5_sets 3 none :: ([.fieldLink RX5 7 "LyingScaleModel" "s" "[I"] ++ wsX50)
def wsX5_init : List Cond := .code yX5_init cX5_init 1 none :: ([.methodLink RX5 1 objectInit, .instanceMethod objectInit, .code objectInit ⟨#[0xb1]⟩ 1 none, .arrayClass .int, .fieldLink RX5 7 "LyingScaleModel" "s" "[I", .fieldLink RX5 13 "LyingScaleModel" "past" "[I", .fieldLink RX5 16 "LyingScaleModel" "begun" "[I", .arrayClass .byte, .fieldLink RX5 19 "LyingScaleModel" "text" "[B", .methodLink RX5 23 yX5_sets, .instanceMethod yX5_sets, .selects RX5 yX5_sets yX5_sets, .initialized RX5, .code yX5_sets cX5_sets 3 none] ++ wsX50)
def wsX5_thrown : List Cond := .code yX5_thrown cX5_thrown 1 (some .int) :: ([.fieldLink RX5 27 "LyingScaleModel" "thrown" "I"] ++ wsX50)
def wsX5_in : List Cond := .code yX5_in cX5_in 3 (some .boolean) :: ([])
def wsX5_fails : List Cond := .code yX5_fails cX5_fails 2 (some .int) :: ([.fieldLink RX5 27 "LyingScaleModel" "thrown" "I"] ++ wsX50)
def wsX5_tells : List Cond := .code yX5_tells cX5_tells 2 (some .int) :: ([.fieldLink RX5 27 "LyingScaleModel" "thrown" "I"] ++ wsX50)
def wsX5_begins : List Cond := .code yX5_begins cX5_begins 2 none :: ([.fieldLink RX5 16 "LyingScaleModel" "begun" "[I", .fieldLink RX5 7 "LyingScaleModel" "s" "[I"] ++ wsX50)
def wsX5_saved : List Cond := .code yX5_saved cX5_saved 3 (some .int) :: ([.fieldLink RX5 31 "LyingScaleModel" "pasts" "I", .fieldLink RX5 13 "LyingScaleModel" "past" "[I", .fieldLink RX5 16 "LyingScaleModel" "begun" "[I", .methodLink RX5 34 yX5_tells, .instanceMethod yX5_tells, .selects RX5 yX5_tells yX5_tells, .initialized RX5, .code yX5_tells cX5_tells 2 (some .int), .fieldLink RX5 27 "LyingScaleModel" "thrown" "I"] ++ wsX50)
def wsX5_cases : List Cond := .code yX5_cases cX5_cases 1 (some .int) :: ([.fieldLink RX5 7 "LyingScaleModel" "s" "[I"] ++ wsX50)
def wsX5_isCase : List Cond := .code yX5_isCase cX5_isCase 2 (some .boolean) :: ([.methodLink RX5 38 yX5_cases, .instanceMethod yX5_cases, .selects RX5 yX5_cases yX5_cases, .initialized RX5, .code yX5_cases cX5_cases 1 (some .int), .fieldLink RX5 7 "LyingScaleModel" "s" "[I", .methodLink RX5 42 yX5_in, .static yX5_in, .code yX5_in cX5_in 3 (some .boolean)] ++ wsX50)
def wsX5_ones : List Cond := .code yX5_ones cX5_ones 3 (some .int) :: ([])
def wsX5_areSides : List Cond := .code yX5_areSides cX5_areSides 4 (some .boolean) :: ([.fieldLink RX5 7 "LyingScaleModel" "s" "[I", .methodLink RX5 42 yX5_in, .static yX5_in, .initialized RX5, .code yX5_in cX5_in 3 (some .boolean), .methodLink RX5 46 yX5_ones, .static yX5_ones, .code yX5_ones cX5_ones 3 (some .int)] ++ wsX50)
def wsX5_truth : List Cond := .code yX5_truth cX5_truth 5 (some .int) :: ([])
def wsX5_isLeft : List Cond := .code yX5_isLeft cX5_isLeft 2 (some .boolean) :: ([.fieldLink RX5 7 "LyingScaleModel" "s" "[I"] ++ wsX50)
def wsX5_lefts : List Cond := .code yX5_lefts cX5_lefts 3 (some .int) :: ([.methodLink RX5 38 yX5_cases, .instanceMethod yX5_cases, .selects RX5 yX5_cases yX5_cases, .initialized RX5, .code yX5_cases cX5_cases 1 (some .int), .fieldLink RX5 7 "LyingScaleModel" "s" "[I", .methodLink RX5 49 yX5_isLeft, .instanceMethod yX5_isLeft, .selects RX5 yX5_isLeft yX5_isLeft, .code yX5_isLeft cX5_isLeft 2 (some .boolean)] ++ wsX50)
def wsX5_begin_r1 : List Cond := [Cond.fieldLink RX5 7 "LyingScaleModel" "s" "[I", Cond.methodLink RX5 42 yX5_in, Cond.static yX5_in, Cond.initialized RX5, Cond.code yX5_in cX5_in 3 (some .boolean), Cond.methodLink RX5 53 yX5_fails, Cond.instanceMethod yX5_fails, Cond.selects RX5 yX5_fails yX5_fails, Cond.code yX5_fails cX5_fails 2 (some .int), Cond.fieldLink RX5 27 "LyingScaleModel" "thrown" "I", Cond.methodLink RX5 56 yX5_begins, Cond.instanceMethod yX5_begins, Cond.selects RX5 yX5_begins yX5_begins, Cond.code yX5_begins cX5_begins 2 none, Cond.fieldLink RX5 16 "LyingScaleModel" "begun" "[I", Cond.methodLink RX5 23 yX5_sets, Cond.instanceMethod yX5_sets, Cond.selects RX5 yX5_sets yX5_sets, Cond.code yX5_sets cX5_sets 3 none, Cond.methodLink RX5 59 yX5_saved, Cond.instanceMethod yX5_saved, Cond.selects RX5 yX5_saved yX5_saved, Cond.code yX5_saved cX5_saved 3 (some .int), Cond.fieldLink RX5 31 "LyingScaleModel" "pasts" "I"]
def wsX5_begin_r2 : List Cond := [Cond.fieldLink RX5 13 "LyingScaleModel" "past" "[I", Cond.methodLink RX5 34 yX5_tells, Cond.instanceMethod yX5_tells, Cond.selects RX5 yX5_tells yX5_tells, Cond.code yX5_tells cX5_tells 2 (some .int)]
def wsX5_begin : List Cond := .code yX5_begin cX5_begin 3 (some .int) :: ((wsX5_begin_r1 ++ wsX5_begin_r2) ++ wsX50)
def wsX5_setLimit_r1 : List Cond := [Cond.fieldLink RX5 7 "LyingScaleModel" "s" "[I", Cond.methodLink RX5 42 yX5_in, Cond.static yX5_in, Cond.initialized RX5, Cond.code yX5_in cX5_in 3 (some .boolean), Cond.methodLink RX5 53 yX5_fails, Cond.instanceMethod yX5_fails, Cond.selects RX5 yX5_fails yX5_fails, Cond.code yX5_fails cX5_fails 2 (some .int), Cond.fieldLink RX5 27 "LyingScaleModel" "thrown" "I", Cond.methodLink RX5 56 yX5_begins, Cond.instanceMethod yX5_begins, Cond.selects RX5 yX5_begins yX5_begins, Cond.code yX5_begins cX5_begins 2 none, Cond.fieldLink RX5 16 "LyingScaleModel" "begun" "[I", Cond.methodLink RX5 62 yX5_lefts, Cond.instanceMethod yX5_lefts, Cond.selects RX5 yX5_lefts yX5_lefts, Cond.code yX5_lefts cX5_lefts 3 (some .int), Cond.methodLink RX5 38 yX5_cases, Cond.instanceMethod yX5_cases, Cond.selects RX5 yX5_cases yX5_cases, Cond.code yX5_cases cX5_cases 1 (some .int), Cond.methodLink RX5 49 yX5_isLeft]
def wsX5_setLimit_r2 : List Cond := [Cond.instanceMethod yX5_isLeft, Cond.selects RX5 yX5_isLeft yX5_isLeft, Cond.code yX5_isLeft cX5_isLeft 2 (some .boolean), Cond.methodLink RX5 59 yX5_saved, Cond.instanceMethod yX5_saved, Cond.selects RX5 yX5_saved yX5_saved, Cond.code yX5_saved cX5_saved 3 (some .int), Cond.fieldLink RX5 31 "LyingScaleModel" "pasts" "I", Cond.fieldLink RX5 13 "LyingScaleModel" "past" "[I", Cond.methodLink RX5 34 yX5_tells, Cond.instanceMethod yX5_tells, Cond.selects RX5 yX5_tells yX5_tells, Cond.code yX5_tells cX5_tells 2 (some .int)]
def wsX5_setLimit : List Cond := .code yX5_setLimit cX5_setLimit 2 (some .int) :: ((wsX5_setLimit_r1 ++ wsX5_setLimit_r2) ++ wsX50)
def wsX5_lays : List Cond := .code yX5_lays cX5_lays 6 none :: ([.fieldLink RX5 7 "LyingScaleModel" "s" "[I", .methodLink RX5 38 yX5_cases, .instanceMethod yX5_cases, .selects RX5 yX5_cases yX5_cases, .initialized RX5, .code yX5_cases cX5_cases 1 (some .int), .methodLink RX5 65 yX5_truth, .static yX5_truth, .code yX5_truth cX5_truth 5 (some .int)] ++ wsX50)
def wsX5_whyNotTell : List Cond := .code yX5_whyNotTell cX5_whyNotTell 4 (some .int) :: ([.fieldLink RX5 7 "LyingScaleModel" "s" "[I", .methodLink RX5 69 yX5_areSides, .instanceMethod yX5_areSides, .selects RX5 yX5_areSides yX5_areSides, .initialized RX5, .code yX5_areSides cX5_areSides 4 (some .boolean), .methodLink RX5 42 yX5_in, .static yX5_in, .code yX5_in cX5_in 3 (some .boolean), .methodLink RX5 46 yX5_ones, .static yX5_ones, .code yX5_ones cX5_ones 3 (some .int)] ++ wsX50)
def wsX5_tell_r1 : List Cond := [Cond.methodLink RX5 73 yX5_whyNotTell, Cond.instanceMethod yX5_whyNotTell, Cond.selects RX5 yX5_whyNotTell yX5_whyNotTell, Cond.initialized RX5, Cond.code yX5_whyNotTell cX5_whyNotTell 4 (some .int), Cond.fieldLink RX5 7 "LyingScaleModel" "s" "[I", Cond.methodLink RX5 69 yX5_areSides, Cond.instanceMethod yX5_areSides, Cond.selects RX5 yX5_areSides yX5_areSides, Cond.code yX5_areSides cX5_areSides 4 (some .boolean), Cond.methodLink RX5 42 yX5_in, Cond.static yX5_in, Cond.code yX5_in cX5_in 3 (some .boolean), Cond.methodLink RX5 46 yX5_ones, Cond.static yX5_ones, Cond.code yX5_ones cX5_ones 3 (some .int), Cond.methodLink RX5 53 yX5_fails, Cond.instanceMethod yX5_fails, Cond.selects RX5 yX5_fails yX5_fails, Cond.code yX5_fails cX5_fails 2 (some .int), Cond.fieldLink RX5 27 "LyingScaleModel" "thrown" "I", Cond.methodLink RX5 56 yX5_begins, Cond.instanceMethod yX5_begins, Cond.selects RX5 yX5_begins yX5_begins]
def wsX5_tell_r2 : List Cond := [Cond.code yX5_begins cX5_begins 2 none, Cond.fieldLink RX5 16 "LyingScaleModel" "begun" "[I", Cond.methodLink RX5 76 yX5_lays, Cond.instanceMethod yX5_lays, Cond.selects RX5 yX5_lays yX5_lays, Cond.code yX5_lays cX5_lays 6 none, Cond.methodLink RX5 38 yX5_cases, Cond.instanceMethod yX5_cases, Cond.selects RX5 yX5_cases yX5_cases, Cond.code yX5_cases cX5_cases 1 (some .int), Cond.methodLink RX5 65 yX5_truth, Cond.static yX5_truth, Cond.code yX5_truth cX5_truth 5 (some .int), Cond.methodLink RX5 62 yX5_lefts, Cond.instanceMethod yX5_lefts, Cond.selects RX5 yX5_lefts yX5_lefts, Cond.code yX5_lefts cX5_lefts 3 (some .int), Cond.methodLink RX5 49 yX5_isLeft, Cond.instanceMethod yX5_isLeft, Cond.selects RX5 yX5_isLeft yX5_isLeft, Cond.code yX5_isLeft cX5_isLeft 2 (some .boolean), Cond.methodLink RX5 59 yX5_saved, Cond.instanceMethod yX5_saved, Cond.selects RX5 yX5_saved yX5_saved]
def wsX5_tell_r3 : List Cond := [Cond.code yX5_saved cX5_saved 3 (some .int), Cond.fieldLink RX5 31 "LyingScaleModel" "pasts" "I", Cond.fieldLink RX5 13 "LyingScaleModel" "past" "[I", Cond.methodLink RX5 34 yX5_tells, Cond.instanceMethod yX5_tells, Cond.selects RX5 yX5_tells yX5_tells, Cond.code yX5_tells cX5_tells 2 (some .int)]
def wsX5_tell : List Cond := .code yX5_tell cX5_tell 5 (some .int) :: ((wsX5_tell_r1 ++ (wsX5_tell_r2 ++ wsX5_tell_r3)) ++ wsX50)
def wsX5_forget : List Cond := .code yX5_forget cX5_forget 3 (some .int) :: ([.fieldLink RX5 7 "LyingScaleModel" "s" "[I", .methodLink RX5 56 yX5_begins, .instanceMethod yX5_begins, .selects RX5 yX5_begins yX5_begins, .initialized RX5, .code yX5_begins cX5_begins 2 none, .fieldLink RX5 16 "LyingScaleModel" "begun" "[I", .methodLink RX5 59 yX5_saved, .instanceMethod yX5_saved, .selects RX5 yX5_saved yX5_saved, .code yX5_saved cX5_saved 3 (some .int), .fieldLink RX5 31 "LyingScaleModel" "pasts" "I", .fieldLink RX5 13 "LyingScaleModel" "past" "[I", .methodLink RX5 34 yX5_tells, .instanceMethod yX5_tells, .selects RX5 yX5_tells yX5_tells, .code yX5_tells cX5_tells 2 (some .int), .fieldLink RX5 27 "LyingScaleModel" "thrown" "I"] ++ wsX50)
def wsX5_hide_r1 : List Cond := [Cond.constant RX5 83 (1073741823), Cond.fieldLink RX5 7 "LyingScaleModel" "s" "[I", Cond.methodLink RX5 80 yX5_isCase, Cond.instanceMethod yX5_isCase, Cond.selects RX5 yX5_isCase yX5_isCase, Cond.initialized RX5, Cond.code yX5_isCase cX5_isCase 2 (some .boolean), Cond.methodLink RX5 38 yX5_cases, Cond.instanceMethod yX5_cases, Cond.selects RX5 yX5_cases yX5_cases, Cond.code yX5_cases cX5_cases 1 (some .int), Cond.methodLink RX5 42 yX5_in, Cond.static yX5_in, Cond.code yX5_in cX5_in 3 (some .boolean), Cond.methodLink RX5 53 yX5_fails, Cond.instanceMethod yX5_fails, Cond.selects RX5 yX5_fails yX5_fails, Cond.code yX5_fails cX5_fails 2 (some .int), Cond.fieldLink RX5 27 "LyingScaleModel" "thrown" "I", Cond.methodLink RX5 56 yX5_begins, Cond.instanceMethod yX5_begins, Cond.selects RX5 yX5_begins yX5_begins, Cond.code yX5_begins cX5_begins 2 none, Cond.fieldLink RX5 16 "LyingScaleModel" "begun" "[I"]
def wsX5_hide_r2 : List Cond := [Cond.methodLink RX5 59 yX5_saved, Cond.instanceMethod yX5_saved, Cond.selects RX5 yX5_saved yX5_saved, Cond.code yX5_saved cX5_saved 3 (some .int), Cond.fieldLink RX5 31 "LyingScaleModel" "pasts" "I", Cond.fieldLink RX5 13 "LyingScaleModel" "past" "[I", Cond.methodLink RX5 34 yX5_tells, Cond.instanceMethod yX5_tells, Cond.selects RX5 yX5_tells yX5_tells, Cond.code yX5_tells cX5_tells 2 (some .int)]
def wsX5_hide : List Cond := .code yX5_hide cX5_hide 4 (some .int) :: ((wsX5_hide_r1 ++ wsX5_hide_r2) ++ wsX50)
def wsX5_whyNotAsk : List Cond := .code yX5_whyNotAsk cX5_whyNotAsk 3 (some .int) :: ([.fieldLink RX5 7 "LyingScaleModel" "s" "[I", .methodLink RX5 69 yX5_areSides, .instanceMethod yX5_areSides, .selects RX5 yX5_areSides yX5_areSides, .initialized RX5, .code yX5_areSides cX5_areSides 4 (some .boolean), .methodLink RX5 42 yX5_in, .static yX5_in, .code yX5_in cX5_in 3 (some .boolean), .methodLink RX5 46 yX5_ones, .static yX5_ones, .code yX5_ones cX5_ones 3 (some .int)] ++ wsX50)
def wsX5_asks : List Cond := .code yX5_asks cX5_asks 5 (some .int) :: ([.fieldLink RX5 7 "LyingScaleModel" "s" "[I", .methodLink RX5 65 yX5_truth, .static yX5_truth, .initialized RX5, .code yX5_truth cX5_truth 5 (some .int), .methodLink RX5 76 yX5_lays, .instanceMethod yX5_lays, .selects RX5 yX5_lays yX5_lays, .code yX5_lays cX5_lays 6 none, .methodLink RX5 38 yX5_cases, .instanceMethod yX5_cases, .selects RX5 yX5_cases yX5_cases, .code yX5_cases cX5_cases 1 (some .int)] ++ wsX50)
def wsX5_ask_r1 : List Cond := [Cond.methodLink RX5 84 yX5_whyNotAsk, Cond.instanceMethod yX5_whyNotAsk, Cond.selects RX5 yX5_whyNotAsk yX5_whyNotAsk, Cond.initialized RX5, Cond.code yX5_whyNotAsk cX5_whyNotAsk 3 (some .int), Cond.fieldLink RX5 7 "LyingScaleModel" "s" "[I", Cond.methodLink RX5 69 yX5_areSides, Cond.instanceMethod yX5_areSides, Cond.selects RX5 yX5_areSides yX5_areSides, Cond.code yX5_areSides cX5_areSides 4 (some .boolean), Cond.methodLink RX5 42 yX5_in, Cond.static yX5_in, Cond.code yX5_in cX5_in 3 (some .boolean), Cond.methodLink RX5 46 yX5_ones, Cond.static yX5_ones, Cond.code yX5_ones cX5_ones 3 (some .int), Cond.methodLink RX5 53 yX5_fails, Cond.instanceMethod yX5_fails, Cond.selects RX5 yX5_fails yX5_fails, Cond.code yX5_fails cX5_fails 2 (some .int), Cond.fieldLink RX5 27 "LyingScaleModel" "thrown" "I", Cond.methodLink RX5 56 yX5_begins, Cond.instanceMethod yX5_begins, Cond.selects RX5 yX5_begins yX5_begins]
def wsX5_ask_r2 : List Cond := [Cond.code yX5_begins cX5_begins 2 none, Cond.fieldLink RX5 16 "LyingScaleModel" "begun" "[I", Cond.methodLink RX5 88 yX5_asks, Cond.instanceMethod yX5_asks, Cond.selects RX5 yX5_asks yX5_asks, Cond.code yX5_asks cX5_asks 5 (some .int), Cond.methodLink RX5 65 yX5_truth, Cond.static yX5_truth, Cond.code yX5_truth cX5_truth 5 (some .int), Cond.methodLink RX5 76 yX5_lays, Cond.instanceMethod yX5_lays, Cond.selects RX5 yX5_lays yX5_lays, Cond.code yX5_lays cX5_lays 6 none, Cond.methodLink RX5 38 yX5_cases, Cond.instanceMethod yX5_cases, Cond.selects RX5 yX5_cases yX5_cases, Cond.code yX5_cases cX5_cases 1 (some .int), Cond.methodLink RX5 59 yX5_saved, Cond.instanceMethod yX5_saved, Cond.selects RX5 yX5_saved yX5_saved, Cond.code yX5_saved cX5_saved 3 (some .int), Cond.fieldLink RX5 31 "LyingScaleModel" "pasts" "I", Cond.fieldLink RX5 13 "LyingScaleModel" "past" "[I", Cond.methodLink RX5 34 yX5_tells]
def wsX5_ask_r3 : List Cond := [Cond.instanceMethod yX5_tells, Cond.selects RX5 yX5_tells yX5_tells, Cond.code yX5_tells cX5_tells 2 (some .int)]
def wsX5_ask : List Cond := .code yX5_ask cX5_ask 4 (some .int) :: ((wsX5_ask_r1 ++ (wsX5_ask_r2 ++ wsX5_ask_r3)) ++ wsX50)
def wsX5_whyNotAdd : List Cond := .code yX5_whyNotAdd cX5_whyNotAdd 3 (some .int) :: ([.fieldLink RX5 7 "LyingScaleModel" "s" "[I", .methodLink RX5 69 yX5_areSides, .instanceMethod yX5_areSides, .selects RX5 yX5_areSides yX5_areSides, .initialized RX5, .code yX5_areSides cX5_areSides 4 (some .boolean), .methodLink RX5 42 yX5_in, .static yX5_in, .code yX5_in cX5_in 3 (some .boolean), .methodLink RX5 46 yX5_ones, .static yX5_ones, .code yX5_ones cX5_ones 3 (some .int)] ++ wsX50)
def wsX5_adds : List Cond := .code yX5_adds cX5_adds 3 (some .int) :: ([.fieldLink RX5 7 "LyingScaleModel" "s" "[I"] ++ wsX50)
def wsX5_add_r1 : List Cond := [Cond.methodLink RX5 91 yX5_whyNotAdd, Cond.instanceMethod yX5_whyNotAdd, Cond.selects RX5 yX5_whyNotAdd yX5_whyNotAdd, Cond.initialized RX5, Cond.code yX5_whyNotAdd cX5_whyNotAdd 3 (some .int), Cond.fieldLink RX5 7 "LyingScaleModel" "s" "[I", Cond.methodLink RX5 69 yX5_areSides, Cond.instanceMethod yX5_areSides, Cond.selects RX5 yX5_areSides yX5_areSides, Cond.code yX5_areSides cX5_areSides 4 (some .boolean), Cond.methodLink RX5 42 yX5_in, Cond.static yX5_in, Cond.code yX5_in cX5_in 3 (some .boolean), Cond.methodLink RX5 46 yX5_ones, Cond.static yX5_ones, Cond.code yX5_ones cX5_ones 3 (some .int), Cond.methodLink RX5 53 yX5_fails, Cond.instanceMethod yX5_fails, Cond.selects RX5 yX5_fails yX5_fails, Cond.code yX5_fails cX5_fails 2 (some .int), Cond.fieldLink RX5 27 "LyingScaleModel" "thrown" "I", Cond.methodLink RX5 56 yX5_begins, Cond.instanceMethod yX5_begins, Cond.selects RX5 yX5_begins yX5_begins]
def wsX5_add_r2 : List Cond := [Cond.code yX5_begins cX5_begins 2 none, Cond.fieldLink RX5 16 "LyingScaleModel" "begun" "[I", Cond.methodLink RX5 94 yX5_adds, Cond.instanceMethod yX5_adds, Cond.selects RX5 yX5_adds yX5_adds, Cond.code yX5_adds cX5_adds 3 (some .int), Cond.methodLink RX5 59 yX5_saved, Cond.instanceMethod yX5_saved, Cond.selects RX5 yX5_saved yX5_saved, Cond.code yX5_saved cX5_saved 3 (some .int), Cond.fieldLink RX5 31 "LyingScaleModel" "pasts" "I", Cond.fieldLink RX5 13 "LyingScaleModel" "past" "[I", Cond.methodLink RX5 34 yX5_tells, Cond.instanceMethod yX5_tells, Cond.selects RX5 yX5_tells yX5_tells, Cond.code yX5_tells cX5_tells 2 (some .int)]
def wsX5_add : List Cond := .code yX5_add cX5_add 4 (some .int) :: ((wsX5_add_r1 ++ wsX5_add_r2) ++ wsX50)
def wsX5_removeLast : List Cond := .code yX5_removeLast cX5_removeLast 1 (some .int) :: ([.fieldLink RX5 7 "LyingScaleModel" "s" "[I", .methodLink RX5 53 yX5_fails, .instanceMethod yX5_fails, .selects RX5 yX5_fails yX5_fails, .initialized RX5, .code yX5_fails cX5_fails 2 (some .int), .fieldLink RX5 27 "LyingScaleModel" "thrown" "I", .methodLink RX5 56 yX5_begins, .instanceMethod yX5_begins, .selects RX5 yX5_begins yX5_begins, .code yX5_begins cX5_begins 2 none, .fieldLink RX5 16 "LyingScaleModel" "begun" "[I", .methodLink RX5 59 yX5_saved, .instanceMethod yX5_saved, .selects RX5 yX5_saved yX5_saved, .code yX5_saved cX5_saved 3 (some .int), .fieldLink RX5 31 "LyingScaleModel" "pasts" "I", .fieldLink RX5 13 "LyingScaleModel" "past" "[I", .methodLink RX5 34 yX5_tells, .instanceMethod yX5_tells, .selects RX5 yX5_tells yX5_tells, .code yX5_tells cX5_tells 2 (some .int)] ++ wsX50)
def wsX5_lies : List Cond := .code yX5_lies cX5_lies 2 (some .int) :: ([.fieldLink RX5 7 "LyingScaleModel" "s" "[I", .methodLink RX5 80 yX5_isCase, .instanceMethod yX5_isCase, .selects RX5 yX5_isCase yX5_isCase, .initialized RX5, .code yX5_isCase cX5_isCase 2 (some .boolean), .methodLink RX5 38 yX5_cases, .instanceMethod yX5_cases, .selects RX5 yX5_cases yX5_cases, .code yX5_cases cX5_cases 1 (some .int), .methodLink RX5 42 yX5_in, .static yX5_in, .code yX5_in cX5_in 3 (some .boolean), .methodLink RX5 34 yX5_tells, .instanceMethod yX5_tells, .selects RX5 yX5_tells yX5_tells, .code yX5_tells cX5_tells 2 (some .int), .fieldLink RX5 27 "LyingScaleModel" "thrown" "I", .methodLink RX5 53 yX5_fails, .instanceMethod yX5_fails, .selects RX5 yX5_fails yX5_fails, .code yX5_fails cX5_fails 2 (some .int)] ++ wsX50)
def wsX5_answer_r1 : List Cond := [Cond.methodLink RX5 80 yX5_isCase, Cond.instanceMethod yX5_isCase, Cond.selects RX5 yX5_isCase yX5_isCase, Cond.initialized RX5, Cond.code yX5_isCase cX5_isCase 2 (some .boolean), Cond.methodLink RX5 38 yX5_cases, Cond.instanceMethod yX5_cases, Cond.selects RX5 yX5_cases yX5_cases, Cond.code yX5_cases cX5_cases 1 (some .int), Cond.fieldLink RX5 7 "LyingScaleModel" "s" "[I", Cond.methodLink RX5 42 yX5_in, Cond.static yX5_in, Cond.code yX5_in cX5_in 3 (some .boolean), Cond.methodLink RX5 53 yX5_fails, Cond.instanceMethod yX5_fails, Cond.selects RX5 yX5_fails yX5_fails, Cond.code yX5_fails cX5_fails 2 (some .int), Cond.fieldLink RX5 27 "LyingScaleModel" "thrown" "I", Cond.methodLink RX5 69 yX5_areSides, Cond.instanceMethod yX5_areSides, Cond.selects RX5 yX5_areSides yX5_areSides, Cond.code yX5_areSides cX5_areSides 4 (some .boolean), Cond.methodLink RX5 46 yX5_ones, Cond.static yX5_ones]
def wsX5_answer_r2 : List Cond := [Cond.code yX5_ones cX5_ones 3 (some .int), Cond.methodLink RX5 65 yX5_truth, Cond.static yX5_truth, Cond.code yX5_truth cX5_truth 5 (some .int), Cond.methodLink RX5 34 yX5_tells, Cond.instanceMethod yX5_tells, Cond.selects RX5 yX5_tells yX5_tells, Cond.code yX5_tells cX5_tells 2 (some .int)]
def wsX5_answer : List Cond := .code yX5_answer cX5_answer 4 (some .int) :: ((wsX5_answer_r1 ++ wsX5_answer_r2) ++ wsX50)
def wsX5_leftCase : List Cond := .code yX5_leftCase cX5_leftCase 4 (some .int) :: ([.methodLink RX5 38 yX5_cases, .instanceMethod yX5_cases, .selects RX5 yX5_cases yX5_cases, .initialized RX5, .code yX5_cases cX5_cases 1 (some .int), .fieldLink RX5 7 "LyingScaleModel" "s" "[I", .methodLink RX5 49 yX5_isLeft, .instanceMethod yX5_isLeft, .selects RX5 yX5_isLeft yX5_isLeft, .code yX5_isLeft cX5_isLeft 2 (some .boolean), .methodLink RX5 34 yX5_tells, .instanceMethod yX5_tells, .selects RX5 yX5_tells yX5_tells, .code yX5_tells cX5_tells 2 (some .int), .fieldLink RX5 27 "LyingScaleModel" "thrown" "I", .methodLink RX5 53 yX5_fails, .instanceMethod yX5_fails, .selects RX5 yX5_fails yX5_fails, .code yX5_fails cX5_fails 2 (some .int)] ++ wsX50)
def wsX5_weighing : List Cond := .code yX5_weighing cX5_weighing 3 (some .int) :: ([.fieldLink RX5 7 "LyingScaleModel" "s" "[I", .methodLink RX5 42 yX5_in, .static yX5_in, .initialized RX5, .code yX5_in cX5_in 3 (some .boolean), .methodLink RX5 53 yX5_fails, .instanceMethod yX5_fails, .selects RX5 yX5_fails yX5_fails, .code yX5_fails cX5_fails 2 (some .int), .fieldLink RX5 27 "LyingScaleModel" "thrown" "I", .methodLink RX5 34 yX5_tells, .instanceMethod yX5_tells, .selects RX5 yX5_tells yX5_tells, .code yX5_tells cX5_tells 2 (some .int)] ++ wsX50)
def wsX5_falseOnes : List Cond := .code yX5_falseOnes cX5_falseOnes 3 (some .int) :: ([.methodLink RX5 38 yX5_cases, .instanceMethod yX5_cases, .selects RX5 yX5_cases yX5_cases, .initialized RX5, .code yX5_cases cX5_cases 1 (some .int), .fieldLink RX5 7 "LyingScaleModel" "s" "[I", .methodLink RX5 49 yX5_isLeft, .instanceMethod yX5_isLeft, .selects RX5 yX5_isLeft yX5_isLeft, .code yX5_isLeft cX5_isLeft 2 (some .boolean)] ++ wsX50)
def wsX5_number : List Cond := .code yX5_number cX5_number 2 (some .int) :: ([.fieldLink RX5 7 "LyingScaleModel" "s" "[I", .methodLink RX5 62 yX5_lefts, .instanceMethod yX5_lefts, .selects RX5 yX5_lefts yX5_lefts, .initialized RX5, .code yX5_lefts cX5_lefts 3 (some .int), .methodLink RX5 38 yX5_cases, .instanceMethod yX5_cases, .selects RX5 yX5_cases yX5_cases, .code yX5_cases cX5_cases 1 (some .int), .methodLink RX5 49 yX5_isLeft, .instanceMethod yX5_isLeft, .selects RX5 yX5_isLeft yX5_isLeft, .code yX5_isLeft cX5_isLeft 2 (some .boolean), .methodLink RX5 97 yX5_falseOnes, .instanceMethod yX5_falseOnes, .selects RX5 yX5_falseOnes yX5_falseOnes, .code yX5_falseOnes cX5_falseOnes 3 (some .int)] ++ wsX50)
def wsX5_value_r1 : List Cond := [Cond.methodLink RX5 42 yX5_in, Cond.static yX5_in, Cond.initialized RX5, Cond.code yX5_in cX5_in 3 (some .boolean), Cond.methodLink RX5 100 yX5_number, Cond.instanceMethod yX5_number, Cond.selects RX5 yX5_number yX5_number, Cond.code yX5_number cX5_number 2 (some .int), Cond.fieldLink RX5 7 "LyingScaleModel" "s" "[I", Cond.methodLink RX5 62 yX5_lefts, Cond.instanceMethod yX5_lefts, Cond.selects RX5 yX5_lefts yX5_lefts, Cond.code yX5_lefts cX5_lefts 3 (some .int), Cond.methodLink RX5 38 yX5_cases, Cond.instanceMethod yX5_cases, Cond.selects RX5 yX5_cases yX5_cases, Cond.code yX5_cases cX5_cases 1 (some .int), Cond.methodLink RX5 49 yX5_isLeft, Cond.instanceMethod yX5_isLeft, Cond.selects RX5 yX5_isLeft yX5_isLeft, Cond.code yX5_isLeft cX5_isLeft 2 (some .boolean), Cond.methodLink RX5 97 yX5_falseOnes, Cond.instanceMethod yX5_falseOnes, Cond.selects RX5 yX5_falseOnes yX5_falseOnes]
def wsX5_value_r2 : List Cond := [Cond.code yX5_falseOnes cX5_falseOnes 3 (some .int), Cond.methodLink RX5 34 yX5_tells, Cond.instanceMethod yX5_tells, Cond.selects RX5 yX5_tells yX5_tells, Cond.code yX5_tells cX5_tells 2 (some .int), Cond.fieldLink RX5 27 "LyingScaleModel" "thrown" "I", Cond.methodLink RX5 53 yX5_fails, Cond.instanceMethod yX5_fails, Cond.selects RX5 yX5_fails yX5_fails, Cond.code yX5_fails cX5_fails 2 (some .int)]
def wsX5_value : List Cond := .code yX5_value cX5_value 2 (some .int) :: ((wsX5_value_r1 ++ wsX5_value_r2) ++ wsX50)
def wsX5_volume : List Cond := .code yX5_volume cX5_volume 4 (some .long) :: ([.constantLong RX5 103 (2)])
def wsX5_weighs : List Cond := .code yX5_weighs cX5_weighs 9 (some .long) :: ([.fieldLink RX5 7 "LyingScaleModel" "s" "[I", .methodLink RX5 38 yX5_cases, .instanceMethod yX5_cases, .selects RX5 yX5_cases yX5_cases, .initialized RX5, .code yX5_cases cX5_cases 1 (some .int), .methodLink RX5 65 yX5_truth, .static yX5_truth, .code yX5_truth cX5_truth 5 (some .int), .methodLink RX5 105 yX5_volume, .static yX5_volume, .code yX5_volume cX5_volume 4 (some .long), .constantLong RX5 103 (2)] ++ wsX50)
def wsX5_weight_r1 : List Cond := [Cond.fieldLink RX5 27 "LyingScaleModel" "thrown" "I", Cond.methodLink RX5 42 yX5_in, Cond.static yX5_in, Cond.initialized RX5, Cond.code yX5_in cX5_in 3 (some .boolean), Cond.methodLink RX5 53 yX5_fails, Cond.instanceMethod yX5_fails, Cond.selects RX5 yX5_fails yX5_fails, Cond.code yX5_fails cX5_fails 2 (some .int), Cond.methodLink RX5 109 yX5_weighs, Cond.instanceMethod yX5_weighs, Cond.selects RX5 yX5_weighs yX5_weighs, Cond.code yX5_weighs cX5_weighs 9 (some .long), Cond.fieldLink RX5 7 "LyingScaleModel" "s" "[I", Cond.methodLink RX5 38 yX5_cases, Cond.instanceMethod yX5_cases, Cond.selects RX5 yX5_cases yX5_cases, Cond.code yX5_cases cX5_cases 1 (some .int), Cond.methodLink RX5 65 yX5_truth, Cond.static yX5_truth, Cond.code yX5_truth cX5_truth 5 (some .int), Cond.methodLink RX5 105 yX5_volume, Cond.static yX5_volume, Cond.code yX5_volume cX5_volume 4 (some .long)]
def wsX5_weight_r2 : List Cond := [Cond.constantLong RX5 103 (2)]
def wsX5_weight : List Cond := .code yX5_weight cX5_weight 2 (some .long) :: ((wsX5_weight_r1 ++ wsX5_weight_r2) ++ wsX50)
def wsX5_least : List Cond := .code yX5_least cX5_least 4 (some .int) :: ([.constantLong RX5 113 (3), .methodLink RX5 109 yX5_weighs, .instanceMethod yX5_weighs, .selects RX5 yX5_weighs yX5_weighs, .initialized RX5, .code yX5_weighs cX5_weighs 9 (some .long), .fieldLink RX5 7 "LyingScaleModel" "s" "[I", .methodLink RX5 38 yX5_cases, .instanceMethod yX5_cases, .selects RX5 yX5_cases yX5_cases, .code yX5_cases cX5_cases 1 (some .int), .methodLink RX5 65 yX5_truth, .static yX5_truth, .code yX5_truth cX5_truth 5 (some .int), .methodLink RX5 105 yX5_volume, .static yX5_volume, .code yX5_volume cX5_volume 4 (some .long), .constantLong RX5 103 (2)] ++ wsX50)
def wsX5_bound_r1 : List Cond := [Cond.methodLink RX5 115 yX5_least, Cond.instanceMethod yX5_least, Cond.selects RX5 yX5_least yX5_least, Cond.initialized RX5, Cond.code yX5_least cX5_least 4 (some .int), Cond.constantLong RX5 113 (3), Cond.methodLink RX5 109 yX5_weighs, Cond.instanceMethod yX5_weighs, Cond.selects RX5 yX5_weighs yX5_weighs, Cond.code yX5_weighs cX5_weighs 9 (some .long), Cond.fieldLink RX5 7 "LyingScaleModel" "s" "[I", Cond.methodLink RX5 38 yX5_cases, Cond.instanceMethod yX5_cases, Cond.selects RX5 yX5_cases yX5_cases, Cond.code yX5_cases cX5_cases 1 (some .int), Cond.methodLink RX5 65 yX5_truth, Cond.static yX5_truth, Cond.code yX5_truth cX5_truth 5 (some .int), Cond.methodLink RX5 105 yX5_volume, Cond.static yX5_volume, Cond.code yX5_volume cX5_volume 4 (some .long), Cond.constantLong RX5 103 (2), Cond.methodLink RX5 34 yX5_tells, Cond.instanceMethod yX5_tells]
def wsX5_bound_r2 : List Cond := [Cond.selects RX5 yX5_tells yX5_tells, Cond.code yX5_tells cX5_tells 2 (some .int), Cond.fieldLink RX5 27 "LyingScaleModel" "thrown" "I"]
def wsX5_bound : List Cond := .code yX5_bound cX5_bound 1 (some .int) :: ((wsX5_bound_r1 ++ wsX5_bound_r2) ++ wsX50)
def wsX5_weightBehind_r1 : List Cond := [Cond.fieldLink RX5 27 "LyingScaleModel" "thrown" "I", Cond.methodLink RX5 69 yX5_areSides, Cond.instanceMethod yX5_areSides, Cond.selects RX5 yX5_areSides yX5_areSides, Cond.initialized RX5, Cond.code yX5_areSides cX5_areSides 4 (some .boolean), Cond.fieldLink RX5 7 "LyingScaleModel" "s" "[I", Cond.methodLink RX5 42 yX5_in, Cond.static yX5_in, Cond.code yX5_in cX5_in 3 (some .boolean), Cond.methodLink RX5 46 yX5_ones, Cond.static yX5_ones, Cond.code yX5_ones cX5_ones 3 (some .int), Cond.methodLink RX5 53 yX5_fails, Cond.instanceMethod yX5_fails, Cond.selects RX5 yX5_fails yX5_fails, Cond.code yX5_fails cX5_fails 2 (some .int), Cond.methodLink RX5 109 yX5_weighs, Cond.instanceMethod yX5_weighs, Cond.selects RX5 yX5_weighs yX5_weighs, Cond.code yX5_weighs cX5_weighs 9 (some .long), Cond.methodLink RX5 38 yX5_cases, Cond.instanceMethod yX5_cases, Cond.selects RX5 yX5_cases yX5_cases]
def wsX5_weightBehind_r2 : List Cond := [Cond.code yX5_cases cX5_cases 1 (some .int), Cond.methodLink RX5 65 yX5_truth, Cond.static yX5_truth, Cond.code yX5_truth cX5_truth 5 (some .int), Cond.methodLink RX5 105 yX5_volume, Cond.static yX5_volume, Cond.code yX5_volume cX5_volume 4 (some .long), Cond.constantLong RX5 103 (2)]
def wsX5_weightBehind : List Cond := .code yX5_weightBehind cX5_weightBehind 5 (some .long) :: ((wsX5_weightBehind_r1 ++ wsX5_weightBehind_r2) ++ wsX50)
def wsX5_best : List Cond := .code yX5_best cX5_best 12 (some .int) :: ([.fieldLink RX5 7 "LyingScaleModel" "s" "[I", .methodLink RX5 109 yX5_weighs, .instanceMethod yX5_weighs, .selects RX5 yX5_weighs yX5_weighs, .initialized RX5, .code yX5_weighs cX5_weighs 9 (some .long), .methodLink RX5 38 yX5_cases, .instanceMethod yX5_cases, .selects RX5 yX5_cases yX5_cases, .code yX5_cases cX5_cases 1 (some .int), .methodLink RX5 65 yX5_truth, .static yX5_truth, .code yX5_truth cX5_truth 5 (some .int), .methodLink RX5 105 yX5_volume, .static yX5_volume, .code yX5_volume cX5_volume 4 (some .long), .constantLong RX5 103 (2)] ++ wsX50)
def wsX5_bestGroup_r1 : List Cond := [Cond.methodLink RX5 42 yX5_in, Cond.static yX5_in, Cond.initialized RX5, Cond.code yX5_in cX5_in 3 (some .boolean), Cond.methodLink RX5 118 yX5_best, Cond.instanceMethod yX5_best, Cond.selects RX5 yX5_best yX5_best, Cond.code yX5_best cX5_best 12 (some .int), Cond.fieldLink RX5 7 "LyingScaleModel" "s" "[I", Cond.methodLink RX5 109 yX5_weighs, Cond.instanceMethod yX5_weighs, Cond.selects RX5 yX5_weighs yX5_weighs, Cond.code yX5_weighs cX5_weighs 9 (some .long), Cond.methodLink RX5 38 yX5_cases, Cond.instanceMethod yX5_cases, Cond.selects RX5 yX5_cases yX5_cases, Cond.code yX5_cases cX5_cases 1 (some .int), Cond.methodLink RX5 65 yX5_truth, Cond.static yX5_truth, Cond.code yX5_truth cX5_truth 5 (some .int), Cond.methodLink RX5 105 yX5_volume, Cond.static yX5_volume, Cond.code yX5_volume cX5_volume 4 (some .long), Cond.constantLong RX5 103 (2)]
def wsX5_bestGroup_r2 : List Cond := [Cond.methodLink RX5 34 yX5_tells, Cond.instanceMethod yX5_tells, Cond.selects RX5 yX5_tells yX5_tells, Cond.code yX5_tells cX5_tells 2 (some .int), Cond.fieldLink RX5 27 "LyingScaleModel" "thrown" "I", Cond.methodLink RX5 53 yX5_fails, Cond.instanceMethod yX5_fails, Cond.selects RX5 yX5_fails yX5_fails, Cond.code yX5_fails cX5_fails 2 (some .int)]
def wsX5_bestGroup : List Cond := .code yX5_bestGroup cX5_bestGroup 2 (some .int) :: ((wsX5_bestGroup_r1 ++ wsX5_bestGroup_r2) ++ wsX50)
def wsX5_teaches : List Cond := .code yX5_teaches cX5_teaches 5 (some .boolean) :: ([.fieldLink RX5 27 "LyingScaleModel" "thrown" "I", .methodLink RX5 69 yX5_areSides, .instanceMethod yX5_areSides, .selects RX5 yX5_areSides yX5_areSides, .initialized RX5, .code yX5_areSides cX5_areSides 4 (some .boolean), .fieldLink RX5 7 "LyingScaleModel" "s" "[I", .methodLink RX5 42 yX5_in, .static yX5_in, .code yX5_in cX5_in 3 (some .boolean), .methodLink RX5 46 yX5_ones, .static yX5_ones, .code yX5_ones cX5_ones 3 (some .int), .methodLink RX5 38 yX5_cases, .instanceMethod yX5_cases, .selects RX5 yX5_cases yX5_cases, .code yX5_cases cX5_cases 1 (some .int), .methodLink RX5 49 yX5_isLeft, .instanceMethod yX5_isLeft, .selects RX5 yX5_isLeft yX5_isLeft, .code yX5_isLeft cX5_isLeft 2 (some .boolean), .methodLink RX5 65 yX5_truth, .static yX5_truth, .code yX5_truth cX5_truth 5 (some .int)] ++ wsX50)
def wsX5_apart : List Cond := .code yX5_apart cX5_apart 7 (some .int) :: ([.fieldLink RX5 7 "LyingScaleModel" "s" "[I", .methodLink RX5 65 yX5_truth, .static yX5_truth, .initialized RX5, .code yX5_truth cX5_truth 5 (some .int)] ++ wsX50)
def wsX5_distance_r1 : List Cond := [Cond.methodLink RX5 80 yX5_isCase, Cond.instanceMethod yX5_isCase, Cond.selects RX5 yX5_isCase yX5_isCase, Cond.initialized RX5, Cond.code yX5_isCase cX5_isCase 2 (some .boolean), Cond.methodLink RX5 38 yX5_cases, Cond.instanceMethod yX5_cases, Cond.selects RX5 yX5_cases yX5_cases, Cond.code yX5_cases cX5_cases 1 (some .int), Cond.fieldLink RX5 7 "LyingScaleModel" "s" "[I", Cond.methodLink RX5 42 yX5_in, Cond.static yX5_in, Cond.code yX5_in cX5_in 3 (some .boolean), Cond.methodLink RX5 121 yX5_apart, Cond.instanceMethod yX5_apart, Cond.selects RX5 yX5_apart yX5_apart, Cond.code yX5_apart cX5_apart 7 (some .int), Cond.methodLink RX5 65 yX5_truth, Cond.static yX5_truth, Cond.code yX5_truth cX5_truth 5 (some .int), Cond.methodLink RX5 34 yX5_tells, Cond.instanceMethod yX5_tells, Cond.selects RX5 yX5_tells yX5_tells, Cond.code yX5_tells cX5_tells 2 (some .int)]
def wsX5_distance_r2 : List Cond := [Cond.fieldLink RX5 27 "LyingScaleModel" "thrown" "I", Cond.methodLink RX5 53 yX5_fails, Cond.instanceMethod yX5_fails, Cond.selects RX5 yX5_fails yX5_fails, Cond.code yX5_fails cX5_fails 2 (some .int)]
def wsX5_distance : List Cond := .code yX5_distance cX5_distance 3 (some .int) :: ((wsX5_distance_r1 ++ wsX5_distance_r2) ++ wsX50)
def wsX5_nearest : List Cond := .code yX5_nearest cX5_nearest 5 (some .int) :: ([.methodLink RX5 38 yX5_cases, .instanceMethod yX5_cases, .selects RX5 yX5_cases yX5_cases, .initialized RX5, .code yX5_cases cX5_cases 1 (some .int), .fieldLink RX5 7 "LyingScaleModel" "s" "[I", .methodLink RX5 121 yX5_apart, .instanceMethod yX5_apart, .selects RX5 yX5_apart yX5_apart, .code yX5_apart cX5_apart 7 (some .int), .methodLink RX5 65 yX5_truth, .static yX5_truth, .code yX5_truth cX5_truth 5 (some .int)] ++ wsX50)
def wsX5_leastDistance : List Cond := .code yX5_leastDistance cX5_leastDistance 1 (some .int) :: ([.methodLink RX5 124 yX5_nearest, .instanceMethod yX5_nearest, .selects RX5 yX5_nearest yX5_nearest, .initialized RX5, .code yX5_nearest cX5_nearest 5 (some .int), .methodLink RX5 38 yX5_cases, .instanceMethod yX5_cases, .selects RX5 yX5_cases yX5_cases, .code yX5_cases cX5_cases 1 (some .int), .fieldLink RX5 7 "LyingScaleModel" "s" "[I", .methodLink RX5 121 yX5_apart, .instanceMethod yX5_apart, .selects RX5 yX5_apart yX5_apart, .code yX5_apart cX5_apart 7 (some .int), .methodLink RX5 65 yX5_truth, .static yX5_truth, .code yX5_truth cX5_truth 5 (some .int), .methodLink RX5 34 yX5_tells, .instanceMethod yX5_tells, .selects RX5 yX5_tells yX5_tells, .code yX5_tells cX5_tells 2 (some .int), .fieldLink RX5 27 "LyingScaleModel" "thrown" "I"] ++ wsX50)
def wsX5_bears : List Cond := .code yX5_bears cX5_bears 2 (some .int) :: ([.methodLink RX5 124 yX5_nearest, .instanceMethod yX5_nearest, .selects RX5 yX5_nearest yX5_nearest, .initialized RX5, .code yX5_nearest cX5_nearest 5 (some .int), .methodLink RX5 38 yX5_cases, .instanceMethod yX5_cases, .selects RX5 yX5_cases yX5_cases, .code yX5_cases cX5_cases 1 (some .int), .fieldLink RX5 7 "LyingScaleModel" "s" "[I", .methodLink RX5 121 yX5_apart, .instanceMethod yX5_apart, .selects RX5 yX5_apart yX5_apart, .code yX5_apart cX5_apart 7 (some .int), .methodLink RX5 65 yX5_truth, .static yX5_truth, .code yX5_truth cX5_truth 5 (some .int), .methodLink RX5 34 yX5_tells, .instanceMethod yX5_tells, .selects RX5 yX5_tells yX5_tells, .code yX5_tells cX5_tells 2 (some .int), .fieldLink RX5 27 "LyingScaleModel" "thrown" "I"] ++ wsX50)
def wsX5_differs : List Cond := .code yX5_differs cX5_differs 6 (some .int) :: ([.fieldLink RX5 7 "LyingScaleModel" "s" "[I", .methodLink RX5 65 yX5_truth, .static yX5_truth, .initialized RX5, .code yX5_truth cX5_truth 5 (some .int)] ++ wsX50)
def wsX5_decode_r1 : List Cond := [Cond.fieldLink RX5 7 "LyingScaleModel" "s" "[I", Cond.methodLink RX5 42 yX5_in, Cond.static yX5_in, Cond.initialized RX5, Cond.code yX5_in cX5_in 3 (some .boolean), Cond.methodLink RX5 53 yX5_fails, Cond.instanceMethod yX5_fails, Cond.selects RX5 yX5_fails yX5_fails, Cond.code yX5_fails cX5_fails 2 (some .int), Cond.fieldLink RX5 27 "LyingScaleModel" "thrown" "I", Cond.methodLink RX5 38 yX5_cases, Cond.instanceMethod yX5_cases, Cond.selects RX5 yX5_cases yX5_cases, Cond.code yX5_cases cX5_cases 1 (some .int), Cond.methodLink RX5 127 yX5_differs, Cond.instanceMethod yX5_differs, Cond.selects RX5 yX5_differs yX5_differs, Cond.code yX5_differs cX5_differs 6 (some .int), Cond.methodLink RX5 65 yX5_truth, Cond.static yX5_truth, Cond.code yX5_truth cX5_truth 5 (some .int), Cond.methodLink RX5 34 yX5_tells, Cond.instanceMethod yX5_tells, Cond.selects RX5 yX5_tells yX5_tells]
def wsX5_decode_r2 : List Cond := [Cond.code yX5_tells cX5_tells 2 (some .int)]
def wsX5_decode : List Cond := .code yX5_decode cX5_decode 7 (some .int) :: ((wsX5_decode_r1 ++ wsX5_decode_r2) ++ wsX50)
def wsX5_share : List Cond := .code yX5_share cX5_share 1 (some .double) :: ([.fieldLink RX5 27 "LyingScaleModel" "thrown" "I", .methodLink RX5 62 yX5_lefts, .instanceMethod yX5_lefts, .selects RX5 yX5_lefts yX5_lefts, .initialized RX5, .code yX5_lefts cX5_lefts 3 (some .int), .methodLink RX5 38 yX5_cases, .instanceMethod yX5_cases, .selects RX5 yX5_cases yX5_cases, .code yX5_cases cX5_cases 1 (some .int), .fieldLink RX5 7 "LyingScaleModel" "s" "[I", .methodLink RX5 49 yX5_isLeft, .instanceMethod yX5_isLeft, .selects RX5 yX5_isLeft yX5_isLeft, .code yX5_isLeft cX5_isLeft 2 (some .boolean)] ++ wsX50)
def wsX5_append : List Cond := .code yX5_append cX5_append 2 (some .int) :: ([.fieldLink RX5 130 "LyingScaleModel" "typed" "I", .fieldLink RX5 19 "LyingScaleModel" "text" "[B", .methodLink RX5 42 yX5_in, .static yX5_in, .initialized RX5, .code yX5_in cX5_in 3 (some .boolean), .methodLink RX5 53 yX5_fails, .instanceMethod yX5_fails, .selects RX5 yX5_fails yX5_fails, .code yX5_fails cX5_fails 2 (some .int), .fieldLink RX5 27 "LyingScaleModel" "thrown" "I", .methodLink RX5 34 yX5_tells, .instanceMethod yX5_tells, .selects RX5 yX5_tells yX5_tells, .code yX5_tells cX5_tells 2 (some .int)] ++ wsX50)
def wsX5_clearText : List Cond := .code yX5_clearText cX5_clearText 2 (some .int) :: ([.fieldLink RX5 130 "LyingScaleModel" "typed" "I", .methodLink RX5 34 yX5_tells, .instanceMethod yX5_tells, .selects RX5 yX5_tells yX5_tells, .initialized RX5, .code yX5_tells cX5_tells 2 (some .int), .fieldLink RX5 27 "LyingScaleModel" "thrown" "I"] ++ wsX50)
def wsX5_sign : List Cond := .code yX5_sign cX5_sign 1 (some .int) :: ([.fieldLink RX5 133 "LyingScaleModel" "at" "I", .fieldLink RX5 130 "LyingScaleModel" "typed" "I", .fieldLink RX5 19 "LyingScaleModel" "text" "[B"] ++ wsX50)
def wsX5_side : List Cond := .code yX5_side cX5_side 3 (some .int) :: ([.fieldLink RX5 133 "LyingScaleModel" "at" "I", .methodLink RX5 136 yX5_sign, .instanceMethod yX5_sign, .selects RX5 yX5_sign yX5_sign, .initialized RX5, .code yX5_sign cX5_sign 1 (some .int), .fieldLink RX5 130 "LyingScaleModel" "typed" "I", .fieldLink RX5 19 "LyingScaleModel" "text" "[B", .methodLink RX5 42 yX5_in, .static yX5_in, .code yX5_in cX5_in 3 (some .boolean)] ++ wsX50)
def wsX5_takes : List Cond := .code yX5_takes cX5_takes 3 (some .boolean) :: ([.fieldLink RX5 133 "LyingScaleModel" "at" "I", .methodLink RX5 136 yX5_sign, .instanceMethod yX5_sign, .selects RX5 yX5_sign yX5_sign, .initialized RX5, .code yX5_sign cX5_sign 1 (some .int), .fieldLink RX5 130 "LyingScaleModel" "typed" "I", .fieldLink RX5 19 "LyingScaleModel" "text" "[B"] ++ wsX50)
def wsX5_kind : List Cond := .code yX5_kind cX5_kind 1 (some .int) :: ([.methodLink RX5 139 yX5_takes, .instanceMethod yX5_takes, .selects RX5 yX5_takes yX5_takes, .initialized RX5, .code yX5_takes cX5_takes 3 (some .boolean), .fieldLink RX5 133 "LyingScaleModel" "at" "I", .methodLink RX5 136 yX5_sign, .instanceMethod yX5_sign, .selects RX5 yX5_sign yX5_sign, .code yX5_sign cX5_sign 1 (some .int), .fieldLink RX5 130 "LyingScaleModel" "typed" "I", .fieldLink RX5 19 "LyingScaleModel" "text" "[B"] ++ wsX50)
def wsX5_reads_r1 : List Cond := [Cond.fieldLink RX5 145 "LyingScaleModel" "left" "I", Cond.fieldLink RX5 148 "LyingScaleModel" "right" "I", Cond.fieldLink RX5 154 "LyingScaleModel" "what" "I", Cond.methodLink RX5 142 yX5_side, Cond.instanceMethod yX5_side, Cond.selects RX5 yX5_side yX5_side, Cond.initialized RX5, Cond.code yX5_side cX5_side 3 (some .int), Cond.fieldLink RX5 133 "LyingScaleModel" "at" "I", Cond.methodLink RX5 136 yX5_sign, Cond.instanceMethod yX5_sign, Cond.selects RX5 yX5_sign yX5_sign, Cond.code yX5_sign cX5_sign 1 (some .int), Cond.fieldLink RX5 130 "LyingScaleModel" "typed" "I", Cond.fieldLink RX5 19 "LyingScaleModel" "text" "[B", Cond.methodLink RX5 42 yX5_in, Cond.static yX5_in, Cond.code yX5_in cX5_in 3 (some .boolean), Cond.methodLink RX5 139 yX5_takes, Cond.instanceMethod yX5_takes, Cond.selects RX5 yX5_takes yX5_takes, Cond.code yX5_takes cX5_takes 3 (some .boolean), Cond.methodLink RX5 151 yX5_kind, Cond.instanceMethod yX5_kind]
def wsX5_reads_r2 : List Cond := [Cond.selects RX5 yX5_kind yX5_kind, Cond.code yX5_kind cX5_kind 1 (some .int)]
def wsX5_reads : List Cond := .code yX5_reads cX5_reads 1 (some .boolean) :: ((wsX5_reads_r1 ++ wsX5_reads_r2) ++ wsX50)
def wsX5_wrong_r1 : List Cond := [Cond.fieldLink RX5 133 "LyingScaleModel" "at" "I", Cond.fieldLink RX5 130 "LyingScaleModel" "typed" "I", Cond.methodLink RX5 157 yX5_reads, Cond.instanceMethod yX5_reads, Cond.selects RX5 yX5_reads yX5_reads, Cond.initialized RX5, Cond.code yX5_reads cX5_reads 1 (some .boolean), Cond.fieldLink RX5 145 "LyingScaleModel" "left" "I", Cond.fieldLink RX5 148 "LyingScaleModel" "right" "I", Cond.fieldLink RX5 154 "LyingScaleModel" "what" "I", Cond.methodLink RX5 142 yX5_side, Cond.instanceMethod yX5_side, Cond.selects RX5 yX5_side yX5_side, Cond.code yX5_side cX5_side 3 (some .int), Cond.methodLink RX5 136 yX5_sign, Cond.instanceMethod yX5_sign, Cond.selects RX5 yX5_sign yX5_sign, Cond.code yX5_sign cX5_sign 1 (some .int), Cond.fieldLink RX5 19 "LyingScaleModel" "text" "[B", Cond.methodLink RX5 42 yX5_in, Cond.static yX5_in, Cond.code yX5_in cX5_in 3 (some .boolean), Cond.methodLink RX5 139 yX5_takes, Cond.instanceMethod yX5_takes]
def wsX5_wrong_r2 : List Cond := [Cond.selects RX5 yX5_takes yX5_takes, Cond.code yX5_takes cX5_takes 3 (some .boolean), Cond.methodLink RX5 151 yX5_kind, Cond.instanceMethod yX5_kind, Cond.selects RX5 yX5_kind yX5_kind, Cond.code yX5_kind cX5_kind 1 (some .int)]
def wsX5_wrong : List Cond := .code yX5_wrong cX5_wrong 1 (some .int) :: ((wsX5_wrong_r1 ++ wsX5_wrong_r2) ++ wsX50)
def wsX5_does_r1 : List Cond := [Cond.fieldLink RX5 154 "LyingScaleModel" "what" "I", Cond.fieldLink RX5 145 "LyingScaleModel" "left" "I", Cond.fieldLink RX5 148 "LyingScaleModel" "right" "I", Cond.methodLink RX5 73 yX5_whyNotTell, Cond.instanceMethod yX5_whyNotTell, Cond.selects RX5 yX5_whyNotTell yX5_whyNotTell, Cond.initialized RX5, Cond.code yX5_whyNotTell cX5_whyNotTell 4 (some .int), Cond.fieldLink RX5 7 "LyingScaleModel" "s" "[I", Cond.methodLink RX5 69 yX5_areSides, Cond.instanceMethod yX5_areSides, Cond.selects RX5 yX5_areSides yX5_areSides, Cond.code yX5_areSides cX5_areSides 4 (some .boolean), Cond.methodLink RX5 42 yX5_in, Cond.static yX5_in, Cond.code yX5_in cX5_in 3 (some .boolean), Cond.methodLink RX5 46 yX5_ones, Cond.static yX5_ones, Cond.code yX5_ones cX5_ones 3 (some .int), Cond.methodLink RX5 84 yX5_whyNotAsk, Cond.instanceMethod yX5_whyNotAsk, Cond.selects RX5 yX5_whyNotAsk yX5_whyNotAsk, Cond.code yX5_whyNotAsk cX5_whyNotAsk 3 (some .int), Cond.methodLink RX5 91 yX5_whyNotAdd]
def wsX5_does_r2 : List Cond := [Cond.instanceMethod yX5_whyNotAdd, Cond.selects RX5 yX5_whyNotAdd yX5_whyNotAdd, Cond.code yX5_whyNotAdd cX5_whyNotAdd 3 (some .int), Cond.methodLink RX5 76 yX5_lays, Cond.instanceMethod yX5_lays, Cond.selects RX5 yX5_lays yX5_lays, Cond.code yX5_lays cX5_lays 6 none, Cond.methodLink RX5 38 yX5_cases, Cond.instanceMethod yX5_cases, Cond.selects RX5 yX5_cases yX5_cases, Cond.code yX5_cases cX5_cases 1 (some .int), Cond.methodLink RX5 65 yX5_truth, Cond.static yX5_truth, Cond.code yX5_truth cX5_truth 5 (some .int), Cond.methodLink RX5 88 yX5_asks, Cond.instanceMethod yX5_asks, Cond.selects RX5 yX5_asks yX5_asks, Cond.code yX5_asks cX5_asks 5 (some .int), Cond.methodLink RX5 94 yX5_adds, Cond.instanceMethod yX5_adds, Cond.selects RX5 yX5_adds yX5_adds, Cond.code yX5_adds cX5_adds 3 (some .int)]
def wsX5_does : List Cond := .code yX5_does cX5_does 2 (some .boolean) :: ((wsX5_does_r1 ++ wsX5_does_r2) ++ wsX50)
def wsX5_carryOut_r1 : List Cond := [Cond.fieldLink RX5 133 "LyingScaleModel" "at" "I", Cond.fieldLink RX5 130 "LyingScaleModel" "typed" "I", Cond.methodLink RX5 161 yX5_wrong, Cond.instanceMethod yX5_wrong, Cond.selects RX5 yX5_wrong yX5_wrong, Cond.initialized RX5, Cond.code yX5_wrong cX5_wrong 1 (some .int), Cond.methodLink RX5 157 yX5_reads, Cond.instanceMethod yX5_reads, Cond.selects RX5 yX5_reads yX5_reads, Cond.code yX5_reads cX5_reads 1 (some .boolean), Cond.fieldLink RX5 145 "LyingScaleModel" "left" "I", Cond.fieldLink RX5 148 "LyingScaleModel" "right" "I", Cond.fieldLink RX5 154 "LyingScaleModel" "what" "I", Cond.methodLink RX5 142 yX5_side, Cond.instanceMethod yX5_side, Cond.selects RX5 yX5_side yX5_side, Cond.code yX5_side cX5_side 3 (some .int), Cond.methodLink RX5 136 yX5_sign, Cond.instanceMethod yX5_sign, Cond.selects RX5 yX5_sign yX5_sign, Cond.code yX5_sign cX5_sign 1 (some .int), Cond.fieldLink RX5 19 "LyingScaleModel" "text" "[B", Cond.methodLink RX5 42 yX5_in]
def wsX5_carryOut_r2 : List Cond := [Cond.static yX5_in, Cond.code yX5_in cX5_in 3 (some .boolean), Cond.methodLink RX5 139 yX5_takes, Cond.instanceMethod yX5_takes, Cond.selects RX5 yX5_takes yX5_takes, Cond.code yX5_takes cX5_takes 3 (some .boolean), Cond.methodLink RX5 151 yX5_kind, Cond.instanceMethod yX5_kind, Cond.selects RX5 yX5_kind yX5_kind, Cond.code yX5_kind cX5_kind 1 (some .int), Cond.methodLink RX5 34 yX5_tells, Cond.instanceMethod yX5_tells, Cond.selects RX5 yX5_tells yX5_tells, Cond.code yX5_tells cX5_tells 2 (some .int), Cond.fieldLink RX5 27 "LyingScaleModel" "thrown" "I", Cond.methodLink RX5 56 yX5_begins, Cond.instanceMethod yX5_begins, Cond.selects RX5 yX5_begins yX5_begins, Cond.code yX5_begins cX5_begins 2 none, Cond.fieldLink RX5 16 "LyingScaleModel" "begun" "[I", Cond.fieldLink RX5 7 "LyingScaleModel" "s" "[I", Cond.methodLink RX5 164 yX5_does, Cond.instanceMethod yX5_does, Cond.selects RX5 yX5_does yX5_does]
def wsX5_carryOut_r3 : List Cond := [Cond.code yX5_does cX5_does 2 (some .boolean), Cond.methodLink RX5 73 yX5_whyNotTell, Cond.instanceMethod yX5_whyNotTell, Cond.selects RX5 yX5_whyNotTell yX5_whyNotTell, Cond.code yX5_whyNotTell cX5_whyNotTell 4 (some .int), Cond.methodLink RX5 69 yX5_areSides, Cond.instanceMethod yX5_areSides, Cond.selects RX5 yX5_areSides yX5_areSides, Cond.code yX5_areSides cX5_areSides 4 (some .boolean), Cond.methodLink RX5 46 yX5_ones, Cond.static yX5_ones, Cond.code yX5_ones cX5_ones 3 (some .int), Cond.methodLink RX5 84 yX5_whyNotAsk, Cond.instanceMethod yX5_whyNotAsk, Cond.selects RX5 yX5_whyNotAsk yX5_whyNotAsk, Cond.code yX5_whyNotAsk cX5_whyNotAsk 3 (some .int), Cond.methodLink RX5 91 yX5_whyNotAdd, Cond.instanceMethod yX5_whyNotAdd, Cond.selects RX5 yX5_whyNotAdd yX5_whyNotAdd, Cond.code yX5_whyNotAdd cX5_whyNotAdd 3 (some .int), Cond.methodLink RX5 76 yX5_lays, Cond.instanceMethod yX5_lays, Cond.selects RX5 yX5_lays yX5_lays, Cond.code yX5_lays cX5_lays 6 none]
def wsX5_carryOut_r4 : List Cond := [Cond.methodLink RX5 38 yX5_cases, Cond.instanceMethod yX5_cases, Cond.selects RX5 yX5_cases yX5_cases, Cond.code yX5_cases cX5_cases 1 (some .int), Cond.methodLink RX5 65 yX5_truth, Cond.static yX5_truth, Cond.code yX5_truth cX5_truth 5 (some .int), Cond.methodLink RX5 88 yX5_asks, Cond.instanceMethod yX5_asks, Cond.selects RX5 yX5_asks yX5_asks, Cond.code yX5_asks cX5_asks 5 (some .int), Cond.methodLink RX5 94 yX5_adds, Cond.instanceMethod yX5_adds, Cond.selects RX5 yX5_adds yX5_adds, Cond.code yX5_adds cX5_adds 3 (some .int), Cond.methodLink RX5 59 yX5_saved, Cond.instanceMethod yX5_saved, Cond.selects RX5 yX5_saved yX5_saved, Cond.code yX5_saved cX5_saved 3 (some .int), Cond.fieldLink RX5 31 "LyingScaleModel" "pasts" "I", Cond.fieldLink RX5 13 "LyingScaleModel" "past" "[I"]
def wsX5_carryOut : List Cond := .code yX5_carryOut cX5_carryOut 4 (some .int) :: ((wsX5_carryOut_r1 ++ (wsX5_carryOut_r2 ++ (wsX5_carryOut_r3 ++ wsX5_carryOut_r4))) ++ wsX50)
def wsX5_undo : List Cond := .code yX5_undo cX5_undo 2 (some .int) :: ([.fieldLink RX5 31 "LyingScaleModel" "pasts" "I", .fieldLink RX5 7 "LyingScaleModel" "s" "[I", .fieldLink RX5 13 "LyingScaleModel" "past" "[I", .methodLink RX5 53 yX5_fails, .instanceMethod yX5_fails, .selects RX5 yX5_fails yX5_fails, .initialized RX5, .code yX5_fails cX5_fails 2 (some .int), .fieldLink RX5 27 "LyingScaleModel" "thrown" "I", .methodLink RX5 34 yX5_tells, .instanceMethod yX5_tells, .selects RX5 yX5_tells yX5_tells, .code yX5_tells cX5_tells 2 (some .int)] ++ wsX50)
def wsX5_digest_r1 : List Cond := [Cond.fieldLink RX5 27 "LyingScaleModel" "thrown" "I", Cond.constantLong RX5 167 (118451), Cond.fieldLink RX5 130 "LyingScaleModel" "typed" "I", Cond.constantLong RX5 169 (31), Cond.fieldLink RX5 7 "LyingScaleModel" "s" "[I", Cond.fieldLink RX5 31 "LyingScaleModel" "pasts" "I", Cond.methodLink RX5 100 yX5_number, Cond.instanceMethod yX5_number, Cond.selects RX5 yX5_number yX5_number, Cond.initialized RX5, Cond.code yX5_number cX5_number 2 (some .int), Cond.methodLink RX5 62 yX5_lefts, Cond.instanceMethod yX5_lefts, Cond.selects RX5 yX5_lefts yX5_lefts, Cond.code yX5_lefts cX5_lefts 3 (some .int), Cond.methodLink RX5 38 yX5_cases, Cond.instanceMethod yX5_cases, Cond.selects RX5 yX5_cases yX5_cases, Cond.code yX5_cases cX5_cases 1 (some .int), Cond.methodLink RX5 49 yX5_isLeft, Cond.instanceMethod yX5_isLeft, Cond.selects RX5 yX5_isLeft yX5_isLeft, Cond.code yX5_isLeft cX5_isLeft 2 (some .boolean), Cond.methodLink RX5 97 yX5_falseOnes]
def wsX5_digest_r2 : List Cond := [Cond.instanceMethod yX5_falseOnes, Cond.selects RX5 yX5_falseOnes yX5_falseOnes, Cond.code yX5_falseOnes cX5_falseOnes 3 (some .int), Cond.methodLink RX5 124 yX5_nearest, Cond.instanceMethod yX5_nearest, Cond.selects RX5 yX5_nearest yX5_nearest, Cond.code yX5_nearest cX5_nearest 5 (some .int), Cond.methodLink RX5 121 yX5_apart, Cond.instanceMethod yX5_apart, Cond.selects RX5 yX5_apart yX5_apart, Cond.code yX5_apart cX5_apart 7 (some .int), Cond.methodLink RX5 65 yX5_truth, Cond.static yX5_truth, Cond.code yX5_truth cX5_truth 5 (some .int), Cond.methodLink RX5 115 yX5_least, Cond.instanceMethod yX5_least, Cond.selects RX5 yX5_least yX5_least, Cond.code yX5_least cX5_least 4 (some .int), Cond.constantLong RX5 113 (3), Cond.methodLink RX5 109 yX5_weighs, Cond.instanceMethod yX5_weighs, Cond.selects RX5 yX5_weighs yX5_weighs, Cond.code yX5_weighs cX5_weighs 9 (some .long), Cond.methodLink RX5 105 yX5_volume]
def wsX5_digest_r3 : List Cond := [Cond.static yX5_volume, Cond.code yX5_volume cX5_volume 4 (some .long), Cond.constantLong RX5 103 (2), Cond.methodLink RX5 118 yX5_best, Cond.instanceMethod yX5_best, Cond.selects RX5 yX5_best yX5_best, Cond.code yX5_best cX5_best 12 (some .int)]
def wsX5_digest : List Cond := .code yX5_digest cX5_digest 4 (some .long) :: ((wsX5_digest_r1 ++ (wsX5_digest_r2 ++ wsX5_digest_r3)) ++ wsX50)
def wsJ9_max_7cf53 : List Cond := .code yJ9_max_7cf53 cJ9_max_7cf53 2 (some .int) :: ([])
def wsJ9_max_f86c9 : List Cond := .code yJ9_max_f86c9 cJ9_max_f86c9 4 (some .long) :: ([])
def wsJ9_min_7cf53 : List Cond := .code yJ9_min_7cf53 cJ9_min_7cf53 2 (some .int) :: ([])
def wsL_begin_r1 : List Cond := [Cond.classLink RL 13 "java/lang/IllegalArgumentException", Cond.methodLink RL 7 yX4_begin, Cond.instanceMethod yX4_begin, Cond.selects RX4 yX4_begin yX4_begin, Cond.initialized RX4, Cond.code yX4_begin cX4_begin 3 (some .int), Cond.classLink RX4 30 "java/lang/IllegalArgumentException", Cond.initialized "java/lang/IllegalArgumentException", Cond.fieldLink RX4 19 "LyingScale" "history" "LLyingScale$History;", Cond.fieldLink RX4 12 "LyingScale" "now" "LLyingScale$State;", Cond.methodLink RX4 37 yX0_save, Cond.instanceMethod yX0_save, Cond.selects RX0 yX0_save yX0_save, Cond.initialized RX0, Cond.code yX0_save cX0_save 3 none, Cond.fieldLink RX0 18 "LyingScale$History" "count" "I", Cond.fieldLink RX0 11 "LyingScale$History" "states" "[LLyingScale$State;", Cond.methodLink RX0 22 yX0_dropOldest, Cond.instanceMethod yX0_dropOldest, Cond.selects RX0 yX0_dropOldest yX0_dropOldest, Cond.code yX0_dropOldest cX0_dropOldest 4 none, Cond.methodLink RX0 25 yX0_stateAt, Cond.instanceMethod yX0_stateAt, Cond.selects RX0 yX0_stateAt yX0_stateAt]
def wsL_begin_r2 : List Cond := [Cond.code yX0_stateAt cX0_stateAt 2 (some (.object "LyingScale$State")), Cond.methodLink RX0 29 yX2_copyFrom, Cond.instanceMethod yX2_copyFrom, Cond.selects RX2 yX2_copyFrom yX2_copyFrom, Cond.initialized RX2, Cond.code yX2_copyFrom cX2_copyFrom 2 none, Cond.fieldLink RX2 14 "LyingScale$State" "told" "LLyingScale$Weighings;", Cond.fieldLink RX2 20 "LyingScale$State" "plan" "LLyingScale$Weighings;", Cond.fieldLink RX2 23 "LyingScale$State" "liesOf" "[I", Cond.fieldLink RX2 33 "LyingScale$State" "coins" "I", Cond.fieldLink RX2 37 "LyingScale$State" "limit" "I", Cond.fieldLink RX2 58 "LyingScale$State" "hidden" "I", Cond.fieldLink RX2 61 "LyingScale$State" "lieSet" "I", Cond.fieldLink RX2 64 "LyingScale$State" "answered" "I", Cond.methodLink RX2 50 yX3_copyFrom, Cond.instanceMethod yX3_copyFrom, Cond.selects RX3 yX3_copyFrom yX3_copyFrom, Cond.initialized RX3, Cond.code yX3_copyFrom cX3_copyFrom 2 none, Cond.fieldLink RX3 15 "LyingScale$Weighings" "lefts" "[I", Cond.fieldLink RX3 21 "LyingScale$Weighings" "rights" "[I", Cond.fieldLink RX3 24 "LyingScale$Weighings" "answers" "[I", Cond.fieldLink RX3 31 "LyingScale$Weighings" "count" "I", Cond.static yX4_copyRow]
def wsL_begin_r3 : List Cond := [Cond.code yX4_copyRow cX4_copyRow 2 none, Cond.methodLink RX4 253 Lib.Math.min.name, Cond.static Lib.Math.min.name, Cond.initialized "java/lang/Math", Cond.code Lib.Math.min.name Lib.Math.min.code 2 (some .int), Cond.methodLink RX4 258 arraycopyName, Cond.native arraycopyName, Cond.static arraycopyName, Cond.initialized "java/lang/System", Cond.methodLink RX4 51 yX2_start, Cond.instanceMethod yX2_start, Cond.selects RX2 yX2_start yX2_start, Cond.code yX2_start cX2_start 2 none, Cond.methodLink RX2 43 yX2_hideCase, Cond.instanceMethod yX2_hideCase, Cond.selects RX2 yX2_hideCase yX2_hideCase, Cond.code yX2_hideCase cX2_hideCase 3 none, Cond.methodLink RX2 47 yX2_forgetTold, Cond.instanceMethod yX2_forgetTold, Cond.selects RX2 yX2_forgetTold yX2_forgetTold, Cond.code yX2_forgetTold cX2_forgetTold 2 none, Cond.static yX4_put, Cond.code yX4_put cX4_put 3 none]
def wsL_begin : List Cond := .codeWith yL_begin cL_begin 4 (some .int) [(0, 9, 12, 13)] :: ((wsL_begin_r1 ++ (wsL_begin_r2 ++ wsL_begin_r3)) ++ wsX40 ++ wsX20 ++ wsX30 ++ wsX00 ++ (vx_atS RX4 34 "java/lang/IllegalArgumentException" ["java/lang/RuntimeException", "java/lang/Exception"]).filter goodWord)
def wsL_setLimit_r1 : List Cond := [Cond.classLink RL 13 "java/lang/IllegalArgumentException", Cond.methodLink RL 15 yX4_setLimit, Cond.instanceMethod yX4_setLimit, Cond.selects RX4 yX4_setLimit yX4_setLimit, Cond.initialized RX4, Cond.code yX4_setLimit cX4_setLimit 2 (some .int), Cond.classLink RX4 30 "java/lang/IllegalArgumentException", Cond.initialized "java/lang/IllegalArgumentException", Cond.fieldLink RX4 19 "LyingScale" "history" "LLyingScale$History;", Cond.fieldLink RX4 12 "LyingScale" "now" "LLyingScale$State;", Cond.methodLink RX4 37 yX0_save, Cond.instanceMethod yX0_save, Cond.selects RX0 yX0_save yX0_save, Cond.initialized RX0, Cond.code yX0_save cX0_save 3 none, Cond.fieldLink RX0 18 "LyingScale$History" "count" "I", Cond.fieldLink RX0 11 "LyingScale$History" "states" "[LLyingScale$State;", Cond.methodLink RX0 22 yX0_dropOldest, Cond.instanceMethod yX0_dropOldest, Cond.selects RX0 yX0_dropOldest yX0_dropOldest, Cond.code yX0_dropOldest cX0_dropOldest 4 none, Cond.methodLink RX0 25 yX0_stateAt, Cond.instanceMethod yX0_stateAt, Cond.selects RX0 yX0_stateAt yX0_stateAt]
def wsL_setLimit_r2 : List Cond := [Cond.code yX0_stateAt cX0_stateAt 2 (some (.object "LyingScale$State")), Cond.methodLink RX0 29 yX2_copyFrom, Cond.instanceMethod yX2_copyFrom, Cond.selects RX2 yX2_copyFrom yX2_copyFrom, Cond.initialized RX2, Cond.code yX2_copyFrom cX2_copyFrom 2 none, Cond.fieldLink RX2 14 "LyingScale$State" "told" "LLyingScale$Weighings;", Cond.fieldLink RX2 20 "LyingScale$State" "plan" "LLyingScale$Weighings;", Cond.fieldLink RX2 23 "LyingScale$State" "liesOf" "[I", Cond.fieldLink RX2 33 "LyingScale$State" "coins" "I", Cond.fieldLink RX2 37 "LyingScale$State" "limit" "I", Cond.fieldLink RX2 58 "LyingScale$State" "hidden" "I", Cond.fieldLink RX2 61 "LyingScale$State" "lieSet" "I", Cond.fieldLink RX2 64 "LyingScale$State" "answered" "I", Cond.methodLink RX2 50 yX3_copyFrom, Cond.instanceMethod yX3_copyFrom, Cond.selects RX3 yX3_copyFrom yX3_copyFrom, Cond.initialized RX3, Cond.code yX3_copyFrom cX3_copyFrom 2 none, Cond.fieldLink RX3 15 "LyingScale$Weighings" "lefts" "[I", Cond.fieldLink RX3 21 "LyingScale$Weighings" "rights" "[I", Cond.fieldLink RX3 24 "LyingScale$Weighings" "answers" "[I", Cond.fieldLink RX3 31 "LyingScale$Weighings" "count" "I", Cond.static yX4_copyRow]
def wsL_setLimit_r3 : List Cond := [Cond.code yX4_copyRow cX4_copyRow 2 none, Cond.methodLink RX4 253 Lib.Math.min.name, Cond.static Lib.Math.min.name, Cond.initialized "java/lang/Math", Cond.code Lib.Math.min.name Lib.Math.min.code 2 (some .int), Cond.methodLink RX4 258 arraycopyName, Cond.native arraycopyName, Cond.static arraycopyName, Cond.initialized "java/lang/System", Cond.methodLink RX4 60 yX2_countLeft, Cond.instanceMethod yX2_countLeft, Cond.selects RX2 yX2_countLeft yX2_countLeft, Cond.code yX2_countLeft cX2_countLeft 3 (some .int), Cond.methodLink RX2 67 yX2_cases, Cond.instanceMethod yX2_cases, Cond.selects RX2 yX2_cases yX2_cases, Cond.code yX2_cases cX2_cases 1 (some .int), Cond.methodLink RX2 125 yX2_isLeft, Cond.instanceMethod yX2_isLeft, Cond.selects RX2 yX2_isLeft yX2_isLeft, Cond.code yX2_isLeft cX2_isLeft 2 (some .boolean), Cond.static yX4_at, Cond.code yX4_at cX4_at 2 (some .int)]
def wsL_setLimit : List Cond := .codeWith yL_setLimit cL_setLimit 4 (some .int) [(0, 9, 12, 13)] :: ((wsL_setLimit_r1 ++ (wsL_setLimit_r2 ++ wsL_setLimit_r3)) ++ wsX40 ++ wsX20 ++ wsX00 ++ wsX30 ++ (vx_atS RX4 34 "java/lang/IllegalArgumentException" ["java/lang/RuntimeException", "java/lang/Exception"]).filter goodWord)
def wsL_tell_r1 : List Cond := [Cond.classLink RL 13 "java/lang/IllegalArgumentException", Cond.classLink RL 22 "java/lang/IllegalStateException", Cond.methodLink RL 18 yX4_tell, Cond.instanceMethod yX4_tell, Cond.selects RX4 yX4_tell yX4_tell, Cond.initialized RX4, Cond.code yX4_tell cX4_tell 4 (some .int), Cond.classLink RX4 30 "java/lang/IllegalArgumentException", Cond.initialized "java/lang/IllegalArgumentException", Cond.classLink RX4 78 "java/lang/IllegalStateException", Cond.initialized "java/lang/IllegalStateException", Cond.fieldLink RX4 12 "LyingScale" "now" "LLyingScale$State;", Cond.fieldLink RX4 19 "LyingScale" "history" "LLyingScale$History;", Cond.methodLink RX4 64 yX2_isWeighing, Cond.instanceMethod yX2_isWeighing, Cond.selects RX2 yX2_isWeighing yX2_isWeighing, Cond.initialized RX2, Cond.code yX2_isWeighing cX2_isWeighing 3 (some .boolean), Cond.fieldLink RX2 33 "LyingScale$State" "coins" "I", Cond.methodLink RX2 71 yJ6_bitCount_0f7a4, Cond.static yJ6_bitCount_0f7a4, Cond.initialized RJ6, Cond.code yJ6_bitCount_0f7a4 cJ6_bitCount_0f7a4 1 (some .int), Cond.constant RJ6 265 (1431655765)]
def wsL_tell_r2 : List Cond := [Cond.constant RJ6 266 (858993459), Cond.constant RJ6 267 (252645135), Cond.methodLink RX4 68 yX4_isAnswer, Cond.static yX4_isAnswer, Cond.code yX4_isAnswer cX4_isAnswer 1 (some .boolean), Cond.methodLink RX4 74 yX2_canLearn, Cond.instanceMethod yX2_canLearn, Cond.selects RX2 yX2_canLearn yX2_canLearn, Cond.code yX2_canLearn cX2_canLearn 1 (some .boolean), Cond.fieldLink RX2 14 "LyingScale$State" "told" "LLyingScale$Weighings;", Cond.methodLink RX4 37 yX0_save, Cond.instanceMethod yX0_save, Cond.selects RX0 yX0_save yX0_save, Cond.initialized RX0, Cond.code yX0_save cX0_save 3 none, Cond.fieldLink RX0 18 "LyingScale$History" "count" "I", Cond.fieldLink RX0 11 "LyingScale$History" "states" "[LLyingScale$State;", Cond.methodLink RX0 22 yX0_dropOldest, Cond.instanceMethod yX0_dropOldest, Cond.selects RX0 yX0_dropOldest yX0_dropOldest, Cond.code yX0_dropOldest cX0_dropOldest 4 none, Cond.methodLink RX0 25 yX0_stateAt, Cond.instanceMethod yX0_stateAt, Cond.selects RX0 yX0_stateAt yX0_stateAt]
def wsL_tell_r3 : List Cond := [Cond.code yX0_stateAt cX0_stateAt 2 (some (.object "LyingScale$State")), Cond.methodLink RX0 29 yX2_copyFrom, Cond.instanceMethod yX2_copyFrom, Cond.selects RX2 yX2_copyFrom yX2_copyFrom, Cond.code yX2_copyFrom cX2_copyFrom 2 none, Cond.fieldLink RX2 20 "LyingScale$State" "plan" "LLyingScale$Weighings;", Cond.fieldLink RX2 23 "LyingScale$State" "liesOf" "[I", Cond.fieldLink RX2 37 "LyingScale$State" "limit" "I", Cond.fieldLink RX2 58 "LyingScale$State" "hidden" "I", Cond.fieldLink RX2 61 "LyingScale$State" "lieSet" "I", Cond.fieldLink RX2 64 "LyingScale$State" "answered" "I", Cond.methodLink RX2 50 yX3_copyFrom, Cond.instanceMethod yX3_copyFrom, Cond.selects RX3 yX3_copyFrom yX3_copyFrom, Cond.initialized RX3, Cond.code yX3_copyFrom cX3_copyFrom 2 none, Cond.fieldLink RX3 15 "LyingScale$Weighings" "lefts" "[I", Cond.fieldLink RX3 21 "LyingScale$Weighings" "rights" "[I", Cond.fieldLink RX3 24 "LyingScale$Weighings" "answers" "[I", Cond.fieldLink RX3 31 "LyingScale$Weighings" "count" "I", Cond.static yX4_copyRow, Cond.code yX4_copyRow cX4_copyRow 2 none, Cond.methodLink RX4 253 Lib.Math.min.name, Cond.static Lib.Math.min.name]
def wsL_tell_r4 : List Cond := [Cond.initialized "java/lang/Math", Cond.code Lib.Math.min.name Lib.Math.min.code 2 (some .int), Cond.methodLink RX4 258 arraycopyName, Cond.native arraycopyName, Cond.static arraycopyName, Cond.initialized "java/lang/System", Cond.methodLink RX4 83 yX2_learn, Cond.instanceMethod yX2_learn, Cond.selects RX2 yX2_learn yX2_learn, Cond.code yX2_learn cX2_learn 5 none, Cond.methodLink RX2 77 yX3_write, Cond.instanceMethod yX3_write, Cond.selects RX3 yX3_write yX3_write, Cond.code yX3_write cX3_write 4 none, Cond.static yX4_put, Cond.code yX4_put cX4_put 3 none, Cond.methodLink RX2 67 yX2_cases, Cond.instanceMethod yX2_cases, Cond.selects RX2 yX2_cases yX2_cases, Cond.code yX2_cases cX2_cases 1 (some .int), Cond.methodLink RX2 81 yX2_liesIfTold, Cond.instanceMethod yX2_liesIfTold, Cond.selects RX2 yX2_liesIfTold yX2_liesIfTold, Cond.code yX2_liesIfTold cX2_liesIfTold 6 (some .int)]
def wsL_tell_r5 : List Cond := [Cond.static yX4_at, Cond.code yX4_at cX4_at 2 (some .int), Cond.static yX4_trueAnswer, Cond.code yX4_trueAnswer cX4_trueAnswer 5 (some .int), Cond.methodLink RX4 264 yX4_coinBit, Cond.static yX4_coinBit, Cond.code yX4_coinBit cX4_coinBit 1 (some .int), Cond.methodLink RX4 60 yX2_countLeft, Cond.instanceMethod yX2_countLeft, Cond.selects RX2 yX2_countLeft yX2_countLeft, Cond.code yX2_countLeft cX2_countLeft 3 (some .int), Cond.methodLink RX2 125 yX2_isLeft, Cond.instanceMethod yX2_isLeft, Cond.selects RX2 yX2_isLeft yX2_isLeft, Cond.code yX2_isLeft cX2_isLeft 2 (some .boolean)]
def wsL_tell : List Cond := .codeWith yL_tell cL_tell 6 (some .int) [(0, 12, 15, 13), (0, 12, 19, 22)] :: ((wsL_tell_r1 ++ (wsL_tell_r2 ++ (wsL_tell_r3 ++ (wsL_tell_r4 ++ wsL_tell_r5)))) ++ wsX40 ++ wsX20 ++ wsX30 ++ wsX00 ++ (vx_atS RX4 34 "java/lang/IllegalArgumentException" ["java/lang/RuntimeException", "java/lang/Exception"]).filter goodWord ++ (vx_atS RX4 82 "java/lang/IllegalStateException" ["java/lang/RuntimeException", "java/lang/Exception"]).filter goodWord)
def wsL_hide_r1 : List Cond := [Cond.classLink RL 28 "java/lang/IndexOutOfBoundsException", Cond.classLink RL 13 "java/lang/IllegalArgumentException", Cond.methodLink RL 24 yX4_hide, Cond.instanceMethod yX4_hide, Cond.selects RX4 yX4_hide yX4_hide, Cond.initialized RX4, Cond.code yX4_hide cX4_hide 4 (some .int), Cond.classLink RX4 93 "java/lang/IndexOutOfBoundsException", Cond.initialized "java/lang/IndexOutOfBoundsException", Cond.classLink RX4 30 "java/lang/IllegalArgumentException", Cond.initialized "java/lang/IllegalArgumentException", Cond.fieldLink RX4 12 "LyingScale" "now" "LLyingScale$State;", Cond.constant RX4 98 (1073741823), Cond.fieldLink RX4 19 "LyingScale" "history" "LLyingScale$History;", Cond.methodLink RX4 90 yX2_isCase, Cond.instanceMethod yX2_isCase, Cond.selects RX2 yX2_isCase yX2_isCase, Cond.initialized RX2, Cond.code yX2_isCase cX2_isCase 2 (some .boolean), Cond.methodLink RX2 67 yX2_cases, Cond.instanceMethod yX2_cases, Cond.selects RX2 yX2_cases yX2_cases, Cond.code yX2_cases cX2_cases 1 (some .int), Cond.fieldLink RX2 33 "LyingScale$State" "coins" "I"]
def wsL_hide_r2 : List Cond := [Cond.methodLink RX4 37 yX0_save, Cond.instanceMethod yX0_save, Cond.selects RX0 yX0_save yX0_save, Cond.initialized RX0, Cond.code yX0_save cX0_save 3 none, Cond.fieldLink RX0 18 "LyingScale$History" "count" "I", Cond.fieldLink RX0 11 "LyingScale$History" "states" "[LLyingScale$State;", Cond.methodLink RX0 22 yX0_dropOldest, Cond.instanceMethod yX0_dropOldest, Cond.selects RX0 yX0_dropOldest yX0_dropOldest, Cond.code yX0_dropOldest cX0_dropOldest 4 none, Cond.methodLink RX0 25 yX0_stateAt, Cond.instanceMethod yX0_stateAt, Cond.selects RX0 yX0_stateAt yX0_stateAt, Cond.code yX0_stateAt cX0_stateAt 2 (some (.object "LyingScale$State")), Cond.methodLink RX0 29 yX2_copyFrom, Cond.instanceMethod yX2_copyFrom, Cond.selects RX2 yX2_copyFrom yX2_copyFrom, Cond.code yX2_copyFrom cX2_copyFrom 2 none, Cond.fieldLink RX2 14 "LyingScale$State" "told" "LLyingScale$Weighings;", Cond.fieldLink RX2 20 "LyingScale$State" "plan" "LLyingScale$Weighings;", Cond.fieldLink RX2 23 "LyingScale$State" "liesOf" "[I", Cond.fieldLink RX2 37 "LyingScale$State" "limit" "I", Cond.fieldLink RX2 58 "LyingScale$State" "hidden" "I"]
def wsL_hide_r3 : List Cond := [Cond.fieldLink RX2 61 "LyingScale$State" "lieSet" "I", Cond.fieldLink RX2 64 "LyingScale$State" "answered" "I", Cond.methodLink RX2 50 yX3_copyFrom, Cond.instanceMethod yX3_copyFrom, Cond.selects RX3 yX3_copyFrom yX3_copyFrom, Cond.initialized RX3, Cond.code yX3_copyFrom cX3_copyFrom 2 none, Cond.fieldLink RX3 15 "LyingScale$Weighings" "lefts" "[I", Cond.fieldLink RX3 21 "LyingScale$Weighings" "rights" "[I", Cond.fieldLink RX3 24 "LyingScale$Weighings" "answers" "[I", Cond.fieldLink RX3 31 "LyingScale$Weighings" "count" "I", Cond.static yX4_copyRow, Cond.code yX4_copyRow cX4_copyRow 2 none, Cond.methodLink RX4 253 Lib.Math.min.name, Cond.static Lib.Math.min.name, Cond.initialized "java/lang/Math", Cond.code Lib.Math.min.name Lib.Math.min.code 2 (some .int), Cond.methodLink RX4 258 arraycopyName, Cond.native arraycopyName, Cond.static arraycopyName, Cond.initialized "java/lang/System", Cond.methodLink RX4 102 yX2_hideCase, Cond.instanceMethod yX2_hideCase, Cond.selects RX2 yX2_hideCase yX2_hideCase]
def wsL_hide_r4 : List Cond := [Cond.code yX2_hideCase cX2_hideCase 3 none]
def wsL_hide : List Cond := .codeWith yL_hide cL_hide 5 (some .int) [(0, 10, 13, 28), (0, 10, 17, 13)] :: ((wsL_hide_r1 ++ (wsL_hide_r2 ++ (wsL_hide_r3 ++ wsL_hide_r4))) ++ wsX40 ++ wsX20 ++ wsX00 ++ wsX30 ++ (vx_atS RX4 97 "java/lang/IndexOutOfBoundsException" ["java/lang/RuntimeException", "java/lang/Exception"]).filter goodWord ++ (vx_atS RX4 34 "java/lang/IllegalArgumentException" ["java/lang/RuntimeException", "java/lang/Exception"]).filter goodWord)
def wsL_ask_r1 : List Cond := [Cond.classLink RL 13 "java/lang/IllegalArgumentException", Cond.classLink RL 22 "java/lang/IllegalStateException", Cond.methodLink RL 30 yX4_ask, Cond.instanceMethod yX4_ask, Cond.selects RX4 yX4_ask yX4_ask, Cond.initialized RX4, Cond.code yX4_ask cX4_ask 3 (some .int), Cond.classLink RX4 30 "java/lang/IllegalArgumentException", Cond.initialized "java/lang/IllegalArgumentException", Cond.classLink RX4 78 "java/lang/IllegalStateException", Cond.initialized "java/lang/IllegalStateException", Cond.fieldLink RX4 12 "LyingScale" "now" "LLyingScale$State;", Cond.fieldLink RX4 19 "LyingScale" "history" "LLyingScale$History;", Cond.methodLink RX4 64 yX2_isWeighing, Cond.instanceMethod yX2_isWeighing, Cond.selects RX2 yX2_isWeighing yX2_isWeighing, Cond.initialized RX2, Cond.code yX2_isWeighing cX2_isWeighing 3 (some .boolean), Cond.fieldLink RX2 33 "LyingScale$State" "coins" "I", Cond.methodLink RX2 71 yJ6_bitCount_0f7a4, Cond.static yJ6_bitCount_0f7a4, Cond.initialized RJ6, Cond.code yJ6_bitCount_0f7a4 cJ6_bitCount_0f7a4 1 (some .int), Cond.constant RJ6 265 (1431655765)]
def wsL_ask_r2 : List Cond := [Cond.constant RJ6 266 (858993459), Cond.constant RJ6 267 (252645135), Cond.methodLink RX4 108 yX2_canReply, Cond.instanceMethod yX2_canReply, Cond.selects RX2 yX2_canReply yX2_canReply, Cond.code yX2_canReply cX2_canReply 1 (some .boolean), Cond.fieldLink RX2 58 "LyingScale$State" "hidden" "I", Cond.fieldLink RX2 64 "LyingScale$State" "answered" "I", Cond.methodLink RX2 97 yX2_canLearn, Cond.instanceMethod yX2_canLearn, Cond.selects RX2 yX2_canLearn yX2_canLearn, Cond.code yX2_canLearn cX2_canLearn 1 (some .boolean), Cond.fieldLink RX2 14 "LyingScale$State" "told" "LLyingScale$Weighings;", Cond.methodLink RX4 37 yX0_save, Cond.instanceMethod yX0_save, Cond.selects RX0 yX0_save yX0_save, Cond.initialized RX0, Cond.code yX0_save cX0_save 3 none, Cond.fieldLink RX0 18 "LyingScale$History" "count" "I", Cond.fieldLink RX0 11 "LyingScale$History" "states" "[LLyingScale$State;", Cond.methodLink RX0 22 yX0_dropOldest, Cond.instanceMethod yX0_dropOldest, Cond.selects RX0 yX0_dropOldest yX0_dropOldest, Cond.code yX0_dropOldest cX0_dropOldest 4 none]
def wsL_ask_r3 : List Cond := [Cond.methodLink RX0 25 yX0_stateAt, Cond.instanceMethod yX0_stateAt, Cond.selects RX0 yX0_stateAt yX0_stateAt, Cond.code yX0_stateAt cX0_stateAt 2 (some (.object "LyingScale$State")), Cond.methodLink RX0 29 yX2_copyFrom, Cond.instanceMethod yX2_copyFrom, Cond.selects RX2 yX2_copyFrom yX2_copyFrom, Cond.code yX2_copyFrom cX2_copyFrom 2 none, Cond.fieldLink RX2 20 "LyingScale$State" "plan" "LLyingScale$Weighings;", Cond.fieldLink RX2 23 "LyingScale$State" "liesOf" "[I", Cond.fieldLink RX2 37 "LyingScale$State" "limit" "I", Cond.fieldLink RX2 61 "LyingScale$State" "lieSet" "I", Cond.methodLink RX2 50 yX3_copyFrom, Cond.instanceMethod yX3_copyFrom, Cond.selects RX3 yX3_copyFrom yX3_copyFrom, Cond.initialized RX3, Cond.code yX3_copyFrom cX3_copyFrom 2 none, Cond.fieldLink RX3 15 "LyingScale$Weighings" "lefts" "[I", Cond.fieldLink RX3 21 "LyingScale$Weighings" "rights" "[I", Cond.fieldLink RX3 24 "LyingScale$Weighings" "answers" "[I", Cond.fieldLink RX3 31 "LyingScale$Weighings" "count" "I", Cond.static yX4_copyRow, Cond.code yX4_copyRow cX4_copyRow 2 none, Cond.methodLink RX4 253 Lib.Math.min.name]
def wsL_ask_r4 : List Cond := [Cond.static Lib.Math.min.name, Cond.initialized "java/lang/Math", Cond.code Lib.Math.min.name Lib.Math.min.code 2 (some .int), Cond.methodLink RX4 258 arraycopyName, Cond.native arraycopyName, Cond.static arraycopyName, Cond.initialized "java/lang/System", Cond.methodLink RX4 113 yX2_reply, Cond.instanceMethod yX2_reply, Cond.selects RX2 yX2_reply yX2_reply, Cond.code yX2_reply cX2_reply 4 (some .int), Cond.static yX4_trueAnswer, Cond.code yX4_trueAnswer cX4_trueAnswer 5 (some .int), Cond.methodLink RX4 264 yX4_coinBit, Cond.static yX4_coinBit, Cond.code yX4_coinBit cX4_coinBit 1 (some .int), Cond.methodLink RX2 101 yX2_learn, Cond.instanceMethod yX2_learn, Cond.selects RX2 yX2_learn yX2_learn, Cond.code yX2_learn cX2_learn 5 none, Cond.methodLink RX2 77 yX3_write, Cond.instanceMethod yX3_write, Cond.selects RX3 yX3_write yX3_write, Cond.code yX3_write cX3_write 4 none]
def wsL_ask_r5 : List Cond := [Cond.static yX4_put, Cond.code yX4_put cX4_put 3 none, Cond.methodLink RX2 67 yX2_cases, Cond.instanceMethod yX2_cases, Cond.selects RX2 yX2_cases yX2_cases, Cond.code yX2_cases cX2_cases 1 (some .int), Cond.methodLink RX2 81 yX2_liesIfTold, Cond.instanceMethod yX2_liesIfTold, Cond.selects RX2 yX2_liesIfTold yX2_liesIfTold, Cond.code yX2_liesIfTold cX2_liesIfTold 6 (some .int), Cond.static yX4_at, Cond.code yX4_at cX4_at 2 (some .int)]
def wsL_ask : List Cond := .codeWith yL_ask cL_ask 5 (some .int) [(0, 10, 13, 13), (0, 10, 17, 22)] :: ((wsL_ask_r1 ++ (wsL_ask_r2 ++ (wsL_ask_r3 ++ (wsL_ask_r4 ++ wsL_ask_r5)))) ++ wsX40 ++ wsX20 ++ wsX30 ++ wsX00 ++ (vx_atS RX4 34 "java/lang/IllegalArgumentException" ["java/lang/RuntimeException", "java/lang/Exception"]).filter goodWord ++ (vx_atS RX4 82 "java/lang/IllegalStateException" ["java/lang/RuntimeException", "java/lang/Exception"]).filter goodWord)
def wsL_add_r1 : List Cond := [Cond.classLink RL 13 "java/lang/IllegalArgumentException", Cond.classLink RL 22 "java/lang/IllegalStateException", Cond.methodLink RL 33 yX4_add, Cond.instanceMethod yX4_add, Cond.selects RX4 yX4_add yX4_add, Cond.initialized RX4, Cond.code yX4_add cX4_add 4 (some .int), Cond.classLink RX4 30 "java/lang/IllegalArgumentException", Cond.initialized "java/lang/IllegalArgumentException", Cond.classLink RX4 78 "java/lang/IllegalStateException", Cond.initialized "java/lang/IllegalStateException", Cond.fieldLink RX4 12 "LyingScale" "now" "LLyingScale$State;", Cond.fieldLink RX4 19 "LyingScale" "history" "LLyingScale$History;", Cond.methodLink RX4 64 yX2_isWeighing, Cond.instanceMethod yX2_isWeighing, Cond.selects RX2 yX2_isWeighing yX2_isWeighing, Cond.initialized RX2, Cond.code yX2_isWeighing cX2_isWeighing 3 (some .boolean), Cond.fieldLink RX2 33 "LyingScale$State" "coins" "I", Cond.methodLink RX2 71 yJ6_bitCount_0f7a4, Cond.static yJ6_bitCount_0f7a4, Cond.initialized RJ6, Cond.code yJ6_bitCount_0f7a4 cJ6_bitCount_0f7a4 1 (some .int), Cond.constant RJ6 265 (1431655765)]
def wsL_add_r2 : List Cond := [Cond.constant RJ6 266 (858993459), Cond.constant RJ6 267 (252645135), Cond.methodLink RX4 117 yX2_canPlan, Cond.instanceMethod yX2_canPlan, Cond.selects RX2 yX2_canPlan yX2_canPlan, Cond.code yX2_canPlan cX2_canPlan 1 (some .boolean), Cond.fieldLink RX2 20 "LyingScale$State" "plan" "LLyingScale$Weighings;", Cond.methodLink RX4 37 yX0_save, Cond.instanceMethod yX0_save, Cond.selects RX0 yX0_save yX0_save, Cond.initialized RX0, Cond.code yX0_save cX0_save 3 none, Cond.fieldLink RX0 18 "LyingScale$History" "count" "I", Cond.fieldLink RX0 11 "LyingScale$History" "states" "[LLyingScale$State;", Cond.methodLink RX0 22 yX0_dropOldest, Cond.instanceMethod yX0_dropOldest, Cond.selects RX0 yX0_dropOldest yX0_dropOldest, Cond.code yX0_dropOldest cX0_dropOldest 4 none, Cond.methodLink RX0 25 yX0_stateAt, Cond.instanceMethod yX0_stateAt, Cond.selects RX0 yX0_stateAt yX0_stateAt, Cond.code yX0_stateAt cX0_stateAt 2 (some (.object "LyingScale$State")), Cond.methodLink RX0 29 yX2_copyFrom, Cond.instanceMethod yX2_copyFrom]
def wsL_add_r3 : List Cond := [Cond.selects RX2 yX2_copyFrom yX2_copyFrom, Cond.code yX2_copyFrom cX2_copyFrom 2 none, Cond.fieldLink RX2 14 "LyingScale$State" "told" "LLyingScale$Weighings;", Cond.fieldLink RX2 23 "LyingScale$State" "liesOf" "[I", Cond.fieldLink RX2 37 "LyingScale$State" "limit" "I", Cond.fieldLink RX2 58 "LyingScale$State" "hidden" "I", Cond.fieldLink RX2 61 "LyingScale$State" "lieSet" "I", Cond.fieldLink RX2 64 "LyingScale$State" "answered" "I", Cond.methodLink RX2 50 yX3_copyFrom, Cond.instanceMethod yX3_copyFrom, Cond.selects RX3 yX3_copyFrom yX3_copyFrom, Cond.initialized RX3, Cond.code yX3_copyFrom cX3_copyFrom 2 none, Cond.fieldLink RX3 15 "LyingScale$Weighings" "lefts" "[I", Cond.fieldLink RX3 21 "LyingScale$Weighings" "rights" "[I", Cond.fieldLink RX3 24 "LyingScale$Weighings" "answers" "[I", Cond.fieldLink RX3 31 "LyingScale$Weighings" "count" "I", Cond.static yX4_copyRow, Cond.code yX4_copyRow cX4_copyRow 2 none, Cond.methodLink RX4 253 Lib.Math.min.name, Cond.static Lib.Math.min.name, Cond.initialized "java/lang/Math", Cond.code Lib.Math.min.name Lib.Math.min.code 2 (some .int), Cond.methodLink RX4 258 arraycopyName]
def wsL_add_r4 : List Cond := [Cond.native arraycopyName, Cond.static arraycopyName, Cond.initialized "java/lang/System", Cond.methodLink RX4 125 yX2_planWeighing, Cond.instanceMethod yX2_planWeighing, Cond.selects RX2 yX2_planWeighing yX2_planWeighing, Cond.code yX2_planWeighing cX2_planWeighing 3 none, Cond.methodLink RX2 77 yX3_write, Cond.instanceMethod yX3_write, Cond.selects RX3 yX3_write yX3_write, Cond.code yX3_write cX3_write 4 none, Cond.static yX4_put, Cond.code yX4_put cX4_put 3 none]
def wsL_add : List Cond := .codeWith yL_add cL_add 5 (some .int) [(0, 10, 13, 13), (0, 10, 17, 22)] :: ((wsL_add_r1 ++ (wsL_add_r2 ++ (wsL_add_r3 ++ wsL_add_r4))) ++ wsX40 ++ wsX20 ++ wsX30 ++ wsX00 ++ (vx_atS RX4 34 "java/lang/IllegalArgumentException" ["java/lang/RuntimeException", "java/lang/Exception"]).filter goodWord ++ (vx_atS RX4 82 "java/lang/IllegalStateException" ["java/lang/RuntimeException", "java/lang/Exception"]).filter goodWord)
def wsL_removeLast_r1 : List Cond := [Cond.classLink RL 22 "java/lang/IllegalStateException", Cond.methodLink RL 36 yX4_removeLast, Cond.instanceMethod yX4_removeLast, Cond.selects RX4 yX4_removeLast yX4_removeLast, Cond.initialized RX4, Cond.code yX4_removeLast cX4_removeLast 1 (some .int), Cond.classLink RX4 78 "java/lang/IllegalStateException", Cond.initialized "java/lang/IllegalStateException", Cond.fieldLink RX4 12 "LyingScale" "now" "LLyingScale$State;", Cond.fieldLink RX4 19 "LyingScale" "history" "LLyingScale$History;", Cond.methodLink RX4 37 yX0_save, Cond.instanceMethod yX0_save, Cond.selects RX0 yX0_save yX0_save, Cond.initialized RX0, Cond.code yX0_save cX0_save 3 none, Cond.fieldLink RX0 18 "LyingScale$History" "count" "I", Cond.fieldLink RX0 11 "LyingScale$History" "states" "[LLyingScale$State;", Cond.methodLink RX0 22 yX0_dropOldest, Cond.instanceMethod yX0_dropOldest, Cond.selects RX0 yX0_dropOldest yX0_dropOldest, Cond.code yX0_dropOldest cX0_dropOldest 4 none, Cond.methodLink RX0 25 yX0_stateAt, Cond.instanceMethod yX0_stateAt, Cond.selects RX0 yX0_stateAt yX0_stateAt]
def wsL_removeLast_r2 : List Cond := [Cond.code yX0_stateAt cX0_stateAt 2 (some (.object "LyingScale$State")), Cond.methodLink RX0 29 yX2_copyFrom, Cond.instanceMethod yX2_copyFrom, Cond.selects RX2 yX2_copyFrom yX2_copyFrom, Cond.initialized RX2, Cond.code yX2_copyFrom cX2_copyFrom 2 none, Cond.fieldLink RX2 14 "LyingScale$State" "told" "LLyingScale$Weighings;", Cond.fieldLink RX2 20 "LyingScale$State" "plan" "LLyingScale$Weighings;", Cond.fieldLink RX2 23 "LyingScale$State" "liesOf" "[I", Cond.fieldLink RX2 33 "LyingScale$State" "coins" "I", Cond.fieldLink RX2 37 "LyingScale$State" "limit" "I", Cond.fieldLink RX2 58 "LyingScale$State" "hidden" "I", Cond.fieldLink RX2 61 "LyingScale$State" "lieSet" "I", Cond.fieldLink RX2 64 "LyingScale$State" "answered" "I", Cond.methodLink RX2 50 yX3_copyFrom, Cond.instanceMethod yX3_copyFrom, Cond.selects RX3 yX3_copyFrom yX3_copyFrom, Cond.initialized RX3, Cond.code yX3_copyFrom cX3_copyFrom 2 none, Cond.fieldLink RX3 15 "LyingScale$Weighings" "lefts" "[I", Cond.fieldLink RX3 21 "LyingScale$Weighings" "rights" "[I", Cond.fieldLink RX3 24 "LyingScale$Weighings" "answers" "[I", Cond.fieldLink RX3 31 "LyingScale$Weighings" "count" "I", Cond.static yX4_copyRow]
def wsL_removeLast_r3 : List Cond := [Cond.code yX4_copyRow cX4_copyRow 2 none, Cond.methodLink RX4 253 Lib.Math.min.name, Cond.static Lib.Math.min.name, Cond.initialized "java/lang/Math", Cond.code Lib.Math.min.name Lib.Math.min.code 2 (some .int), Cond.methodLink RX4 258 arraycopyName, Cond.native arraycopyName, Cond.static arraycopyName, Cond.initialized "java/lang/System", Cond.methodLink RX4 130 yX3_dropLast, Cond.instanceMethod yX3_dropLast, Cond.selects RX3 yX3_dropLast yX3_dropLast, Cond.code yX3_dropLast cX3_dropLast 1 none]
def wsL_removeLast : List Cond := .codeWith yL_removeLast cL_removeLast 3 (some .int) [(0, 8, 11, 22)] :: ((wsL_removeLast_r1 ++ (wsL_removeLast_r2 ++ wsL_removeLast_r3)) ++ wsX40 ++ wsX20 ++ wsX30 ++ wsX00 ++ (vx_atS RX4 82 "java/lang/IllegalStateException" ["java/lang/RuntimeException", "java/lang/Exception"]).filter goodWord)
def wsL_lies : List Cond := .codeWith yL_lies cL_lies 4 (some .int) [(0, 9, 12, 28)] :: ([.classLink RL 28 "java/lang/IndexOutOfBoundsException", .methodLink RL 40 yX4_lies, .instanceMethod yX4_lies, .selects RX4 yX4_lies yX4_lies, .initialized RX4, .code yX4_lies cX4_lies 2 (some .int), .classLink RX4 93 "java/lang/IndexOutOfBoundsException", .initialized "java/lang/IndexOutOfBoundsException", .fieldLink RX4 12 "LyingScale" "now" "LLyingScale$State;", .methodLink RX4 90 yX2_isCase, .instanceMethod yX2_isCase, .selects RX2 yX2_isCase yX2_isCase, .initialized RX2, .code yX2_isCase cX2_isCase 2 (some .boolean), .methodLink RX2 67 yX2_cases, .instanceMethod yX2_cases, .selects RX2 yX2_cases yX2_cases, .code yX2_cases cX2_cases 1 (some .int), .fieldLink RX2 33 "LyingScale$State" "coins" "I", .methodLink RX4 137 yX4_at, .static yX4_at, .code yX4_at cX4_at 2 (some .int)] ++ wsX40 ++ wsX20 ++ (vx_atS RX4 97 "java/lang/IndexOutOfBoundsException" ["java/lang/RuntimeException", "java/lang/Exception"]).filter goodWord)
def wsL_answer_r1 : List Cond := [Cond.classLink RL 28 "java/lang/IndexOutOfBoundsException", Cond.classLink RL 13 "java/lang/IllegalArgumentException", Cond.methodLink RL 43 yX4_answer, Cond.instanceMethod yX4_answer, Cond.selects RX4 yX4_answer yX4_answer, Cond.initialized RX4, Cond.code yX4_answer cX4_answer 4 (some .int), Cond.classLink RX4 93 "java/lang/IndexOutOfBoundsException", Cond.initialized "java/lang/IndexOutOfBoundsException", Cond.classLink RX4 30 "java/lang/IllegalArgumentException", Cond.initialized "java/lang/IllegalArgumentException", Cond.fieldLink RX4 12 "LyingScale" "now" "LLyingScale$State;", Cond.methodLink RX4 90 yX2_isCase, Cond.instanceMethod yX2_isCase, Cond.selects RX2 yX2_isCase yX2_isCase, Cond.initialized RX2, Cond.code yX2_isCase cX2_isCase 2 (some .boolean), Cond.methodLink RX2 67 yX2_cases, Cond.instanceMethod yX2_cases, Cond.selects RX2 yX2_cases yX2_cases, Cond.code yX2_cases cX2_cases 1 (some .int), Cond.fieldLink RX2 33 "LyingScale$State" "coins" "I", Cond.methodLink RX4 64 yX2_isWeighing, Cond.instanceMethod yX2_isWeighing]
def wsL_answer_r2 : List Cond := [Cond.selects RX2 yX2_isWeighing yX2_isWeighing, Cond.code yX2_isWeighing cX2_isWeighing 3 (some .boolean), Cond.methodLink RX2 71 yJ6_bitCount_0f7a4, Cond.static yJ6_bitCount_0f7a4, Cond.initialized RJ6, Cond.code yJ6_bitCount_0f7a4 cJ6_bitCount_0f7a4 1 (some .int), Cond.constant RJ6 265 (1431655765), Cond.constant RJ6 266 (858993459), Cond.constant RJ6 267 (252645135), Cond.methodLink RX4 141 yX4_trueAnswer, Cond.static yX4_trueAnswer, Cond.code yX4_trueAnswer cX4_trueAnswer 5 (some .int), Cond.methodLink RX4 264 yX4_coinBit, Cond.static yX4_coinBit, Cond.code yX4_coinBit cX4_coinBit 1 (some .int)]
def wsL_answer : List Cond := .codeWith yL_answer cL_answer 6 (some .int) [(0, 12, 15, 28), (0, 12, 19, 13)] :: ((wsL_answer_r1 ++ wsL_answer_r2) ++ wsX40 ++ wsX20 ++ (vx_atS RX4 97 "java/lang/IndexOutOfBoundsException" ["java/lang/RuntimeException", "java/lang/Exception"]).filter goodWord ++ (vx_atS RX4 34 "java/lang/IllegalArgumentException" ["java/lang/RuntimeException", "java/lang/Exception"]).filter goodWord)
def wsL_leftCase_r1 : List Cond := [Cond.classLink RL 28 "java/lang/IndexOutOfBoundsException", Cond.methodLink RL 46 yX4_leftCase, Cond.instanceMethod yX4_leftCase, Cond.selects RX4 yX4_leftCase yX4_leftCase, Cond.initialized RX4, Cond.code yX4_leftCase cX4_leftCase 3 (some .int), Cond.classLink RX4 93 "java/lang/IndexOutOfBoundsException", Cond.initialized "java/lang/IndexOutOfBoundsException", Cond.fieldLink RX4 12 "LyingScale" "now" "LLyingScale$State;", Cond.methodLink RX4 145 yX2_findLeft, Cond.instanceMethod yX2_findLeft, Cond.selects RX2 yX2_findLeft yX2_findLeft, Cond.initialized RX2, Cond.code yX2_findLeft cX2_findLeft 4 (some .int), Cond.methodLink RX2 67 yX2_cases, Cond.instanceMethod yX2_cases, Cond.selects RX2 yX2_cases yX2_cases, Cond.code yX2_cases cX2_cases 1 (some .int), Cond.fieldLink RX2 33 "LyingScale$State" "coins" "I", Cond.methodLink RX2 125 yX2_isLeft, Cond.instanceMethod yX2_isLeft, Cond.selects RX2 yX2_isLeft yX2_isLeft, Cond.code yX2_isLeft cX2_isLeft 2 (some .boolean), Cond.fieldLink RX2 23 "LyingScale$State" "liesOf" "[I"]
def wsL_leftCase_r2 : List Cond := [Cond.fieldLink RX2 37 "LyingScale$State" "limit" "I", Cond.static yX4_at, Cond.code yX4_at cX4_at 2 (some .int)]
def wsL_leftCase : List Cond := .codeWith yL_leftCase cL_leftCase 4 (some .int) [(0, 9, 12, 28)] :: ((wsL_leftCase_r1 ++ wsL_leftCase_r2) ++ wsX40 ++ wsX20 ++ (vx_atS RX4 97 "java/lang/IndexOutOfBoundsException" ["java/lang/RuntimeException", "java/lang/Exception"]).filter goodWord)
def wsL_weighing : List Cond := .codeWith yL_weighing cL_weighing 5 (some .int) [(0, 10, 13, 28), (0, 10, 17, 13)] :: ([.classLink RL 28 "java/lang/IndexOutOfBoundsException", .classLink RL 13 "java/lang/IllegalArgumentException", .methodLink RL 49 yX4_weighing, .instanceMethod yX4_weighing, .selects RX4 yX4_weighing yX4_weighing, .initialized RX4, .code yX4_weighing cX4_weighing 3 (some .int), .classLink RX4 93 "java/lang/IndexOutOfBoundsException", .initialized "java/lang/IndexOutOfBoundsException", .classLink RX4 30 "java/lang/IllegalArgumentException", .initialized "java/lang/IllegalArgumentException", .fieldLink RX4 12 "LyingScale" "now" "LLyingScale$State;", .methodLink RX4 155 yX3_part, .instanceMethod yX3_part, .selects RX3 yX3_part yX3_part, .initialized RX3, .code yX3_part cX3_part 3 (some .int), .fieldLink RX3 15 "LyingScale$Weighings" "lefts" "[I", .fieldLink RX3 21 "LyingScale$Weighings" "rights" "[I", .fieldLink RX3 24 "LyingScale$Weighings" "answers" "[I", .static yX4_at, .code yX4_at cX4_at 2 (some .int)] ++ wsX40 ++ wsX20 ++ wsX30 ++ (vx_atS RX4 97 "java/lang/IndexOutOfBoundsException" ["java/lang/RuntimeException", "java/lang/Exception"]).filter goodWord ++ (vx_atS RX4 34 "java/lang/IllegalArgumentException" ["java/lang/RuntimeException", "java/lang/Exception"]).filter goodWord)
def wsL_value_r1 : List Cond := [Cond.classLink RL 13 "java/lang/IllegalArgumentException", Cond.methodLink RL 52 yX4_value, Cond.instanceMethod yX4_value, Cond.selects RX4 yX4_value yX4_value, Cond.initialized RX4, Cond.code yX4_value cX4_value 2 (some .int), Cond.classLink RX4 30 "java/lang/IllegalArgumentException", Cond.initialized "java/lang/IllegalArgumentException", Cond.fieldLink RX4 12 "LyingScale" "now" "LLyingScale$State;", Cond.methodLink RX4 158 yX2_number, Cond.instanceMethod yX2_number, Cond.selects RX2 yX2_number yX2_number, Cond.initialized RX2, Cond.code yX2_number cX2_number 2 (some .int), Cond.fieldLink RX2 33 "LyingScale$State" "coins" "I", Cond.fieldLink RX2 37 "LyingScale$State" "limit" "I", Cond.fieldLink RX2 14 "LyingScale$State" "told" "LLyingScale$Weighings;", Cond.fieldLink RX2 20 "LyingScale$State" "plan" "LLyingScale$Weighings;", Cond.fieldLink RX2 58 "LyingScale$State" "hidden" "I", Cond.fieldLink RX2 64 "LyingScale$State" "answered" "I", Cond.methodLink RX2 131 yX2_countLeft, Cond.instanceMethod yX2_countLeft, Cond.selects RX2 yX2_countLeft yX2_countLeft, Cond.code yX2_countLeft cX2_countLeft 3 (some .int)]
def wsL_value_r2 : List Cond := [Cond.methodLink RX2 67 yX2_cases, Cond.instanceMethod yX2_cases, Cond.selects RX2 yX2_cases yX2_cases, Cond.code yX2_cases cX2_cases 1 (some .int), Cond.methodLink RX2 125 yX2_isLeft, Cond.instanceMethod yX2_isLeft, Cond.selects RX2 yX2_isLeft yX2_isLeft, Cond.code yX2_isLeft cX2_isLeft 2 (some .boolean), Cond.fieldLink RX2 23 "LyingScale$State" "liesOf" "[I", Cond.static yX4_at, Cond.code yX4_at cX4_at 2 (some .int), Cond.methodLink RX2 134 yX2_falseCoins, Cond.instanceMethod yX2_falseCoins, Cond.selects RX2 yX2_falseCoins yX2_falseCoins, Cond.code yX2_falseCoins cX2_falseCoins 3 (some .int), Cond.static yX4_coinBit, Cond.code yX4_coinBit cX4_coinBit 1 (some .int)]
def wsL_value : List Cond := .codeWith yL_value cL_value 4 (some .int) [(0, 9, 12, 13)] :: ((wsL_value_r1 ++ wsL_value_r2) ++ wsX40 ++ wsX20 ++ wsX30 ++ (vx_atS RX4 34 "java/lang/IllegalArgumentException" ["java/lang/RuntimeException", "java/lang/Exception"]).filter goodWord)
def wsL_weight_r1 : List Cond := [Cond.classLink RL 13 "java/lang/IllegalArgumentException", Cond.methodLink RL 55 yX4_weight, Cond.instanceMethod yX4_weight, Cond.selects RX4 yX4_weight yX4_weight, Cond.initialized RX4, Cond.code yX4_weight cX4_weight 2 (some .long), Cond.classLink RX4 30 "java/lang/IllegalArgumentException", Cond.initialized "java/lang/IllegalArgumentException", Cond.fieldLink RX4 12 "LyingScale" "now" "LLyingScale$State;", Cond.methodLink RX4 161 yX4_isAhead, Cond.static yX4_isAhead, Cond.code yX4_isAhead cX4_isAhead 1 (some .boolean), Cond.methodLink RX4 166 yX2_weightAhead, Cond.instanceMethod yX2_weightAhead, Cond.selects RX2 yX2_weightAhead yX2_weightAhead, Cond.initialized RX2, Cond.code yX2_weightAhead cX2_weightAhead 5 (some .long), Cond.fieldLink RX2 23 "LyingScale$State" "liesOf" "[I", Cond.methodLink RX2 67 yX2_cases, Cond.instanceMethod yX2_cases, Cond.selects RX2 yX2_cases yX2_cases, Cond.code yX2_cases cX2_cases 1 (some .int), Cond.fieldLink RX2 33 "LyingScale$State" "coins" "I", Cond.static yX4_at]
def wsL_weight_r2 : List Cond := [Cond.code yX4_at cX4_at 2 (some .int), Cond.methodLink RX2 137 yX2_volumeLeft, Cond.instanceMethod yX2_volumeLeft, Cond.selects RX2 yX2_volumeLeft yX2_volumeLeft, Cond.code yX2_volumeLeft cX2_volumeLeft 3 (some .long), Cond.fieldLink RX2 37 "LyingScale$State" "limit" "I", Cond.static yX4_volume, Cond.code yX4_volume cX4_volume 8 (some .long), Cond.methodLink RX4 253 Lib.Math.min.name, Cond.static Lib.Math.min.name, Cond.initialized "java/lang/Math", Cond.code Lib.Math.min.name Lib.Math.min.code 2 (some .int)]
def wsL_weight : List Cond := .codeWith yL_weight cL_weight 4 (some .int) [(0, 8, 11, 13)] :: ((wsL_weight_r1 ++ wsL_weight_r2) ++ wsX40 ++ wsX20 ++ (vx_atS RX4 34 "java/lang/IllegalArgumentException" ["java/lang/RuntimeException", "java/lang/Exception"]).filter goodWord)
def wsL_weightBehind_r1 : List Cond := [Cond.classLink RL 13 "java/lang/IllegalArgumentException", Cond.methodLink RL 59 yX4_weightBehind, Cond.instanceMethod yX4_weightBehind, Cond.selects RX4 yX4_weightBehind yX4_weightBehind, Cond.initialized RX4, Cond.code yX4_weightBehind cX4_weightBehind 5 (some .long), Cond.classLink RX4 30 "java/lang/IllegalArgumentException", Cond.initialized "java/lang/IllegalArgumentException", Cond.fieldLink RX4 12 "LyingScale" "now" "LLyingScale$State;", Cond.methodLink RX4 64 yX2_isWeighing, Cond.instanceMethod yX2_isWeighing, Cond.selects RX2 yX2_isWeighing yX2_isWeighing, Cond.initialized RX2, Cond.code yX2_isWeighing cX2_isWeighing 3 (some .boolean), Cond.fieldLink RX2 33 "LyingScale$State" "coins" "I", Cond.methodLink RX2 71 yJ6_bitCount_0f7a4, Cond.static yJ6_bitCount_0f7a4, Cond.initialized RJ6, Cond.code yJ6_bitCount_0f7a4 cJ6_bitCount_0f7a4 1 (some .int), Cond.constant RJ6 265 (1431655765), Cond.constant RJ6 266 (858993459), Cond.constant RJ6 267 (252645135), Cond.methodLink RX4 68 yX4_isAnswer, Cond.static yX4_isAnswer]
def wsL_weightBehind_r2 : List Cond := [Cond.code yX4_isAnswer cX4_isAnswer 1 (some .boolean), Cond.methodLink RX4 161 yX4_isAhead, Cond.static yX4_isAhead, Cond.code yX4_isAhead cX4_isAhead 1 (some .boolean), Cond.methodLink RX4 174 yX2_weightIfTold, Cond.instanceMethod yX2_weightIfTold, Cond.selects RX2 yX2_weightIfTold yX2_weightIfTold, Cond.code yX2_weightIfTold cX2_weightIfTold 8 (some .long), Cond.methodLink RX2 67 yX2_cases, Cond.instanceMethod yX2_cases, Cond.selects RX2 yX2_cases yX2_cases, Cond.code yX2_cases cX2_cases 1 (some .int), Cond.methodLink RX2 81 yX2_liesIfTold, Cond.instanceMethod yX2_liesIfTold, Cond.selects RX2 yX2_liesIfTold yX2_liesIfTold, Cond.code yX2_liesIfTold cX2_liesIfTold 6 (some .int), Cond.fieldLink RX2 23 "LyingScale$State" "liesOf" "[I", Cond.static yX4_at, Cond.code yX4_at cX4_at 2 (some .int), Cond.static yX4_trueAnswer, Cond.code yX4_trueAnswer cX4_trueAnswer 5 (some .int), Cond.methodLink RX4 264 yX4_coinBit, Cond.static yX4_coinBit, Cond.code yX4_coinBit cX4_coinBit 1 (some .int)]
def wsL_weightBehind_r3 : List Cond := [Cond.methodLink RX2 137 yX2_volumeLeft, Cond.instanceMethod yX2_volumeLeft, Cond.selects RX2 yX2_volumeLeft yX2_volumeLeft, Cond.code yX2_volumeLeft cX2_volumeLeft 3 (some .long), Cond.fieldLink RX2 37 "LyingScale$State" "limit" "I", Cond.static yX4_volume, Cond.code yX4_volume cX4_volume 8 (some .long), Cond.methodLink RX4 253 Lib.Math.min.name, Cond.static Lib.Math.min.name, Cond.initialized "java/lang/Math", Cond.code Lib.Math.min.name Lib.Math.min.code 2 (some .int)]
def wsL_weightBehind : List Cond := .codeWith yL_weightBehind cL_weightBehind 7 (some .int) [(0, 13, 16, 13)] :: ((wsL_weightBehind_r1 ++ (wsL_weightBehind_r2 ++ wsL_weightBehind_r3)) ++ wsX40 ++ wsX20 ++ (vx_atS RX4 34 "java/lang/IllegalArgumentException" ["java/lang/RuntimeException", "java/lang/Exception"]).filter goodWord)
def wsL_bestGroup_r1 : List Cond := [Cond.classLink RL 13 "java/lang/IllegalArgumentException", Cond.methodLink RL 63 yX4_bestGroup, Cond.instanceMethod yX4_bestGroup, Cond.selects RX4 yX4_bestGroup yX4_bestGroup, Cond.initialized RX4, Cond.code yX4_bestGroup cX4_bestGroup 2 (some .int), Cond.classLink RX4 30 "java/lang/IllegalArgumentException", Cond.initialized "java/lang/IllegalArgumentException", Cond.fieldLink RX4 12 "LyingScale" "now" "LLyingScale$State;", Cond.methodLink RX4 161 yX4_isAhead, Cond.static yX4_isAhead, Cond.code yX4_isAhead cX4_isAhead 1 (some .boolean), Cond.methodLink RX4 178 yX2_findGroup, Cond.instanceMethod yX2_findGroup, Cond.selects RX2 yX2_findGroup yX2_findGroup, Cond.initialized RX2, Cond.code yX2_findGroup cX2_findGroup 8 (some .int), Cond.fieldLink RX2 33 "LyingScale$State" "coins" "I", Cond.methodLink RX2 154 yX2_badness, Cond.instanceMethod yX2_badness, Cond.selects RX2 yX2_badness yX2_badness, Cond.code yX2_badness cX2_badness 8 (some .long), Cond.methodLink RX2 148 Lib.MathLoose.max_long.x, Cond.static Lib.MathLoose.max_long.x]
def wsL_bestGroup_r2 : List Cond := [Cond.initialized "java/lang/Math", Cond.code Lib.MathLoose.max_long.x Lib.MathLoose.max_long.code 4 (some .long), Cond.methodLink RX2 144 yX2_weightIfTold, Cond.instanceMethod yX2_weightIfTold, Cond.selects RX2 yX2_weightIfTold yX2_weightIfTold, Cond.code yX2_weightIfTold cX2_weightIfTold 8 (some .long), Cond.methodLink RX2 67 yX2_cases, Cond.instanceMethod yX2_cases, Cond.selects RX2 yX2_cases yX2_cases, Cond.code yX2_cases cX2_cases 1 (some .int), Cond.methodLink RX2 81 yX2_liesIfTold, Cond.instanceMethod yX2_liesIfTold, Cond.selects RX2 yX2_liesIfTold yX2_liesIfTold, Cond.code yX2_liesIfTold cX2_liesIfTold 6 (some .int), Cond.fieldLink RX2 23 "LyingScale$State" "liesOf" "[I", Cond.static yX4_at, Cond.code yX4_at cX4_at 2 (some .int), Cond.static yX4_trueAnswer, Cond.code yX4_trueAnswer cX4_trueAnswer 5 (some .int), Cond.methodLink RX4 264 yX4_coinBit, Cond.static yX4_coinBit, Cond.code yX4_coinBit cX4_coinBit 1 (some .int), Cond.methodLink RX2 137 yX2_volumeLeft, Cond.instanceMethod yX2_volumeLeft]
def wsL_bestGroup_r3 : List Cond := [Cond.selects RX2 yX2_volumeLeft yX2_volumeLeft, Cond.code yX2_volumeLeft cX2_volumeLeft 3 (some .long), Cond.fieldLink RX2 37 "LyingScale$State" "limit" "I", Cond.static yX4_volume, Cond.code yX4_volume cX4_volume 8 (some .long), Cond.methodLink RX4 253 Lib.Math.min.name, Cond.static Lib.Math.min.name, Cond.code Lib.Math.min.name Lib.Math.min.code 2 (some .int)]
def wsL_bestGroup : List Cond := .codeWith yL_bestGroup cL_bestGroup 4 (some .int) [(0, 9, 12, 13)] :: ((wsL_bestGroup_r1 ++ (wsL_bestGroup_r2 ++ wsL_bestGroup_r3)) ++ wsX40 ++ wsX20 ++ (vx_atS RX4 34 "java/lang/IllegalArgumentException" ["java/lang/RuntimeException", "java/lang/Exception"]).filter goodWord)
def wsL_teaches_r1 : List Cond := [Cond.classLink RL 13 "java/lang/IllegalArgumentException", Cond.methodLink RL 66 yX4_teaches, Cond.instanceMethod yX4_teaches, Cond.selects RX4 yX4_teaches yX4_teaches, Cond.initialized RX4, Cond.code yX4_teaches cX4_teaches 3 (some .boolean), Cond.classLink RX4 30 "java/lang/IllegalArgumentException", Cond.initialized "java/lang/IllegalArgumentException", Cond.fieldLink RX4 12 "LyingScale" "now" "LLyingScale$State;", Cond.methodLink RX4 64 yX2_isWeighing, Cond.instanceMethod yX2_isWeighing, Cond.selects RX2 yX2_isWeighing yX2_isWeighing, Cond.initialized RX2, Cond.code yX2_isWeighing cX2_isWeighing 3 (some .boolean), Cond.fieldLink RX2 33 "LyingScale$State" "coins" "I", Cond.methodLink RX2 71 yJ6_bitCount_0f7a4, Cond.static yJ6_bitCount_0f7a4, Cond.initialized RJ6, Cond.code yJ6_bitCount_0f7a4 cJ6_bitCount_0f7a4 1 (some .int), Cond.constant RJ6 265 (1431655765), Cond.constant RJ6 266 (858993459), Cond.constant RJ6 267 (252645135), Cond.methodLink RX4 181 yX2_differs, Cond.instanceMethod yX2_differs]
def wsL_teaches_r2 : List Cond := [Cond.selects RX2 yX2_differs yX2_differs, Cond.code yX2_differs cX2_differs 6 (some .boolean), Cond.methodLink RX2 67 yX2_cases, Cond.instanceMethod yX2_cases, Cond.selects RX2 yX2_cases yX2_cases, Cond.code yX2_cases cX2_cases 1 (some .int), Cond.methodLink RX2 125 yX2_isLeft, Cond.instanceMethod yX2_isLeft, Cond.selects RX2 yX2_isLeft yX2_isLeft, Cond.code yX2_isLeft cX2_isLeft 2 (some .boolean), Cond.fieldLink RX2 23 "LyingScale$State" "liesOf" "[I", Cond.fieldLink RX2 37 "LyingScale$State" "limit" "I", Cond.static yX4_at, Cond.code yX4_at cX4_at 2 (some .int), Cond.static yX4_trueAnswer, Cond.code yX4_trueAnswer cX4_trueAnswer 5 (some .int), Cond.methodLink RX4 264 yX4_coinBit, Cond.static yX4_coinBit, Cond.code yX4_coinBit cX4_coinBit 1 (some .int)]
def wsL_teaches : List Cond := .codeWith yL_teaches cL_teaches 5 (some .int) [(0, 17, 20, 13)] :: ((wsL_teaches_r1 ++ wsL_teaches_r2) ++ wsX40 ++ wsX20 ++ (vx_atS RX4 34 "java/lang/IllegalArgumentException" ["java/lang/RuntimeException", "java/lang/Exception"]).filter goodWord)
def wsL_distance_r1 : List Cond := [Cond.classLink RL 28 "java/lang/IndexOutOfBoundsException", Cond.methodLink RL 70 yX4_distance, Cond.instanceMethod yX4_distance, Cond.selects RX4 yX4_distance yX4_distance, Cond.initialized RX4, Cond.code yX4_distance cX4_distance 3 (some .int), Cond.classLink RX4 93 "java/lang/IndexOutOfBoundsException", Cond.initialized "java/lang/IndexOutOfBoundsException", Cond.fieldLink RX4 12 "LyingScale" "now" "LLyingScale$State;", Cond.methodLink RX4 90 yX2_isCase, Cond.instanceMethod yX2_isCase, Cond.selects RX2 yX2_isCase yX2_isCase, Cond.initialized RX2, Cond.code yX2_isCase cX2_isCase 2 (some .boolean), Cond.methodLink RX2 67 yX2_cases, Cond.instanceMethod yX2_cases, Cond.selects RX2 yX2_cases yX2_cases, Cond.code yX2_cases cX2_cases 1 (some .int), Cond.fieldLink RX2 33 "LyingScale$State" "coins" "I", Cond.methodLink RX4 184 yX3_codeWord, Cond.instanceMethod yX3_codeWord, Cond.selects RX3 yX3_codeWord yX3_codeWord, Cond.initialized RX3, Cond.code yX3_codeWord cX3_codeWord 4 (some .int)]
def wsL_distance_r2 : List Cond := [Cond.fieldLink RX3 31 "LyingScale$Weighings" "count" "I", Cond.fieldLink RX3 15 "LyingScale$Weighings" "lefts" "[I", Cond.fieldLink RX3 21 "LyingScale$Weighings" "rights" "[I", Cond.static yX4_at, Cond.code yX4_at cX4_at 2 (some .int), Cond.static yX4_trueAnswer, Cond.code yX4_trueAnswer cX4_trueAnswer 5 (some .int), Cond.methodLink RX4 264 yX4_coinBit, Cond.static yX4_coinBit, Cond.code yX4_coinBit cX4_coinBit 1 (some .int), Cond.methodLink RX4 187 yX4_differences, Cond.static yX4_differences, Cond.code yX4_differences cX4_differences 3 (some .int), Cond.methodLink RX4 267 yJ6_bitCount_0f7a4, Cond.static yJ6_bitCount_0f7a4, Cond.initialized RJ6, Cond.code yJ6_bitCount_0f7a4 cJ6_bitCount_0f7a4 1 (some .int), Cond.constant RJ6 265 (1431655765), Cond.constant RJ6 266 (858993459), Cond.constant RJ6 267 (252645135)]
def wsL_distance : List Cond := .codeWith yL_distance cL_distance 5 (some .int) [(0, 10, 13, 28)] :: ((wsL_distance_r1 ++ wsL_distance_r2) ++ wsX40 ++ wsX20 ++ wsX30 ++ (vx_atS RX4 97 "java/lang/IndexOutOfBoundsException" ["java/lang/RuntimeException", "java/lang/Exception"]).filter goodWord)
def wsL_decode_r1 : List Cond := [Cond.classLink RL 13 "java/lang/IllegalArgumentException", Cond.methodLink RL 73 yX4_decode, Cond.instanceMethod yX4_decode, Cond.selects RX4 yX4_decode yX4_decode, Cond.initialized RX4, Cond.code yX4_decode cX4_decode 2 (some .int), Cond.classLink RX4 30 "java/lang/IllegalArgumentException", Cond.initialized "java/lang/IllegalArgumentException", Cond.fieldLink RX4 12 "LyingScale" "now" "LLyingScale$State;", Cond.methodLink RX4 193 yX3_answerRows, Cond.instanceMethod yX3_answerRows, Cond.selects RX3 yX3_answerRows yX3_answerRows, Cond.initialized RX3, Cond.code yX3_answerRows cX3_answerRows 3 (some .int), Cond.fieldLink RX3 31 "LyingScale$Weighings" "count" "I", Cond.methodLink RX4 198 yX4_wordOf, Cond.static yX4_wordOf, Cond.code yX4_wordOf cX4_wordOf 4 (some .int), Cond.methodLink RX4 201 yX2_nearestCase, Cond.instanceMethod yX2_nearestCase, Cond.selects RX2 yX2_nearestCase yX2_nearestCase, Cond.initialized RX2, Cond.code yX2_nearestCase cX2_nearestCase 6 (some .int), Cond.fieldLink RX2 20 "LyingScale$State" "plan" "LLyingScale$Weighings;"]
def wsL_decode_r2 : List Cond := [Cond.methodLink RX2 67 yX2_cases, Cond.instanceMethod yX2_cases, Cond.selects RX2 yX2_cases yX2_cases, Cond.code yX2_cases cX2_cases 1 (some .int), Cond.fieldLink RX2 33 "LyingScale$State" "coins" "I", Cond.methodLink RX2 157 yX3_codeWord, Cond.instanceMethod yX3_codeWord, Cond.selects RX3 yX3_codeWord yX3_codeWord, Cond.code yX3_codeWord cX3_codeWord 4 (some .int), Cond.fieldLink RX3 15 "LyingScale$Weighings" "lefts" "[I", Cond.fieldLink RX3 21 "LyingScale$Weighings" "rights" "[I", Cond.static yX4_at, Cond.code yX4_at cX4_at 2 (some .int), Cond.static yX4_trueAnswer, Cond.code yX4_trueAnswer cX4_trueAnswer 5 (some .int), Cond.methodLink RX4 264 yX4_coinBit, Cond.static yX4_coinBit, Cond.code yX4_coinBit cX4_coinBit 1 (some .int), Cond.static yX4_differences, Cond.code yX4_differences cX4_differences 3 (some .int), Cond.methodLink RX4 267 yJ6_bitCount_0f7a4, Cond.static yJ6_bitCount_0f7a4, Cond.initialized RJ6, Cond.code yJ6_bitCount_0f7a4 cJ6_bitCount_0f7a4 1 (some .int)]
def wsL_decode_r3 : List Cond := [Cond.constant RJ6 265 (1431655765), Cond.constant RJ6 266 (858993459), Cond.constant RJ6 267 (252645135)]
def wsL_decode : List Cond := .codeWith yL_decode cL_decode 4 (some .int) [(0, 9, 12, 13)] :: ((wsL_decode_r1 ++ (wsL_decode_r2 ++ wsL_decode_r3)) ++ wsX40 ++ wsX20 ++ wsX30 ++ (vx_atS RX4 34 "java/lang/IllegalArgumentException" ["java/lang/RuntimeException", "java/lang/Exception"]).filter goodWord)
def wsL_append : List Cond := .codeWith yL_append cL_append 4 (some .int) [(0, 9, 12, 13), (0, 9, 15, 22)] :: ([.classLink RL 13 "java/lang/IllegalArgumentException", .classLink RL 22 "java/lang/IllegalStateException", .methodLink RL 76 yX4_append, .instanceMethod yX4_append, .selects RX4 yX4_append yX4_append, .initialized RX4, .code yX4_append cX4_append 2 (some .int), .classLink RX4 30 "java/lang/IllegalArgumentException", .initialized "java/lang/IllegalArgumentException", .classLink RX4 78 "java/lang/IllegalStateException", .initialized "java/lang/IllegalStateException", .fieldLink RX4 26 "LyingScale" "orders" "LLyingScale$Orders;", .methodLink RX4 214 yX1_write, .instanceMethod yX1_write, .selects RX1 yX1_write yX1_write, .initialized RX1, .code yX1_write cX1_write 2 none, .fieldLink RX1 24 "LyingScale$Orders" "length" "I", .fieldLink RX1 9 "LyingScale$Orders" "bytes" "[I", .static yX4_put, .code yX4_put cX4_put 3 none] ++ wsX40 ++ wsX10 ++ (vx_atS RX4 34 "java/lang/IllegalArgumentException" ["java/lang/RuntimeException", "java/lang/Exception"]).filter goodWord ++ (vx_atS RX4 82 "java/lang/IllegalStateException" ["java/lang/RuntimeException", "java/lang/Exception"]).filter goodWord)
def wsL_undo_r1 : List Cond := [Cond.classLink RL 22 "java/lang/IllegalStateException", Cond.methodLink RL 79 yX4_undo, Cond.instanceMethod yX4_undo, Cond.selects RX4 yX4_undo yX4_undo, Cond.initialized RX4, Cond.code yX4_undo cX4_undo 1 (some .int), Cond.classLink RX4 78 "java/lang/IllegalStateException", Cond.initialized "java/lang/IllegalStateException", Cond.fieldLink RX4 19 "LyingScale" "history" "LLyingScale$History;", Cond.fieldLink RX4 12 "LyingScale" "now" "LLyingScale$State;", Cond.methodLink RX4 237 yX0_restore, Cond.instanceMethod yX0_restore, Cond.selects RX0 yX0_restore yX0_restore, Cond.initialized RX0, Cond.code yX0_restore cX0_restore 3 none, Cond.fieldLink RX0 18 "LyingScale$History" "count" "I", Cond.methodLink RX0 25 yX0_stateAt, Cond.instanceMethod yX0_stateAt, Cond.selects RX0 yX0_stateAt yX0_stateAt, Cond.code yX0_stateAt cX0_stateAt 2 (some (.object "LyingScale$State")), Cond.fieldLink RX0 11 "LyingScale$History" "states" "[LLyingScale$State;", Cond.methodLink RX0 29 yX2_copyFrom, Cond.instanceMethod yX2_copyFrom, Cond.selects RX2 yX2_copyFrom yX2_copyFrom]
def wsL_undo_r2 : List Cond := [Cond.initialized RX2, Cond.code yX2_copyFrom cX2_copyFrom 2 none, Cond.fieldLink RX2 14 "LyingScale$State" "told" "LLyingScale$Weighings;", Cond.fieldLink RX2 20 "LyingScale$State" "plan" "LLyingScale$Weighings;", Cond.fieldLink RX2 23 "LyingScale$State" "liesOf" "[I", Cond.fieldLink RX2 33 "LyingScale$State" "coins" "I", Cond.fieldLink RX2 37 "LyingScale$State" "limit" "I", Cond.fieldLink RX2 58 "LyingScale$State" "hidden" "I", Cond.fieldLink RX2 61 "LyingScale$State" "lieSet" "I", Cond.fieldLink RX2 64 "LyingScale$State" "answered" "I", Cond.methodLink RX2 50 yX3_copyFrom, Cond.instanceMethod yX3_copyFrom, Cond.selects RX3 yX3_copyFrom yX3_copyFrom, Cond.initialized RX3, Cond.code yX3_copyFrom cX3_copyFrom 2 none, Cond.fieldLink RX3 15 "LyingScale$Weighings" "lefts" "[I", Cond.fieldLink RX3 21 "LyingScale$Weighings" "rights" "[I", Cond.fieldLink RX3 24 "LyingScale$Weighings" "answers" "[I", Cond.fieldLink RX3 31 "LyingScale$Weighings" "count" "I", Cond.static yX4_copyRow, Cond.code yX4_copyRow cX4_copyRow 2 none, Cond.methodLink RX4 253 Lib.Math.min.name, Cond.static Lib.Math.min.name, Cond.initialized "java/lang/Math"]
def wsL_undo_r3 : List Cond := [Cond.code Lib.Math.min.name Lib.Math.min.code 2 (some .int), Cond.methodLink RX4 258 arraycopyName, Cond.native arraycopyName, Cond.static arraycopyName, Cond.initialized "java/lang/System"]
def wsL_undo : List Cond := .codeWith yL_undo cL_undo 3 (some .int) [(0, 8, 11, 22)] :: ((wsL_undo_r1 ++ (wsL_undo_r2 ++ wsL_undo_r3)) ++ wsX40 ++ wsX00 ++ wsX20 ++ wsX30 ++ (vx_atS RX4 82 "java/lang/IllegalStateException" ["java/lang/RuntimeException", "java/lang/Exception"]).filter goodWord)
def wsL_law0_r1 : List Cond := [Cond.classLink RL 8 RX4, Cond.instantiable RX4 3, Cond.initialized RX4, Cond.classLink RL 83 RX5, Cond.instantiable RX5 11, Cond.initialized RX5, Cond.arrayClass .long, Cond.methodLink RL 82 yX4_init, Cond.instanceMethod yX4_init, Cond.code yX4_init cX4_init 1 none, Cond.methodLink RX4 3 objectInit, Cond.instanceMethod objectInit, Cond.code objectInit ⟨#[0xb1]⟩ 1 none, Cond.classLink RX4 9 RX2, Cond.instantiable RX2 9, Cond.initialized RX2, Cond.fieldLink RX4 12 "LyingScale" "now" "LLyingScale$State;", Cond.classLink RX4 16 RX0, Cond.instantiable RX0 2, Cond.initialized RX0, Cond.fieldLink RX4 19 "LyingScale" "history" "LLyingScale$History;", Cond.classLink RX4 23 RX1, Cond.instantiable RX1 9, Cond.initialized RX1]
def wsL_law0_r2 : List Cond := [Cond.fieldLink RX4 26 "LyingScale" "orders" "LLyingScale$Orders;", Cond.methodLink RX4 11 yX2_init, Cond.instanceMethod yX2_init, Cond.code yX2_init cX2_init 1 none, Cond.methodLink RX2 3 objectInit, Cond.classLink RX2 9 RX3, Cond.instantiable RX3 4, Cond.initialized RX3, Cond.fieldLink RX2 14 "LyingScale$State" "told" "LLyingScale$Weighings;", Cond.fieldLink RX2 20 "LyingScale$State" "plan" "LLyingScale$Weighings;", Cond.arrayClass .int, Cond.fieldLink RX2 23 "LyingScale$State" "liesOf" "[I", Cond.fieldLink RX2 27 "LyingScale$State" "words" "[I", Cond.methodLink RX2 11 yX3_init, Cond.instanceMethod yX3_init, Cond.code yX3_init cX3_init 3 none, Cond.methodLink RX3 3 objectInit, Cond.methodLink RX3 9 Lib.Math.max.name, Cond.static Lib.Math.max.name, Cond.initialized "java/lang/Math", Cond.code Lib.Math.max.name Lib.Math.max.code 2 (some .int), Cond.fieldLink RX3 15 "LyingScale$Weighings" "lefts" "[I", Cond.fieldLink RX3 21 "LyingScale$Weighings" "rights" "[I", Cond.fieldLink RX3 24 "LyingScale$Weighings" "answers" "[I"]
def wsL_law0_r3 : List Cond := [Cond.methodLink RX2 30 yX2_start, Cond.instanceMethod yX2_start, Cond.selects RX2 yX2_start yX2_start, Cond.code yX2_start cX2_start 2 none, Cond.fieldLink RX2 33 "LyingScale$State" "coins" "I", Cond.fieldLink RX2 37 "LyingScale$State" "limit" "I", Cond.methodLink RX2 43 yX2_hideCase, Cond.instanceMethod yX2_hideCase, Cond.selects RX2 yX2_hideCase yX2_hideCase, Cond.code yX2_hideCase cX2_hideCase 3 none, Cond.fieldLink RX2 58 "LyingScale$State" "hidden" "I", Cond.fieldLink RX2 61 "LyingScale$State" "lieSet" "I", Cond.fieldLink RX2 64 "LyingScale$State" "answered" "I", Cond.methodLink RX2 47 yX2_forgetTold, Cond.instanceMethod yX2_forgetTold, Cond.selects RX2 yX2_forgetTold yX2_forgetTold, Cond.code yX2_forgetTold cX2_forgetTold 2 none, Cond.static yX4_put, Cond.code yX4_put cX4_put 3 none, Cond.methodLink RX4 18 yX0_init, Cond.instanceMethod yX0_init, Cond.code yX0_init cX0_init 2 none, Cond.methodLink RX0 3 objectInit, Cond.classLink RX0 9 RX2]
def wsL_law0_r4 : List Cond := [Cond.fieldLink RX0 11 "LyingScale$History" "states" "[LLyingScale$State;", Cond.methodLink RX0 17 yX2_init, Cond.methodLink RX4 25 yX1_init, Cond.instanceMethod yX1_init, Cond.code yX1_init cX1_init 1 none, Cond.methodLink RX1 3 objectInit, Cond.fieldLink RX1 9 "LyingScale$Orders" "bytes" "[I", Cond.fieldLink RX1 15 "LyingScale$Orders" "lefts" "[I", Cond.fieldLink RX1 18 "LyingScale$Orders" "rights" "[I", Cond.fieldLink RX1 21 "LyingScale$Orders" "deeds" "[I", Cond.methodLink RL 85 yX5_init, Cond.instanceMethod yX5_init, Cond.code yX5_init cX5_init 1 none, Cond.methodLink RX5 1 objectInit, Cond.fieldLink RX5 7 "LyingScaleModel" "s" "[I", Cond.fieldLink RX5 13 "LyingScaleModel" "past" "[I", Cond.fieldLink RX5 16 "LyingScaleModel" "begun" "[I", Cond.arrayClass .byte, Cond.fieldLink RX5 19 "LyingScaleModel" "text" "[B", Cond.methodLink RX5 23 yX5_sets, Cond.instanceMethod yX5_sets, Cond.selects RX5 yX5_sets yX5_sets, Cond.code yX5_sets cX5_sets 3 none, Cond.methodLink RL 86 yL_begin]
def wsL_law0_r5 : List Cond := [Cond.static yL_begin, Cond.initialized RL, Cond.codeWith yL_begin cL_begin 4 (some .int) [(0, 9, 12, 13)], Cond.classLink RL 13 "java/lang/IllegalArgumentException", Cond.methodLink RL 7 yX4_begin, Cond.instanceMethod yX4_begin, Cond.selects RX4 yX4_begin yX4_begin, Cond.code yX4_begin cX4_begin 3 (some .int), Cond.classLink RX4 30 "java/lang/IllegalArgumentException", Cond.initialized "java/lang/IllegalArgumentException", Cond.methodLink RX4 37 yX0_save, Cond.instanceMethod yX0_save, Cond.selects RX0 yX0_save yX0_save, Cond.code yX0_save cX0_save 3 none, Cond.fieldLink RX0 18 "LyingScale$History" "count" "I", Cond.methodLink RX0 22 yX0_dropOldest, Cond.instanceMethod yX0_dropOldest, Cond.selects RX0 yX0_dropOldest yX0_dropOldest, Cond.code yX0_dropOldest cX0_dropOldest 4 none, Cond.methodLink RX0 25 yX0_stateAt, Cond.instanceMethod yX0_stateAt, Cond.selects RX0 yX0_stateAt yX0_stateAt, Cond.code yX0_stateAt cX0_stateAt 2 (some (.object "LyingScale$State")), Cond.methodLink RX0 29 yX2_copyFrom]
def wsL_law0_r6 : List Cond := [Cond.instanceMethod yX2_copyFrom, Cond.selects RX2 yX2_copyFrom yX2_copyFrom, Cond.code yX2_copyFrom cX2_copyFrom 2 none, Cond.methodLink RX2 50 yX3_copyFrom, Cond.instanceMethod yX3_copyFrom, Cond.selects RX3 yX3_copyFrom yX3_copyFrom, Cond.code yX3_copyFrom cX3_copyFrom 2 none, Cond.fieldLink RX3 31 "LyingScale$Weighings" "count" "I", Cond.static yX4_copyRow, Cond.code yX4_copyRow cX4_copyRow 2 none, Cond.methodLink RX4 253 Lib.Math.min.name, Cond.static Lib.Math.min.name, Cond.code Lib.Math.min.name Lib.Math.min.code 2 (some .int), Cond.methodLink RX4 258 arraycopyName, Cond.native arraycopyName, Cond.static arraycopyName, Cond.initialized "java/lang/System", Cond.methodLink RX4 51 yX2_start, Cond.methodLink RL 91 yX5_begin, Cond.instanceMethod yX5_begin, Cond.selects RX5 yX5_begin yX5_begin, Cond.code yX5_begin cX5_begin 3 (some .int), Cond.methodLink RX5 42 yX5_in, Cond.static yX5_in]
def wsL_law0_r7 : List Cond := [Cond.code yX5_in cX5_in 3 (some .boolean), Cond.methodLink RX5 53 yX5_fails, Cond.instanceMethod yX5_fails, Cond.selects RX5 yX5_fails yX5_fails, Cond.code yX5_fails cX5_fails 2 (some .int), Cond.fieldLink RX5 27 "LyingScaleModel" "thrown" "I", Cond.methodLink RX5 56 yX5_begins, Cond.instanceMethod yX5_begins, Cond.selects RX5 yX5_begins yX5_begins, Cond.code yX5_begins cX5_begins 2 none, Cond.methodLink RX5 59 yX5_saved, Cond.instanceMethod yX5_saved, Cond.selects RX5 yX5_saved yX5_saved, Cond.code yX5_saved cX5_saved 3 (some .int), Cond.fieldLink RX5 31 "LyingScaleModel" "pasts" "I", Cond.methodLink RX5 34 yX5_tells, Cond.instanceMethod yX5_tells, Cond.selects RX5 yX5_tells yX5_tells, Cond.code yX5_tells cX5_tells 2 (some .int), Cond.methodLink RL 92 yX5_thrown, Cond.instanceMethod yX5_thrown, Cond.selects RX5 yX5_thrown yX5_thrown, Cond.code yX5_thrown cX5_thrown 1 (some .int), Cond.methodLink RL 95 yL_setLimit]
def wsL_law0_r8 : List Cond := [Cond.static yL_setLimit, Cond.codeWith yL_setLimit cL_setLimit 4 (some .int) [(0, 9, 12, 13)], Cond.methodLink RL 15 yX4_setLimit, Cond.instanceMethod yX4_setLimit, Cond.selects RX4 yX4_setLimit yX4_setLimit, Cond.code yX4_setLimit cX4_setLimit 2 (some .int), Cond.methodLink RX4 60 yX2_countLeft, Cond.instanceMethod yX2_countLeft, Cond.selects RX2 yX2_countLeft yX2_countLeft, Cond.code yX2_countLeft cX2_countLeft 3 (some .int), Cond.methodLink RX2 67 yX2_cases, Cond.instanceMethod yX2_cases, Cond.selects RX2 yX2_cases yX2_cases, Cond.code yX2_cases cX2_cases 1 (some .int), Cond.methodLink RX2 125 yX2_isLeft, Cond.instanceMethod yX2_isLeft, Cond.selects RX2 yX2_isLeft yX2_isLeft, Cond.code yX2_isLeft cX2_isLeft 2 (some .boolean), Cond.static yX4_at, Cond.code yX4_at cX4_at 2 (some .int), Cond.methodLink RL 97 yX5_setLimit, Cond.instanceMethod yX5_setLimit, Cond.selects RX5 yX5_setLimit yX5_setLimit, Cond.code yX5_setLimit cX5_setLimit 2 (some .int)]
def wsL_law0_r9 : List Cond := [Cond.methodLink RX5 62 yX5_lefts, Cond.instanceMethod yX5_lefts, Cond.selects RX5 yX5_lefts yX5_lefts, Cond.code yX5_lefts cX5_lefts 3 (some .int), Cond.methodLink RX5 38 yX5_cases, Cond.instanceMethod yX5_cases, Cond.selects RX5 yX5_cases yX5_cases, Cond.code yX5_cases cX5_cases 1 (some .int), Cond.methodLink RX5 49 yX5_isLeft, Cond.instanceMethod yX5_isLeft, Cond.selects RX5 yX5_isLeft yX5_isLeft, Cond.code yX5_isLeft cX5_isLeft 2 (some .boolean), Cond.methodLink RL 98 yL_tell, Cond.static yL_tell, Cond.codeWith yL_tell cL_tell 6 (some .int) [(0, 12, 15, 13), (0, 12, 19, 22)], Cond.classLink RL 22 "java/lang/IllegalStateException", Cond.methodLink RL 18 yX4_tell, Cond.instanceMethod yX4_tell, Cond.selects RX4 yX4_tell yX4_tell, Cond.code yX4_tell cX4_tell 4 (some .int), Cond.classLink RX4 78 "java/lang/IllegalStateException", Cond.initialized "java/lang/IllegalStateException", Cond.methodLink RX4 64 yX2_isWeighing, Cond.instanceMethod yX2_isWeighing]
def wsL_law0_r10 : List Cond := [Cond.selects RX2 yX2_isWeighing yX2_isWeighing, Cond.code yX2_isWeighing cX2_isWeighing 3 (some .boolean), Cond.methodLink RX2 71 yJ6_bitCount_0f7a4, Cond.static yJ6_bitCount_0f7a4, Cond.initialized RJ6, Cond.code yJ6_bitCount_0f7a4 cJ6_bitCount_0f7a4 1 (some .int), Cond.constant RJ6 265 (1431655765), Cond.constant RJ6 266 (858993459), Cond.constant RJ6 267 (252645135), Cond.methodLink RX4 68 yX4_isAnswer, Cond.static yX4_isAnswer, Cond.code yX4_isAnswer cX4_isAnswer 1 (some .boolean), Cond.methodLink RX4 74 yX2_canLearn, Cond.instanceMethod yX2_canLearn, Cond.selects RX2 yX2_canLearn yX2_canLearn, Cond.code yX2_canLearn cX2_canLearn 1 (some .boolean), Cond.methodLink RX4 83 yX2_learn, Cond.instanceMethod yX2_learn, Cond.selects RX2 yX2_learn yX2_learn, Cond.code yX2_learn cX2_learn 5 none, Cond.methodLink RX2 77 yX3_write, Cond.instanceMethod yX3_write, Cond.selects RX3 yX3_write yX3_write, Cond.code yX3_write cX3_write 4 none]
def wsL_law0_r11 : List Cond := [Cond.methodLink RX2 81 yX2_liesIfTold, Cond.instanceMethod yX2_liesIfTold, Cond.selects RX2 yX2_liesIfTold yX2_liesIfTold, Cond.code yX2_liesIfTold cX2_liesIfTold 6 (some .int), Cond.static yX4_trueAnswer, Cond.code yX4_trueAnswer cX4_trueAnswer 5 (some .int), Cond.methodLink RX4 264 yX4_coinBit, Cond.static yX4_coinBit, Cond.code yX4_coinBit cX4_coinBit 1 (some .int), Cond.methodLink RL 101 yX5_tell, Cond.instanceMethod yX5_tell, Cond.selects RX5 yX5_tell yX5_tell, Cond.code yX5_tell cX5_tell 5 (some .int), Cond.methodLink RX5 73 yX5_whyNotTell, Cond.instanceMethod yX5_whyNotTell, Cond.selects RX5 yX5_whyNotTell yX5_whyNotTell, Cond.code yX5_whyNotTell cX5_whyNotTell 4 (some .int), Cond.methodLink RX5 69 yX5_areSides, Cond.instanceMethod yX5_areSides, Cond.selects RX5 yX5_areSides yX5_areSides, Cond.code yX5_areSides cX5_areSides 4 (some .boolean), Cond.methodLink RX5 46 yX5_ones, Cond.static yX5_ones, Cond.code yX5_ones cX5_ones 3 (some .int)]
def wsL_law0_r12 : List Cond := [Cond.methodLink RX5 76 yX5_lays, Cond.instanceMethod yX5_lays, Cond.selects RX5 yX5_lays yX5_lays, Cond.code yX5_lays cX5_lays 6 none, Cond.methodLink RX5 65 yX5_truth, Cond.static yX5_truth, Cond.code yX5_truth cX5_truth 5 (some .int), Cond.methodLink RL 102 yX4_forget, Cond.instanceMethod yX4_forget, Cond.selects RX4 yX4_forget yX4_forget, Cond.code yX4_forget cX4_forget 2 (some .int), Cond.methodLink RX4 87 yX2_forgetTold, Cond.methodLink RL 105 yX5_forget, Cond.instanceMethod yX5_forget, Cond.selects RX5 yX5_forget yX5_forget, Cond.code yX5_forget cX5_forget 3 (some .int), Cond.methodLink RL 106 yL_hide, Cond.static yL_hide, Cond.codeWith yL_hide cL_hide 5 (some .int) [(0, 10, 13, 28), (0, 10, 17, 13)], Cond.classLink RL 28 "java/lang/IndexOutOfBoundsException", Cond.methodLink RL 24 yX4_hide, Cond.instanceMethod yX4_hide, Cond.selects RX4 yX4_hide yX4_hide, Cond.code yX4_hide cX4_hide 4 (some .int)]
def wsL_law0_r13 : List Cond := [Cond.classLink RX4 93 "java/lang/IndexOutOfBoundsException", Cond.initialized "java/lang/IndexOutOfBoundsException", Cond.constant RX4 98 (1073741823), Cond.methodLink RX4 90 yX2_isCase, Cond.instanceMethod yX2_isCase, Cond.selects RX2 yX2_isCase yX2_isCase, Cond.code yX2_isCase cX2_isCase 2 (some .boolean), Cond.methodLink RX4 102 yX2_hideCase, Cond.methodLink RL 109 yX5_hide, Cond.instanceMethod yX5_hide, Cond.selects RX5 yX5_hide yX5_hide, Cond.code yX5_hide cX5_hide 4 (some .int), Cond.constant RX5 83 (1073741823), Cond.methodLink RX5 80 yX5_isCase, Cond.instanceMethod yX5_isCase, Cond.selects RX5 yX5_isCase yX5_isCase, Cond.code yX5_isCase cX5_isCase 2 (some .boolean), Cond.methodLink RL 110 yL_ask, Cond.static yL_ask, Cond.codeWith yL_ask cL_ask 5 (some .int) [(0, 10, 13, 13), (0, 10, 17, 22)], Cond.methodLink RL 30 yX4_ask, Cond.instanceMethod yX4_ask, Cond.selects RX4 yX4_ask yX4_ask, Cond.code yX4_ask cX4_ask 3 (some .int)]
def wsL_law0_r14 : List Cond := [Cond.methodLink RX4 108 yX2_canReply, Cond.instanceMethod yX2_canReply, Cond.selects RX2 yX2_canReply yX2_canReply, Cond.code yX2_canReply cX2_canReply 1 (some .boolean), Cond.methodLink RX2 97 yX2_canLearn, Cond.methodLink RX4 113 yX2_reply, Cond.instanceMethod yX2_reply, Cond.selects RX2 yX2_reply yX2_reply, Cond.code yX2_reply cX2_reply 4 (some .int), Cond.methodLink RX2 101 yX2_learn, Cond.methodLink RL 112 yX5_ask, Cond.instanceMethod yX5_ask, Cond.selects RX5 yX5_ask yX5_ask, Cond.code yX5_ask cX5_ask 4 (some .int), Cond.methodLink RX5 84 yX5_whyNotAsk, Cond.instanceMethod yX5_whyNotAsk, Cond.selects RX5 yX5_whyNotAsk yX5_whyNotAsk, Cond.code yX5_whyNotAsk cX5_whyNotAsk 3 (some .int), Cond.methodLink RX5 88 yX5_asks, Cond.instanceMethod yX5_asks, Cond.selects RX5 yX5_asks yX5_asks, Cond.code yX5_asks cX5_asks 5 (some .int), Cond.methodLink RL 113 yL_add, Cond.static yL_add]
def wsL_law0_r15 : List Cond := [Cond.codeWith yL_add cL_add 5 (some .int) [(0, 10, 13, 13), (0, 10, 17, 22)], Cond.methodLink RL 33 yX4_add, Cond.instanceMethod yX4_add, Cond.selects RX4 yX4_add yX4_add, Cond.code yX4_add cX4_add 4 (some .int), Cond.methodLink RX4 117 yX2_canPlan, Cond.instanceMethod yX2_canPlan, Cond.selects RX2 yX2_canPlan yX2_canPlan, Cond.code yX2_canPlan cX2_canPlan 1 (some .boolean), Cond.methodLink RX4 125 yX2_planWeighing, Cond.instanceMethod yX2_planWeighing, Cond.selects RX2 yX2_planWeighing yX2_planWeighing, Cond.code yX2_planWeighing cX2_planWeighing 3 none, Cond.methodLink RL 115 yX5_add, Cond.instanceMethod yX5_add, Cond.selects RX5 yX5_add yX5_add, Cond.code yX5_add cX5_add 4 (some .int), Cond.methodLink RX5 91 yX5_whyNotAdd, Cond.instanceMethod yX5_whyNotAdd, Cond.selects RX5 yX5_whyNotAdd yX5_whyNotAdd, Cond.code yX5_whyNotAdd cX5_whyNotAdd 3 (some .int), Cond.methodLink RX5 94 yX5_adds, Cond.instanceMethod yX5_adds, Cond.selects RX5 yX5_adds yX5_adds]
def wsL_law0_r16 : List Cond := [Cond.code yX5_adds cX5_adds 3 (some .int), Cond.methodLink RL 116 yL_removeLast, Cond.static yL_removeLast, Cond.codeWith yL_removeLast cL_removeLast 3 (some .int) [(0, 8, 11, 22)], Cond.methodLink RL 36 yX4_removeLast, Cond.instanceMethod yX4_removeLast, Cond.selects RX4 yX4_removeLast yX4_removeLast, Cond.code yX4_removeLast cX4_removeLast 1 (some .int), Cond.methodLink RX4 130 yX3_dropLast, Cond.instanceMethod yX3_dropLast, Cond.selects RX3 yX3_dropLast yX3_dropLast, Cond.code yX3_dropLast cX3_dropLast 1 none, Cond.methodLink RL 119 yX5_removeLast, Cond.instanceMethod yX5_removeLast, Cond.selects RX5 yX5_removeLast yX5_removeLast, Cond.code yX5_removeLast cX5_removeLast 1 (some .int), Cond.methodLink RL 120 yL_lies, Cond.static yL_lies, Cond.codeWith yL_lies cL_lies 4 (some .int) [(0, 9, 12, 28)], Cond.methodLink RL 40 yX4_lies, Cond.instanceMethod yX4_lies, Cond.selects RX4 yX4_lies yX4_lies, Cond.code yX4_lies cX4_lies 2 (some .int), Cond.methodLink RX4 137 yX4_at]
def wsL_law0_r17 : List Cond := [Cond.methodLink RL 122 yX5_lies, Cond.instanceMethod yX5_lies, Cond.selects RX5 yX5_lies yX5_lies, Cond.code yX5_lies cX5_lies 2 (some .int), Cond.methodLink RL 123 yL_answer, Cond.static yL_answer, Cond.codeWith yL_answer cL_answer 6 (some .int) [(0, 12, 15, 28), (0, 12, 19, 13)], Cond.methodLink RL 43 yX4_answer, Cond.instanceMethod yX4_answer, Cond.selects RX4 yX4_answer yX4_answer, Cond.code yX4_answer cX4_answer 4 (some .int), Cond.methodLink RX4 141 yX4_trueAnswer, Cond.methodLink RL 125 yX5_answer, Cond.instanceMethod yX5_answer, Cond.selects RX5 yX5_answer yX5_answer, Cond.code yX5_answer cX5_answer 4 (some .int), Cond.methodLink RL 126 yL_leftCase, Cond.static yL_leftCase, Cond.codeWith yL_leftCase cL_leftCase 4 (some .int) [(0, 9, 12, 28)], Cond.methodLink RL 46 yX4_leftCase, Cond.instanceMethod yX4_leftCase, Cond.selects RX4 yX4_leftCase yX4_leftCase, Cond.code yX4_leftCase cX4_leftCase 3 (some .int), Cond.methodLink RX4 145 yX2_findLeft]
def wsL_law0_r18 : List Cond := [Cond.instanceMethod yX2_findLeft, Cond.selects RX2 yX2_findLeft yX2_findLeft, Cond.code yX2_findLeft cX2_findLeft 4 (some .int), Cond.methodLink RL 128 yX5_leftCase, Cond.instanceMethod yX5_leftCase, Cond.selects RX5 yX5_leftCase yX5_leftCase, Cond.code yX5_leftCase cX5_leftCase 4 (some .int), Cond.methodLink RL 129 yL_weighing, Cond.static yL_weighing, Cond.codeWith yL_weighing cL_weighing 5 (some .int) [(0, 10, 13, 28), (0, 10, 17, 13)], Cond.methodLink RL 49 yX4_weighing, Cond.instanceMethod yX4_weighing, Cond.selects RX4 yX4_weighing yX4_weighing, Cond.code yX4_weighing cX4_weighing 3 (some .int), Cond.methodLink RX4 155 yX3_part, Cond.instanceMethod yX3_part, Cond.selects RX3 yX3_part yX3_part, Cond.code yX3_part cX3_part 3 (some .int), Cond.methodLink RL 131 yX5_weighing, Cond.instanceMethod yX5_weighing, Cond.selects RX5 yX5_weighing yX5_weighing, Cond.code yX5_weighing cX5_weighing 3 (some .int), Cond.methodLink RL 132 yL_value, Cond.static yL_value]
def wsL_law0_r19 : List Cond := [Cond.codeWith yL_value cL_value 4 (some .int) [(0, 9, 12, 13)], Cond.methodLink RL 52 yX4_value, Cond.instanceMethod yX4_value, Cond.selects RX4 yX4_value yX4_value, Cond.code yX4_value cX4_value 2 (some .int), Cond.methodLink RX4 158 yX2_number, Cond.instanceMethod yX2_number, Cond.selects RX2 yX2_number yX2_number, Cond.code yX2_number cX2_number 2 (some .int), Cond.methodLink RX2 131 yX2_countLeft, Cond.methodLink RX2 134 yX2_falseCoins, Cond.instanceMethod yX2_falseCoins, Cond.selects RX2 yX2_falseCoins yX2_falseCoins, Cond.code yX2_falseCoins cX2_falseCoins 3 (some .int), Cond.methodLink RL 134 yX5_value, Cond.instanceMethod yX5_value, Cond.selects RX5 yX5_value yX5_value, Cond.code yX5_value cX5_value 2 (some .int), Cond.methodLink RX5 100 yX5_number, Cond.instanceMethod yX5_number, Cond.selects RX5 yX5_number yX5_number, Cond.code yX5_number cX5_number 2 (some .int), Cond.methodLink RX5 97 yX5_falseOnes, Cond.instanceMethod yX5_falseOnes]
def wsL_law0_r20 : List Cond := [Cond.selects RX5 yX5_falseOnes yX5_falseOnes, Cond.code yX5_falseOnes cX5_falseOnes 3 (some .int), Cond.methodLink RL 135 yL_weight, Cond.static yL_weight, Cond.codeWith yL_weight cL_weight 4 (some .int) [(0, 8, 11, 13)], Cond.methodLink RL 55 yX4_weight, Cond.instanceMethod yX4_weight, Cond.selects RX4 yX4_weight yX4_weight, Cond.code yX4_weight cX4_weight 2 (some .long), Cond.methodLink RX4 161 yX4_isAhead, Cond.static yX4_isAhead, Cond.code yX4_isAhead cX4_isAhead 1 (some .boolean), Cond.methodLink RX4 166 yX2_weightAhead, Cond.instanceMethod yX2_weightAhead, Cond.selects RX2 yX2_weightAhead yX2_weightAhead, Cond.code yX2_weightAhead cX2_weightAhead 5 (some .long), Cond.methodLink RX2 137 yX2_volumeLeft, Cond.instanceMethod yX2_volumeLeft, Cond.selects RX2 yX2_volumeLeft yX2_volumeLeft, Cond.code yX2_volumeLeft cX2_volumeLeft 3 (some .long), Cond.static yX4_volume, Cond.code yX4_volume cX4_volume 8 (some .long), Cond.methodLink RL 137 yX5_weight, Cond.instanceMethod yX5_weight]
def wsL_law0_r21 : List Cond := [Cond.selects RX5 yX5_weight yX5_weight, Cond.code yX5_weight cX5_weight 2 (some .long), Cond.methodLink RX5 109 yX5_weighs, Cond.instanceMethod yX5_weighs, Cond.selects RX5 yX5_weighs yX5_weighs, Cond.code yX5_weighs cX5_weighs 9 (some .long), Cond.methodLink RX5 105 yX5_volume, Cond.static yX5_volume, Cond.code yX5_volume cX5_volume 4 (some .long), Cond.constantLong RX5 103 (2), Cond.methodLink RL 138 yX4_bound, Cond.instanceMethod yX4_bound, Cond.selects RX4 yX4_bound yX4_bound, Cond.code yX4_bound cX4_bound 4 (some .int), Cond.constantLong RX4 170 (3), Cond.methodLink RL 141 yX5_bound, Cond.instanceMethod yX5_bound, Cond.selects RX5 yX5_bound yX5_bound, Cond.code yX5_bound cX5_bound 1 (some .int), Cond.methodLink RX5 115 yX5_least, Cond.instanceMethod yX5_least, Cond.selects RX5 yX5_least yX5_least, Cond.code yX5_least cX5_least 4 (some .int), Cond.constantLong RX5 113 (3)]
def wsL_law0_r22 : List Cond := [Cond.methodLink RL 142 yL_weightBehind, Cond.static yL_weightBehind, Cond.codeWith yL_weightBehind cL_weightBehind 7 (some .int) [(0, 13, 16, 13)], Cond.methodLink RL 59 yX4_weightBehind, Cond.instanceMethod yX4_weightBehind, Cond.selects RX4 yX4_weightBehind yX4_weightBehind, Cond.code yX4_weightBehind cX4_weightBehind 5 (some .long), Cond.methodLink RX4 174 yX2_weightIfTold, Cond.instanceMethod yX2_weightIfTold, Cond.selects RX2 yX2_weightIfTold yX2_weightIfTold, Cond.code yX2_weightIfTold cX2_weightIfTold 8 (some .long), Cond.methodLink RL 145 yX5_weightBehind, Cond.instanceMethod yX5_weightBehind, Cond.selects RX5 yX5_weightBehind yX5_weightBehind, Cond.code yX5_weightBehind cX5_weightBehind 5 (some .long), Cond.methodLink RL 146 yL_bestGroup, Cond.static yL_bestGroup, Cond.codeWith yL_bestGroup cL_bestGroup 4 (some .int) [(0, 9, 12, 13)], Cond.methodLink RL 63 yX4_bestGroup, Cond.instanceMethod yX4_bestGroup, Cond.selects RX4 yX4_bestGroup yX4_bestGroup, Cond.code yX4_bestGroup cX4_bestGroup 2 (some .int), Cond.methodLink RX4 178 yX2_findGroup, Cond.instanceMethod yX2_findGroup]
def wsL_law0_r23 : List Cond := [Cond.selects RX2 yX2_findGroup yX2_findGroup, Cond.code yX2_findGroup cX2_findGroup 8 (some .int), Cond.methodLink RX2 154 yX2_badness, Cond.instanceMethod yX2_badness, Cond.selects RX2 yX2_badness yX2_badness, Cond.code yX2_badness cX2_badness 8 (some .long), Cond.methodLink RX2 148 Lib.MathLoose.max_long.x, Cond.static Lib.MathLoose.max_long.x, Cond.code Lib.MathLoose.max_long.x Lib.MathLoose.max_long.code 4 (some .long), Cond.methodLink RX2 144 yX2_weightIfTold, Cond.methodLink RL 148 yX5_bestGroup, Cond.instanceMethod yX5_bestGroup, Cond.selects RX5 yX5_bestGroup yX5_bestGroup, Cond.code yX5_bestGroup cX5_bestGroup 2 (some .int), Cond.methodLink RX5 118 yX5_best, Cond.instanceMethod yX5_best, Cond.selects RX5 yX5_best yX5_best, Cond.code yX5_best cX5_best 12 (some .int), Cond.methodLink RL 149 yL_teaches, Cond.static yL_teaches, Cond.codeWith yL_teaches cL_teaches 5 (some .int) [(0, 17, 20, 13)], Cond.methodLink RL 66 yX4_teaches, Cond.instanceMethod yX4_teaches, Cond.selects RX4 yX4_teaches yX4_teaches]
def wsL_law0_r24 : List Cond := [Cond.code yX4_teaches cX4_teaches 3 (some .boolean), Cond.methodLink RX4 181 yX2_differs, Cond.instanceMethod yX2_differs, Cond.selects RX2 yX2_differs yX2_differs, Cond.code yX2_differs cX2_differs 6 (some .boolean), Cond.methodLink RL 151 yX5_teaches, Cond.instanceMethod yX5_teaches, Cond.selects RX5 yX5_teaches yX5_teaches, Cond.code yX5_teaches cX5_teaches 5 (some .boolean), Cond.methodLink RL 152 yL_distance, Cond.static yL_distance, Cond.codeWith yL_distance cL_distance 5 (some .int) [(0, 10, 13, 28)], Cond.methodLink RL 70 yX4_distance, Cond.instanceMethod yX4_distance, Cond.selects RX4 yX4_distance yX4_distance, Cond.code yX4_distance cX4_distance 3 (some .int), Cond.methodLink RX4 184 yX3_codeWord, Cond.instanceMethod yX3_codeWord, Cond.selects RX3 yX3_codeWord yX3_codeWord, Cond.code yX3_codeWord cX3_codeWord 4 (some .int), Cond.methodLink RX4 187 yX4_differences, Cond.static yX4_differences, Cond.code yX4_differences cX4_differences 3 (some .int), Cond.methodLink RX4 267 yJ6_bitCount_0f7a4]
def wsL_law0_r25 : List Cond := [Cond.methodLink RL 154 yX5_distance, Cond.instanceMethod yX5_distance, Cond.selects RX5 yX5_distance yX5_distance, Cond.code yX5_distance cX5_distance 3 (some .int), Cond.methodLink RX5 121 yX5_apart, Cond.instanceMethod yX5_apart, Cond.selects RX5 yX5_apart yX5_apart, Cond.code yX5_apart cX5_apart 7 (some .int), Cond.methodLink RL 155 yX4_leastDistance, Cond.instanceMethod yX4_leastDistance, Cond.selects RX4 yX4_leastDistance yX4_leastDistance, Cond.code yX4_leastDistance cX4_leastDistance 1 (some .int), Cond.methodLink RX4 190 yX2_leastDifferences, Cond.instanceMethod yX2_leastDifferences, Cond.selects RX2 yX2_leastDifferences yX2_leastDifferences, Cond.code yX2_leastDifferences cX2_leastDifferences 4 (some .int), Cond.methodLink RX2 163 Lib.Math.min.name, Cond.methodLink RX2 157 yX3_codeWord, Cond.methodLink RL 158 yX5_leastDistance, Cond.instanceMethod yX5_leastDistance, Cond.selects RX5 yX5_leastDistance yX5_leastDistance, Cond.code yX5_leastDistance cX5_leastDistance 1 (some .int), Cond.methodLink RX5 124 yX5_nearest, Cond.instanceMethod yX5_nearest]
def wsL_law0_r26 : List Cond := [Cond.selects RX5 yX5_nearest yX5_nearest, Cond.code yX5_nearest cX5_nearest 5 (some .int), Cond.methodLink RL 159 yX4_bears, Cond.instanceMethod yX4_bears, Cond.selects RX4 yX4_bears yX4_bears, Cond.code yX4_bears cX4_bears 2 (some .int), Cond.methodLink RL 162 yX5_bears, Cond.instanceMethod yX5_bears, Cond.selects RX5 yX5_bears yX5_bears, Cond.code yX5_bears cX5_bears 2 (some .int), Cond.methodLink RL 163 yL_decode, Cond.static yL_decode, Cond.codeWith yL_decode cL_decode 4 (some .int) [(0, 9, 12, 13)], Cond.methodLink RL 73 yX4_decode, Cond.instanceMethod yX4_decode, Cond.selects RX4 yX4_decode yX4_decode, Cond.code yX4_decode cX4_decode 2 (some .int), Cond.methodLink RX4 193 yX3_answerRows, Cond.instanceMethod yX3_answerRows, Cond.selects RX3 yX3_answerRows yX3_answerRows, Cond.code yX3_answerRows cX3_answerRows 3 (some .int), Cond.methodLink RX4 198 yX4_wordOf, Cond.static yX4_wordOf, Cond.code yX4_wordOf cX4_wordOf 4 (some .int)]
def wsL_law0_r27 : List Cond := [Cond.methodLink RX4 201 yX2_nearestCase, Cond.instanceMethod yX2_nearestCase, Cond.selects RX2 yX2_nearestCase yX2_nearestCase, Cond.code yX2_nearestCase cX2_nearestCase 6 (some .int), Cond.methodLink RL 165 yX5_decode, Cond.instanceMethod yX5_decode, Cond.selects RX5 yX5_decode yX5_decode, Cond.code yX5_decode cX5_decode 7 (some .int), Cond.methodLink RX5 127 yX5_differs, Cond.instanceMethod yX5_differs, Cond.selects RX5 yX5_differs yX5_differs, Cond.code yX5_differs cX5_differs 6 (some .int), Cond.methodLink RL 166 yX4_share, Cond.instanceMethod yX4_share, Cond.selects RX4 yX4_share yX4_share, Cond.code yX4_share cX4_share 1 (some .double), Cond.methodLink RX4 204 yX2_cases, Cond.methodLink RL 170 yX5_share, Cond.instanceMethod yX5_share, Cond.selects RX5 yX5_share yX5_share, Cond.code yX5_share cX5_share 1 (some .double), Cond.methodLink RL 171 yL_append, Cond.static yL_append, Cond.codeWith yL_append cL_append 4 (some .int) [(0, 9, 12, 13), (0, 9, 15, 22)]]
def wsL_law0_r28 : List Cond := [Cond.methodLink RL 76 yX4_append, Cond.instanceMethod yX4_append, Cond.selects RX4 yX4_append yX4_append, Cond.code yX4_append cX4_append 2 (some .int), Cond.methodLink RX4 214 yX1_write, Cond.instanceMethod yX1_write, Cond.selects RX1 yX1_write yX1_write, Cond.code yX1_write cX1_write 2 none, Cond.fieldLink RX1 24 "LyingScale$Orders" "length" "I", Cond.methodLink RL 173 yX5_append, Cond.instanceMethod yX5_append, Cond.selects RX5 yX5_append yX5_append, Cond.code yX5_append cX5_append 2 (some .int), Cond.fieldLink RX5 130 "LyingScaleModel" "typed" "I", Cond.methodLink RL 174 yX4_clearText, Cond.instanceMethod yX4_clearText, Cond.selects RX4 yX4_clearText yX4_clearText, Cond.code yX4_clearText cX4_clearText 2 (some .int), Cond.methodLink RL 177 yX5_clearText, Cond.instanceMethod yX5_clearText, Cond.selects RX5 yX5_clearText yX5_clearText, Cond.code yX5_clearText cX5_clearText 2 (some .int), Cond.methodLink RL 178 yX4_carryOut, Cond.instanceMethod yX4_carryOut]
def wsL_law0_r29 : List Cond := [Cond.selects RX4 yX4_carryOut yX4_carryOut, Cond.code yX4_carryOut cX4_carryOut 3 (some .int), Cond.methodLink RX4 217 yX1_read, Cond.instanceMethod yX1_read, Cond.selects RX1 yX1_read yX1_read, Cond.code yX1_read cX1_read 2 (some .int), Cond.fieldLink RX1 32 "LyingScale$Orders" "count" "I", Cond.fieldLink RX1 35 "LyingScale$Orders" "place" "I", Cond.methodLink RX1 42 yX1_take, Cond.instanceMethod yX1_take, Cond.selects RX1 yX1_take yX1_take, Cond.code yX1_take cX1_take 2 (some .boolean), Cond.fieldLink RX1 46 "LyingScale$Orders" "left" "I", Cond.fieldLink RX1 49 "LyingScale$Orders" "right" "I", Cond.methodLink RX1 52 yX1_takeLeft, Cond.instanceMethod yX1_takeLeft, Cond.selects RX1 yX1_takeLeft yX1_takeLeft, Cond.code yX1_takeLeft cX1_takeLeft 3 (some .boolean), Cond.methodLink RX1 71 yX1_coinOf, Cond.instanceMethod yX1_coinOf, Cond.selects RX1 yX1_coinOf yX1_coinOf, Cond.code yX1_coinOf cX1_coinOf 2 (some .int), Cond.methodLink RX1 55 yX1_goTo, Cond.instanceMethod yX1_goTo]
def wsL_law0_r30 : List Cond := [Cond.selects RX1 yX1_goTo yX1_goTo, Cond.code yX1_goTo cX1_goTo 2 (some .boolean), Cond.methodLink RX1 58 yX1_takeRight, Cond.instanceMethod yX1_takeRight, Cond.selects RX1 yX1_takeRight yX1_takeRight, Cond.code yX1_takeRight cX1_takeRight 3 (some .boolean), Cond.methodLink RX1 61 yX1_takeDeed, Cond.instanceMethod yX1_takeDeed, Cond.selects RX1 yX1_takeDeed yX1_takeDeed, Cond.code yX1_takeDeed cX1_takeDeed 2 (some .boolean), Cond.methodLink RX1 75 yX1_decide, Cond.instanceMethod yX1_decide, Cond.selects RX1 yX1_decide yX1_decide, Cond.code yX1_decide cX1_decide 2 (some .boolean), Cond.methodLink RX1 64 yX1_takeAnswer, Cond.instanceMethod yX1_takeAnswer, Cond.selects RX1 yX1_takeAnswer yX1_takeAnswer, Cond.code yX1_takeAnswer cX1_takeAnswer 2 (some .boolean), Cond.methodLink RX1 67 yX1_close, Cond.instanceMethod yX1_close, Cond.selects RX1 yX1_close yX1_close, Cond.code yX1_close cX1_close 1 (some .boolean), Cond.methodLink RX4 230 yX2_obey, Cond.instanceMethod yX2_obey]
def wsL_law0_r31 : List Cond := [Cond.selects RX2 yX2_obey yX2_obey, Cond.code yX2_obey cX2_obey 4 (some .boolean), Cond.methodLink RX2 104 yX2_isWeighing, Cond.methodLink RX2 108 yX2_canDo, Cond.instanceMethod yX2_canDo, Cond.selects RX2 yX2_canDo yX2_canDo, Cond.code yX2_canDo cX2_canDo 2 (some .boolean), Cond.methodLink RX2 119 yX2_canReply, Cond.methodLink RX2 122 yX2_canPlan, Cond.methodLink RX2 112 yX2_reply, Cond.methodLink RX2 116 yX2_planWeighing, Cond.methodLink RL 181 yX5_carryOut, Cond.instanceMethod yX5_carryOut, Cond.selects RX5 yX5_carryOut yX5_carryOut, Cond.code yX5_carryOut cX5_carryOut 4 (some .int), Cond.fieldLink RX5 133 "LyingScaleModel" "at" "I", Cond.methodLink RX5 161 yX5_wrong, Cond.instanceMethod yX5_wrong, Cond.selects RX5 yX5_wrong yX5_wrong, Cond.code yX5_wrong cX5_wrong 1 (some .int), Cond.methodLink RX5 157 yX5_reads, Cond.instanceMethod yX5_reads, Cond.selects RX5 yX5_reads yX5_reads, Cond.code yX5_reads cX5_reads 1 (some .boolean)]
def wsL_law0_r32 : List Cond := [Cond.fieldLink RX5 145 "LyingScaleModel" "left" "I", Cond.fieldLink RX5 148 "LyingScaleModel" "right" "I", Cond.fieldLink RX5 154 "LyingScaleModel" "what" "I", Cond.methodLink RX5 142 yX5_side, Cond.instanceMethod yX5_side, Cond.selects RX5 yX5_side yX5_side, Cond.code yX5_side cX5_side 3 (some .int), Cond.methodLink RX5 136 yX5_sign, Cond.instanceMethod yX5_sign, Cond.selects RX5 yX5_sign yX5_sign, Cond.code yX5_sign cX5_sign 1 (some .int), Cond.methodLink RX5 139 yX5_takes, Cond.instanceMethod yX5_takes, Cond.selects RX5 yX5_takes yX5_takes, Cond.code yX5_takes cX5_takes 3 (some .boolean), Cond.methodLink RX5 151 yX5_kind, Cond.instanceMethod yX5_kind, Cond.selects RX5 yX5_kind yX5_kind, Cond.code yX5_kind cX5_kind 1 (some .int), Cond.methodLink RX5 164 yX5_does, Cond.instanceMethod yX5_does, Cond.selects RX5 yX5_does yX5_does, Cond.code yX5_does cX5_does 2 (some .boolean), Cond.methodLink RL 182 yL_undo]
def wsL_law0_r33 : List Cond := [Cond.static yL_undo, Cond.codeWith yL_undo cL_undo 3 (some .int) [(0, 8, 11, 22)], Cond.methodLink RL 79 yX4_undo, Cond.instanceMethod yX4_undo, Cond.selects RX4 yX4_undo yX4_undo, Cond.code yX4_undo cX4_undo 1 (some .int), Cond.methodLink RX4 237 yX0_restore, Cond.instanceMethod yX0_restore, Cond.selects RX0 yX0_restore yX0_restore, Cond.code yX0_restore cX0_restore 3 none, Cond.methodLink RL 184 yX5_undo, Cond.instanceMethod yX5_undo, Cond.selects RX5 yX5_undo yX5_undo, Cond.code yX5_undo cX5_undo 2 (some .int), Cond.methodLink RL 185 yX4_digest, Cond.instanceMethod yX4_digest, Cond.selects RX4 yX4_digest yX4_digest, Cond.code yX4_digest cX4_digest 5 (some .long), Cond.constantLong RX4 240 (3821), Cond.methodLink RX4 242 yX4_mix, Cond.static yX4_mix, Cond.code yX4_mix cX4_mix 4 (some .long), Cond.constantLong RX4 251 (31), Cond.methodLink RX4 248 yX4_bound]
def wsL_law0_r34 : List Cond := [Cond.methodLink RL 189 yX5_digest, Cond.instanceMethod yX5_digest, Cond.selects RX5 yX5_digest yX5_digest, Cond.code yX5_digest cX5_digest 4 (some .long), Cond.constantLong RX5 167 (118451), Cond.constantLong RX5 169 (31)]
def wsL_law0 : List Cond := (wsL_law0_r1 ++ (wsL_law0_r2 ++ (wsL_law0_r3 ++ (wsL_law0_r4 ++ (wsL_law0_r5 ++ (wsL_law0_r6 ++ (wsL_law0_r7 ++ (wsL_law0_r8 ++ (wsL_law0_r9 ++ (wsL_law0_r10 ++ (wsL_law0_r11 ++ (wsL_law0_r12 ++ (wsL_law0_r13 ++ (wsL_law0_r14 ++ (wsL_law0_r15 ++ (wsL_law0_r16 ++ (wsL_law0_r17 ++ (wsL_law0_r18 ++ (wsL_law0_r19 ++ (wsL_law0_r20 ++ (wsL_law0_r21 ++ (wsL_law0_r22 ++ (wsL_law0_r23 ++ (wsL_law0_r24 ++ (wsL_law0_r25 ++ (wsL_law0_r26 ++ (wsL_law0_r27 ++ (wsL_law0_r28 ++ (wsL_law0_r29 ++ (wsL_law0_r30 ++ (wsL_law0_r31 ++ (wsL_law0_r32 ++ (wsL_law0_r33 ++ wsL_law0_r34))))))))))))))))))))))))))))))))) ++ wsX40 ++ wsX50 ++ wsX20 ++ wsX00 ++ wsX10 ++ wsX30 ++ ([] : List Cond)
def wsL_law : List Cond := wsL_law0 ++ (vx_atS RX4 34 "java/lang/IllegalArgumentException" ["java/lang/RuntimeException", "java/lang/Exception"]).filter goodWord ++ (vx_atS RX4 82 "java/lang/IllegalStateException" ["java/lang/RuntimeException", "java/lang/Exception"]).filter goodWord ++ (vx_atS RX4 97 "java/lang/IndexOutOfBoundsException" ["java/lang/RuntimeException", "java/lang/Exception"]).filter goodWord
end
section
set_option maxRecDepth 20000 in
theorem ggX0_init_X2_init : GoodIn wsX0_init wsX2_init := goodIn_r _ [10, 11, 2, 3, 12, 13, 14, 15, 16, 17, 18, 19, 20, 21, 22, 23, 24, 25, 26, 27, 28, 29, 30, 31, 32, 33, 7, 34, 35, 36, 37, 38, 39, 40, 41, 42, 43, 44, 45, 46, 47, 48, 49, 50, 62, 63, 64, 65, 53, 54, 55, 56, 57, 58, 59, 60, 61] (by decide +kernel) (by decide +kernel)
set_option maxRecDepth 20000 in
theorem gX0_init_X2_init : GoodIn wsX0_init (wsX2_init) := ggX0_init_X2_init
theorem dX0_init_0 : decode cX0_init 0 = .ok (.aload_n 0, 1) := by decide +kernel
theorem dX0_init_1 : decode cX0_init 1 = .ok (.invokespecial 3, 3) := by decide +kernel
theorem dX0_init_4 : decode cX0_init 4 = .ok (.aload_n 0, 1) := by decide +kernel
theorem dX0_init_5 : decode cX0_init 5 = .ok (.iconst 4, 1) := by decide +kernel
theorem dX0_init_6 : decode cX0_init 6 = .ok (.anewarray 9, 3) := by decide +kernel
theorem dX0_init_9 : decode cX0_init 9 = .ok (.putfield 11, 3) := by decide +kernel
theorem dX0_init_12 : decode cX0_init 12 = .ok (.iconst 0, 1) := by decide +kernel
theorem dX0_init_13 : decode cX0_init 13 = .ok (.istore_n 1, 1) := by decide +kernel
theorem dX0_init_14 : decode cX0_init 14 = .ok (.iload_n 1, 1) := by decide +kernel
theorem dX0_init_15 : decode cX0_init 15 = .ok (.aload_n 0, 1) := by decide +kernel
theorem dX0_init_16 : decode cX0_init 16 = .ok (.getfield 11, 3) := by decide +kernel
theorem dX0_init_19 : decode cX0_init 19 = .ok (.arraylength, 1) := by decide +kernel
theorem dX0_init_20 : decode cX0_init 20 = .ok (.if_icmp .ge 22, 3) := by decide +kernel
theorem dX0_init_23 : decode cX0_init 23 = .ok (.aload_n 0, 1) := by decide +kernel
theorem dX0_init_24 : decode cX0_init 24 = .ok (.getfield 11, 3) := by decide +kernel
theorem dX0_init_27 : decode cX0_init 27 = .ok (.iload_n 1, 1) := by decide +kernel
theorem dX0_init_28 : decode cX0_init 28 = .ok (.new 9, 3) := by decide +kernel
theorem dX0_init_31 : decode cX0_init 31 = .ok (.dup, 1) := by decide +kernel
theorem dX0_init_32 : decode cX0_init 32 = .ok (.invokespecial 17, 3) := by decide +kernel
theorem dX0_init_35 : decode cX0_init 35 = .ok (.aastore, 1) := by decide +kernel
theorem dX0_init_36 : decode cX0_init 36 = .ok (.iinc 1 1, 3) := by decide +kernel
theorem dX0_init_39 : decode cX0_init 39 = .ok (.goto (-25), 3) := by decide +kernel
theorem dX0_init_42 : decode cX0_init 42 = .ok (.return_, 1) := by decide +kernel
set_option maxRecDepth 20000 in
theorem ggX0_save_X0_dropOldest : GoodIn wsX0_save wsX0_dropOldest := goodIn_r _ [7, 2, 1, 8, 9, 10, 6, 11, 45, 46] (by decide +kernel) (by decide +kernel)
set_option maxRecDepth 20000 in
theorem gX0_save_X0_dropOldest : GoodIn wsX0_save (wsV RX0 22 RX0 yX0_dropOldest wsX0_dropOldest) := goodIn_app (goodIn_of _ (by decide +kernel)) ggX0_save_X0_dropOldest
set_option maxRecDepth 20000 in
theorem ggX0_save_X0_stateAt : GoodIn wsX0_save wsX0_stateAt := goodIn_r _ [11, 2, 45, 46] (by decide +kernel) (by decide +kernel)
set_option maxRecDepth 20000 in
theorem gX0_save_X0_stateAt : GoodIn wsX0_save (wsV RX0 25 RX0 yX0_stateAt wsX0_stateAt) := goodIn_app (goodIn_of _ (by decide +kernel)) ggX0_save_X0_stateAt
set_option maxRecDepth 20000 in
theorem ggX0_save_X2_copyFrom : GoodIn wsX0_save wsX2_copyFrom := goodIn_r _ [16, 17, 18, 19, 20, 21, 22, 23, 24, 25, 26, 27, 28, 29, 30, 31, 32, 33, 34, 35, 36, 37, 38, 39, 40, 41, 42, 43, 44, 47, 48, 49, 50, 51, 52, 53, 54, 55, 56, 57, 58, 59] (by decide +kernel) (by decide +kernel)
set_option maxRecDepth 20000 in
theorem gX0_save_X2_copyFrom : GoodIn wsX0_save (wsV RX0 29 RX2 yX2_copyFrom wsX2_copyFrom) := goodIn_app (goodIn_of _ (by decide +kernel)) ggX0_save_X2_copyFrom
theorem dX0_save_0 : decode cX0_save 0 = .ok (.aload_n 0, 1) := by decide +kernel
theorem dX0_save_1 : decode cX0_save 1 = .ok (.getfield 18, 3) := by decide +kernel
theorem dX0_save_4 : decode cX0_save 4 = .ok (.aload_n 0, 1) := by decide +kernel
theorem dX0_save_5 : decode cX0_save 5 = .ok (.getfield 11, 3) := by decide +kernel
theorem dX0_save_8 : decode cX0_save 8 = .ok (.arraylength, 1) := by decide +kernel
theorem dX0_save_9 : decode cX0_save 9 = .ok (.if_icmp .lt 7, 3) := by decide +kernel
theorem dX0_save_12 : decode cX0_save 12 = .ok (.aload_n 0, 1) := by decide +kernel
theorem dX0_save_13 : decode cX0_save 13 = .ok (.invokevirtual 22, 3) := by decide +kernel
theorem dX0_save_16 : decode cX0_save 16 = .ok (.aload_n 0, 1) := by decide +kernel
theorem dX0_save_17 : decode cX0_save 17 = .ok (.aload_n 0, 1) := by decide +kernel
theorem dX0_save_18 : decode cX0_save 18 = .ok (.getfield 18, 3) := by decide +kernel
theorem dX0_save_21 : decode cX0_save 21 = .ok (.invokevirtual 25, 3) := by decide +kernel
theorem dX0_save_24 : decode cX0_save 24 = .ok (.astore_n 2, 1) := by decide +kernel
theorem dX0_save_25 : decode cX0_save 25 = .ok (.aload_n 2, 1) := by decide +kernel
theorem dX0_save_26 : decode cX0_save 26 = .ok (.ifnull 18, 3) := by decide +kernel
theorem dX0_save_29 : decode cX0_save 29 = .ok (.aload_n 2, 1) := by decide +kernel
theorem dX0_save_30 : decode cX0_save 30 = .ok (.aload_n 1, 1) := by decide +kernel
theorem dX0_save_31 : decode cX0_save 31 = .ok (.invokevirtual 29, 3) := by decide +kernel
theorem dX0_save_34 : decode cX0_save 34 = .ok (.aload_n 0, 1) := by decide +kernel
theorem dX0_save_35 : decode cX0_save 35 = .ok (.dup, 1) := by decide +kernel
theorem dX0_save_36 : decode cX0_save 36 = .ok (.getfield 18, 3) := by decide +kernel
theorem dX0_save_39 : decode cX0_save 39 = .ok (.iconst 1, 1) := by decide +kernel
theorem dX0_save_40 : decode cX0_save 40 = .ok (.iadd, 1) := by decide +kernel
theorem dX0_save_41 : decode cX0_save 41 = .ok (.putfield 18, 3) := by decide +kernel
theorem dX0_save_44 : decode cX0_save 44 = .ok (.return_, 1) := by decide +kernel
set_option maxRecDepth 20000 in
theorem ggX0_restore_X0_stateAt : GoodIn wsX0_restore wsX0_stateAt := goodIn_r _ [6, 7, 41, 42] (by decide +kernel) (by decide +kernel)
set_option maxRecDepth 20000 in
theorem gX0_restore_X0_stateAt : GoodIn wsX0_restore (wsV RX0 25 RX0 yX0_stateAt wsX0_stateAt) := goodIn_app (goodIn_of _ (by decide +kernel)) ggX0_restore_X0_stateAt
set_option maxRecDepth 20000 in
theorem ggX0_restore_X2_copyFrom : GoodIn wsX0_restore wsX2_copyFrom := goodIn_r _ [12, 13, 14, 15, 16, 17, 18, 19, 20, 21, 22, 23, 24, 25, 26, 27, 28, 29, 30, 31, 32, 33, 34, 35, 36, 37, 38, 39, 40, 43, 44, 45, 46, 47, 48, 49, 50, 51, 52, 53, 54, 55] (by decide +kernel) (by decide +kernel)
set_option maxRecDepth 20000 in
theorem gX0_restore_X2_copyFrom : GoodIn wsX0_restore (wsV RX0 29 RX2 yX2_copyFrom wsX2_copyFrom) := goodIn_app (goodIn_of _ (by decide +kernel)) ggX0_restore_X2_copyFrom
theorem dX0_restore_0 : decode cX0_restore 0 = .ok (.aload_n 0, 1) := by decide +kernel
theorem dX0_restore_1 : decode cX0_restore 1 = .ok (.aload_n 0, 1) := by decide +kernel
theorem dX0_restore_2 : decode cX0_restore 2 = .ok (.getfield 18, 3) := by decide +kernel
theorem dX0_restore_5 : decode cX0_restore 5 = .ok (.iconst 1, 1) := by decide +kernel
theorem dX0_restore_6 : decode cX0_restore 6 = .ok (.isub, 1) := by decide +kernel
theorem dX0_restore_7 : decode cX0_restore 7 = .ok (.invokevirtual 25, 3) := by decide +kernel
theorem dX0_restore_10 : decode cX0_restore 10 = .ok (.astore_n 2, 1) := by decide +kernel
theorem dX0_restore_11 : decode cX0_restore 11 = .ok (.aload_n 2, 1) := by decide +kernel
theorem dX0_restore_12 : decode cX0_restore 12 = .ok (.ifnull 18, 3) := by decide +kernel
theorem dX0_restore_15 : decode cX0_restore 15 = .ok (.aload_n 1, 1) := by decide +kernel
theorem dX0_restore_16 : decode cX0_restore 16 = .ok (.aload_n 2, 1) := by decide +kernel
theorem dX0_restore_17 : decode cX0_restore 17 = .ok (.invokevirtual 29, 3) := by decide +kernel
theorem dX0_restore_20 : decode cX0_restore 20 = .ok (.aload_n 0, 1) := by decide +kernel
theorem dX0_restore_21 : decode cX0_restore 21 = .ok (.dup, 1) := by decide +kernel
theorem dX0_restore_22 : decode cX0_restore 22 = .ok (.getfield 18, 3) := by decide +kernel
theorem dX0_restore_25 : decode cX0_restore 25 = .ok (.iconst 1, 1) := by decide +kernel
theorem dX0_restore_26 : decode cX0_restore 26 = .ok (.isub, 1) := by decide +kernel
theorem dX0_restore_27 : decode cX0_restore 27 = .ok (.putfield 18, 3) := by decide +kernel
theorem dX0_restore_30 : decode cX0_restore 30 = .ok (.return_, 1) := by decide +kernel
theorem dX0_stateAt_0 : decode cX0_stateAt 0 = .ok (.iload_n 1, 1) := by decide +kernel
theorem dX0_stateAt_1 : decode cX0_stateAt 1 = .ok (.ifCond .lt 21, 3) := by decide +kernel
theorem dX0_stateAt_4 : decode cX0_stateAt 4 = .ok (.iload_n 1, 1) := by decide +kernel
theorem dX0_stateAt_5 : decode cX0_stateAt 5 = .ok (.aload_n 0, 1) := by decide +kernel
theorem dX0_stateAt_6 : decode cX0_stateAt 6 = .ok (.getfield 11, 3) := by decide +kernel
theorem dX0_stateAt_9 : decode cX0_stateAt 9 = .ok (.arraylength, 1) := by decide +kernel
theorem dX0_stateAt_10 : decode cX0_stateAt 10 = .ok (.if_icmp .ge 12, 3) := by decide +kernel
theorem dX0_stateAt_13 : decode cX0_stateAt 13 = .ok (.aload_n 0, 1) := by decide +kernel
theorem dX0_stateAt_14 : decode cX0_stateAt 14 = .ok (.getfield 11, 3) := by decide +kernel
theorem dX0_stateAt_17 : decode cX0_stateAt 17 = .ok (.iload_n 1, 1) := by decide +kernel
theorem dX0_stateAt_18 : decode cX0_stateAt 18 = .ok (.aaload, 1) := by decide +kernel
theorem dX0_stateAt_19 : decode cX0_stateAt 19 = .ok (.goto 4, 3) := by decide +kernel
theorem dX0_stateAt_22 : decode cX0_stateAt 22 = .ok (.aconst_null, 1) := by decide +kernel
theorem dX0_stateAt_23 : decode cX0_stateAt 23 = .ok (.areturn, 1) := by decide +kernel
set_option maxRecDepth 20000 in
theorem ggX0_dropOldest_X0_stateAt : GoodIn wsX0_dropOldest wsX0_stateAt := goodIn_r _ [7, 1, 8, 9] (by decide +kernel) (by decide +kernel)
set_option maxRecDepth 20000 in
theorem gX0_dropOldest_X0_stateAt : GoodIn wsX0_dropOldest (wsV RX0 25 RX0 yX0_stateAt wsX0_stateAt) := goodIn_app (goodIn_of _ (by decide +kernel)) ggX0_dropOldest_X0_stateAt
theorem dX0_dropOldest_0 : decode cX0_dropOldest 0 = .ok (.aload_n 0, 1) := by decide +kernel
theorem dX0_dropOldest_1 : decode cX0_dropOldest 1 = .ok (.iconst 0, 1) := by decide +kernel
theorem dX0_dropOldest_2 : decode cX0_dropOldest 2 = .ok (.invokevirtual 25, 3) := by decide +kernel
theorem dX0_dropOldest_5 : decode cX0_dropOldest 5 = .ok (.astore_n 1, 1) := by decide +kernel
theorem dX0_dropOldest_6 : decode cX0_dropOldest 6 = .ok (.aload_n 0, 1) := by decide +kernel
theorem dX0_dropOldest_7 : decode cX0_dropOldest 7 = .ok (.getfield 11, 3) := by decide +kernel
theorem dX0_dropOldest_10 : decode cX0_dropOldest 10 = .ok (.arraylength, 1) := by decide +kernel
theorem dX0_dropOldest_11 : decode cX0_dropOldest 11 = .ok (.iconst 1, 1) := by decide +kernel
theorem dX0_dropOldest_12 : decode cX0_dropOldest 12 = .ok (.isub, 1) := by decide +kernel
theorem dX0_dropOldest_13 : decode cX0_dropOldest 13 = .ok (.istore_n 2, 1) := by decide +kernel
theorem dX0_dropOldest_14 : decode cX0_dropOldest 14 = .ok (.iconst 0, 1) := by decide +kernel
theorem dX0_dropOldest_15 : decode cX0_dropOldest 15 = .ok (.istore_n 3, 1) := by decide +kernel
theorem dX0_dropOldest_16 : decode cX0_dropOldest 16 = .ok (.iload_n 3, 1) := by decide +kernel
theorem dX0_dropOldest_17 : decode cX0_dropOldest 17 = .ok (.iload_n 2, 1) := by decide +kernel
theorem dX0_dropOldest_18 : decode cX0_dropOldest 18 = .ok (.if_icmp .ge 23, 3) := by decide +kernel
theorem dX0_dropOldest_21 : decode cX0_dropOldest 21 = .ok (.aload_n 0, 1) := by decide +kernel
theorem dX0_dropOldest_22 : decode cX0_dropOldest 22 = .ok (.getfield 11, 3) := by decide +kernel
theorem dX0_dropOldest_25 : decode cX0_dropOldest 25 = .ok (.iload_n 3, 1) := by decide +kernel
theorem dX0_dropOldest_26 : decode cX0_dropOldest 26 = .ok (.aload_n 0, 1) := by decide +kernel
theorem dX0_dropOldest_27 : decode cX0_dropOldest 27 = .ok (.getfield 11, 3) := by decide +kernel
theorem dX0_dropOldest_30 : decode cX0_dropOldest 30 = .ok (.iload_n 3, 1) := by decide +kernel
theorem dX0_dropOldest_31 : decode cX0_dropOldest 31 = .ok (.iconst 1, 1) := by decide +kernel
theorem dX0_dropOldest_32 : decode cX0_dropOldest 32 = .ok (.iadd, 1) := by decide +kernel
theorem dX0_dropOldest_33 : decode cX0_dropOldest 33 = .ok (.aaload, 1) := by decide +kernel
theorem dX0_dropOldest_34 : decode cX0_dropOldest 34 = .ok (.aastore, 1) := by decide +kernel
theorem dX0_dropOldest_35 : decode cX0_dropOldest 35 = .ok (.iinc 3 1, 3) := by decide +kernel
theorem dX0_dropOldest_38 : decode cX0_dropOldest 38 = .ok (.goto (-22), 3) := by decide +kernel
theorem dX0_dropOldest_41 : decode cX0_dropOldest 41 = .ok (.iload_n 2, 1) := by decide +kernel
theorem dX0_dropOldest_42 : decode cX0_dropOldest 42 = .ok (.ifCond .lt 15, 3) := by decide +kernel
theorem dX0_dropOldest_45 : decode cX0_dropOldest 45 = .ok (.aload_n 0, 1) := by decide +kernel
theorem dX0_dropOldest_46 : decode cX0_dropOldest 46 = .ok (.getfield 11, 3) := by decide +kernel
theorem dX0_dropOldest_49 : decode cX0_dropOldest 49 = .ok (.iload_n 2, 1) := by decide +kernel
theorem dX0_dropOldest_50 : decode cX0_dropOldest 50 = .ok (.aload_n 1, 1) := by decide +kernel
theorem dX0_dropOldest_51 : decode cX0_dropOldest 51 = .ok (.aastore, 1) := by decide +kernel
theorem dX0_dropOldest_52 : decode cX0_dropOldest 52 = .ok (.aload_n 0, 1) := by decide +kernel
theorem dX0_dropOldest_53 : decode cX0_dropOldest 53 = .ok (.iload_n 2, 1) := by decide +kernel
theorem dX0_dropOldest_54 : decode cX0_dropOldest 54 = .ok (.putfield 18, 3) := by decide +kernel
theorem dX0_dropOldest_57 : decode cX0_dropOldest 57 = .ok (.return_, 1) := by decide +kernel
theorem dX1_init_0 : decode cX1_init 0 = .ok (.aload_n 0, 1) := by decide +kernel
theorem dX1_init_1 : decode cX1_init 1 = .ok (.invokespecial 3, 3) := by decide +kernel
theorem dX1_init_4 : decode cX1_init 4 = .ok (.aload_n 0, 1) := by decide +kernel
theorem dX1_init_5 : decode cX1_init 5 = .ok (.bipush 100, 2) := by decide +kernel
theorem dX1_init_7 : decode cX1_init 7 = .ok (.newarray .int, 2) := by decide +kernel
theorem dX1_init_9 : decode cX1_init 9 = .ok (.putfield 9, 3) := by decide +kernel
theorem dX1_init_12 : decode cX1_init 12 = .ok (.aload_n 0, 1) := by decide +kernel
theorem dX1_init_13 : decode cX1_init 13 = .ok (.bipush 20, 2) := by decide +kernel
theorem dX1_init_15 : decode cX1_init 15 = .ok (.newarray .int, 2) := by decide +kernel
theorem dX1_init_17 : decode cX1_init 17 = .ok (.putfield 15, 3) := by decide +kernel
theorem dX1_init_20 : decode cX1_init 20 = .ok (.aload_n 0, 1) := by decide +kernel
theorem dX1_init_21 : decode cX1_init 21 = .ok (.bipush 20, 2) := by decide +kernel
theorem dX1_init_23 : decode cX1_init 23 = .ok (.newarray .int, 2) := by decide +kernel
theorem dX1_init_25 : decode cX1_init 25 = .ok (.putfield 18, 3) := by decide +kernel
theorem dX1_init_28 : decode cX1_init 28 = .ok (.aload_n 0, 1) := by decide +kernel
theorem dX1_init_29 : decode cX1_init 29 = .ok (.bipush 20, 2) := by decide +kernel
theorem dX1_init_31 : decode cX1_init 31 = .ok (.newarray .int, 2) := by decide +kernel
theorem dX1_init_33 : decode cX1_init 33 = .ok (.putfield 21, 3) := by decide +kernel
theorem dX1_init_36 : decode cX1_init 36 = .ok (.return_, 1) := by decide +kernel
set_option maxRecDepth 20000 in
theorem ggX1_write_X4_put : GoodIn wsX1_write wsX4_put := goodIn_r _ [5] (by decide +kernel) (by decide +kernel)
set_option maxRecDepth 20000 in
theorem gX1_write_X4_put_n28 : GoodIn wsX1_write (wsX4_put) := ggX1_write_X4_put
theorem dX1_write_0 : decode cX1_write 0 = .ok (.aload_n 0, 1) := by decide +kernel
theorem dX1_write_1 : decode cX1_write 1 = .ok (.getfield 24, 3) := by decide +kernel
theorem dX1_write_4 : decode cX1_write 4 = .ok (.aload_n 0, 1) := by decide +kernel
theorem dX1_write_5 : decode cX1_write 5 = .ok (.getfield 9, 3) := by decide +kernel
theorem dX1_write_8 : decode cX1_write 8 = .ok (.arraylength, 1) := by decide +kernel
theorem dX1_write_9 : decode cX1_write 9 = .ok (.if_icmp .ge 25, 3) := by decide +kernel
theorem dX1_write_12 : decode cX1_write 12 = .ok (.aload_n 0, 1) := by decide +kernel
theorem dX1_write_13 : decode cX1_write 13 = .ok (.getfield 9, 3) := by decide +kernel
theorem dX1_write_16 : decode cX1_write 16 = .ok (.aload_n 0, 1) := by decide +kernel
theorem dX1_write_17 : decode cX1_write 17 = .ok (.getfield 24, 3) := by decide +kernel
theorem dX1_write_20 : decode cX1_write 20 = .ok (.iload_n 1, 1) := by decide +kernel
theorem dX1_write_21 : decode cX1_write 21 = .ok (.invokestatic 28, 3) := by decide +kernel
theorem dX1_write_24 : decode cX1_write 24 = .ok (.aload_n 0, 1) := by decide +kernel
theorem dX1_write_25 : decode cX1_write 25 = .ok (.dup, 1) := by decide +kernel
theorem dX1_write_26 : decode cX1_write 26 = .ok (.getfield 24, 3) := by decide +kernel
theorem dX1_write_29 : decode cX1_write 29 = .ok (.iconst 1, 1) := by decide +kernel
theorem dX1_write_30 : decode cX1_write 30 = .ok (.iadd, 1) := by decide +kernel
theorem dX1_write_31 : decode cX1_write 31 = .ok (.putfield 24, 3) := by decide +kernel
theorem dX1_write_34 : decode cX1_write 34 = .ok (.return_, 1) := by decide +kernel
set_option maxRecDepth 20000 in
theorem ggX1_read_X4_at : GoodIn wsX1_read wsX4_at := goodIn_r _ [7] (by decide +kernel) (by decide +kernel)
set_option maxRecDepth 20000 in
theorem gX1_read_X4_at_n38 : GoodIn wsX1_read (wsX4_at) := ggX1_read_X4_at
set_option maxRecDepth 20000 in
theorem ggX1_read_X1_take : GoodIn wsX1_read wsX1_take := goodIn_r _ [12, 2, 13, 14, 15, 16, 17, 11, 18, 19, 20, 21, 22, 23, 24, 25, 26, 27, 28, 29, 30, 31, 32, 33, 34, 35, 36, 37, 38, 39, 1, 40, 41, 42, 6, 43, 44, 45, 46, 47, 48, 49, 50, 51, 52, 53, 54, 55, 56, 57, 58, 59, 60] (by decide +kernel) (by decide +kernel)
set_option maxRecDepth 20000 in
theorem gX1_read_X1_take : GoodIn wsX1_read (wsV RX1 42 RX1 yX1_take wsX1_take) := goodIn_app (goodIn_of _ (by decide +kernel)) ggX1_read_X1_take
theorem dX1_read_0 : decode cX1_read 0 = .ok (.aload_n 0, 1) := by decide +kernel
theorem dX1_read_1 : decode cX1_read 1 = .ok (.iconst 0, 1) := by decide +kernel
theorem dX1_read_2 : decode cX1_read 2 = .ok (.putfield 32, 3) := by decide +kernel
theorem dX1_read_5 : decode cX1_read 5 = .ok (.aload_n 0, 1) := by decide +kernel
theorem dX1_read_6 : decode cX1_read 6 = .ok (.iconst 0, 1) := by decide +kernel
theorem dX1_read_7 : decode cX1_read 7 = .ok (.putfield 35, 3) := by decide +kernel
theorem dX1_read_10 : decode cX1_read 10 = .ok (.iconst 0, 1) := by decide +kernel
theorem dX1_read_11 : decode cX1_read 11 = .ok (.istore_n 1, 1) := by decide +kernel
theorem dX1_read_12 : decode cX1_read 12 = .ok (.iload_n 1, 1) := by decide +kernel
theorem dX1_read_13 : decode cX1_read 13 = .ok (.aload_n 0, 1) := by decide +kernel
theorem dX1_read_14 : decode cX1_read 14 = .ok (.getfield 24, 3) := by decide +kernel
theorem dX1_read_17 : decode cX1_read 17 = .ok (.if_icmp .ge 26, 3) := by decide +kernel
theorem dX1_read_20 : decode cX1_read 20 = .ok (.aload_n 0, 1) := by decide +kernel
theorem dX1_read_21 : decode cX1_read 21 = .ok (.aload_n 0, 1) := by decide +kernel
theorem dX1_read_22 : decode cX1_read 22 = .ok (.getfield 9, 3) := by decide +kernel
theorem dX1_read_25 : decode cX1_read 25 = .ok (.iload_n 1, 1) := by decide +kernel
theorem dX1_read_26 : decode cX1_read 26 = .ok (.invokestatic 38, 3) := by decide +kernel
theorem dX1_read_29 : decode cX1_read 29 = .ok (.invokevirtual 42, 3) := by decide +kernel
theorem dX1_read_32 : decode cX1_read 32 = .ok (.ifCond .ne 5, 3) := by decide +kernel
theorem dX1_read_35 : decode cX1_read 35 = .ok (.iload_n 1, 1) := by decide +kernel
theorem dX1_read_36 : decode cX1_read 36 = .ok (.ireturn, 1) := by decide +kernel
theorem dX1_read_37 : decode cX1_read 37 = .ok (.iinc 1 1, 3) := by decide +kernel
theorem dX1_read_40 : decode cX1_read 40 = .ok (.goto (-28), 3) := by decide +kernel
theorem dX1_read_43 : decode cX1_read 43 = .ok (.aload_n 0, 1) := by decide +kernel
theorem dX1_read_44 : decode cX1_read 44 = .ok (.getfield 35, 3) := by decide +kernel
theorem dX1_read_47 : decode cX1_read 47 = .ok (.ifCond .ne 7, 3) := by decide +kernel
theorem dX1_read_50 : decode cX1_read 50 = .ok (.iconst (-1), 1) := by decide +kernel
theorem dX1_read_51 : decode cX1_read 51 = .ok (.goto 7, 3) := by decide +kernel
theorem dX1_read_54 : decode cX1_read 54 = .ok (.aload_n 0, 1) := by decide +kernel
theorem dX1_read_55 : decode cX1_read 55 = .ok (.getfield 24, 3) := by decide +kernel
theorem dX1_read_58 : decode cX1_read 58 = .ok (.ireturn, 1) := by decide +kernel
set_option maxRecDepth 20000 in
theorem ggX1_take_X1_takeLeft : GoodIn wsX1_take wsX1_takeLeft := goodIn_r _ [8, 2, 9, 10, 11, 7, 12, 3, 13, 14, 15, 16, 1, 44, 45, 46, 47, 48, 49, 50, 51, 52] (by decide +kernel) (by decide +kernel)
set_option maxRecDepth 20000 in
theorem gX1_take_X1_takeLeft : GoodIn wsX1_take (wsV RX1 52 RX1 yX1_takeLeft wsX1_takeLeft) := goodIn_app (goodIn_of _ (by decide +kernel)) ggX1_take_X1_takeLeft
set_option maxRecDepth 20000 in
theorem ggX1_take_X1_goTo : GoodIn wsX1_take wsX1_goTo := goodIn_r _ [16, 1, 44, 45, 46, 47, 48, 49, 50, 51, 52] (by decide +kernel) (by decide +kernel)
set_option maxRecDepth 20000 in
theorem gX1_take_X1_goTo : GoodIn wsX1_take (wsV RX1 55 RX1 yX1_goTo wsX1_goTo) := goodIn_app (goodIn_of _ (by decide +kernel)) ggX1_take_X1_goTo
set_option maxRecDepth 20000 in
theorem ggX1_take_X1_takeRight : GoodIn wsX1_take wsX1_takeRight := goodIn_r _ [20, 3, 9, 10, 11, 7, 12, 2, 13, 14, 15, 16, 1, 44, 45, 46, 47, 48, 49, 50, 51, 52] (by decide +kernel) (by decide +kernel)
set_option maxRecDepth 20000 in
theorem gX1_take_X1_takeRight : GoodIn wsX1_take (wsV RX1 58 RX1 yX1_takeRight wsX1_takeRight) := goodIn_app (goodIn_of _ (by decide +kernel)) ggX1_take_X1_takeRight
set_option maxRecDepth 20000 in
theorem ggX1_take_X1_takeDeed : GoodIn wsX1_take wsX1_takeDeed := goodIn_r _ [24, 13, 14, 15, 7, 16, 1, 25, 26, 27, 28, 29, 30, 2, 31, 3, 32, 33, 34, 35, 44, 45, 46, 47, 48, 49, 50, 51, 52] (by decide +kernel) (by decide +kernel)
set_option maxRecDepth 20000 in
theorem gX1_take_X1_takeDeed : GoodIn wsX1_take (wsV RX1 61 RX1 yX1_takeDeed wsX1_takeDeed) := goodIn_app (goodIn_of _ (by decide +kernel)) ggX1_take_X1_takeDeed
set_option maxRecDepth 20000 in
theorem ggX1_take_X1_takeAnswer : GoodIn wsX1_take wsX1_takeAnswer := goodIn_r _ [39, 25, 26, 27, 7, 28, 29, 30, 2, 31, 3, 32, 33, 34, 35, 13, 14, 15, 16, 1, 44, 45, 46, 47, 48, 49, 50, 51, 52] (by decide +kernel) (by decide +kernel)
set_option maxRecDepth 20000 in
theorem gX1_take_X1_takeAnswer : GoodIn wsX1_take (wsV RX1 64 RX1 yX1_takeAnswer wsX1_takeAnswer) := goodIn_app (goodIn_of _ (by decide +kernel)) ggX1_take_X1_takeAnswer
set_option maxRecDepth 20000 in
theorem ggX1_take_X1_close : GoodIn wsX1_take wsX1_close := goodIn_r _ [43, 30, 13, 14, 15, 7, 16, 1, 44, 45, 46, 47, 48, 49, 50, 51, 52] (by decide +kernel) (by decide +kernel)
set_option maxRecDepth 20000 in
theorem gX1_take_X1_close : GoodIn wsX1_take (wsV RX1 67 RX1 yX1_close wsX1_close) := goodIn_app (goodIn_of _ (by decide +kernel)) ggX1_take_X1_close
theorem dX1_take_0 : decode cX1_take 0 = .ok (.aload_n 0, 1) := by decide +kernel
theorem dX1_take_1 : decode cX1_take 1 = .ok (.getfield 35, 3) := by decide +kernel
theorem dX1_take_4 : decode cX1_take 4 = .ok (.tableswitch 106 0 4 #[36, 52, 72, 78, 100], 36) := by decide +kernel
theorem dX1_take_40 : decode cX1_take 40 = .ok (.aload_n 0, 1) := by decide +kernel
theorem dX1_take_41 : decode cX1_take 41 = .ok (.iconst 0, 1) := by decide +kernel
theorem dX1_take_42 : decode cX1_take 42 = .ok (.putfield 46, 3) := by decide +kernel
theorem dX1_take_45 : decode cX1_take 45 = .ok (.aload_n 0, 1) := by decide +kernel
theorem dX1_take_46 : decode cX1_take 46 = .ok (.iconst 0, 1) := by decide +kernel
theorem dX1_take_47 : decode cX1_take 47 = .ok (.putfield 49, 3) := by decide +kernel
theorem dX1_take_50 : decode cX1_take 50 = .ok (.aload_n 0, 1) := by decide +kernel
theorem dX1_take_51 : decode cX1_take 51 = .ok (.iload_n 1, 1) := by decide +kernel
theorem dX1_take_52 : decode cX1_take 52 = .ok (.invokevirtual 52, 3) := by decide +kernel
theorem dX1_take_55 : decode cX1_take 55 = .ok (.ireturn, 1) := by decide +kernel
theorem dX1_take_56 : decode cX1_take 56 = .ok (.iload_n 1, 1) := by decide +kernel
theorem dX1_take_57 : decode cX1_take 57 = .ok (.bipush 47, 2) := by decide +kernel
theorem dX1_take_59 : decode cX1_take 59 = .ok (.if_icmp .ne 11, 3) := by decide +kernel
theorem dX1_take_62 : decode cX1_take 62 = .ok (.aload_n 0, 1) := by decide +kernel
theorem dX1_take_63 : decode cX1_take 63 = .ok (.iconst 2, 1) := by decide +kernel
theorem dX1_take_64 : decode cX1_take 64 = .ok (.invokevirtual 55, 3) := by decide +kernel
theorem dX1_take_67 : decode cX1_take 67 = .ok (.goto 8, 3) := by decide +kernel
theorem dX1_take_70 : decode cX1_take 70 = .ok (.aload_n 0, 1) := by decide +kernel
theorem dX1_take_71 : decode cX1_take 71 = .ok (.iload_n 1, 1) := by decide +kernel
theorem dX1_take_72 : decode cX1_take 72 = .ok (.invokevirtual 52, 3) := by decide +kernel
theorem dX1_take_75 : decode cX1_take 75 = .ok (.ireturn, 1) := by decide +kernel
theorem dX1_take_76 : decode cX1_take 76 = .ok (.aload_n 0, 1) := by decide +kernel
theorem dX1_take_77 : decode cX1_take 77 = .ok (.iload_n 1, 1) := by decide +kernel
theorem dX1_take_78 : decode cX1_take 78 = .ok (.invokevirtual 58, 3) := by decide +kernel
theorem dX1_take_81 : decode cX1_take 81 = .ok (.ireturn, 1) := by decide +kernel
theorem dX1_take_82 : decode cX1_take 82 = .ok (.aload_n 0, 1) := by decide +kernel
theorem dX1_take_83 : decode cX1_take 83 = .ok (.iload_n 1, 1) := by decide +kernel
theorem dX1_take_84 : decode cX1_take 84 = .ok (.invokevirtual 61, 3) := by decide +kernel
theorem dX1_take_87 : decode cX1_take 87 = .ok (.ifCond .ne 11, 3) := by decide +kernel
theorem dX1_take_90 : decode cX1_take 90 = .ok (.aload_n 0, 1) := by decide +kernel
theorem dX1_take_91 : decode cX1_take 91 = .ok (.iload_n 1, 1) := by decide +kernel
theorem dX1_take_92 : decode cX1_take 92 = .ok (.invokevirtual 58, 3) := by decide +kernel
theorem dX1_take_95 : decode cX1_take 95 = .ok (.ifCond .eq 7, 3) := by decide +kernel
theorem dX1_take_98 : decode cX1_take 98 = .ok (.iconst 1, 1) := by decide +kernel
theorem dX1_take_99 : decode cX1_take 99 = .ok (.goto 4, 3) := by decide +kernel
theorem dX1_take_102 : decode cX1_take 102 = .ok (.iconst 0, 1) := by decide +kernel
theorem dX1_take_103 : decode cX1_take 103 = .ok (.ireturn, 1) := by decide +kernel
theorem dX1_take_104 : decode cX1_take 104 = .ok (.aload_n 0, 1) := by decide +kernel
theorem dX1_take_105 : decode cX1_take 105 = .ok (.iload_n 1, 1) := by decide +kernel
theorem dX1_take_106 : decode cX1_take 106 = .ok (.invokevirtual 64, 3) := by decide +kernel
theorem dX1_take_109 : decode cX1_take 109 = .ok (.ireturn, 1) := by decide +kernel
theorem dX1_take_110 : decode cX1_take 110 = .ok (.iload_n 1, 1) := by decide +kernel
theorem dX1_take_111 : decode cX1_take 111 = .ok (.bipush 59, 2) := by decide +kernel
theorem dX1_take_113 : decode cX1_take 113 = .ok (.if_icmp .ne 14, 3) := by decide +kernel
theorem dX1_take_116 : decode cX1_take 116 = .ok (.aload_n 0, 1) := by decide +kernel
theorem dX1_take_117 : decode cX1_take 117 = .ok (.invokevirtual 67, 3) := by decide +kernel
theorem dX1_take_120 : decode cX1_take 120 = .ok (.ifCond .eq 7, 3) := by decide +kernel
theorem dX1_take_123 : decode cX1_take 123 = .ok (.iconst 1, 1) := by decide +kernel
theorem dX1_take_124 : decode cX1_take 124 = .ok (.goto 4, 3) := by decide +kernel
theorem dX1_take_127 : decode cX1_take 127 = .ok (.iconst 0, 1) := by decide +kernel
theorem dX1_take_128 : decode cX1_take 128 = .ok (.ireturn, 1) := by decide +kernel
theorem dX1_goTo_0 : decode cX1_goTo 0 = .ok (.aload_n 0, 1) := by decide +kernel
theorem dX1_goTo_1 : decode cX1_goTo 1 = .ok (.iload_n 1, 1) := by decide +kernel
theorem dX1_goTo_2 : decode cX1_goTo 2 = .ok (.putfield 35, 3) := by decide +kernel
theorem dX1_goTo_5 : decode cX1_goTo 5 = .ok (.iconst 1, 1) := by decide +kernel
theorem dX1_goTo_6 : decode cX1_goTo 6 = .ok (.ireturn, 1) := by decide +kernel
theorem dX1_coinOf_0 : decode cX1_coinOf 0 = .ok (.iload_n 1, 1) := by decide +kernel
theorem dX1_coinOf_1 : decode cX1_coinOf 1 = .ok (.bipush 97, 2) := by decide +kernel
theorem dX1_coinOf_3 : decode cX1_coinOf 3 = .ok (.if_icmp .lt 9, 3) := by decide +kernel
theorem dX1_coinOf_6 : decode cX1_coinOf 6 = .ok (.iload_n 1, 1) := by decide +kernel
theorem dX1_coinOf_7 : decode cX1_coinOf 7 = .ok (.bipush 112, 2) := by decide +kernel
theorem dX1_coinOf_9 : decode cX1_coinOf 9 = .ok (.if_icmp .le 5, 3) := by decide +kernel
theorem dX1_coinOf_12 : decode cX1_coinOf 12 = .ok (.iconst 0, 1) := by decide +kernel
theorem dX1_coinOf_13 : decode cX1_coinOf 13 = .ok (.ireturn, 1) := by decide +kernel
theorem dX1_coinOf_14 : decode cX1_coinOf 14 = .ok (.iconst 1, 1) := by decide +kernel
theorem dX1_coinOf_15 : decode cX1_coinOf 15 = .ok (.iload_n 1, 1) := by decide +kernel
theorem dX1_coinOf_16 : decode cX1_coinOf 16 = .ok (.bipush 97, 2) := by decide +kernel
theorem dX1_coinOf_18 : decode cX1_coinOf 18 = .ok (.isub, 1) := by decide +kernel
theorem dX1_coinOf_19 : decode cX1_coinOf 19 = .ok (.ishl, 1) := by decide +kernel
theorem dX1_coinOf_20 : decode cX1_coinOf 20 = .ok (.aload_n 0, 1) := by decide +kernel
theorem dX1_coinOf_21 : decode cX1_coinOf 21 = .ok (.getfield 46, 3) := by decide +kernel
theorem dX1_coinOf_24 : decode cX1_coinOf 24 = .ok (.aload_n 0, 1) := by decide +kernel
theorem dX1_coinOf_25 : decode cX1_coinOf 25 = .ok (.getfield 49, 3) := by decide +kernel
theorem dX1_coinOf_28 : decode cX1_coinOf 28 = .ok (.ior, 1) := by decide +kernel
theorem dX1_coinOf_29 : decode cX1_coinOf 29 = .ok (.iconst (-1), 1) := by decide +kernel
theorem dX1_coinOf_30 : decode cX1_coinOf 30 = .ok (.ixor, 1) := by decide +kernel
theorem dX1_coinOf_31 : decode cX1_coinOf 31 = .ok (.iand, 1) := by decide +kernel
theorem dX1_coinOf_32 : decode cX1_coinOf 32 = .ok (.ireturn, 1) := by decide +kernel
set_option maxRecDepth 20000 in
theorem ggX1_takeLeft_X1_coinOf : GoodIn wsX1_takeLeft wsX1_coinOf := goodIn_r _ [6, 1, 7, 13, 14, 15, 16, 17, 18, 19, 20, 21] (by decide +kernel) (by decide +kernel)
set_option maxRecDepth 20000 in
theorem gX1_takeLeft_X1_coinOf : GoodIn wsX1_takeLeft (wsV RX1 71 RX1 yX1_coinOf wsX1_coinOf) := goodIn_app (goodIn_of _ (by decide +kernel)) ggX1_takeLeft_X1_coinOf
set_option maxRecDepth 20000 in
theorem ggX1_takeLeft_X1_goTo : GoodIn wsX1_takeLeft wsX1_goTo := goodIn_r _ [11, 12, 13, 14, 15, 16, 17, 18, 19, 20, 21] (by decide +kernel) (by decide +kernel)
set_option maxRecDepth 20000 in
theorem gX1_takeLeft_X1_goTo : GoodIn wsX1_takeLeft (wsV RX1 55 RX1 yX1_goTo wsX1_goTo) := goodIn_app (goodIn_of _ (by decide +kernel)) ggX1_takeLeft_X1_goTo
theorem dX1_takeLeft_0 : decode cX1_takeLeft 0 = .ok (.aload_n 0, 1) := by decide +kernel
theorem dX1_takeLeft_1 : decode cX1_takeLeft 1 = .ok (.iload_n 1, 1) := by decide +kernel
theorem dX1_takeLeft_2 : decode cX1_takeLeft 2 = .ok (.invokevirtual 71, 3) := by decide +kernel
theorem dX1_takeLeft_5 : decode cX1_takeLeft 5 = .ok (.istore_n 2, 1) := by decide +kernel
theorem dX1_takeLeft_6 : decode cX1_takeLeft 6 = .ok (.aload_n 0, 1) := by decide +kernel
theorem dX1_takeLeft_7 : decode cX1_takeLeft 7 = .ok (.dup, 1) := by decide +kernel
theorem dX1_takeLeft_8 : decode cX1_takeLeft 8 = .ok (.getfield 46, 3) := by decide +kernel
theorem dX1_takeLeft_11 : decode cX1_takeLeft 11 = .ok (.iload_n 2, 1) := by decide +kernel
theorem dX1_takeLeft_12 : decode cX1_takeLeft 12 = .ok (.ior, 1) := by decide +kernel
theorem dX1_takeLeft_13 : decode cX1_takeLeft 13 = .ok (.putfield 46, 3) := by decide +kernel
theorem dX1_takeLeft_16 : decode cX1_takeLeft 16 = .ok (.iload_n 2, 1) := by decide +kernel
theorem dX1_takeLeft_17 : decode cX1_takeLeft 17 = .ok (.ifCond .eq 15, 3) := by decide +kernel
theorem dX1_takeLeft_20 : decode cX1_takeLeft 20 = .ok (.aload_n 0, 1) := by decide +kernel
theorem dX1_takeLeft_21 : decode cX1_takeLeft 21 = .ok (.iconst 1, 1) := by decide +kernel
theorem dX1_takeLeft_22 : decode cX1_takeLeft 22 = .ok (.invokevirtual 55, 3) := by decide +kernel
theorem dX1_takeLeft_25 : decode cX1_takeLeft 25 = .ok (.ifCond .eq 7, 3) := by decide +kernel
theorem dX1_takeLeft_28 : decode cX1_takeLeft 28 = .ok (.iconst 1, 1) := by decide +kernel
theorem dX1_takeLeft_29 : decode cX1_takeLeft 29 = .ok (.goto 4, 3) := by decide +kernel
theorem dX1_takeLeft_32 : decode cX1_takeLeft 32 = .ok (.iconst 0, 1) := by decide +kernel
theorem dX1_takeLeft_33 : decode cX1_takeLeft 33 = .ok (.ireturn, 1) := by decide +kernel
set_option maxRecDepth 20000 in
theorem ggX1_takeRight_X1_coinOf : GoodIn wsX1_takeRight wsX1_coinOf := goodIn_r _ [6, 7, 1, 13, 14, 15, 16, 17, 18, 19, 20, 21] (by decide +kernel) (by decide +kernel)
set_option maxRecDepth 20000 in
theorem gX1_takeRight_X1_coinOf : GoodIn wsX1_takeRight (wsV RX1 71 RX1 yX1_coinOf wsX1_coinOf) := goodIn_app (goodIn_of _ (by decide +kernel)) ggX1_takeRight_X1_coinOf
set_option maxRecDepth 20000 in
theorem ggX1_takeRight_X1_goTo : GoodIn wsX1_takeRight wsX1_goTo := goodIn_r _ [11, 12, 13, 14, 15, 16, 17, 18, 19, 20, 21] (by decide +kernel) (by decide +kernel)
set_option maxRecDepth 20000 in
theorem gX1_takeRight_X1_goTo : GoodIn wsX1_takeRight (wsV RX1 55 RX1 yX1_goTo wsX1_goTo) := goodIn_app (goodIn_of _ (by decide +kernel)) ggX1_takeRight_X1_goTo
theorem dX1_takeRight_0 : decode cX1_takeRight 0 = .ok (.aload_n 0, 1) := by decide +kernel
theorem dX1_takeRight_1 : decode cX1_takeRight 1 = .ok (.iload_n 1, 1) := by decide +kernel
theorem dX1_takeRight_2 : decode cX1_takeRight 2 = .ok (.invokevirtual 71, 3) := by decide +kernel
theorem dX1_takeRight_5 : decode cX1_takeRight 5 = .ok (.istore_n 2, 1) := by decide +kernel
theorem dX1_takeRight_6 : decode cX1_takeRight 6 = .ok (.aload_n 0, 1) := by decide +kernel
theorem dX1_takeRight_7 : decode cX1_takeRight 7 = .ok (.dup, 1) := by decide +kernel
theorem dX1_takeRight_8 : decode cX1_takeRight 8 = .ok (.getfield 49, 3) := by decide +kernel
theorem dX1_takeRight_11 : decode cX1_takeRight 11 = .ok (.iload_n 2, 1) := by decide +kernel
theorem dX1_takeRight_12 : decode cX1_takeRight 12 = .ok (.ior, 1) := by decide +kernel
theorem dX1_takeRight_13 : decode cX1_takeRight 13 = .ok (.putfield 49, 3) := by decide +kernel
theorem dX1_takeRight_16 : decode cX1_takeRight 16 = .ok (.iload_n 2, 1) := by decide +kernel
theorem dX1_takeRight_17 : decode cX1_takeRight 17 = .ok (.ifCond .eq 15, 3) := by decide +kernel
theorem dX1_takeRight_20 : decode cX1_takeRight 20 = .ok (.aload_n 0, 1) := by decide +kernel
theorem dX1_takeRight_21 : decode cX1_takeRight 21 = .ok (.iconst 3, 1) := by decide +kernel
theorem dX1_takeRight_22 : decode cX1_takeRight 22 = .ok (.invokevirtual 55, 3) := by decide +kernel
theorem dX1_takeRight_25 : decode cX1_takeRight 25 = .ok (.ifCond .eq 7, 3) := by decide +kernel
theorem dX1_takeRight_28 : decode cX1_takeRight 28 = .ok (.iconst 1, 1) := by decide +kernel
theorem dX1_takeRight_29 : decode cX1_takeRight 29 = .ok (.goto 4, 3) := by decide +kernel
theorem dX1_takeRight_32 : decode cX1_takeRight 32 = .ok (.iconst 0, 1) := by decide +kernel
theorem dX1_takeRight_33 : decode cX1_takeRight 33 = .ok (.ireturn, 1) := by decide +kernel
set_option maxRecDepth 20000 in
theorem ggX1_takeDeed_X1_goTo : GoodIn wsX1_takeDeed wsX1_goTo := goodIn_r _ [5, 6, 20, 21, 22, 23, 24, 25, 26, 27, 28] (by decide +kernel) (by decide +kernel)
set_option maxRecDepth 20000 in
theorem gX1_takeDeed_X1_goTo : GoodIn wsX1_takeDeed (wsV RX1 55 RX1 yX1_goTo wsX1_goTo) := goodIn_app (goodIn_of _ (by decide +kernel)) ggX1_takeDeed_X1_goTo
set_option maxRecDepth 20000 in
theorem ggX1_takeDeed_X1_decide : GoodIn wsX1_takeDeed wsX1_decide := goodIn_r _ [10, 11, 12, 13, 14, 15, 16, 17, 18, 19, 1, 2, 3, 4, 5, 6, 20, 21, 22, 23, 24, 25, 26, 27, 28] (by decide +kernel) (by decide +kernel)
set_option maxRecDepth 20000 in
theorem gX1_takeDeed_X1_decide : GoodIn wsX1_takeDeed (wsV RX1 75 RX1 yX1_decide wsX1_decide) := goodIn_app (goodIn_of _ (by decide +kernel)) ggX1_takeDeed_X1_decide
theorem dX1_takeDeed_0 : decode cX1_takeDeed 0 = .ok (.iload_n 1, 1) := by decide +kernel
theorem dX1_takeDeed_1 : decode cX1_takeDeed 1 = .ok (.lookupswitch 53 #[(43, 47), (61, 35), (63, 41)], 35) := by decide +kernel
theorem dX1_takeDeed_36 : decode cX1_takeDeed 36 = .ok (.aload_n 0, 1) := by decide +kernel
theorem dX1_takeDeed_37 : decode cX1_takeDeed 37 = .ok (.iconst 4, 1) := by decide +kernel
theorem dX1_takeDeed_38 : decode cX1_takeDeed 38 = .ok (.invokevirtual 55, 3) := by decide +kernel
theorem dX1_takeDeed_41 : decode cX1_takeDeed 41 = .ok (.ireturn, 1) := by decide +kernel
theorem dX1_takeDeed_42 : decode cX1_takeDeed 42 = .ok (.aload_n 0, 1) := by decide +kernel
theorem dX1_takeDeed_43 : decode cX1_takeDeed 43 = .ok (.iconst 3, 1) := by decide +kernel
theorem dX1_takeDeed_44 : decode cX1_takeDeed 44 = .ok (.invokevirtual 75, 3) := by decide +kernel
theorem dX1_takeDeed_47 : decode cX1_takeDeed 47 = .ok (.ireturn, 1) := by decide +kernel
theorem dX1_takeDeed_48 : decode cX1_takeDeed 48 = .ok (.aload_n 0, 1) := by decide +kernel
theorem dX1_takeDeed_49 : decode cX1_takeDeed 49 = .ok (.iconst 4, 1) := by decide +kernel
theorem dX1_takeDeed_50 : decode cX1_takeDeed 50 = .ok (.invokevirtual 75, 3) := by decide +kernel
theorem dX1_takeDeed_53 : decode cX1_takeDeed 53 = .ok (.ireturn, 1) := by decide +kernel
theorem dX1_takeDeed_54 : decode cX1_takeDeed 54 = .ok (.iconst 0, 1) := by decide +kernel
theorem dX1_takeDeed_55 : decode cX1_takeDeed 55 = .ok (.ireturn, 1) := by decide +kernel
set_option maxRecDepth 20000 in
theorem ggX1_takeAnswer_X1_decide : GoodIn wsX1_takeAnswer wsX1_decide := goodIn_r _ [5, 6, 7, 8, 9, 10, 11, 12, 13, 14, 15, 16, 17, 4, 18, 19, 20, 21, 22, 23, 24, 25, 26, 27, 28] (by decide +kernel) (by decide +kernel)
set_option maxRecDepth 20000 in
theorem gX1_takeAnswer_X1_decide : GoodIn wsX1_takeAnswer (wsV RX1 75 RX1 yX1_decide wsX1_decide) := goodIn_app (goodIn_of _ (by decide +kernel)) ggX1_takeAnswer_X1_decide
theorem dX1_takeAnswer_0 : decode cX1_takeAnswer 0 = .ok (.iload_n 1, 1) := by decide +kernel
theorem dX1_takeAnswer_1 : decode cX1_takeAnswer 1 = .ok (.lookupswitch 53 #[(101, 47), (108, 35), (114, 41)], 35) := by decide +kernel
theorem dX1_takeAnswer_36 : decode cX1_takeAnswer 36 = .ok (.aload_n 0, 1) := by decide +kernel
theorem dX1_takeAnswer_37 : decode cX1_takeAnswer 37 = .ok (.iconst 0, 1) := by decide +kernel
theorem dX1_takeAnswer_38 : decode cX1_takeAnswer 38 = .ok (.invokevirtual 75, 3) := by decide +kernel
theorem dX1_takeAnswer_41 : decode cX1_takeAnswer 41 = .ok (.ireturn, 1) := by decide +kernel
theorem dX1_takeAnswer_42 : decode cX1_takeAnswer 42 = .ok (.aload_n 0, 1) := by decide +kernel
theorem dX1_takeAnswer_43 : decode cX1_takeAnswer 43 = .ok (.iconst 1, 1) := by decide +kernel
theorem dX1_takeAnswer_44 : decode cX1_takeAnswer 44 = .ok (.invokevirtual 75, 3) := by decide +kernel
theorem dX1_takeAnswer_47 : decode cX1_takeAnswer 47 = .ok (.ireturn, 1) := by decide +kernel
theorem dX1_takeAnswer_48 : decode cX1_takeAnswer 48 = .ok (.aload_n 0, 1) := by decide +kernel
theorem dX1_takeAnswer_49 : decode cX1_takeAnswer 49 = .ok (.iconst 2, 1) := by decide +kernel
theorem dX1_takeAnswer_50 : decode cX1_takeAnswer 50 = .ok (.invokevirtual 75, 3) := by decide +kernel
theorem dX1_takeAnswer_53 : decode cX1_takeAnswer 53 = .ok (.ireturn, 1) := by decide +kernel
theorem dX1_takeAnswer_54 : decode cX1_takeAnswer 54 = .ok (.iconst 0, 1) := by decide +kernel
theorem dX1_takeAnswer_55 : decode cX1_takeAnswer 55 = .ok (.ireturn, 1) := by decide +kernel
set_option maxRecDepth 20000 in
theorem ggX1_decide_X4_put : GoodIn wsX1_decide wsX4_put := goodIn_r _ [9] (by decide +kernel) (by decide +kernel)
set_option maxRecDepth 20000 in
theorem gX1_decide_X4_put_n28 : GoodIn wsX1_decide (wsX4_put) := ggX1_decide_X4_put
set_option maxRecDepth 20000 in
theorem ggX1_decide_X1_goTo : GoodIn wsX1_decide wsX1_goTo := goodIn_r _ [14, 15, 16, 17, 18, 19, 20, 21, 22, 23, 24] (by decide +kernel) (by decide +kernel)
set_option maxRecDepth 20000 in
theorem gX1_decide_X1_goTo : GoodIn wsX1_decide (wsV RX1 55 RX1 yX1_goTo wsX1_goTo) := goodIn_app (goodIn_of _ (by decide +kernel)) ggX1_decide_X1_goTo
theorem dX1_decide_0 : decode cX1_decide 0 = .ok (.aload_n 0, 1) := by decide +kernel
theorem dX1_decide_1 : decode cX1_decide 1 = .ok (.getfield 15, 3) := by decide +kernel
theorem dX1_decide_4 : decode cX1_decide 4 = .ok (.aload_n 0, 1) := by decide +kernel
theorem dX1_decide_5 : decode cX1_decide 5 = .ok (.getfield 32, 3) := by decide +kernel
theorem dX1_decide_8 : decode cX1_decide 8 = .ok (.aload_n 0, 1) := by decide +kernel
theorem dX1_decide_9 : decode cX1_decide 9 = .ok (.getfield 46, 3) := by decide +kernel
theorem dX1_decide_12 : decode cX1_decide 12 = .ok (.invokestatic 28, 3) := by decide +kernel
theorem dX1_decide_15 : decode cX1_decide 15 = .ok (.aload_n 0, 1) := by decide +kernel
theorem dX1_decide_16 : decode cX1_decide 16 = .ok (.getfield 18, 3) := by decide +kernel
theorem dX1_decide_19 : decode cX1_decide 19 = .ok (.aload_n 0, 1) := by decide +kernel
theorem dX1_decide_20 : decode cX1_decide 20 = .ok (.getfield 32, 3) := by decide +kernel
theorem dX1_decide_23 : decode cX1_decide 23 = .ok (.aload_n 0, 1) := by decide +kernel
theorem dX1_decide_24 : decode cX1_decide 24 = .ok (.getfield 49, 3) := by decide +kernel
theorem dX1_decide_27 : decode cX1_decide 27 = .ok (.invokestatic 28, 3) := by decide +kernel
theorem dX1_decide_30 : decode cX1_decide 30 = .ok (.aload_n 0, 1) := by decide +kernel
theorem dX1_decide_31 : decode cX1_decide 31 = .ok (.getfield 21, 3) := by decide +kernel
theorem dX1_decide_34 : decode cX1_decide 34 = .ok (.aload_n 0, 1) := by decide +kernel
theorem dX1_decide_35 : decode cX1_decide 35 = .ok (.getfield 32, 3) := by decide +kernel
theorem dX1_decide_38 : decode cX1_decide 38 = .ok (.iload_n 1, 1) := by decide +kernel
theorem dX1_decide_39 : decode cX1_decide 39 = .ok (.invokestatic 28, 3) := by decide +kernel
theorem dX1_decide_42 : decode cX1_decide 42 = .ok (.aload_n 0, 1) := by decide +kernel
theorem dX1_decide_43 : decode cX1_decide 43 = .ok (.iconst 5, 1) := by decide +kernel
theorem dX1_decide_44 : decode cX1_decide 44 = .ok (.invokevirtual 55, 3) := by decide +kernel
theorem dX1_decide_47 : decode cX1_decide 47 = .ok (.ireturn, 1) := by decide +kernel
set_option maxRecDepth 20000 in
theorem ggX1_close_X1_goTo : GoodIn wsX1_close wsX1_goTo := goodIn_r _ [6, 7, 8, 9, 10, 11, 12, 13, 14, 15, 16] (by decide +kernel) (by decide +kernel)
set_option maxRecDepth 20000 in
theorem gX1_close_X1_goTo : GoodIn wsX1_close (wsV RX1 55 RX1 yX1_goTo wsX1_goTo) := goodIn_app (goodIn_of _ (by decide +kernel)) ggX1_close_X1_goTo
theorem dX1_close_0 : decode cX1_close 0 = .ok (.aload_n 0, 1) := by decide +kernel
theorem dX1_close_1 : decode cX1_close 1 = .ok (.dup, 1) := by decide +kernel
theorem dX1_close_2 : decode cX1_close 2 = .ok (.getfield 32, 3) := by decide +kernel
theorem dX1_close_5 : decode cX1_close 5 = .ok (.iconst 1, 1) := by decide +kernel
theorem dX1_close_6 : decode cX1_close 6 = .ok (.iadd, 1) := by decide +kernel
theorem dX1_close_7 : decode cX1_close 7 = .ok (.putfield 32, 3) := by decide +kernel
theorem dX1_close_10 : decode cX1_close 10 = .ok (.aload_n 0, 1) := by decide +kernel
theorem dX1_close_11 : decode cX1_close 11 = .ok (.iconst 0, 1) := by decide +kernel
theorem dX1_close_12 : decode cX1_close 12 = .ok (.invokevirtual 55, 3) := by decide +kernel
theorem dX1_close_15 : decode cX1_close 15 = .ok (.ireturn, 1) := by decide +kernel
set_option maxRecDepth 20000 in
theorem ggX2_init_X3_init : GoodIn wsX2_init wsX3_init := goodIn_r _ [14, 15, 2, 3, 16, 17, 18, 19, 9, 20, 21, 22, 44, 45, 46, 47] (by decide +kernel) (by decide +kernel)
set_option maxRecDepth 20000 in
theorem gX2_init_X3_init : GoodIn wsX2_init (wsX3_init) := ggX2_init_X3_init
set_option maxRecDepth 20000 in
theorem ggX2_init_X2_start : GoodIn wsX2_init wsX2_start := goodIn_r _ [27, 28, 29, 8, 30, 31, 32, 26, 33, 34, 35, 36, 37, 38, 39, 40, 7, 10, 41, 42, 43, 48, 49, 50, 51, 52, 53, 54, 55, 56, 44, 45, 46, 47] (by decide +kernel) (by decide +kernel)
set_option maxRecDepth 20000 in
theorem gX2_init_X2_start : GoodIn wsX2_init (wsV RX2 30 RX2 yX2_start wsX2_start) := goodIn_app (goodIn_of _ (by decide +kernel)) ggX2_init_X2_start
theorem dX2_init_0 : decode cX2_init 0 = .ok (.aload_n 0, 1) := by decide +kernel
theorem dX2_init_1 : decode cX2_init 1 = .ok (.invokespecial 3, 3) := by decide +kernel
theorem dX2_init_4 : decode cX2_init 4 = .ok (.aload_n 0, 1) := by decide +kernel
theorem dX2_init_5 : decode cX2_init 5 = .ok (.new 9, 3) := by decide +kernel
theorem dX2_init_8 : decode cX2_init 8 = .ok (.dup, 1) := by decide +kernel
theorem dX2_init_9 : decode cX2_init 9 = .ok (.bipush 40, 2) := by decide +kernel
theorem dX2_init_11 : decode cX2_init 11 = .ok (.invokespecial 11, 3) := by decide +kernel
theorem dX2_init_14 : decode cX2_init 14 = .ok (.putfield 14, 3) := by decide +kernel
theorem dX2_init_17 : decode cX2_init 17 = .ok (.aload_n 0, 1) := by decide +kernel
theorem dX2_init_18 : decode cX2_init 18 = .ok (.new 9, 3) := by decide +kernel
theorem dX2_init_21 : decode cX2_init 21 = .ok (.dup, 1) := by decide +kernel
theorem dX2_init_22 : decode cX2_init 22 = .ok (.bipush 8, 2) := by decide +kernel
theorem dX2_init_24 : decode cX2_init 24 = .ok (.invokespecial 11, 3) := by decide +kernel
theorem dX2_init_27 : decode cX2_init 27 = .ok (.putfield 20, 3) := by decide +kernel
theorem dX2_init_30 : decode cX2_init 30 = .ok (.aload_n 0, 1) := by decide +kernel
theorem dX2_init_31 : decode cX2_init 31 = .ok (.bipush 33, 2) := by decide +kernel
theorem dX2_init_33 : decode cX2_init 33 = .ok (.newarray .int, 2) := by decide +kernel
theorem dX2_init_35 : decode cX2_init 35 = .ok (.putfield 23, 3) := by decide +kernel
theorem dX2_init_38 : decode cX2_init 38 = .ok (.aload_n 0, 1) := by decide +kernel
theorem dX2_init_39 : decode cX2_init 39 = .ok (.bipush 33, 2) := by decide +kernel
theorem dX2_init_41 : decode cX2_init 41 = .ok (.newarray .int, 2) := by decide +kernel
theorem dX2_init_43 : decode cX2_init 43 = .ok (.putfield 27, 3) := by decide +kernel
theorem dX2_init_46 : decode cX2_init 46 = .ok (.aload_n 0, 1) := by decide +kernel
theorem dX2_init_47 : decode cX2_init 47 = .ok (.bipush 8, 2) := by decide +kernel
theorem dX2_init_49 : decode cX2_init 49 = .ok (.invokevirtual 30, 3) := by decide +kernel
theorem dX2_init_52 : decode cX2_init 52 = .ok (.return_, 1) := by decide +kernel
set_option maxRecDepth 20000 in
theorem ggX2_start_X2_hideCase : GoodIn wsX2_start wsX2_hideCase := goodIn_r _ [8, 9, 10, 11, 21, 22, 23, 24, 25, 26, 27, 28, 29] (by decide +kernel) (by decide +kernel)
set_option maxRecDepth 20000 in
theorem gX2_start_X2_hideCase : GoodIn wsX2_start (wsV RX2 43 RX2 yX2_hideCase wsX2_hideCase) := goodIn_app (goodIn_of _ (by decide +kernel)) ggX2_start_X2_hideCase
set_option maxRecDepth 20000 in
theorem ggX2_start_X2_forgetTold : GoodIn wsX2_start wsX2_forgetTold := goodIn_r _ [15, 16, 17, 18, 19, 20, 21, 22, 23, 24, 25, 26, 27, 28, 29, 30, 31, 32, 33] (by decide +kernel) (by decide +kernel)
set_option maxRecDepth 20000 in
theorem gX2_start_X2_forgetTold : GoodIn wsX2_start (wsV RX2 47 RX2 yX2_forgetTold wsX2_forgetTold) := goodIn_app (goodIn_of _ (by decide +kernel)) ggX2_start_X2_forgetTold
theorem dX2_start_0 : decode cX2_start 0 = .ok (.aload_n 0, 1) := by decide +kernel
theorem dX2_start_1 : decode cX2_start 1 = .ok (.iload_n 1, 1) := by decide +kernel
theorem dX2_start_2 : decode cX2_start 2 = .ok (.putfield 33, 3) := by decide +kernel
theorem dX2_start_5 : decode cX2_start 5 = .ok (.aload_n 0, 1) := by decide +kernel
theorem dX2_start_6 : decode cX2_start 6 = .ok (.iconst 1, 1) := by decide +kernel
theorem dX2_start_7 : decode cX2_start 7 = .ok (.putfield 37, 3) := by decide +kernel
theorem dX2_start_10 : decode cX2_start 10 = .ok (.aload_n 0, 1) := by decide +kernel
theorem dX2_start_11 : decode cX2_start 11 = .ok (.getfield 20, 3) := by decide +kernel
theorem dX2_start_14 : decode cX2_start 14 = .ok (.iconst 0, 1) := by decide +kernel
theorem dX2_start_15 : decode cX2_start 15 = .ok (.putfield 40, 3) := by decide +kernel
theorem dX2_start_18 : decode cX2_start 18 = .ok (.aload_n 0, 1) := by decide +kernel
theorem dX2_start_19 : decode cX2_start 19 = .ok (.iconst (-1), 1) := by decide +kernel
theorem dX2_start_20 : decode cX2_start 20 = .ok (.iconst 0, 1) := by decide +kernel
theorem dX2_start_21 : decode cX2_start 21 = .ok (.invokevirtual 43, 3) := by decide +kernel
theorem dX2_start_24 : decode cX2_start 24 = .ok (.aload_n 0, 1) := by decide +kernel
theorem dX2_start_25 : decode cX2_start 25 = .ok (.invokevirtual 47, 3) := by decide +kernel
theorem dX2_start_28 : decode cX2_start 28 = .ok (.return_, 1) := by decide +kernel
set_option maxRecDepth 20000 in
theorem ggX2_copyFrom_X3_copyFrom : GoodIn wsX2_copyFrom wsX3_copyFrom := goodIn_r _ [13, 14, 15, 16, 17, 18, 19, 20, 21, 22, 23, 24, 25, 26, 27, 28, 38, 39, 40, 41] (by decide +kernel) (by decide +kernel)
set_option maxRecDepth 20000 in
theorem gX2_copyFrom_X3_copyFrom : GoodIn wsX2_copyFrom (wsV RX2 50 RX3 yX3_copyFrom wsX3_copyFrom) := goodIn_app (goodIn_of _ (by decide +kernel)) ggX2_copyFrom_X3_copyFrom
set_option maxRecDepth 20000 in
theorem ggX2_copyFrom_X4_copyRow : GoodIn wsX2_copyFrom wsX4_copyRow := goodIn_r _ [20, 21, 22, 23, 24, 25, 26, 27, 28] (by decide +kernel) (by decide +kernel)
set_option maxRecDepth 20000 in
theorem gX2_copyFrom_X4_copyRow_n54 : GoodIn wsX2_copyFrom (wsX4_copyRow) := ggX2_copyFrom_X4_copyRow
theorem dX2_copyFrom_0 : decode cX2_copyFrom 0 = .ok (.aload_n 0, 1) := by decide +kernel
theorem dX2_copyFrom_1 : decode cX2_copyFrom 1 = .ok (.getfield 14, 3) := by decide +kernel
theorem dX2_copyFrom_4 : decode cX2_copyFrom 4 = .ok (.aload_n 1, 1) := by decide +kernel
theorem dX2_copyFrom_5 : decode cX2_copyFrom 5 = .ok (.getfield 14, 3) := by decide +kernel
theorem dX2_copyFrom_8 : decode cX2_copyFrom 8 = .ok (.invokevirtual 50, 3) := by decide +kernel
theorem dX2_copyFrom_11 : decode cX2_copyFrom 11 = .ok (.aload_n 0, 1) := by decide +kernel
theorem dX2_copyFrom_12 : decode cX2_copyFrom 12 = .ok (.getfield 20, 3) := by decide +kernel
theorem dX2_copyFrom_15 : decode cX2_copyFrom 15 = .ok (.aload_n 1, 1) := by decide +kernel
theorem dX2_copyFrom_16 : decode cX2_copyFrom 16 = .ok (.getfield 20, 3) := by decide +kernel
theorem dX2_copyFrom_19 : decode cX2_copyFrom 19 = .ok (.invokevirtual 50, 3) := by decide +kernel
theorem dX2_copyFrom_22 : decode cX2_copyFrom 22 = .ok (.aload_n 1, 1) := by decide +kernel
theorem dX2_copyFrom_23 : decode cX2_copyFrom 23 = .ok (.getfield 23, 3) := by decide +kernel
theorem dX2_copyFrom_26 : decode cX2_copyFrom 26 = .ok (.aload_n 0, 1) := by decide +kernel
theorem dX2_copyFrom_27 : decode cX2_copyFrom 27 = .ok (.getfield 23, 3) := by decide +kernel
theorem dX2_copyFrom_30 : decode cX2_copyFrom 30 = .ok (.invokestatic 54, 3) := by decide +kernel
theorem dX2_copyFrom_33 : decode cX2_copyFrom 33 = .ok (.aload_n 0, 1) := by decide +kernel
theorem dX2_copyFrom_34 : decode cX2_copyFrom 34 = .ok (.aload_n 1, 1) := by decide +kernel
theorem dX2_copyFrom_35 : decode cX2_copyFrom 35 = .ok (.getfield 33, 3) := by decide +kernel
theorem dX2_copyFrom_38 : decode cX2_copyFrom 38 = .ok (.putfield 33, 3) := by decide +kernel
theorem dX2_copyFrom_41 : decode cX2_copyFrom 41 = .ok (.aload_n 0, 1) := by decide +kernel
theorem dX2_copyFrom_42 : decode cX2_copyFrom 42 = .ok (.aload_n 1, 1) := by decide +kernel
theorem dX2_copyFrom_43 : decode cX2_copyFrom 43 = .ok (.getfield 37, 3) := by decide +kernel
theorem dX2_copyFrom_46 : decode cX2_copyFrom 46 = .ok (.putfield 37, 3) := by decide +kernel
theorem dX2_copyFrom_49 : decode cX2_copyFrom 49 = .ok (.aload_n 0, 1) := by decide +kernel
theorem dX2_copyFrom_50 : decode cX2_copyFrom 50 = .ok (.aload_n 1, 1) := by decide +kernel
theorem dX2_copyFrom_51 : decode cX2_copyFrom 51 = .ok (.getfield 58, 3) := by decide +kernel
theorem dX2_copyFrom_54 : decode cX2_copyFrom 54 = .ok (.putfield 58, 3) := by decide +kernel
theorem dX2_copyFrom_57 : decode cX2_copyFrom 57 = .ok (.aload_n 0, 1) := by decide +kernel
theorem dX2_copyFrom_58 : decode cX2_copyFrom 58 = .ok (.aload_n 1, 1) := by decide +kernel
theorem dX2_copyFrom_59 : decode cX2_copyFrom 59 = .ok (.getfield 61, 3) := by decide +kernel
theorem dX2_copyFrom_62 : decode cX2_copyFrom 62 = .ok (.putfield 61, 3) := by decide +kernel
theorem dX2_copyFrom_65 : decode cX2_copyFrom 65 = .ok (.aload_n 0, 1) := by decide +kernel
theorem dX2_copyFrom_66 : decode cX2_copyFrom 66 = .ok (.aload_n 1, 1) := by decide +kernel
theorem dX2_copyFrom_67 : decode cX2_copyFrom 67 = .ok (.getfield 64, 3) := by decide +kernel
theorem dX2_copyFrom_70 : decode cX2_copyFrom 70 = .ok (.putfield 64, 3) := by decide +kernel
theorem dX2_copyFrom_73 : decode cX2_copyFrom 73 = .ok (.return_, 1) := by decide +kernel
theorem dX2_cases_0 : decode cX2_cases 0 = .ok (.iconst 2, 1) := by decide +kernel
theorem dX2_cases_1 : decode cX2_cases 1 = .ok (.aload_n 0, 1) := by decide +kernel
theorem dX2_cases_2 : decode cX2_cases 2 = .ok (.getfield 33, 3) := by decide +kernel
theorem dX2_cases_5 : decode cX2_cases 5 = .ok (.imul, 1) := by decide +kernel
theorem dX2_cases_6 : decode cX2_cases 6 = .ok (.iconst 1, 1) := by decide +kernel
theorem dX2_cases_7 : decode cX2_cases 7 = .ok (.iadd, 1) := by decide +kernel
theorem dX2_cases_8 : decode cX2_cases 8 = .ok (.ireturn, 1) := by decide +kernel
set_option maxRecDepth 20000 in
theorem ggX2_isCase_X2_cases : GoodIn wsX2_isCase wsX2_cases := goodIn_r _ [5, 6, 7, 8, 9, 10, 11, 12, 13, 14, 15] (by decide +kernel) (by decide +kernel)
set_option maxRecDepth 20000 in
theorem gX2_isCase_X2_cases : GoodIn wsX2_isCase (wsV RX2 67 RX2 yX2_cases wsX2_cases) := goodIn_app (goodIn_of _ (by decide +kernel)) ggX2_isCase_X2_cases
theorem dX2_isCase_0 : decode cX2_isCase 0 = .ok (.iload_n 1, 1) := by decide +kernel
theorem dX2_isCase_1 : decode cX2_isCase 1 = .ok (.ifCond .lt 15, 3) := by decide +kernel
theorem dX2_isCase_4 : decode cX2_isCase 4 = .ok (.iload_n 1, 1) := by decide +kernel
theorem dX2_isCase_5 : decode cX2_isCase 5 = .ok (.aload_n 0, 1) := by decide +kernel
theorem dX2_isCase_6 : decode cX2_isCase 6 = .ok (.invokevirtual 67, 3) := by decide +kernel
theorem dX2_isCase_9 : decode cX2_isCase 9 = .ok (.if_icmp .ge 7, 3) := by decide +kernel
theorem dX2_isCase_12 : decode cX2_isCase 12 = .ok (.iconst 1, 1) := by decide +kernel
theorem dX2_isCase_13 : decode cX2_isCase 13 = .ok (.goto 4, 3) := by decide +kernel
theorem dX2_isCase_16 : decode cX2_isCase 16 = .ok (.iconst 0, 1) := by decide +kernel
theorem dX2_isCase_17 : decode cX2_isCase 17 = .ok (.ireturn, 1) := by decide +kernel
set_option maxRecDepth 20000 in
theorem ggX2_isWeighing_J6_bitCount_0f7a4 : GoodIn wsX2_isWeighing wsJ6_bitCount_0f7a4 := goodIn_r _ [5, 6, 7, 8] (by decide +kernel) (by decide +kernel)
set_option maxRecDepth 20000 in
theorem gX2_isWeighing_J6_bitCount_0f7a4 : GoodIn wsX2_isWeighing (va_wsS RX2 71 yJ6_bitCount_0f7a4 wsJ6_bitCount_0f7a4) := goodIn_app (goodIn_of _ (by decide +kernel)) ggX2_isWeighing_J6_bitCount_0f7a4
theorem dX2_isWeighing_0 : decode cX2_isWeighing 0 = .ok (.iload_n 1, 1) := by decide +kernel
theorem dX2_isWeighing_1 : decode cX2_isWeighing 1 = .ok (.ifCond .eq 35, 3) := by decide +kernel
theorem dX2_isWeighing_4 : decode cX2_isWeighing 4 = .ok (.iload_n 1, 1) := by decide +kernel
theorem dX2_isWeighing_5 : decode cX2_isWeighing 5 = .ok (.iload_n 2, 1) := by decide +kernel
theorem dX2_isWeighing_6 : decode cX2_isWeighing 6 = .ok (.iand, 1) := by decide +kernel
theorem dX2_isWeighing_7 : decode cX2_isWeighing 7 = .ok (.ifCond .ne 29, 3) := by decide +kernel
theorem dX2_isWeighing_10 : decode cX2_isWeighing 10 = .ok (.iload_n 1, 1) := by decide +kernel
theorem dX2_isWeighing_11 : decode cX2_isWeighing 11 = .ok (.iload_n 2, 1) := by decide +kernel
theorem dX2_isWeighing_12 : decode cX2_isWeighing 12 = .ok (.ior, 1) := by decide +kernel
theorem dX2_isWeighing_13 : decode cX2_isWeighing 13 = .ok (.aload_n 0, 1) := by decide +kernel
theorem dX2_isWeighing_14 : decode cX2_isWeighing 14 = .ok (.getfield 33, 3) := by decide +kernel
theorem dX2_isWeighing_17 : decode cX2_isWeighing 17 = .ok (.iushr, 1) := by decide +kernel
theorem dX2_isWeighing_18 : decode cX2_isWeighing 18 = .ok (.ifCond .ne 18, 3) := by decide +kernel
theorem dX2_isWeighing_21 : decode cX2_isWeighing 21 = .ok (.iload_n 1, 1) := by decide +kernel
theorem dX2_isWeighing_22 : decode cX2_isWeighing 22 = .ok (.invokestatic 71, 3) := by decide +kernel
theorem dX2_isWeighing_25 : decode cX2_isWeighing 25 = .ok (.iload_n 2, 1) := by decide +kernel
theorem dX2_isWeighing_26 : decode cX2_isWeighing 26 = .ok (.invokestatic 71, 3) := by decide +kernel
theorem dX2_isWeighing_29 : decode cX2_isWeighing 29 = .ok (.if_icmp .ne 7, 3) := by decide +kernel
theorem dX2_isWeighing_32 : decode cX2_isWeighing 32 = .ok (.iconst 1, 1) := by decide +kernel
theorem dX2_isWeighing_33 : decode cX2_isWeighing 33 = .ok (.goto 4, 3) := by decide +kernel
theorem dX2_isWeighing_36 : decode cX2_isWeighing 36 = .ok (.iconst 0, 1) := by decide +kernel
theorem dX2_isWeighing_37 : decode cX2_isWeighing 37 = .ok (.ireturn, 1) := by decide +kernel
theorem dX2_canLearn_0 : decode cX2_canLearn 0 = .ok (.aload_n 0, 1) := by decide +kernel
theorem dX2_canLearn_1 : decode cX2_canLearn 1 = .ok (.getfield 14, 3) := by decide +kernel
theorem dX2_canLearn_4 : decode cX2_canLearn 4 = .ok (.getfield 40, 3) := by decide +kernel
theorem dX2_canLearn_7 : decode cX2_canLearn 7 = .ok (.bipush 40, 2) := by decide +kernel
theorem dX2_canLearn_9 : decode cX2_canLearn 9 = .ok (.if_icmp .ge 7, 3) := by decide +kernel
theorem dX2_canLearn_12 : decode cX2_canLearn 12 = .ok (.iconst 1, 1) := by decide +kernel
theorem dX2_canLearn_13 : decode cX2_canLearn 13 = .ok (.goto 4, 3) := by decide +kernel
theorem dX2_canLearn_16 : decode cX2_canLearn 16 = .ok (.iconst 0, 1) := by decide +kernel
theorem dX2_canLearn_17 : decode cX2_canLearn 17 = .ok (.ireturn, 1) := by decide +kernel
set_option maxRecDepth 20000 in
theorem ggX2_learn_X3_write : GoodIn wsX2_learn wsX3_write := goodIn_r _ [7, 8, 9, 10, 11, 12, 13, 14, 41, 42, 43, 44] (by decide +kernel) (by decide +kernel)
set_option maxRecDepth 20000 in
theorem gX2_learn_X3_write : GoodIn wsX2_learn (wsV RX2 77 RX3 yX3_write wsX3_write) := goodIn_app (goodIn_of _ (by decide +kernel)) ggX2_learn_X3_write
set_option maxRecDepth 20000 in
theorem ggX2_learn_X2_cases : GoodIn wsX2_learn wsX2_cases := goodIn_r _ [19, 20, 32, 33, 34, 35, 36, 37, 38, 39, 40] (by decide +kernel) (by decide +kernel)
set_option maxRecDepth 20000 in
theorem gX2_learn_X2_cases : GoodIn wsX2_learn (wsV RX2 67 RX2 yX2_cases wsX2_cases) := goodIn_app (goodIn_of _ (by decide +kernel)) ggX2_learn_X2_cases
set_option maxRecDepth 20000 in
theorem ggX2_learn_X2_liesIfTold : GoodIn wsX2_learn wsX2_liesIfTold := goodIn_r _ [24, 2, 25, 13, 26, 27, 28, 29, 30, 31, 32, 33, 34, 35, 36, 37, 38, 39, 40] (by decide +kernel) (by decide +kernel)
set_option maxRecDepth 20000 in
theorem gX2_learn_X2_liesIfTold : GoodIn wsX2_learn (wsV RX2 81 RX2 yX2_liesIfTold wsX2_liesIfTold) := goodIn_app (goodIn_of _ (by decide +kernel)) ggX2_learn_X2_liesIfTold
set_option maxRecDepth 20000 in
theorem ggX2_learn_X4_put : GoodIn wsX2_learn wsX4_put := goodIn_r _ [14] (by decide +kernel) (by decide +kernel)
set_option maxRecDepth 20000 in
theorem gX2_learn_X4_put_n85 : GoodIn wsX2_learn (wsX4_put) := ggX2_learn_X4_put
theorem dX2_learn_0 : decode cX2_learn 0 = .ok (.aload_n 0, 1) := by decide +kernel
theorem dX2_learn_1 : decode cX2_learn 1 = .ok (.getfield 14, 3) := by decide +kernel
theorem dX2_learn_4 : decode cX2_learn 4 = .ok (.iload_n 1, 1) := by decide +kernel
theorem dX2_learn_5 : decode cX2_learn 5 = .ok (.iload_n 2, 1) := by decide +kernel
theorem dX2_learn_6 : decode cX2_learn 6 = .ok (.iload_n 3, 1) := by decide +kernel
theorem dX2_learn_7 : decode cX2_learn 7 = .ok (.invokevirtual 77, 3) := by decide +kernel
theorem dX2_learn_10 : decode cX2_learn 10 = .ok (.iconst 0, 1) := by decide +kernel
theorem dX2_learn_11 : decode cX2_learn 11 = .ok (.istore 4, 2) := by decide +kernel
theorem dX2_learn_13 : decode cX2_learn 13 = .ok (.iload 4, 2) := by decide +kernel
theorem dX2_learn_15 : decode cX2_learn 15 = .ok (.aload_n 0, 1) := by decide +kernel
theorem dX2_learn_16 : decode cX2_learn 16 = .ok (.invokevirtual 67, 3) := by decide +kernel
theorem dX2_learn_19 : decode cX2_learn 19 = .ok (.if_icmp .ge 27, 3) := by decide +kernel
theorem dX2_learn_22 : decode cX2_learn 22 = .ok (.aload_n 0, 1) := by decide +kernel
theorem dX2_learn_23 : decode cX2_learn 23 = .ok (.getfield 23, 3) := by decide +kernel
theorem dX2_learn_26 : decode cX2_learn 26 = .ok (.iload 4, 2) := by decide +kernel
theorem dX2_learn_28 : decode cX2_learn 28 = .ok (.aload_n 0, 1) := by decide +kernel
theorem dX2_learn_29 : decode cX2_learn 29 = .ok (.iload 4, 2) := by decide +kernel
theorem dX2_learn_31 : decode cX2_learn 31 = .ok (.iload_n 1, 1) := by decide +kernel
theorem dX2_learn_32 : decode cX2_learn 32 = .ok (.iload_n 2, 1) := by decide +kernel
theorem dX2_learn_33 : decode cX2_learn 33 = .ok (.iload_n 3, 1) := by decide +kernel
theorem dX2_learn_34 : decode cX2_learn 34 = .ok (.invokevirtual 81, 3) := by decide +kernel
theorem dX2_learn_37 : decode cX2_learn 37 = .ok (.invokestatic 85, 3) := by decide +kernel
theorem dX2_learn_40 : decode cX2_learn 40 = .ok (.iinc 4 1, 3) := by decide +kernel
theorem dX2_learn_43 : decode cX2_learn 43 = .ok (.goto (-30), 3) := by decide +kernel
theorem dX2_learn_46 : decode cX2_learn 46 = .ok (.return_, 1) := by decide +kernel
set_option maxRecDepth 20000 in
theorem ggX2_liesIfTold_X4_at : GoodIn wsX2_liesIfTold wsX4_at := goodIn_r _ [4] (by decide +kernel) (by decide +kernel)
set_option maxRecDepth 20000 in
theorem gX2_liesIfTold_X4_at_n89 : GoodIn wsX2_liesIfTold (wsX4_at) := ggX2_liesIfTold_X4_at
set_option maxRecDepth 20000 in
theorem ggX2_liesIfTold_X4_trueAnswer : GoodIn wsX2_liesIfTold wsX4_trueAnswer := goodIn_r _ [6, 7, 8, 3, 9] (by decide +kernel) (by decide +kernel)
set_option maxRecDepth 20000 in
theorem gX2_liesIfTold_X4_trueAnswer_n93 : GoodIn wsX2_liesIfTold (wsX4_trueAnswer) := ggX2_liesIfTold_X4_trueAnswer
theorem dX2_liesIfTold_0 : decode cX2_liesIfTold 0 = .ok (.aload_n 0, 1) := by decide +kernel
theorem dX2_liesIfTold_1 : decode cX2_liesIfTold 1 = .ok (.getfield 23, 3) := by decide +kernel
theorem dX2_liesIfTold_4 : decode cX2_liesIfTold 4 = .ok (.iload_n 1, 1) := by decide +kernel
theorem dX2_liesIfTold_5 : decode cX2_liesIfTold 5 = .ok (.invokestatic 89, 3) := by decide +kernel
theorem dX2_liesIfTold_8 : decode cX2_liesIfTold 8 = .ok (.istore 5, 2) := by decide +kernel
theorem dX2_liesIfTold_10 : decode cX2_liesIfTold 10 = .ok (.iload_n 1, 1) := by decide +kernel
theorem dX2_liesIfTold_11 : decode cX2_liesIfTold 11 = .ok (.iload_n 2, 1) := by decide +kernel
theorem dX2_liesIfTold_12 : decode cX2_liesIfTold 12 = .ok (.iload_n 3, 1) := by decide +kernel
theorem dX2_liesIfTold_13 : decode cX2_liesIfTold 13 = .ok (.invokestatic 93, 3) := by decide +kernel
theorem dX2_liesIfTold_16 : decode cX2_liesIfTold 16 = .ok (.iload 4, 2) := by decide +kernel
theorem dX2_liesIfTold_18 : decode cX2_liesIfTold 18 = .ok (.if_icmp .ne 8, 3) := by decide +kernel
theorem dX2_liesIfTold_21 : decode cX2_liesIfTold 21 = .ok (.iload 5, 2) := by decide +kernel
theorem dX2_liesIfTold_23 : decode cX2_liesIfTold 23 = .ok (.goto 7, 3) := by decide +kernel
theorem dX2_liesIfTold_26 : decode cX2_liesIfTold 26 = .ok (.iload 5, 2) := by decide +kernel
theorem dX2_liesIfTold_28 : decode cX2_liesIfTold 28 = .ok (.iconst 1, 1) := by decide +kernel
theorem dX2_liesIfTold_29 : decode cX2_liesIfTold 29 = .ok (.iadd, 1) := by decide +kernel
theorem dX2_liesIfTold_30 : decode cX2_liesIfTold 30 = .ok (.ireturn, 1) := by decide +kernel
set_option maxRecDepth 20000 in
theorem ggX2_forgetTold_X4_put : GoodIn wsX2_forgetTold wsX4_put := goodIn_r _ [5] (by decide +kernel) (by decide +kernel)
set_option maxRecDepth 20000 in
theorem gX2_forgetTold_X4_put_n85 : GoodIn wsX2_forgetTold (wsX4_put) := ggX2_forgetTold_X4_put
theorem dX2_forgetTold_0 : decode cX2_forgetTold 0 = .ok (.aload_n 0, 1) := by decide +kernel
theorem dX2_forgetTold_1 : decode cX2_forgetTold 1 = .ok (.getfield 14, 3) := by decide +kernel
theorem dX2_forgetTold_4 : decode cX2_forgetTold 4 = .ok (.iconst 0, 1) := by decide +kernel
theorem dX2_forgetTold_5 : decode cX2_forgetTold 5 = .ok (.putfield 40, 3) := by decide +kernel
theorem dX2_forgetTold_8 : decode cX2_forgetTold 8 = .ok (.iconst 0, 1) := by decide +kernel
theorem dX2_forgetTold_9 : decode cX2_forgetTold 9 = .ok (.istore_n 1, 1) := by decide +kernel
theorem dX2_forgetTold_10 : decode cX2_forgetTold 10 = .ok (.iload_n 1, 1) := by decide +kernel
theorem dX2_forgetTold_11 : decode cX2_forgetTold 11 = .ok (.bipush 33, 2) := by decide +kernel
theorem dX2_forgetTold_13 : decode cX2_forgetTold 13 = .ok (.if_icmp .ge 18, 3) := by decide +kernel
theorem dX2_forgetTold_16 : decode cX2_forgetTold 16 = .ok (.aload_n 0, 1) := by decide +kernel
theorem dX2_forgetTold_17 : decode cX2_forgetTold 17 = .ok (.getfield 23, 3) := by decide +kernel
theorem dX2_forgetTold_20 : decode cX2_forgetTold 20 = .ok (.iload_n 1, 1) := by decide +kernel
theorem dX2_forgetTold_21 : decode cX2_forgetTold 21 = .ok (.iconst 0, 1) := by decide +kernel
theorem dX2_forgetTold_22 : decode cX2_forgetTold 22 = .ok (.invokestatic 85, 3) := by decide +kernel
theorem dX2_forgetTold_25 : decode cX2_forgetTold 25 = .ok (.iinc 1 1, 3) := by decide +kernel
theorem dX2_forgetTold_28 : decode cX2_forgetTold 28 = .ok (.goto (-18), 3) := by decide +kernel
theorem dX2_forgetTold_31 : decode cX2_forgetTold 31 = .ok (.return_, 1) := by decide +kernel
theorem dX2_hideCase_0 : decode cX2_hideCase 0 = .ok (.aload_n 0, 1) := by decide +kernel
theorem dX2_hideCase_1 : decode cX2_hideCase 1 = .ok (.iload_n 1, 1) := by decide +kernel
theorem dX2_hideCase_2 : decode cX2_hideCase 2 = .ok (.putfield 58, 3) := by decide +kernel
theorem dX2_hideCase_5 : decode cX2_hideCase 5 = .ok (.aload_n 0, 1) := by decide +kernel
theorem dX2_hideCase_6 : decode cX2_hideCase 6 = .ok (.iload_n 2, 1) := by decide +kernel
theorem dX2_hideCase_7 : decode cX2_hideCase 7 = .ok (.putfield 61, 3) := by decide +kernel
theorem dX2_hideCase_10 : decode cX2_hideCase 10 = .ok (.aload_n 0, 1) := by decide +kernel
theorem dX2_hideCase_11 : decode cX2_hideCase 11 = .ok (.iconst 0, 1) := by decide +kernel
theorem dX2_hideCase_12 : decode cX2_hideCase 12 = .ok (.putfield 64, 3) := by decide +kernel
theorem dX2_hideCase_15 : decode cX2_hideCase 15 = .ok (.return_, 1) := by decide +kernel
set_option maxRecDepth 20000 in
theorem ggX2_canReply_X2_canLearn : GoodIn wsX2_canReply wsX2_canLearn := goodIn_r _ [7, 8, 9, 10, 11, 12, 13, 14, 15, 16, 17, 18, 19, 20, 21] (by decide +kernel) (by decide +kernel)
set_option maxRecDepth 20000 in
theorem gX2_canReply_X2_canLearn : GoodIn wsX2_canReply (wsV RX2 97 RX2 yX2_canLearn wsX2_canLearn) := goodIn_app (goodIn_of _ (by decide +kernel)) ggX2_canReply_X2_canLearn
theorem dX2_canReply_0 : decode cX2_canReply 0 = .ok (.aload_n 0, 1) := by decide +kernel
theorem dX2_canReply_1 : decode cX2_canReply 1 = .ok (.getfield 58, 3) := by decide +kernel
theorem dX2_canReply_4 : decode cX2_canReply 4 = .ok (.iconst (-1), 1) := by decide +kernel
theorem dX2_canReply_5 : decode cX2_canReply 5 = .ok (.if_icmp .eq 23, 3) := by decide +kernel
theorem dX2_canReply_8 : decode cX2_canReply 8 = .ok (.aload_n 0, 1) := by decide +kernel
theorem dX2_canReply_9 : decode cX2_canReply 9 = .ok (.invokevirtual 97, 3) := by decide +kernel
theorem dX2_canReply_12 : decode cX2_canReply 12 = .ok (.ifCond .eq 16, 3) := by decide +kernel
theorem dX2_canReply_15 : decode cX2_canReply 15 = .ok (.aload_n 0, 1) := by decide +kernel
theorem dX2_canReply_16 : decode cX2_canReply 16 = .ok (.getfield 64, 3) := by decide +kernel
theorem dX2_canReply_19 : decode cX2_canReply 19 = .ok (.bipush 30, 2) := by decide +kernel
theorem dX2_canReply_21 : decode cX2_canReply 21 = .ok (.if_icmp .ge 7, 3) := by decide +kernel
theorem dX2_canReply_24 : decode cX2_canReply 24 = .ok (.iconst 1, 1) := by decide +kernel
theorem dX2_canReply_25 : decode cX2_canReply 25 = .ok (.goto 4, 3) := by decide +kernel
theorem dX2_canReply_28 : decode cX2_canReply 28 = .ok (.iconst 0, 1) := by decide +kernel
theorem dX2_canReply_29 : decode cX2_canReply 29 = .ok (.ireturn, 1) := by decide +kernel
set_option maxRecDepth 20000 in
theorem ggX2_reply_X4_trueAnswer : GoodIn wsX2_reply wsX4_trueAnswer := goodIn_r _ [6, 7, 8, 5, 9] (by decide +kernel) (by decide +kernel)
set_option maxRecDepth 20000 in
theorem gX2_reply_X4_trueAnswer_n93 : GoodIn wsX2_reply (wsX4_trueAnswer) := ggX2_reply_X4_trueAnswer
set_option maxRecDepth 20000 in
theorem ggX2_reply_X2_learn : GoodIn wsX2_reply wsX2_learn := goodIn_r _ [14, 15, 16, 17, 18, 19, 20, 21, 22, 23, 24, 25, 26, 5, 27, 28, 29, 30, 13, 31, 32, 33, 34, 35, 36, 37, 38, 4, 6, 7, 8, 9, 39, 40, 41, 42, 43, 44, 45, 46, 47, 48, 49, 50, 51] (by decide +kernel) (by decide +kernel)
set_option maxRecDepth 20000 in
theorem gX2_reply_X2_learn : GoodIn wsX2_reply (wsV RX2 101 RX2 yX2_learn wsX2_learn) := goodIn_app (goodIn_of _ (by decide +kernel)) ggX2_reply_X2_learn
theorem dX2_reply_0 : decode cX2_reply 0 = .ok (.aload_n 0, 1) := by decide +kernel
theorem dX2_reply_1 : decode cX2_reply 1 = .ok (.getfield 58, 3) := by decide +kernel
theorem dX2_reply_4 : decode cX2_reply 4 = .ok (.iload_n 1, 1) := by decide +kernel
theorem dX2_reply_5 : decode cX2_reply 5 = .ok (.iload_n 2, 1) := by decide +kernel
theorem dX2_reply_6 : decode cX2_reply 6 = .ok (.invokestatic 93, 3) := by decide +kernel
theorem dX2_reply_9 : decode cX2_reply 9 = .ok (.istore_n 3, 1) := by decide +kernel
theorem dX2_reply_10 : decode cX2_reply 10 = .ok (.aload_n 0, 1) := by decide +kernel
theorem dX2_reply_11 : decode cX2_reply 11 = .ok (.getfield 61, 3) := by decide +kernel
theorem dX2_reply_14 : decode cX2_reply 14 = .ok (.aload_n 0, 1) := by decide +kernel
theorem dX2_reply_15 : decode cX2_reply 15 = .ok (.getfield 64, 3) := by decide +kernel
theorem dX2_reply_18 : decode cX2_reply 18 = .ok (.iushr, 1) := by decide +kernel
theorem dX2_reply_19 : decode cX2_reply 19 = .ok (.iconst 1, 1) := by decide +kernel
theorem dX2_reply_20 : decode cX2_reply 20 = .ok (.iand, 1) := by decide +kernel
theorem dX2_reply_21 : decode cX2_reply 21 = .ok (.iconst 1, 1) := by decide +kernel
theorem dX2_reply_22 : decode cX2_reply 22 = .ok (.if_icmp .ne 16, 3) := by decide +kernel
theorem dX2_reply_25 : decode cX2_reply 25 = .ok (.iload_n 3, 1) := by decide +kernel
theorem dX2_reply_26 : decode cX2_reply 26 = .ok (.iconst 2, 1) := by decide +kernel
theorem dX2_reply_27 : decode cX2_reply 27 = .ok (.if_icmp .ne 7, 3) := by decide +kernel
theorem dX2_reply_30 : decode cX2_reply 30 = .ok (.iconst 0, 1) := by decide +kernel
theorem dX2_reply_31 : decode cX2_reply 31 = .ok (.goto 6, 3) := by decide +kernel
theorem dX2_reply_34 : decode cX2_reply 34 = .ok (.iload_n 3, 1) := by decide +kernel
theorem dX2_reply_35 : decode cX2_reply 35 = .ok (.iconst 1, 1) := by decide +kernel
theorem dX2_reply_36 : decode cX2_reply 36 = .ok (.iadd, 1) := by decide +kernel
theorem dX2_reply_37 : decode cX2_reply 37 = .ok (.istore_n 3, 1) := by decide +kernel
theorem dX2_reply_38 : decode cX2_reply 38 = .ok (.aload_n 0, 1) := by decide +kernel
theorem dX2_reply_39 : decode cX2_reply 39 = .ok (.dup, 1) := by decide +kernel
theorem dX2_reply_40 : decode cX2_reply 40 = .ok (.getfield 64, 3) := by decide +kernel
theorem dX2_reply_43 : decode cX2_reply 43 = .ok (.iconst 1, 1) := by decide +kernel
theorem dX2_reply_44 : decode cX2_reply 44 = .ok (.iadd, 1) := by decide +kernel
theorem dX2_reply_45 : decode cX2_reply 45 = .ok (.putfield 64, 3) := by decide +kernel
theorem dX2_reply_48 : decode cX2_reply 48 = .ok (.aload_n 0, 1) := by decide +kernel
theorem dX2_reply_49 : decode cX2_reply 49 = .ok (.iload_n 1, 1) := by decide +kernel
theorem dX2_reply_50 : decode cX2_reply 50 = .ok (.iload_n 2, 1) := by decide +kernel
theorem dX2_reply_51 : decode cX2_reply 51 = .ok (.iload_n 3, 1) := by decide +kernel
theorem dX2_reply_52 : decode cX2_reply 52 = .ok (.invokevirtual 101, 3) := by decide +kernel
theorem dX2_reply_55 : decode cX2_reply 55 = .ok (.iload_n 3, 1) := by decide +kernel
theorem dX2_reply_56 : decode cX2_reply 56 = .ok (.ireturn, 1) := by decide +kernel
theorem dX2_canPlan_0 : decode cX2_canPlan 0 = .ok (.aload_n 0, 1) := by decide +kernel
theorem dX2_canPlan_1 : decode cX2_canPlan 1 = .ok (.getfield 20, 3) := by decide +kernel
theorem dX2_canPlan_4 : decode cX2_canPlan 4 = .ok (.getfield 40, 3) := by decide +kernel
theorem dX2_canPlan_7 : decode cX2_canPlan 7 = .ok (.bipush 8, 2) := by decide +kernel
theorem dX2_canPlan_9 : decode cX2_canPlan 9 = .ok (.if_icmp .ge 7, 3) := by decide +kernel
theorem dX2_canPlan_12 : decode cX2_canPlan 12 = .ok (.iconst 1, 1) := by decide +kernel
theorem dX2_canPlan_13 : decode cX2_canPlan 13 = .ok (.goto 4, 3) := by decide +kernel
theorem dX2_canPlan_16 : decode cX2_canPlan 16 = .ok (.iconst 0, 1) := by decide +kernel
theorem dX2_canPlan_17 : decode cX2_canPlan 17 = .ok (.ireturn, 1) := by decide +kernel
set_option maxRecDepth 20000 in
theorem ggX2_planWeighing_X3_write : GoodIn wsX2_planWeighing wsX3_write := goodIn_r _ [6, 7, 8, 9, 10, 11, 12, 13, 23, 24, 25, 26] (by decide +kernel) (by decide +kernel)
set_option maxRecDepth 20000 in
theorem gX2_planWeighing_X3_write : GoodIn wsX2_planWeighing (wsV RX2 77 RX3 yX3_write wsX3_write) := goodIn_app (goodIn_of _ (by decide +kernel)) ggX2_planWeighing_X3_write
theorem dX2_planWeighing_0 : decode cX2_planWeighing 0 = .ok (.aload_n 0, 1) := by decide +kernel
theorem dX2_planWeighing_1 : decode cX2_planWeighing 1 = .ok (.getfield 20, 3) := by decide +kernel
theorem dX2_planWeighing_4 : decode cX2_planWeighing 4 = .ok (.iload_n 1, 1) := by decide +kernel
theorem dX2_planWeighing_5 : decode cX2_planWeighing 5 = .ok (.iload_n 2, 1) := by decide +kernel
theorem dX2_planWeighing_6 : decode cX2_planWeighing 6 = .ok (.iconst 2, 1) := by decide +kernel
theorem dX2_planWeighing_7 : decode cX2_planWeighing 7 = .ok (.invokevirtual 77, 3) := by decide +kernel
theorem dX2_planWeighing_10 : decode cX2_planWeighing 10 = .ok (.return_, 1) := by decide +kernel
set_option maxRecDepth 20000 in
theorem ggX2_obey_X2_isWeighing : GoodIn wsX2_obey wsX2_isWeighing := goodIn_r _ [5, 6, 7, 8, 9, 10, 11, 12, 13, 75, 76, 77, 78, 79, 80, 81, 82, 83] (by decide +kernel) (by decide +kernel)
set_option maxRecDepth 20000 in
theorem gX2_obey_X2_isWeighing : GoodIn wsX2_obey (wsV RX2 104 RX2 yX2_isWeighing wsX2_isWeighing) := goodIn_app (goodIn_of _ (by decide +kernel)) ggX2_obey_X2_isWeighing
set_option maxRecDepth 20000 in
theorem ggX2_obey_X2_canDo : GoodIn wsX2_obey wsX2_canDo := goodIn_r _ [17, 18, 19, 20, 4, 21, 22, 23, 24, 25, 26, 27, 28, 29, 30, 31, 32, 33, 75, 76, 77, 78, 79, 80, 81, 82, 83, 84, 85, 86, 87] (by decide +kernel) (by decide +kernel)
set_option maxRecDepth 20000 in
theorem gX2_obey_X2_canDo : GoodIn wsX2_obey (wsV RX2 108 RX2 yX2_canDo wsX2_canDo) := goodIn_app (goodIn_of _ (by decide +kernel)) ggX2_obey_X2_canDo
set_option maxRecDepth 20000 in
theorem ggX2_obey_X2_reply : GoodIn wsX2_obey wsX2_reply := goodIn_r _ [37, 22, 38, 23, 39, 40, 41, 42, 43, 44, 45, 46, 47, 4, 48, 28, 49, 50, 51, 52, 53, 54, 55, 56, 57, 58, 59, 60, 61, 62, 63, 64, 6, 65, 66, 67, 68, 69, 70, 75, 76, 77, 78, 79, 80, 81, 82, 83, 84, 85, 86, 87] (by decide +kernel) (by decide +kernel)
set_option maxRecDepth 20000 in
theorem gX2_obey_X2_reply : GoodIn wsX2_obey (wsV RX2 112 RX2 yX2_reply wsX2_reply) := goodIn_app (goodIn_of _ (by decide +kernel)) ggX2_obey_X2_reply
set_option maxRecDepth 20000 in
theorem ggX2_obey_X2_planWeighing : GoodIn wsX2_obey wsX2_planWeighing := goodIn_r _ [74, 33, 50, 51, 52, 53, 54, 55, 56, 57, 58, 59, 40, 60, 75, 76, 77, 78, 79, 80, 81, 82, 83, 84, 85, 86, 87] (by decide +kernel) (by decide +kernel)
set_option maxRecDepth 20000 in
theorem gX2_obey_X2_planWeighing : GoodIn wsX2_obey (wsV RX2 116 RX2 yX2_planWeighing wsX2_planWeighing) := goodIn_app (goodIn_of _ (by decide +kernel)) ggX2_obey_X2_planWeighing
set_option maxRecDepth 20000 in
theorem ggX2_obey_X2_learn : GoodIn wsX2_obey wsX2_learn := goodIn_r _ [48, 28, 49, 50, 51, 52, 53, 54, 55, 56, 57, 58, 59, 40, 60, 61, 62, 63, 4, 64, 6, 65, 66, 67, 68, 69, 70, 39, 41, 42, 43, 44, 75, 76, 77, 78, 79, 80, 81, 82, 83, 84, 85, 86, 87] (by decide +kernel) (by decide +kernel)
set_option maxRecDepth 20000 in
theorem gX2_obey_X2_learn : GoodIn wsX2_obey (wsV RX2 101 RX2 yX2_learn wsX2_learn) := goodIn_app (goodIn_of _ (by decide +kernel)) ggX2_obey_X2_learn
theorem dX2_obey_0 : decode cX2_obey 0 = .ok (.aload_n 0, 1) := by decide +kernel
theorem dX2_obey_1 : decode cX2_obey 1 = .ok (.iload_n 1, 1) := by decide +kernel
theorem dX2_obey_2 : decode cX2_obey 2 = .ok (.iload_n 2, 1) := by decide +kernel
theorem dX2_obey_3 : decode cX2_obey 3 = .ok (.invokevirtual 104, 3) := by decide +kernel
theorem dX2_obey_6 : decode cX2_obey 6 = .ok (.ifCond .eq 11, 3) := by decide +kernel
theorem dX2_obey_9 : decode cX2_obey 9 = .ok (.aload_n 0, 1) := by decide +kernel
theorem dX2_obey_10 : decode cX2_obey 10 = .ok (.iload_n 3, 1) := by decide +kernel
theorem dX2_obey_11 : decode cX2_obey 11 = .ok (.invokevirtual 108, 3) := by decide +kernel
theorem dX2_obey_14 : decode cX2_obey 14 = .ok (.ifCond .ne 5, 3) := by decide +kernel
theorem dX2_obey_17 : decode cX2_obey 17 = .ok (.iconst 0, 1) := by decide +kernel
theorem dX2_obey_18 : decode cX2_obey 18 = .ok (.ireturn, 1) := by decide +kernel
theorem dX2_obey_19 : decode cX2_obey 19 = .ok (.iload_n 3, 1) := by decide +kernel
theorem dX2_obey_20 : decode cX2_obey 20 = .ok (.lookupswitch 47 #[(3, 28), (4, 38)], 28) := by decide +kernel
theorem dX2_obey_48 : decode cX2_obey 48 = .ok (.aload_n 0, 1) := by decide +kernel
theorem dX2_obey_49 : decode cX2_obey 49 = .ok (.iload_n 1, 1) := by decide +kernel
theorem dX2_obey_50 : decode cX2_obey 50 = .ok (.iload_n 2, 1) := by decide +kernel
theorem dX2_obey_51 : decode cX2_obey 51 = .ok (.invokevirtual 112, 3) := by decide +kernel
theorem dX2_obey_54 : decode cX2_obey 54 = .ok (.pop, 1) := by decide +kernel
theorem dX2_obey_55 : decode cX2_obey 55 = .ok (.goto 19, 3) := by decide +kernel
theorem dX2_obey_58 : decode cX2_obey 58 = .ok (.aload_n 0, 1) := by decide +kernel
theorem dX2_obey_59 : decode cX2_obey 59 = .ok (.iload_n 1, 1) := by decide +kernel
theorem dX2_obey_60 : decode cX2_obey 60 = .ok (.iload_n 2, 1) := by decide +kernel
theorem dX2_obey_61 : decode cX2_obey 61 = .ok (.invokevirtual 116, 3) := by decide +kernel
theorem dX2_obey_64 : decode cX2_obey 64 = .ok (.goto 10, 3) := by decide +kernel
theorem dX2_obey_67 : decode cX2_obey 67 = .ok (.aload_n 0, 1) := by decide +kernel
theorem dX2_obey_68 : decode cX2_obey 68 = .ok (.iload_n 1, 1) := by decide +kernel
theorem dX2_obey_69 : decode cX2_obey 69 = .ok (.iload_n 2, 1) := by decide +kernel
theorem dX2_obey_70 : decode cX2_obey 70 = .ok (.iload_n 3, 1) := by decide +kernel
theorem dX2_obey_71 : decode cX2_obey 71 = .ok (.invokevirtual 101, 3) := by decide +kernel
theorem dX2_obey_74 : decode cX2_obey 74 = .ok (.iconst 1, 1) := by decide +kernel
theorem dX2_obey_75 : decode cX2_obey 75 = .ok (.ireturn, 1) := by decide +kernel
set_option maxRecDepth 20000 in
theorem ggX2_canDo_X2_canReply : GoodIn wsX2_canDo wsX2_canReply := goodIn_r _ [5, 6, 7, 8, 9, 10, 4, 11, 12, 18, 19, 20, 21, 22, 23, 24, 25, 26, 27, 28, 29, 30] (by decide +kernel) (by decide +kernel)
set_option maxRecDepth 20000 in
theorem gX2_canDo_X2_canReply : GoodIn wsX2_canDo (wsV RX2 119 RX2 yX2_canReply wsX2_canReply) := goodIn_app (goodIn_of _ (by decide +kernel)) ggX2_canDo_X2_canReply
set_option maxRecDepth 20000 in
theorem ggX2_canDo_X2_canPlan : GoodIn wsX2_canDo wsX2_canPlan := goodIn_r _ [16, 17, 18, 19, 20, 21, 22, 23, 24, 25, 26, 27, 28, 29, 30] (by decide +kernel) (by decide +kernel)
set_option maxRecDepth 20000 in
theorem gX2_canDo_X2_canPlan : GoodIn wsX2_canDo (wsV RX2 122 RX2 yX2_canPlan wsX2_canPlan) := goodIn_app (goodIn_of _ (by decide +kernel)) ggX2_canDo_X2_canPlan
set_option maxRecDepth 20000 in
theorem ggX2_canDo_X2_canLearn : GoodIn wsX2_canDo wsX2_canLearn := goodIn_r _ [11, 12, 18, 19, 20, 21, 22, 23, 24, 25, 26, 27, 28, 29, 30] (by decide +kernel) (by decide +kernel)
set_option maxRecDepth 20000 in
theorem gX2_canDo_X2_canLearn : GoodIn wsX2_canDo (wsV RX2 97 RX2 yX2_canLearn wsX2_canLearn) := goodIn_app (goodIn_of _ (by decide +kernel)) ggX2_canDo_X2_canLearn
theorem dX2_canDo_0 : decode cX2_canDo 0 = .ok (.iload_n 1, 1) := by decide +kernel
theorem dX2_canDo_1 : decode cX2_canDo 1 = .ok (.lookupswitch 37 #[(3, 27), (4, 32)], 27) := by decide +kernel
theorem dX2_canDo_28 : decode cX2_canDo 28 = .ok (.aload_n 0, 1) := by decide +kernel
theorem dX2_canDo_29 : decode cX2_canDo 29 = .ok (.invokevirtual 119, 3) := by decide +kernel
theorem dX2_canDo_32 : decode cX2_canDo 32 = .ok (.ireturn, 1) := by decide +kernel
theorem dX2_canDo_33 : decode cX2_canDo 33 = .ok (.aload_n 0, 1) := by decide +kernel
theorem dX2_canDo_34 : decode cX2_canDo 34 = .ok (.invokevirtual 122, 3) := by decide +kernel
theorem dX2_canDo_37 : decode cX2_canDo 37 = .ok (.ireturn, 1) := by decide +kernel
theorem dX2_canDo_38 : decode cX2_canDo 38 = .ok (.aload_n 0, 1) := by decide +kernel
theorem dX2_canDo_39 : decode cX2_canDo 39 = .ok (.invokevirtual 97, 3) := by decide +kernel
theorem dX2_canDo_42 : decode cX2_canDo 42 = .ok (.ireturn, 1) := by decide +kernel
set_option maxRecDepth 20000 in
theorem ggX2_isLeft_X4_at : GoodIn wsX2_isLeft wsX4_at := goodIn_r _ [5] (by decide +kernel) (by decide +kernel)
set_option maxRecDepth 20000 in
theorem gX2_isLeft_X4_at_n89 : GoodIn wsX2_isLeft (wsX4_at) := ggX2_isLeft_X4_at
theorem dX2_isLeft_0 : decode cX2_isLeft 0 = .ok (.aload_n 0, 1) := by decide +kernel
theorem dX2_isLeft_1 : decode cX2_isLeft 1 = .ok (.getfield 23, 3) := by decide +kernel
theorem dX2_isLeft_4 : decode cX2_isLeft 4 = .ok (.iload_n 1, 1) := by decide +kernel
theorem dX2_isLeft_5 : decode cX2_isLeft 5 = .ok (.invokestatic 89, 3) := by decide +kernel
theorem dX2_isLeft_8 : decode cX2_isLeft 8 = .ok (.aload_n 0, 1) := by decide +kernel
theorem dX2_isLeft_9 : decode cX2_isLeft 9 = .ok (.getfield 37, 3) := by decide +kernel
theorem dX2_isLeft_12 : decode cX2_isLeft 12 = .ok (.if_icmp .gt 7, 3) := by decide +kernel
theorem dX2_isLeft_15 : decode cX2_isLeft 15 = .ok (.iconst 1, 1) := by decide +kernel
theorem dX2_isLeft_16 : decode cX2_isLeft 16 = .ok (.goto 4, 3) := by decide +kernel
theorem dX2_isLeft_19 : decode cX2_isLeft 19 = .ok (.iconst 0, 1) := by decide +kernel
theorem dX2_isLeft_20 : decode cX2_isLeft 20 = .ok (.ireturn, 1) := by decide +kernel
set_option maxRecDepth 20000 in
theorem ggX2_countLeft_X2_cases : GoodIn wsX2_countLeft wsX2_cases := goodIn_r _ [5, 6, 16, 17, 18, 19, 20, 21, 22, 23, 24] (by decide +kernel) (by decide +kernel)
set_option maxRecDepth 20000 in
theorem gX2_countLeft_X2_cases : GoodIn wsX2_countLeft (wsV RX2 67 RX2 yX2_cases wsX2_cases) := goodIn_app (goodIn_of _ (by decide +kernel)) ggX2_countLeft_X2_cases
set_option maxRecDepth 20000 in
theorem ggX2_countLeft_X2_isLeft : GoodIn wsX2_countLeft wsX2_isLeft := goodIn_r _ [10, 11, 12, 13, 14, 15, 16, 17, 18, 19, 20, 21, 22, 23, 24] (by decide +kernel) (by decide +kernel)
set_option maxRecDepth 20000 in
theorem gX2_countLeft_X2_isLeft : GoodIn wsX2_countLeft (wsV RX2 125 RX2 yX2_isLeft wsX2_isLeft) := goodIn_app (goodIn_of _ (by decide +kernel)) ggX2_countLeft_X2_isLeft
theorem dX2_countLeft_0 : decode cX2_countLeft 0 = .ok (.iconst 0, 1) := by decide +kernel
theorem dX2_countLeft_1 : decode cX2_countLeft 1 = .ok (.istore_n 1, 1) := by decide +kernel
theorem dX2_countLeft_2 : decode cX2_countLeft 2 = .ok (.iconst 0, 1) := by decide +kernel
theorem dX2_countLeft_3 : decode cX2_countLeft 3 = .ok (.istore_n 2, 1) := by decide +kernel
theorem dX2_countLeft_4 : decode cX2_countLeft 4 = .ok (.iload_n 2, 1) := by decide +kernel
theorem dX2_countLeft_5 : decode cX2_countLeft 5 = .ok (.aload_n 0, 1) := by decide +kernel
theorem dX2_countLeft_6 : decode cX2_countLeft 6 = .ok (.invokevirtual 67, 3) := by decide +kernel
theorem dX2_countLeft_9 : decode cX2_countLeft 9 = .ok (.if_icmp .ge 20, 3) := by decide +kernel
theorem dX2_countLeft_12 : decode cX2_countLeft 12 = .ok (.aload_n 0, 1) := by decide +kernel
theorem dX2_countLeft_13 : decode cX2_countLeft 13 = .ok (.iload_n 2, 1) := by decide +kernel
theorem dX2_countLeft_14 : decode cX2_countLeft 14 = .ok (.invokevirtual 125, 3) := by decide +kernel
theorem dX2_countLeft_17 : decode cX2_countLeft 17 = .ok (.ifCond .eq 6, 3) := by decide +kernel
theorem dX2_countLeft_20 : decode cX2_countLeft 20 = .ok (.iinc 1 1, 3) := by decide +kernel
theorem dX2_countLeft_23 : decode cX2_countLeft 23 = .ok (.iinc 2 1, 3) := by decide +kernel
theorem dX2_countLeft_26 : decode cX2_countLeft 26 = .ok (.goto (-22), 3) := by decide +kernel
theorem dX2_countLeft_29 : decode cX2_countLeft 29 = .ok (.iload_n 1, 1) := by decide +kernel
theorem dX2_countLeft_30 : decode cX2_countLeft 30 = .ok (.ireturn, 1) := by decide +kernel
set_option maxRecDepth 20000 in
theorem ggX2_findLeft_X2_cases : GoodIn wsX2_findLeft wsX2_cases := goodIn_r _ [5, 6, 16, 17, 18, 19, 20, 21, 22, 23, 24] (by decide +kernel) (by decide +kernel)
set_option maxRecDepth 20000 in
theorem gX2_findLeft_X2_cases : GoodIn wsX2_findLeft (wsV RX2 67 RX2 yX2_cases wsX2_cases) := goodIn_app (goodIn_of _ (by decide +kernel)) ggX2_findLeft_X2_cases
set_option maxRecDepth 20000 in
theorem ggX2_findLeft_X2_isLeft : GoodIn wsX2_findLeft wsX2_isLeft := goodIn_r _ [10, 11, 12, 13, 14, 15, 16, 17, 18, 19, 20, 21, 22, 23, 24] (by decide +kernel) (by decide +kernel)
set_option maxRecDepth 20000 in
theorem gX2_findLeft_X2_isLeft : GoodIn wsX2_findLeft (wsV RX2 125 RX2 yX2_isLeft wsX2_isLeft) := goodIn_app (goodIn_of _ (by decide +kernel)) ggX2_findLeft_X2_isLeft
theorem dX2_findLeft_0 : decode cX2_findLeft 0 = .ok (.iconst 0, 1) := by decide +kernel
theorem dX2_findLeft_1 : decode cX2_findLeft 1 = .ok (.istore_n 2, 1) := by decide +kernel
theorem dX2_findLeft_2 : decode cX2_findLeft 2 = .ok (.iconst 0, 1) := by decide +kernel
theorem dX2_findLeft_3 : decode cX2_findLeft 3 = .ok (.istore_n 3, 1) := by decide +kernel
theorem dX2_findLeft_4 : decode cX2_findLeft 4 = .ok (.iload_n 3, 1) := by decide +kernel
theorem dX2_findLeft_5 : decode cX2_findLeft 5 = .ok (.aload_n 0, 1) := by decide +kernel
theorem dX2_findLeft_6 : decode cX2_findLeft 6 = .ok (.invokevirtual 67, 3) := by decide +kernel
theorem dX2_findLeft_9 : decode cX2_findLeft 9 = .ok (.if_icmp .ge 27, 3) := by decide +kernel
theorem dX2_findLeft_12 : decode cX2_findLeft 12 = .ok (.aload_n 0, 1) := by decide +kernel
theorem dX2_findLeft_13 : decode cX2_findLeft 13 = .ok (.iload_n 3, 1) := by decide +kernel
theorem dX2_findLeft_14 : decode cX2_findLeft 14 = .ok (.invokevirtual 125, 3) := by decide +kernel
theorem dX2_findLeft_17 : decode cX2_findLeft 17 = .ok (.ifCond .eq 13, 3) := by decide +kernel
theorem dX2_findLeft_20 : decode cX2_findLeft 20 = .ok (.iload_n 2, 1) := by decide +kernel
theorem dX2_findLeft_21 : decode cX2_findLeft 21 = .ok (.iload_n 1, 1) := by decide +kernel
theorem dX2_findLeft_22 : decode cX2_findLeft 22 = .ok (.if_icmp .ne 5, 3) := by decide +kernel
theorem dX2_findLeft_25 : decode cX2_findLeft 25 = .ok (.iload_n 3, 1) := by decide +kernel
theorem dX2_findLeft_26 : decode cX2_findLeft 26 = .ok (.ireturn, 1) := by decide +kernel
theorem dX2_findLeft_27 : decode cX2_findLeft 27 = .ok (.iinc 2 1, 3) := by decide +kernel
theorem dX2_findLeft_30 : decode cX2_findLeft 30 = .ok (.iinc 3 1, 3) := by decide +kernel
theorem dX2_findLeft_33 : decode cX2_findLeft 33 = .ok (.goto (-29), 3) := by decide +kernel
theorem dX2_findLeft_36 : decode cX2_findLeft 36 = .ok (.iconst (-1), 1) := by decide +kernel
theorem dX2_findLeft_37 : decode cX2_findLeft 37 = .ok (.ireturn, 1) := by decide +kernel
set_option maxRecDepth 20000 in
theorem ggX2_falseCoins_X2_cases : GoodIn wsX2_falseCoins wsX2_cases := goodIn_r _ [5, 6, 18, 19, 20, 21, 22, 23, 24, 25, 26] (by decide +kernel) (by decide +kernel)
set_option maxRecDepth 20000 in
theorem gX2_falseCoins_X2_cases : GoodIn wsX2_falseCoins (wsV RX2 67 RX2 yX2_cases wsX2_cases) := goodIn_app (goodIn_of _ (by decide +kernel)) ggX2_falseCoins_X2_cases
set_option maxRecDepth 20000 in
theorem ggX2_falseCoins_X2_isLeft : GoodIn wsX2_falseCoins wsX2_isLeft := goodIn_r _ [10, 11, 12, 13, 14, 15, 18, 19, 20, 21, 22, 23, 24, 25, 26] (by decide +kernel) (by decide +kernel)
set_option maxRecDepth 20000 in
theorem gX2_falseCoins_X2_isLeft : GoodIn wsX2_falseCoins (wsV RX2 125 RX2 yX2_isLeft wsX2_isLeft) := goodIn_app (goodIn_of _ (by decide +kernel)) ggX2_falseCoins_X2_isLeft
set_option maxRecDepth 20000 in
theorem ggX2_falseCoins_X4_coinBit : GoodIn wsX2_falseCoins wsX4_coinBit := goodIn_r _ [17] (by decide +kernel) (by decide +kernel)
set_option maxRecDepth 20000 in
theorem gX2_falseCoins_X4_coinBit_n128 : GoodIn wsX2_falseCoins (wsX4_coinBit) := ggX2_falseCoins_X4_coinBit
theorem dX2_falseCoins_0 : decode cX2_falseCoins 0 = .ok (.iconst 0, 1) := by decide +kernel
theorem dX2_falseCoins_1 : decode cX2_falseCoins 1 = .ok (.istore_n 1, 1) := by decide +kernel
theorem dX2_falseCoins_2 : decode cX2_falseCoins 2 = .ok (.iconst 0, 1) := by decide +kernel
theorem dX2_falseCoins_3 : decode cX2_falseCoins 3 = .ok (.istore_n 2, 1) := by decide +kernel
theorem dX2_falseCoins_4 : decode cX2_falseCoins 4 = .ok (.iload_n 2, 1) := by decide +kernel
theorem dX2_falseCoins_5 : decode cX2_falseCoins 5 = .ok (.aload_n 0, 1) := by decide +kernel
theorem dX2_falseCoins_6 : decode cX2_falseCoins 6 = .ok (.invokevirtual 67, 3) := by decide +kernel
theorem dX2_falseCoins_9 : decode cX2_falseCoins 9 = .ok (.if_icmp .ge 24, 3) := by decide +kernel
theorem dX2_falseCoins_12 : decode cX2_falseCoins 12 = .ok (.aload_n 0, 1) := by decide +kernel
theorem dX2_falseCoins_13 : decode cX2_falseCoins 13 = .ok (.iload_n 2, 1) := by decide +kernel
theorem dX2_falseCoins_14 : decode cX2_falseCoins 14 = .ok (.invokevirtual 125, 3) := by decide +kernel
theorem dX2_falseCoins_17 : decode cX2_falseCoins 17 = .ok (.ifCond .eq 10, 3) := by decide +kernel
theorem dX2_falseCoins_20 : decode cX2_falseCoins 20 = .ok (.iload_n 1, 1) := by decide +kernel
theorem dX2_falseCoins_21 : decode cX2_falseCoins 21 = .ok (.iload_n 2, 1) := by decide +kernel
theorem dX2_falseCoins_22 : decode cX2_falseCoins 22 = .ok (.invokestatic 128, 3) := by decide +kernel
theorem dX2_falseCoins_25 : decode cX2_falseCoins 25 = .ok (.ior, 1) := by decide +kernel
theorem dX2_falseCoins_26 : decode cX2_falseCoins 26 = .ok (.istore_n 1, 1) := by decide +kernel
theorem dX2_falseCoins_27 : decode cX2_falseCoins 27 = .ok (.iinc 2 1, 3) := by decide +kernel
theorem dX2_falseCoins_30 : decode cX2_falseCoins 30 = .ok (.goto (-26), 3) := by decide +kernel
theorem dX2_falseCoins_33 : decode cX2_falseCoins 33 = .ok (.iload_n 1, 1) := by decide +kernel
theorem dX2_falseCoins_34 : decode cX2_falseCoins 34 = .ok (.ireturn, 1) := by decide +kernel
set_option maxRecDepth 20000 in
theorem ggX2_number_X2_countLeft : GoodIn wsX2_number wsX2_countLeft := goodIn_r _ [11, 12, 13, 14, 10, 15, 1, 16, 17, 18, 19, 20, 2, 21, 22, 23, 30, 31, 32, 33, 34, 35, 36, 37, 38] (by decide +kernel) (by decide +kernel)
set_option maxRecDepth 20000 in
theorem gX2_number_X2_countLeft : GoodIn wsX2_number (wsV RX2 131 RX2 yX2_countLeft wsX2_countLeft) := goodIn_app (goodIn_of _ (by decide +kernel)) ggX2_number_X2_countLeft
set_option maxRecDepth 20000 in
theorem ggX2_number_X2_falseCoins : GoodIn wsX2_number wsX2_falseCoins := goodIn_r _ [27, 12, 13, 14, 10, 15, 1, 16, 17, 18, 19, 20, 2, 21, 22, 23, 28, 29, 30, 31, 32, 33, 34, 35, 36, 37, 38] (by decide +kernel) (by decide +kernel)
set_option maxRecDepth 20000 in
theorem gX2_number_X2_falseCoins : GoodIn wsX2_number (wsV RX2 134 RX2 yX2_falseCoins wsX2_falseCoins) := goodIn_app (goodIn_of _ (by decide +kernel)) ggX2_number_X2_falseCoins
set_option maxRecDepth 20000 in
theorem ggX2_number_X2_isLeft : GoodIn wsX2_number wsX2_isLeft := goodIn_r _ [19, 20, 2, 21, 22, 23, 30, 31, 32, 33, 34, 35, 36, 37, 38] (by decide +kernel) (by decide +kernel)
set_option maxRecDepth 20000 in
theorem gX2_number_X2_isLeft : GoodIn wsX2_number (wsV RX2 125 RX2 yX2_isLeft wsX2_isLeft) := goodIn_app (goodIn_of _ (by decide +kernel)) ggX2_number_X2_isLeft
theorem dX2_number_0 : decode cX2_number 0 = .ok (.iload_n 1, 1) := by decide +kernel
theorem dX2_number_1 : decode cX2_number 1 = .ok (.tableswitch 93 0 7 #[47, 52, 57, 65, 70, 78, 83, 88], 47) := by decide +kernel
theorem dX2_number_48 : decode cX2_number 48 = .ok (.aload_n 0, 1) := by decide +kernel
theorem dX2_number_49 : decode cX2_number 49 = .ok (.getfield 33, 3) := by decide +kernel
theorem dX2_number_52 : decode cX2_number 52 = .ok (.ireturn, 1) := by decide +kernel
theorem dX2_number_53 : decode cX2_number 53 = .ok (.aload_n 0, 1) := by decide +kernel
theorem dX2_number_54 : decode cX2_number 54 = .ok (.getfield 37, 3) := by decide +kernel
theorem dX2_number_57 : decode cX2_number 57 = .ok (.ireturn, 1) := by decide +kernel
theorem dX2_number_58 : decode cX2_number 58 = .ok (.aload_n 0, 1) := by decide +kernel
theorem dX2_number_59 : decode cX2_number 59 = .ok (.getfield 14, 3) := by decide +kernel
theorem dX2_number_62 : decode cX2_number 62 = .ok (.getfield 40, 3) := by decide +kernel
theorem dX2_number_65 : decode cX2_number 65 = .ok (.ireturn, 1) := by decide +kernel
theorem dX2_number_66 : decode cX2_number 66 = .ok (.aload_n 0, 1) := by decide +kernel
theorem dX2_number_67 : decode cX2_number 67 = .ok (.invokevirtual 131, 3) := by decide +kernel
theorem dX2_number_70 : decode cX2_number 70 = .ok (.ireturn, 1) := by decide +kernel
theorem dX2_number_71 : decode cX2_number 71 = .ok (.aload_n 0, 1) := by decide +kernel
theorem dX2_number_72 : decode cX2_number 72 = .ok (.getfield 20, 3) := by decide +kernel
theorem dX2_number_75 : decode cX2_number 75 = .ok (.getfield 40, 3) := by decide +kernel
theorem dX2_number_78 : decode cX2_number 78 = .ok (.ireturn, 1) := by decide +kernel
theorem dX2_number_79 : decode cX2_number 79 = .ok (.aload_n 0, 1) := by decide +kernel
theorem dX2_number_80 : decode cX2_number 80 = .ok (.getfield 58, 3) := by decide +kernel
theorem dX2_number_83 : decode cX2_number 83 = .ok (.ireturn, 1) := by decide +kernel
theorem dX2_number_84 : decode cX2_number 84 = .ok (.aload_n 0, 1) := by decide +kernel
theorem dX2_number_85 : decode cX2_number 85 = .ok (.getfield 64, 3) := by decide +kernel
theorem dX2_number_88 : decode cX2_number 88 = .ok (.ireturn, 1) := by decide +kernel
theorem dX2_number_89 : decode cX2_number 89 = .ok (.aload_n 0, 1) := by decide +kernel
theorem dX2_number_90 : decode cX2_number 90 = .ok (.invokevirtual 134, 3) := by decide +kernel
theorem dX2_number_93 : decode cX2_number 93 = .ok (.ireturn, 1) := by decide +kernel
theorem dX2_number_94 : decode cX2_number 94 = .ok (.aload_n 0, 1) := by decide +kernel
theorem dX2_number_95 : decode cX2_number 95 = .ok (.iconst 0, 1) := by decide +kernel
theorem dX2_number_96 : decode cX2_number 96 = .ok (.invokevirtual 125, 3) := by decide +kernel
theorem dX2_number_99 : decode cX2_number 99 = .ok (.ifCond .eq 7, 3) := by decide +kernel
theorem dX2_number_102 : decode cX2_number 102 = .ok (.iconst 1, 1) := by decide +kernel
theorem dX2_number_103 : decode cX2_number 103 = .ok (.goto 4, 3) := by decide +kernel
theorem dX2_number_106 : decode cX2_number 106 = .ok (.iconst 0, 1) := by decide +kernel
theorem dX2_number_107 : decode cX2_number 107 = .ok (.ireturn, 1) := by decide +kernel
set_option maxRecDepth 20000 in
theorem ggX2_weightAhead_X2_cases : GoodIn wsX2_weightAhead wsX2_cases := goodIn_r _ [6, 7, 22, 23, 24, 25, 26, 27, 28, 29, 30] (by decide +kernel) (by decide +kernel)
set_option maxRecDepth 20000 in
theorem gX2_weightAhead_X2_cases : GoodIn wsX2_weightAhead (wsV RX2 67 RX2 yX2_cases wsX2_cases) := goodIn_app (goodIn_of _ (by decide +kernel)) ggX2_weightAhead_X2_cases
set_option maxRecDepth 20000 in
theorem ggX2_weightAhead_X4_at : GoodIn wsX2_weightAhead wsX4_at := goodIn_r _ [10] (by decide +kernel) (by decide +kernel)
set_option maxRecDepth 20000 in
theorem gX2_weightAhead_X4_at_n89 : GoodIn wsX2_weightAhead (wsX4_at) := ggX2_weightAhead_X4_at
set_option maxRecDepth 20000 in
theorem ggX2_weightAhead_X2_volumeLeft : GoodIn wsX2_weightAhead wsX2_volumeLeft := goodIn_r _ [14, 15, 16, 9, 17, 18, 19, 20, 21, 22, 23, 24, 25, 26, 27, 28, 29, 30] (by decide +kernel) (by decide +kernel)
set_option maxRecDepth 20000 in
theorem gX2_weightAhead_X2_volumeLeft : GoodIn wsX2_weightAhead (wsV RX2 137 RX2 yX2_volumeLeft wsX2_volumeLeft) := goodIn_app (goodIn_of _ (by decide +kernel)) ggX2_weightAhead_X2_volumeLeft
theorem dX2_weightAhead_0 : decode cX2_weightAhead 0 = .ok (.lconst 0, 1) := by decide +kernel
theorem dX2_weightAhead_1 : decode cX2_weightAhead 1 = .ok (.lstore_n 2, 1) := by decide +kernel
theorem dX2_weightAhead_2 : decode cX2_weightAhead 2 = .ok (.iconst 0, 1) := by decide +kernel
theorem dX2_weightAhead_3 : decode cX2_weightAhead 3 = .ok (.istore 4, 2) := by decide +kernel
theorem dX2_weightAhead_5 : decode cX2_weightAhead 5 = .ok (.iload 4, 2) := by decide +kernel
theorem dX2_weightAhead_7 : decode cX2_weightAhead 7 = .ok (.aload_n 0, 1) := by decide +kernel
theorem dX2_weightAhead_8 : decode cX2_weightAhead 8 = .ok (.invokevirtual 67, 3) := by decide +kernel
theorem dX2_weightAhead_11 : decode cX2_weightAhead 11 = .ok (.if_icmp .ge 26, 3) := by decide +kernel
theorem dX2_weightAhead_14 : decode cX2_weightAhead 14 = .ok (.lload_n 2, 1) := by decide +kernel
theorem dX2_weightAhead_15 : decode cX2_weightAhead 15 = .ok (.aload_n 0, 1) := by decide +kernel
theorem dX2_weightAhead_16 : decode cX2_weightAhead 16 = .ok (.aload_n 0, 1) := by decide +kernel
theorem dX2_weightAhead_17 : decode cX2_weightAhead 17 = .ok (.getfield 23, 3) := by decide +kernel
theorem dX2_weightAhead_20 : decode cX2_weightAhead 20 = .ok (.iload 4, 2) := by decide +kernel
theorem dX2_weightAhead_22 : decode cX2_weightAhead 22 = .ok (.invokestatic 89, 3) := by decide +kernel
theorem dX2_weightAhead_25 : decode cX2_weightAhead 25 = .ok (.iload_n 1, 1) := by decide +kernel
theorem dX2_weightAhead_26 : decode cX2_weightAhead 26 = .ok (.invokevirtual 137, 3) := by decide +kernel
theorem dX2_weightAhead_29 : decode cX2_weightAhead 29 = .ok (.ladd, 1) := by decide +kernel
theorem dX2_weightAhead_30 : decode cX2_weightAhead 30 = .ok (.lstore_n 2, 1) := by decide +kernel
theorem dX2_weightAhead_31 : decode cX2_weightAhead 31 = .ok (.iinc 4 1, 3) := by decide +kernel
theorem dX2_weightAhead_34 : decode cX2_weightAhead 34 = .ok (.goto (-29), 3) := by decide +kernel
theorem dX2_weightAhead_37 : decode cX2_weightAhead 37 = .ok (.lload_n 2, 1) := by decide +kernel
theorem dX2_weightAhead_38 : decode cX2_weightAhead 38 = .ok (.lreturn, 1) := by decide +kernel
set_option maxRecDepth 20000 in
theorem ggX2_weightIfTold_X2_cases : GoodIn wsX2_weightIfTold wsX2_cases := goodIn_r _ [5, 6, 31, 32, 33, 34, 35, 36, 37, 38, 39] (by decide +kernel) (by decide +kernel)
set_option maxRecDepth 20000 in
theorem gX2_weightIfTold_X2_cases : GoodIn wsX2_weightIfTold (wsV RX2 67 RX2 yX2_cases wsX2_cases) := goodIn_app (goodIn_of _ (by decide +kernel)) ggX2_weightIfTold_X2_cases
set_option maxRecDepth 20000 in
theorem ggX2_weightIfTold_X2_liesIfTold : GoodIn wsX2_weightIfTold wsX2_liesIfTold := goodIn_r _ [10, 11, 12, 13, 14, 15, 16, 17, 18, 19, 31, 32, 33, 34, 35, 36, 37, 38, 39] (by decide +kernel) (by decide +kernel)
set_option maxRecDepth 20000 in
theorem gX2_weightIfTold_X2_liesIfTold : GoodIn wsX2_weightIfTold (wsV RX2 81 RX2 yX2_liesIfTold wsX2_liesIfTold) := goodIn_app (goodIn_of _ (by decide +kernel)) ggX2_weightIfTold_X2_liesIfTold
set_option maxRecDepth 20000 in
theorem ggX2_weightIfTold_X2_volumeLeft : GoodIn wsX2_weightIfTold wsX2_volumeLeft := goodIn_r _ [23, 24, 25, 13, 26, 27, 28, 29, 30, 31, 32, 33, 34, 35, 36, 37, 38, 39] (by decide +kernel) (by decide +kernel)
set_option maxRecDepth 20000 in
theorem gX2_weightIfTold_X2_volumeLeft : GoodIn wsX2_weightIfTold (wsV RX2 137 RX2 yX2_volumeLeft wsX2_volumeLeft) := goodIn_app (goodIn_of _ (by decide +kernel)) ggX2_weightIfTold_X2_volumeLeft
theorem dX2_weightIfTold_0 : decode cX2_weightIfTold 0 = .ok (.lconst 0, 1) := by decide +kernel
theorem dX2_weightIfTold_1 : decode cX2_weightIfTold 1 = .ok (.lstore 5, 2) := by decide +kernel
theorem dX2_weightIfTold_3 : decode cX2_weightIfTold 3 = .ok (.iconst 0, 1) := by decide +kernel
theorem dX2_weightIfTold_4 : decode cX2_weightIfTold 4 = .ok (.istore 7, 2) := by decide +kernel
theorem dX2_weightIfTold_6 : decode cX2_weightIfTold 6 = .ok (.iload 7, 2) := by decide +kernel
theorem dX2_weightIfTold_8 : decode cX2_weightIfTold 8 = .ok (.aload_n 0, 1) := by decide +kernel
theorem dX2_weightIfTold_9 : decode cX2_weightIfTold 9 = .ok (.invokevirtual 67, 3) := by decide +kernel
theorem dX2_weightIfTold_12 : decode cX2_weightIfTold 12 = .ok (.if_icmp .ge 29, 3) := by decide +kernel
theorem dX2_weightIfTold_15 : decode cX2_weightIfTold 15 = .ok (.lload 5, 2) := by decide +kernel
theorem dX2_weightIfTold_17 : decode cX2_weightIfTold 17 = .ok (.aload_n 0, 1) := by decide +kernel
theorem dX2_weightIfTold_18 : decode cX2_weightIfTold 18 = .ok (.aload_n 0, 1) := by decide +kernel
theorem dX2_weightIfTold_19 : decode cX2_weightIfTold 19 = .ok (.iload 7, 2) := by decide +kernel
theorem dX2_weightIfTold_21 : decode cX2_weightIfTold 21 = .ok (.iload_n 1, 1) := by decide +kernel
theorem dX2_weightIfTold_22 : decode cX2_weightIfTold 22 = .ok (.iload_n 2, 1) := by decide +kernel
theorem dX2_weightIfTold_23 : decode cX2_weightIfTold 23 = .ok (.iload_n 3, 1) := by decide +kernel
theorem dX2_weightIfTold_24 : decode cX2_weightIfTold 24 = .ok (.invokevirtual 81, 3) := by decide +kernel
theorem dX2_weightIfTold_27 : decode cX2_weightIfTold 27 = .ok (.iload 4, 2) := by decide +kernel
theorem dX2_weightIfTold_29 : decode cX2_weightIfTold 29 = .ok (.invokevirtual 137, 3) := by decide +kernel
theorem dX2_weightIfTold_32 : decode cX2_weightIfTold 32 = .ok (.ladd, 1) := by decide +kernel
theorem dX2_weightIfTold_33 : decode cX2_weightIfTold 33 = .ok (.lstore 5, 2) := by decide +kernel
theorem dX2_weightIfTold_35 : decode cX2_weightIfTold 35 = .ok (.iinc 7 1, 3) := by decide +kernel
theorem dX2_weightIfTold_38 : decode cX2_weightIfTold 38 = .ok (.goto (-32), 3) := by decide +kernel
theorem dX2_weightIfTold_41 : decode cX2_weightIfTold 41 = .ok (.lload 5, 2) := by decide +kernel
theorem dX2_weightIfTold_43 : decode cX2_weightIfTold 43 = .ok (.lreturn, 1) := by decide +kernel
set_option maxRecDepth 20000 in
theorem ggX2_volumeLeft_X4_volume : GoodIn wsX2_volumeLeft wsX4_volume := goodIn_r _ [4, 5, 6, 7, 8] (by decide +kernel) (by decide +kernel)
set_option maxRecDepth 20000 in
theorem gX2_volumeLeft_X4_volume_n141 : GoodIn wsX2_volumeLeft (wsX4_volume) := ggX2_volumeLeft_X4_volume
theorem dX2_volumeLeft_0 : decode cX2_volumeLeft 0 = .ok (.iload_n 1, 1) := by decide +kernel
theorem dX2_volumeLeft_1 : decode cX2_volumeLeft 1 = .ok (.aload_n 0, 1) := by decide +kernel
theorem dX2_volumeLeft_2 : decode cX2_volumeLeft 2 = .ok (.getfield 37, 3) := by decide +kernel
theorem dX2_volumeLeft_5 : decode cX2_volumeLeft 5 = .ok (.if_icmp .le 7, 3) := by decide +kernel
theorem dX2_volumeLeft_8 : decode cX2_volumeLeft 8 = .ok (.lconst 0, 1) := by decide +kernel
theorem dX2_volumeLeft_9 : decode cX2_volumeLeft 9 = .ok (.goto 13, 3) := by decide +kernel
theorem dX2_volumeLeft_12 : decode cX2_volumeLeft 12 = .ok (.iload_n 2, 1) := by decide +kernel
theorem dX2_volumeLeft_13 : decode cX2_volumeLeft 13 = .ok (.aload_n 0, 1) := by decide +kernel
theorem dX2_volumeLeft_14 : decode cX2_volumeLeft 14 = .ok (.getfield 37, 3) := by decide +kernel
theorem dX2_volumeLeft_17 : decode cX2_volumeLeft 17 = .ok (.iload_n 1, 1) := by decide +kernel
theorem dX2_volumeLeft_18 : decode cX2_volumeLeft 18 = .ok (.isub, 1) := by decide +kernel
theorem dX2_volumeLeft_19 : decode cX2_volumeLeft 19 = .ok (.invokestatic 141, 3) := by decide +kernel
theorem dX2_volumeLeft_22 : decode cX2_volumeLeft 22 = .ok (.lreturn, 1) := by decide +kernel
set_option maxRecDepth 20000 in
theorem ggX2_badness_X2_weightIfTold : GoodIn wsX2_badness wsX2_weightIfTold := goodIn_r _ [9, 10, 11, 12, 8, 13, 14, 15, 16, 17, 18, 19, 20, 21, 22, 23, 24, 25, 26, 27, 28, 29, 30, 31, 32, 33, 34, 35, 36, 3, 37, 38, 39, 40, 41, 42, 43, 44, 45, 46] (by decide +kernel) (by decide +kernel)
set_option maxRecDepth 20000 in
theorem gX2_badness_X2_weightIfTold : GoodIn wsX2_badness (wsV RX2 144 RX2 yX2_weightIfTold wsX2_weightIfTold) := goodIn_app (goodIn_of _ (by decide +kernel)) ggX2_badness_X2_weightIfTold
theorem dX2_badness_0 : decode cX2_badness 0 = .ok (.iconst 1, 1) := by decide +kernel
theorem dX2_badness_1 : decode cX2_badness 1 = .ok (.iload_n 1, 1) := by decide +kernel
theorem dX2_badness_2 : decode cX2_badness 2 = .ok (.ishl, 1) := by decide +kernel
theorem dX2_badness_3 : decode cX2_badness 3 = .ok (.iconst 1, 1) := by decide +kernel
theorem dX2_badness_4 : decode cX2_badness 4 = .ok (.isub, 1) := by decide +kernel
theorem dX2_badness_5 : decode cX2_badness 5 = .ok (.istore_n 3, 1) := by decide +kernel
theorem dX2_badness_6 : decode cX2_badness 6 = .ok (.iload_n 3, 1) := by decide +kernel
theorem dX2_badness_7 : decode cX2_badness 7 = .ok (.iload_n 1, 1) := by decide +kernel
theorem dX2_badness_8 : decode cX2_badness 8 = .ok (.ishl, 1) := by decide +kernel
theorem dX2_badness_9 : decode cX2_badness 9 = .ok (.istore 4, 2) := by decide +kernel
theorem dX2_badness_11 : decode cX2_badness 11 = .ok (.lconst 0, 1) := by decide +kernel
theorem dX2_badness_12 : decode cX2_badness 12 = .ok (.lstore 5, 2) := by decide +kernel
theorem dX2_badness_14 : decode cX2_badness 14 = .ok (.iconst 0, 1) := by decide +kernel
theorem dX2_badness_15 : decode cX2_badness 15 = .ok (.istore 7, 2) := by decide +kernel
theorem dX2_badness_17 : decode cX2_badness 17 = .ok (.iload 7, 2) := by decide +kernel
theorem dX2_badness_19 : decode cX2_badness 19 = .ok (.iconst 3, 1) := by decide +kernel
theorem dX2_badness_20 : decode cX2_badness 20 = .ok (.if_icmp .ge 26, 3) := by decide +kernel
theorem dX2_badness_23 : decode cX2_badness 23 = .ok (.lload 5, 2) := by decide +kernel
theorem dX2_badness_25 : decode cX2_badness 25 = .ok (.aload_n 0, 1) := by decide +kernel
theorem dX2_badness_26 : decode cX2_badness 26 = .ok (.iload_n 3, 1) := by decide +kernel
theorem dX2_badness_27 : decode cX2_badness 27 = .ok (.iload 4, 2) := by decide +kernel
theorem dX2_badness_29 : decode cX2_badness 29 = .ok (.iload 7, 2) := by decide +kernel
theorem dX2_badness_31 : decode cX2_badness 31 = .ok (.iload_n 2, 1) := by decide +kernel
theorem dX2_badness_32 : decode cX2_badness 32 = .ok (.invokevirtual 144, 3) := by decide +kernel
theorem dX2_badness_35 : decode cX2_badness 35 = .ok (.invokestatic 148, 3) := by decide +kernel
theorem dX2_badness_38 : decode cX2_badness 38 = .ok (.lstore 5, 2) := by decide +kernel
theorem dX2_badness_40 : decode cX2_badness 40 = .ok (.iinc 7 1, 3) := by decide +kernel
theorem dX2_badness_43 : decode cX2_badness 43 = .ok (.goto (-26), 3) := by decide +kernel
theorem dX2_badness_46 : decode cX2_badness 46 = .ok (.lload 5, 2) := by decide +kernel
theorem dX2_badness_48 : decode cX2_badness 48 = .ok (.lreturn, 1) := by decide +kernel
set_option maxRecDepth 20000 in
theorem ggX2_findGroup_X2_badness : GoodIn wsX2_findGroup wsX2_badness := goodIn_r _ [6, 7, 8, 9, 10, 11, 12, 13, 5, 14, 15, 16, 17, 18, 1, 19, 20, 21, 22, 23, 24, 25, 26, 27, 28, 29, 30, 31, 32, 33, 34, 35, 36, 37, 38, 39, 40, 41, 42, 43, 44, 45, 46, 47, 48, 49, 50] (by decide +kernel) (by decide +kernel)
set_option maxRecDepth 20000 in
theorem gX2_findGroup_X2_badness : GoodIn wsX2_findGroup (wsV RX2 154 RX2 yX2_badness wsX2_badness) := goodIn_app (goodIn_of _ (by decide +kernel)) ggX2_findGroup_X2_badness
theorem dX2_findGroup_0 : decode cX2_findGroup 0 = .ok (.iconst 1, 1) := by decide +kernel
theorem dX2_findGroup_1 : decode cX2_findGroup 1 = .ok (.istore_n 2, 1) := by decide +kernel
theorem dX2_findGroup_2 : decode cX2_findGroup 2 = .ok (.aload_n 0, 1) := by decide +kernel
theorem dX2_findGroup_3 : decode cX2_findGroup 3 = .ok (.iconst 1, 1) := by decide +kernel
theorem dX2_findGroup_4 : decode cX2_findGroup 4 = .ok (.iload_n 1, 1) := by decide +kernel
theorem dX2_findGroup_5 : decode cX2_findGroup 5 = .ok (.invokevirtual 154, 3) := by decide +kernel
theorem dX2_findGroup_8 : decode cX2_findGroup 8 = .ok (.lstore_n 3, 1) := by decide +kernel
theorem dX2_findGroup_9 : decode cX2_findGroup 9 = .ok (.iconst 2, 1) := by decide +kernel
theorem dX2_findGroup_10 : decode cX2_findGroup 10 = .ok (.istore 5, 2) := by decide +kernel
theorem dX2_findGroup_12 : decode cX2_findGroup 12 = .ok (.iload 5, 2) := by decide +kernel
theorem dX2_findGroup_14 : decode cX2_findGroup 14 = .ok (.aload_n 0, 1) := by decide +kernel
theorem dX2_findGroup_15 : decode cX2_findGroup 15 = .ok (.getfield 33, 3) := by decide +kernel
theorem dX2_findGroup_18 : decode cX2_findGroup 18 = .ok (.iconst 2, 1) := by decide +kernel
theorem dX2_findGroup_19 : decode cX2_findGroup 19 = .ok (.idiv, 1) := by decide +kernel
theorem dX2_findGroup_20 : decode cX2_findGroup 20 = .ok (.if_icmp .gt 31, 3) := by decide +kernel
theorem dX2_findGroup_23 : decode cX2_findGroup 23 = .ok (.aload_n 0, 1) := by decide +kernel
theorem dX2_findGroup_24 : decode cX2_findGroup 24 = .ok (.iload 5, 2) := by decide +kernel
theorem dX2_findGroup_26 : decode cX2_findGroup 26 = .ok (.iload_n 1, 1) := by decide +kernel
theorem dX2_findGroup_27 : decode cX2_findGroup 27 = .ok (.invokevirtual 154, 3) := by decide +kernel
theorem dX2_findGroup_30 : decode cX2_findGroup 30 = .ok (.lstore 6, 2) := by decide +kernel
theorem dX2_findGroup_32 : decode cX2_findGroup 32 = .ok (.lload 6, 2) := by decide +kernel
theorem dX2_findGroup_34 : decode cX2_findGroup 34 = .ok (.lload_n 3, 1) := by decide +kernel
theorem dX2_findGroup_35 : decode cX2_findGroup 35 = .ok (.lcmp, 1) := by decide +kernel
theorem dX2_findGroup_36 : decode cX2_findGroup 36 = .ok (.ifCond .ge 9, 3) := by decide +kernel
theorem dX2_findGroup_39 : decode cX2_findGroup 39 = .ok (.lload 6, 2) := by decide +kernel
theorem dX2_findGroup_41 : decode cX2_findGroup 41 = .ok (.lstore_n 3, 1) := by decide +kernel
theorem dX2_findGroup_42 : decode cX2_findGroup 42 = .ok (.iload 5, 2) := by decide +kernel
theorem dX2_findGroup_44 : decode cX2_findGroup 44 = .ok (.istore_n 2, 1) := by decide +kernel
theorem dX2_findGroup_45 : decode cX2_findGroup 45 = .ok (.iinc 5 1, 3) := by decide +kernel
theorem dX2_findGroup_48 : decode cX2_findGroup 48 = .ok (.goto (-36), 3) := by decide +kernel
theorem dX2_findGroup_51 : decode cX2_findGroup 51 = .ok (.iload_n 2, 1) := by decide +kernel
theorem dX2_findGroup_52 : decode cX2_findGroup 52 = .ok (.ireturn, 1) := by decide +kernel
set_option maxRecDepth 20000 in
theorem ggX2_differs_X2_cases : GoodIn wsX2_differs wsX2_cases := goodIn_r _ [5, 6, 21, 22, 23, 24, 25, 26, 27, 28, 29] (by decide +kernel) (by decide +kernel)
set_option maxRecDepth 20000 in
theorem gX2_differs_X2_cases : GoodIn wsX2_differs (wsV RX2 67 RX2 yX2_cases wsX2_cases) := goodIn_app (goodIn_of _ (by decide +kernel)) ggX2_differs_X2_cases
set_option maxRecDepth 20000 in
theorem ggX2_differs_X2_isLeft : GoodIn wsX2_differs wsX2_isLeft := goodIn_r _ [10, 11, 12, 13, 14, 15, 21, 22, 23, 24, 25, 26, 27, 28, 29] (by decide +kernel) (by decide +kernel)
set_option maxRecDepth 20000 in
theorem gX2_differs_X2_isLeft : GoodIn wsX2_differs (wsV RX2 125 RX2 yX2_isLeft wsX2_isLeft) := goodIn_app (goodIn_of _ (by decide +kernel)) ggX2_differs_X2_isLeft
set_option maxRecDepth 20000 in
theorem ggX2_differs_X4_trueAnswer : GoodIn wsX2_differs wsX4_trueAnswer := goodIn_r _ [17, 18, 19, 14, 20] (by decide +kernel) (by decide +kernel)
set_option maxRecDepth 20000 in
theorem gX2_differs_X4_trueAnswer_n93 : GoodIn wsX2_differs (wsX4_trueAnswer) := ggX2_differs_X4_trueAnswer
theorem dX2_differs_0 : decode cX2_differs 0 = .ok (.iconst (-1), 1) := by decide +kernel
theorem dX2_differs_1 : decode cX2_differs 1 = .ok (.istore_n 3, 1) := by decide +kernel
theorem dX2_differs_2 : decode cX2_differs 2 = .ok (.iconst 0, 1) := by decide +kernel
theorem dX2_differs_3 : decode cX2_differs 3 = .ok (.istore 4, 2) := by decide +kernel
theorem dX2_differs_5 : decode cX2_differs 5 = .ok (.iload 4, 2) := by decide +kernel
theorem dX2_differs_7 : decode cX2_differs 7 = .ok (.aload_n 0, 1) := by decide +kernel
theorem dX2_differs_8 : decode cX2_differs 8 = .ok (.invokevirtual 67, 3) := by decide +kernel
theorem dX2_differs_11 : decode cX2_differs 11 = .ok (.if_icmp .ge 43, 3) := by decide +kernel
theorem dX2_differs_14 : decode cX2_differs 14 = .ok (.aload_n 0, 1) := by decide +kernel
theorem dX2_differs_15 : decode cX2_differs 15 = .ok (.iload 4, 2) := by decide +kernel
theorem dX2_differs_17 : decode cX2_differs 17 = .ok (.invokevirtual 125, 3) := by decide +kernel
theorem dX2_differs_20 : decode cX2_differs 20 = .ok (.ifCond .eq 28, 3) := by decide +kernel
theorem dX2_differs_23 : decode cX2_differs 23 = .ok (.iload 4, 2) := by decide +kernel
theorem dX2_differs_25 : decode cX2_differs 25 = .ok (.iload_n 1, 1) := by decide +kernel
theorem dX2_differs_26 : decode cX2_differs 26 = .ok (.iload_n 2, 1) := by decide +kernel
theorem dX2_differs_27 : decode cX2_differs 27 = .ok (.invokestatic 93, 3) := by decide +kernel
theorem dX2_differs_30 : decode cX2_differs 30 = .ok (.istore 5, 2) := by decide +kernel
theorem dX2_differs_32 : decode cX2_differs 32 = .ok (.iload_n 3, 1) := by decide +kernel
theorem dX2_differs_33 : decode cX2_differs 33 = .ok (.iconst (-1), 1) := by decide +kernel
theorem dX2_differs_34 : decode cX2_differs 34 = .ok (.if_icmp .eq 11, 3) := by decide +kernel
theorem dX2_differs_37 : decode cX2_differs 37 = .ok (.iload 5, 2) := by decide +kernel
theorem dX2_differs_39 : decode cX2_differs 39 = .ok (.iload_n 3, 1) := by decide +kernel
theorem dX2_differs_40 : decode cX2_differs 40 = .ok (.if_icmp .eq 5, 3) := by decide +kernel
theorem dX2_differs_43 : decode cX2_differs 43 = .ok (.iconst 1, 1) := by decide +kernel
theorem dX2_differs_44 : decode cX2_differs 44 = .ok (.ireturn, 1) := by decide +kernel
theorem dX2_differs_45 : decode cX2_differs 45 = .ok (.iload 5, 2) := by decide +kernel
theorem dX2_differs_47 : decode cX2_differs 47 = .ok (.istore_n 3, 1) := by decide +kernel
theorem dX2_differs_48 : decode cX2_differs 48 = .ok (.iinc 4 1, 3) := by decide +kernel
theorem dX2_differs_51 : decode cX2_differs 51 = .ok (.goto (-46), 3) := by decide +kernel
theorem dX2_differs_54 : decode cX2_differs 54 = .ok (.iconst 0, 1) := by decide +kernel
theorem dX2_differs_55 : decode cX2_differs 55 = .ok (.ireturn, 1) := by decide +kernel
set_option maxRecDepth 20000 in
theorem ggX2_leastDifferences_X2_cases : GoodIn wsX2_leastDifferences wsX2_cases := goodIn_r _ [11, 12, 40, 41, 42, 43, 44, 45, 46, 47, 48] (by decide +kernel) (by decide +kernel)
set_option maxRecDepth 20000 in
theorem gX2_leastDifferences_X2_cases : GoodIn wsX2_leastDifferences (wsV RX2 67 RX2 yX2_cases wsX2_cases) := goodIn_app (goodIn_of _ (by decide +kernel)) ggX2_leastDifferences_X2_cases
set_option maxRecDepth 20000 in
theorem ggX2_leastDifferences_X3_codeWord : GoodIn wsX2_leastDifferences wsX3_codeWord := goodIn_r _ [17, 18, 19, 20, 21, 22, 23, 24, 25, 26, 27, 28, 49, 50, 51, 52] (by decide +kernel) (by decide +kernel)
set_option maxRecDepth 20000 in
theorem gX2_leastDifferences_X3_codeWord : GoodIn wsX2_leastDifferences (wsV RX2 157 RX3 yX3_codeWord wsX3_codeWord) := goodIn_app (goodIn_of _ (by decide +kernel)) ggX2_leastDifferences_X3_codeWord
set_option maxRecDepth 20000 in
theorem ggX2_leastDifferences_X4_put : GoodIn wsX2_leastDifferences wsX4_put := goodIn_r _ [30] (by decide +kernel) (by decide +kernel)
set_option maxRecDepth 20000 in
theorem gX2_leastDifferences_X4_put_n85 : GoodIn wsX2_leastDifferences (wsX4_put) := ggX2_leastDifferences_X4_put
set_option maxRecDepth 20000 in
theorem ggX2_leastDifferences_X4_at : GoodIn wsX2_leastDifferences wsX4_at := goodIn_r _ [23] (by decide +kernel) (by decide +kernel)
set_option maxRecDepth 20000 in
theorem gX2_leastDifferences_X4_at_n89 : GoodIn wsX2_leastDifferences (wsX4_at) := ggX2_leastDifferences_X4_at
set_option maxRecDepth 20000 in
theorem ggX2_leastDifferences_X4_differences : GoodIn wsX2_leastDifferences wsX4_differences := goodIn_r _ [32, 33, 34, 35, 36, 37, 38, 39] (by decide +kernel) (by decide +kernel)
set_option maxRecDepth 20000 in
theorem gX2_leastDifferences_X4_differences_n160 : GoodIn wsX2_leastDifferences (wsX4_differences) := ggX2_leastDifferences_X4_differences
theorem dX2_leastDifferences_0 : decode cX2_leastDifferences 0 = .ok (.bipush 8, 2) := by decide +kernel
theorem dX2_leastDifferences_2 : decode cX2_leastDifferences 2 = .ok (.istore_n 1, 1) := by decide +kernel
theorem dX2_leastDifferences_3 : decode cX2_leastDifferences 3 = .ok (.iconst 0, 1) := by decide +kernel
theorem dX2_leastDifferences_4 : decode cX2_leastDifferences 4 = .ok (.istore_n 2, 1) := by decide +kernel
theorem dX2_leastDifferences_5 : decode cX2_leastDifferences 5 = .ok (.iload_n 2, 1) := by decide +kernel
theorem dX2_leastDifferences_6 : decode cX2_leastDifferences 6 = .ok (.aload_n 0, 1) := by decide +kernel
theorem dX2_leastDifferences_7 : decode cX2_leastDifferences 7 = .ok (.invokevirtual 67, 3) := by decide +kernel
theorem dX2_leastDifferences_10 : decode cX2_leastDifferences 10 = .ok (.if_icmp .ge 62, 3) := by decide +kernel
theorem dX2_leastDifferences_13 : decode cX2_leastDifferences 13 = .ok (.aload_n 0, 1) := by decide +kernel
theorem dX2_leastDifferences_14 : decode cX2_leastDifferences 14 = .ok (.getfield 27, 3) := by decide +kernel
theorem dX2_leastDifferences_17 : decode cX2_leastDifferences 17 = .ok (.iload_n 2, 1) := by decide +kernel
theorem dX2_leastDifferences_18 : decode cX2_leastDifferences 18 = .ok (.aload_n 0, 1) := by decide +kernel
theorem dX2_leastDifferences_19 : decode cX2_leastDifferences 19 = .ok (.getfield 20, 3) := by decide +kernel
theorem dX2_leastDifferences_22 : decode cX2_leastDifferences 22 = .ok (.iload_n 2, 1) := by decide +kernel
theorem dX2_leastDifferences_23 : decode cX2_leastDifferences 23 = .ok (.invokevirtual 157, 3) := by decide +kernel
theorem dX2_leastDifferences_26 : decode cX2_leastDifferences 26 = .ok (.invokestatic 85, 3) := by decide +kernel
theorem dX2_leastDifferences_29 : decode cX2_leastDifferences 29 = .ok (.iconst 0, 1) := by decide +kernel
theorem dX2_leastDifferences_30 : decode cX2_leastDifferences 30 = .ok (.istore_n 3, 1) := by decide +kernel
theorem dX2_leastDifferences_31 : decode cX2_leastDifferences 31 = .ok (.iload_n 3, 1) := by decide +kernel
theorem dX2_leastDifferences_32 : decode cX2_leastDifferences 32 = .ok (.iload_n 2, 1) := by decide +kernel
theorem dX2_leastDifferences_33 : decode cX2_leastDifferences 33 = .ok (.if_icmp .ge 33, 3) := by decide +kernel
theorem dX2_leastDifferences_36 : decode cX2_leastDifferences 36 = .ok (.iload_n 1, 1) := by decide +kernel
theorem dX2_leastDifferences_37 : decode cX2_leastDifferences 37 = .ok (.aload_n 0, 1) := by decide +kernel
theorem dX2_leastDifferences_38 : decode cX2_leastDifferences 38 = .ok (.getfield 27, 3) := by decide +kernel
theorem dX2_leastDifferences_41 : decode cX2_leastDifferences 41 = .ok (.iload_n 2, 1) := by decide +kernel
theorem dX2_leastDifferences_42 : decode cX2_leastDifferences 42 = .ok (.invokestatic 89, 3) := by decide +kernel
theorem dX2_leastDifferences_45 : decode cX2_leastDifferences 45 = .ok (.aload_n 0, 1) := by decide +kernel
theorem dX2_leastDifferences_46 : decode cX2_leastDifferences 46 = .ok (.getfield 27, 3) := by decide +kernel
theorem dX2_leastDifferences_49 : decode cX2_leastDifferences 49 = .ok (.iload_n 3, 1) := by decide +kernel
theorem dX2_leastDifferences_50 : decode cX2_leastDifferences 50 = .ok (.invokestatic 89, 3) := by decide +kernel
theorem dX2_leastDifferences_53 : decode cX2_leastDifferences 53 = .ok (.invokestatic 160, 3) := by decide +kernel
theorem dX2_leastDifferences_56 : decode cX2_leastDifferences 56 = .ok (.invokestatic 163, 3) := by decide +kernel
theorem dX2_leastDifferences_59 : decode cX2_leastDifferences 59 = .ok (.istore_n 1, 1) := by decide +kernel
theorem dX2_leastDifferences_60 : decode cX2_leastDifferences 60 = .ok (.iinc 3 1, 3) := by decide +kernel
theorem dX2_leastDifferences_63 : decode cX2_leastDifferences 63 = .ok (.goto (-32), 3) := by decide +kernel
theorem dX2_leastDifferences_66 : decode cX2_leastDifferences 66 = .ok (.iinc 2 1, 3) := by decide +kernel
theorem dX2_leastDifferences_69 : decode cX2_leastDifferences 69 = .ok (.goto (-64), 3) := by decide +kernel
theorem dX2_leastDifferences_72 : decode cX2_leastDifferences 72 = .ok (.iload_n 1, 1) := by decide +kernel
theorem dX2_leastDifferences_73 : decode cX2_leastDifferences 73 = .ok (.ireturn, 1) := by decide +kernel
set_option maxRecDepth 20000 in
theorem ggX2_nearestCase_X2_cases : GoodIn wsX2_nearestCase wsX2_cases := goodIn_r _ [6, 7, 33, 34, 35, 36, 37, 38, 39, 40, 41] (by decide +kernel) (by decide +kernel)
set_option maxRecDepth 20000 in
theorem gX2_nearestCase_X2_cases : GoodIn wsX2_nearestCase (wsV RX2 67 RX2 yX2_cases wsX2_cases) := goodIn_app (goodIn_of _ (by decide +kernel)) ggX2_nearestCase_X2_cases
set_option maxRecDepth 20000 in
theorem ggX2_nearestCase_X3_codeWord : GoodIn wsX2_nearestCase wsX3_codeWord := goodIn_r _ [12, 13, 14, 15, 16, 17, 18, 19, 20, 21, 22, 23, 42, 43, 44, 45] (by decide +kernel) (by decide +kernel)
set_option maxRecDepth 20000 in
theorem gX2_nearestCase_X3_codeWord : GoodIn wsX2_nearestCase (wsV RX2 157 RX3 yX3_codeWord wsX3_codeWord) := goodIn_app (goodIn_of _ (by decide +kernel)) ggX2_nearestCase_X3_codeWord
set_option maxRecDepth 20000 in
theorem ggX2_nearestCase_X4_differences : GoodIn wsX2_nearestCase wsX4_differences := goodIn_r _ [25, 26, 27, 28, 29, 30, 31, 32] (by decide +kernel) (by decide +kernel)
set_option maxRecDepth 20000 in
theorem gX2_nearestCase_X4_differences_n160 : GoodIn wsX2_nearestCase (wsX4_differences) := ggX2_nearestCase_X4_differences
theorem dX2_nearestCase_0 : decode cX2_nearestCase 0 = .ok (.iconst (-1), 1) := by decide +kernel
theorem dX2_nearestCase_1 : decode cX2_nearestCase 1 = .ok (.istore_n 2, 1) := by decide +kernel
theorem dX2_nearestCase_2 : decode cX2_nearestCase 2 = .ok (.bipush 9, 2) := by decide +kernel
theorem dX2_nearestCase_4 : decode cX2_nearestCase 4 = .ok (.istore_n 3, 1) := by decide +kernel
theorem dX2_nearestCase_5 : decode cX2_nearestCase 5 = .ok (.iconst 0, 1) := by decide +kernel
theorem dX2_nearestCase_6 : decode cX2_nearestCase 6 = .ok (.istore 4, 2) := by decide +kernel
theorem dX2_nearestCase_8 : decode cX2_nearestCase 8 = .ok (.iload 4, 2) := by decide +kernel
theorem dX2_nearestCase_10 : decode cX2_nearestCase 10 = .ok (.aload_n 0, 1) := by decide +kernel
theorem dX2_nearestCase_11 : decode cX2_nearestCase 11 = .ok (.invokevirtual 67, 3) := by decide +kernel
theorem dX2_nearestCase_14 : decode cX2_nearestCase 14 = .ok (.if_icmp .ge 47, 3) := by decide +kernel
theorem dX2_nearestCase_17 : decode cX2_nearestCase 17 = .ok (.aload_n 0, 1) := by decide +kernel
theorem dX2_nearestCase_18 : decode cX2_nearestCase 18 = .ok (.getfield 20, 3) := by decide +kernel
theorem dX2_nearestCase_21 : decode cX2_nearestCase 21 = .ok (.iload 4, 2) := by decide +kernel
theorem dX2_nearestCase_23 : decode cX2_nearestCase 23 = .ok (.invokevirtual 157, 3) := by decide +kernel
theorem dX2_nearestCase_26 : decode cX2_nearestCase 26 = .ok (.iload_n 1, 1) := by decide +kernel
theorem dX2_nearestCase_27 : decode cX2_nearestCase 27 = .ok (.invokestatic 160, 3) := by decide +kernel
theorem dX2_nearestCase_30 : decode cX2_nearestCase 30 = .ok (.istore 5, 2) := by decide +kernel
theorem dX2_nearestCase_32 : decode cX2_nearestCase 32 = .ok (.iload 5, 2) := by decide +kernel
theorem dX2_nearestCase_34 : decode cX2_nearestCase 34 = .ok (.iload_n 3, 1) := by decide +kernel
theorem dX2_nearestCase_35 : decode cX2_nearestCase 35 = .ok (.if_icmp .ge 12, 3) := by decide +kernel
theorem dX2_nearestCase_38 : decode cX2_nearestCase 38 = .ok (.iload 5, 2) := by decide +kernel
theorem dX2_nearestCase_40 : decode cX2_nearestCase 40 = .ok (.istore_n 3, 1) := by decide +kernel
theorem dX2_nearestCase_41 : decode cX2_nearestCase 41 = .ok (.iload 4, 2) := by decide +kernel
theorem dX2_nearestCase_43 : decode cX2_nearestCase 43 = .ok (.istore_n 2, 1) := by decide +kernel
theorem dX2_nearestCase_44 : decode cX2_nearestCase 44 = .ok (.goto 11, 3) := by decide +kernel
theorem dX2_nearestCase_47 : decode cX2_nearestCase 47 = .ok (.iload 5, 2) := by decide +kernel
theorem dX2_nearestCase_49 : decode cX2_nearestCase 49 = .ok (.iload_n 3, 1) := by decide +kernel
theorem dX2_nearestCase_50 : decode cX2_nearestCase 50 = .ok (.if_icmp .ne 5, 3) := by decide +kernel
theorem dX2_nearestCase_53 : decode cX2_nearestCase 53 = .ok (.iconst (-1), 1) := by decide +kernel
theorem dX2_nearestCase_54 : decode cX2_nearestCase 54 = .ok (.istore_n 2, 1) := by decide +kernel
theorem dX2_nearestCase_55 : decode cX2_nearestCase 55 = .ok (.iinc 4 1, 3) := by decide +kernel
theorem dX2_nearestCase_58 : decode cX2_nearestCase 58 = .ok (.goto (-50), 3) := by decide +kernel
theorem dX2_nearestCase_61 : decode cX2_nearestCase 61 = .ok (.iload_n 2, 1) := by decide +kernel
theorem dX2_nearestCase_62 : decode cX2_nearestCase 62 = .ok (.ireturn, 1) := by decide +kernel
theorem dX3_init_0 : decode cX3_init 0 = .ok (.aload_n 0, 1) := by decide +kernel
theorem dX3_init_1 : decode cX3_init 1 = .ok (.invokespecial 3, 3) := by decide +kernel
theorem dX3_init_4 : decode cX3_init 4 = .ok (.iload_n 1, 1) := by decide +kernel
theorem dX3_init_5 : decode cX3_init 5 = .ok (.iconst 0, 1) := by decide +kernel
theorem dX3_init_6 : decode cX3_init 6 = .ok (.invokestatic 9, 3) := by decide +kernel
theorem dX3_init_9 : decode cX3_init 9 = .ok (.istore_n 2, 1) := by decide +kernel
theorem dX3_init_10 : decode cX3_init 10 = .ok (.aload_n 0, 1) := by decide +kernel
theorem dX3_init_11 : decode cX3_init 11 = .ok (.iload_n 2, 1) := by decide +kernel
theorem dX3_init_12 : decode cX3_init 12 = .ok (.newarray .int, 2) := by decide +kernel
theorem dX3_init_14 : decode cX3_init 14 = .ok (.putfield 15, 3) := by decide +kernel
theorem dX3_init_17 : decode cX3_init 17 = .ok (.aload_n 0, 1) := by decide +kernel
theorem dX3_init_18 : decode cX3_init 18 = .ok (.iload_n 2, 1) := by decide +kernel
theorem dX3_init_19 : decode cX3_init 19 = .ok (.newarray .int, 2) := by decide +kernel
theorem dX3_init_21 : decode cX3_init 21 = .ok (.putfield 21, 3) := by decide +kernel
theorem dX3_init_24 : decode cX3_init 24 = .ok (.aload_n 0, 1) := by decide +kernel
theorem dX3_init_25 : decode cX3_init 25 = .ok (.iload_n 2, 1) := by decide +kernel
theorem dX3_init_26 : decode cX3_init 26 = .ok (.newarray .int, 2) := by decide +kernel
theorem dX3_init_28 : decode cX3_init 28 = .ok (.putfield 24, 3) := by decide +kernel
theorem dX3_init_31 : decode cX3_init 31 = .ok (.return_, 1) := by decide +kernel
set_option maxRecDepth 20000 in
theorem ggX3_copyFrom_X4_copyRow : GoodIn wsX3_copyFrom wsX4_copyRow := goodIn_r _ [7, 8, 9, 10, 11, 12, 13, 14, 15] (by decide +kernel) (by decide +kernel)
set_option maxRecDepth 20000 in
theorem gX3_copyFrom_X4_copyRow_n27 : GoodIn wsX3_copyFrom (wsX4_copyRow) := ggX3_copyFrom_X4_copyRow
theorem dX3_copyFrom_0 : decode cX3_copyFrom 0 = .ok (.aload_n 1, 1) := by decide +kernel
theorem dX3_copyFrom_1 : decode cX3_copyFrom 1 = .ok (.getfield 15, 3) := by decide +kernel
theorem dX3_copyFrom_4 : decode cX3_copyFrom 4 = .ok (.aload_n 0, 1) := by decide +kernel
theorem dX3_copyFrom_5 : decode cX3_copyFrom 5 = .ok (.getfield 15, 3) := by decide +kernel
theorem dX3_copyFrom_8 : decode cX3_copyFrom 8 = .ok (.invokestatic 27, 3) := by decide +kernel
theorem dX3_copyFrom_11 : decode cX3_copyFrom 11 = .ok (.aload_n 1, 1) := by decide +kernel
theorem dX3_copyFrom_12 : decode cX3_copyFrom 12 = .ok (.getfield 21, 3) := by decide +kernel
theorem dX3_copyFrom_15 : decode cX3_copyFrom 15 = .ok (.aload_n 0, 1) := by decide +kernel
theorem dX3_copyFrom_16 : decode cX3_copyFrom 16 = .ok (.getfield 21, 3) := by decide +kernel
theorem dX3_copyFrom_19 : decode cX3_copyFrom 19 = .ok (.invokestatic 27, 3) := by decide +kernel
theorem dX3_copyFrom_22 : decode cX3_copyFrom 22 = .ok (.aload_n 1, 1) := by decide +kernel
theorem dX3_copyFrom_23 : decode cX3_copyFrom 23 = .ok (.getfield 24, 3) := by decide +kernel
theorem dX3_copyFrom_26 : decode cX3_copyFrom 26 = .ok (.aload_n 0, 1) := by decide +kernel
theorem dX3_copyFrom_27 : decode cX3_copyFrom 27 = .ok (.getfield 24, 3) := by decide +kernel
theorem dX3_copyFrom_30 : decode cX3_copyFrom 30 = .ok (.invokestatic 27, 3) := by decide +kernel
theorem dX3_copyFrom_33 : decode cX3_copyFrom 33 = .ok (.aload_n 0, 1) := by decide +kernel
theorem dX3_copyFrom_34 : decode cX3_copyFrom 34 = .ok (.aload_n 1, 1) := by decide +kernel
theorem dX3_copyFrom_35 : decode cX3_copyFrom 35 = .ok (.getfield 31, 3) := by decide +kernel
theorem dX3_copyFrom_38 : decode cX3_copyFrom 38 = .ok (.putfield 31, 3) := by decide +kernel
theorem dX3_copyFrom_41 : decode cX3_copyFrom 41 = .ok (.return_, 1) := by decide +kernel
set_option maxRecDepth 20000 in
theorem ggX3_write_X4_put : GoodIn wsX3_write wsX4_put := goodIn_r _ [7] (by decide +kernel) (by decide +kernel)
set_option maxRecDepth 20000 in
theorem gX3_write_X4_put_n35 : GoodIn wsX3_write (wsX4_put) := ggX3_write_X4_put
theorem dX3_write_0 : decode cX3_write 0 = .ok (.aload_n 0, 1) := by decide +kernel
theorem dX3_write_1 : decode cX3_write 1 = .ok (.getfield 31, 3) := by decide +kernel
theorem dX3_write_4 : decode cX3_write 4 = .ok (.aload_n 0, 1) := by decide +kernel
theorem dX3_write_5 : decode cX3_write 5 = .ok (.getfield 15, 3) := by decide +kernel
theorem dX3_write_8 : decode cX3_write 8 = .ok (.arraylength, 1) := by decide +kernel
theorem dX3_write_9 : decode cX3_write 9 = .ok (.if_icmp .ge 49, 3) := by decide +kernel
theorem dX3_write_12 : decode cX3_write 12 = .ok (.aload_n 0, 1) := by decide +kernel
theorem dX3_write_13 : decode cX3_write 13 = .ok (.getfield 15, 3) := by decide +kernel
theorem dX3_write_16 : decode cX3_write 16 = .ok (.aload_n 0, 1) := by decide +kernel
theorem dX3_write_17 : decode cX3_write 17 = .ok (.getfield 31, 3) := by decide +kernel
theorem dX3_write_20 : decode cX3_write 20 = .ok (.iload_n 1, 1) := by decide +kernel
theorem dX3_write_21 : decode cX3_write 21 = .ok (.invokestatic 35, 3) := by decide +kernel
theorem dX3_write_24 : decode cX3_write 24 = .ok (.aload_n 0, 1) := by decide +kernel
theorem dX3_write_25 : decode cX3_write 25 = .ok (.getfield 21, 3) := by decide +kernel
theorem dX3_write_28 : decode cX3_write 28 = .ok (.aload_n 0, 1) := by decide +kernel
theorem dX3_write_29 : decode cX3_write 29 = .ok (.getfield 31, 3) := by decide +kernel
theorem dX3_write_32 : decode cX3_write 32 = .ok (.iload_n 2, 1) := by decide +kernel
theorem dX3_write_33 : decode cX3_write 33 = .ok (.invokestatic 35, 3) := by decide +kernel
theorem dX3_write_36 : decode cX3_write 36 = .ok (.aload_n 0, 1) := by decide +kernel
theorem dX3_write_37 : decode cX3_write 37 = .ok (.getfield 24, 3) := by decide +kernel
theorem dX3_write_40 : decode cX3_write 40 = .ok (.aload_n 0, 1) := by decide +kernel
theorem dX3_write_41 : decode cX3_write 41 = .ok (.getfield 31, 3) := by decide +kernel
theorem dX3_write_44 : decode cX3_write 44 = .ok (.iload_n 3, 1) := by decide +kernel
theorem dX3_write_45 : decode cX3_write 45 = .ok (.invokestatic 35, 3) := by decide +kernel
theorem dX3_write_48 : decode cX3_write 48 = .ok (.aload_n 0, 1) := by decide +kernel
theorem dX3_write_49 : decode cX3_write 49 = .ok (.dup, 1) := by decide +kernel
theorem dX3_write_50 : decode cX3_write 50 = .ok (.getfield 31, 3) := by decide +kernel
theorem dX3_write_53 : decode cX3_write 53 = .ok (.iconst 1, 1) := by decide +kernel
theorem dX3_write_54 : decode cX3_write 54 = .ok (.iadd, 1) := by decide +kernel
theorem dX3_write_55 : decode cX3_write 55 = .ok (.putfield 31, 3) := by decide +kernel
theorem dX3_write_58 : decode cX3_write 58 = .ok (.return_, 1) := by decide +kernel
theorem dX3_dropLast_0 : decode cX3_dropLast 0 = .ok (.aload_n 0, 1) := by decide +kernel
theorem dX3_dropLast_1 : decode cX3_dropLast 1 = .ok (.getfield 31, 3) := by decide +kernel
theorem dX3_dropLast_4 : decode cX3_dropLast 4 = .ok (.ifCond .le 13, 3) := by decide +kernel
theorem dX3_dropLast_7 : decode cX3_dropLast 7 = .ok (.aload_n 0, 1) := by decide +kernel
theorem dX3_dropLast_8 : decode cX3_dropLast 8 = .ok (.dup, 1) := by decide +kernel
theorem dX3_dropLast_9 : decode cX3_dropLast 9 = .ok (.getfield 31, 3) := by decide +kernel
theorem dX3_dropLast_12 : decode cX3_dropLast 12 = .ok (.iconst 1, 1) := by decide +kernel
theorem dX3_dropLast_13 : decode cX3_dropLast 13 = .ok (.isub, 1) := by decide +kernel
theorem dX3_dropLast_14 : decode cX3_dropLast 14 = .ok (.putfield 31, 3) := by decide +kernel
theorem dX3_dropLast_17 : decode cX3_dropLast 17 = .ok (.return_, 1) := by decide +kernel
set_option maxRecDepth 20000 in
theorem ggX3_part_X4_at : GoodIn wsX3_part wsX4_at := goodIn_r _ [6] (by decide +kernel) (by decide +kernel)
set_option maxRecDepth 20000 in
theorem gX3_part_X4_at_n39 : GoodIn wsX3_part (wsX4_at) := ggX3_part_X4_at
theorem dX3_part_0 : decode cX3_part 0 = .ok (.iload_n 2, 1) := by decide +kernel
theorem dX3_part_1 : decode cX3_part 1 = .ok (.lookupswitch 45 #[(0, 27), (1, 36)], 27) := by decide +kernel
theorem dX3_part_28 : decode cX3_part 28 = .ok (.aload_n 0, 1) := by decide +kernel
theorem dX3_part_29 : decode cX3_part 29 = .ok (.getfield 15, 3) := by decide +kernel
theorem dX3_part_32 : decode cX3_part 32 = .ok (.iload_n 1, 1) := by decide +kernel
theorem dX3_part_33 : decode cX3_part 33 = .ok (.invokestatic 39, 3) := by decide +kernel
theorem dX3_part_36 : decode cX3_part 36 = .ok (.ireturn, 1) := by decide +kernel
theorem dX3_part_37 : decode cX3_part 37 = .ok (.aload_n 0, 1) := by decide +kernel
theorem dX3_part_38 : decode cX3_part 38 = .ok (.getfield 21, 3) := by decide +kernel
theorem dX3_part_41 : decode cX3_part 41 = .ok (.iload_n 1, 1) := by decide +kernel
theorem dX3_part_42 : decode cX3_part 42 = .ok (.invokestatic 39, 3) := by decide +kernel
theorem dX3_part_45 : decode cX3_part 45 = .ok (.ireturn, 1) := by decide +kernel
theorem dX3_part_46 : decode cX3_part 46 = .ok (.aload_n 0, 1) := by decide +kernel
theorem dX3_part_47 : decode cX3_part 47 = .ok (.getfield 24, 3) := by decide +kernel
theorem dX3_part_50 : decode cX3_part 50 = .ok (.iload_n 1, 1) := by decide +kernel
theorem dX3_part_51 : decode cX3_part 51 = .ok (.invokestatic 39, 3) := by decide +kernel
theorem dX3_part_54 : decode cX3_part 54 = .ok (.ireturn, 1) := by decide +kernel
set_option maxRecDepth 20000 in
theorem ggX3_codeWord_X4_at : GoodIn wsX3_codeWord wsX4_at := goodIn_r _ [6] (by decide +kernel) (by decide +kernel)
set_option maxRecDepth 20000 in
theorem gX3_codeWord_X4_at_n39 : GoodIn wsX3_codeWord (wsX4_at) := ggX3_codeWord_X4_at
set_option maxRecDepth 20000 in
theorem ggX3_codeWord_X4_trueAnswer : GoodIn wsX3_codeWord wsX4_trueAnswer := goodIn_r _ [8, 9, 10, 5, 11] (by decide +kernel) (by decide +kernel)
set_option maxRecDepth 20000 in
theorem gX3_codeWord_X4_trueAnswer_n43 : GoodIn wsX3_codeWord (wsX4_trueAnswer) := ggX3_codeWord_X4_trueAnswer
theorem dX3_codeWord_0 : decode cX3_codeWord 0 = .ok (.iconst 0, 1) := by decide +kernel
theorem dX3_codeWord_1 : decode cX3_codeWord 1 = .ok (.istore_n 2, 1) := by decide +kernel
theorem dX3_codeWord_2 : decode cX3_codeWord 2 = .ok (.iconst 0, 1) := by decide +kernel
theorem dX3_codeWord_3 : decode cX3_codeWord 3 = .ok (.istore_n 3, 1) := by decide +kernel
theorem dX3_codeWord_4 : decode cX3_codeWord 4 = .ok (.iload_n 3, 1) := by decide +kernel
theorem dX3_codeWord_5 : decode cX3_codeWord 5 = .ok (.aload_n 0, 1) := by decide +kernel
theorem dX3_codeWord_6 : decode cX3_codeWord 6 = .ok (.getfield 31, 3) := by decide +kernel
theorem dX3_codeWord_9 : decode cX3_codeWord 9 = .ok (.if_icmp .ge 36, 3) := by decide +kernel
theorem dX3_codeWord_12 : decode cX3_codeWord 12 = .ok (.iload_n 2, 1) := by decide +kernel
theorem dX3_codeWord_13 : decode cX3_codeWord 13 = .ok (.iload_n 1, 1) := by decide +kernel
theorem dX3_codeWord_14 : decode cX3_codeWord 14 = .ok (.aload_n 0, 1) := by decide +kernel
theorem dX3_codeWord_15 : decode cX3_codeWord 15 = .ok (.getfield 15, 3) := by decide +kernel
theorem dX3_codeWord_18 : decode cX3_codeWord 18 = .ok (.iload_n 3, 1) := by decide +kernel
theorem dX3_codeWord_19 : decode cX3_codeWord 19 = .ok (.invokestatic 39, 3) := by decide +kernel
theorem dX3_codeWord_22 : decode cX3_codeWord 22 = .ok (.aload_n 0, 1) := by decide +kernel
theorem dX3_codeWord_23 : decode cX3_codeWord 23 = .ok (.getfield 21, 3) := by decide +kernel
theorem dX3_codeWord_26 : decode cX3_codeWord 26 = .ok (.iload_n 3, 1) := by decide +kernel
theorem dX3_codeWord_27 : decode cX3_codeWord 27 = .ok (.invokestatic 39, 3) := by decide +kernel
theorem dX3_codeWord_30 : decode cX3_codeWord 30 = .ok (.invokestatic 43, 3) := by decide +kernel
theorem dX3_codeWord_33 : decode cX3_codeWord 33 = .ok (.iconst 2, 1) := by decide +kernel
theorem dX3_codeWord_34 : decode cX3_codeWord 34 = .ok (.iload_n 3, 1) := by decide +kernel
theorem dX3_codeWord_35 : decode cX3_codeWord 35 = .ok (.imul, 1) := by decide +kernel
theorem dX3_codeWord_36 : decode cX3_codeWord 36 = .ok (.ishl, 1) := by decide +kernel
theorem dX3_codeWord_37 : decode cX3_codeWord 37 = .ok (.ior, 1) := by decide +kernel
theorem dX3_codeWord_38 : decode cX3_codeWord 38 = .ok (.istore_n 2, 1) := by decide +kernel
theorem dX3_codeWord_39 : decode cX3_codeWord 39 = .ok (.iinc 3 1, 3) := by decide +kernel
theorem dX3_codeWord_42 : decode cX3_codeWord 42 = .ok (.goto (-38), 3) := by decide +kernel
theorem dX3_codeWord_45 : decode cX3_codeWord 45 = .ok (.iload_n 2, 1) := by decide +kernel
theorem dX3_codeWord_46 : decode cX3_codeWord 46 = .ok (.ireturn, 1) := by decide +kernel
theorem dX3_answerRows_0 : decode cX3_answerRows 0 = .ok (.iconst 1, 1) := by decide +kernel
theorem dX3_answerRows_1 : decode cX3_answerRows 1 = .ok (.istore_n 1, 1) := by decide +kernel
theorem dX3_answerRows_2 : decode cX3_answerRows 2 = .ok (.iconst 0, 1) := by decide +kernel
theorem dX3_answerRows_3 : decode cX3_answerRows 3 = .ok (.istore_n 2, 1) := by decide +kernel
theorem dX3_answerRows_4 : decode cX3_answerRows 4 = .ok (.iload_n 2, 1) := by decide +kernel
theorem dX3_answerRows_5 : decode cX3_answerRows 5 = .ok (.aload_n 0, 1) := by decide +kernel
theorem dX3_answerRows_6 : decode cX3_answerRows 6 = .ok (.getfield 31, 3) := by decide +kernel
theorem dX3_answerRows_9 : decode cX3_answerRows 9 = .ok (.if_icmp .ge 13, 3) := by decide +kernel
theorem dX3_answerRows_12 : decode cX3_answerRows 12 = .ok (.iload_n 1, 1) := by decide +kernel
theorem dX3_answerRows_13 : decode cX3_answerRows 13 = .ok (.iconst 3, 1) := by decide +kernel
theorem dX3_answerRows_14 : decode cX3_answerRows 14 = .ok (.imul, 1) := by decide +kernel
theorem dX3_answerRows_15 : decode cX3_answerRows 15 = .ok (.istore_n 1, 1) := by decide +kernel
theorem dX3_answerRows_16 : decode cX3_answerRows 16 = .ok (.iinc 2 1, 3) := by decide +kernel
theorem dX3_answerRows_19 : decode cX3_answerRows 19 = .ok (.goto (-15), 3) := by decide +kernel
theorem dX3_answerRows_22 : decode cX3_answerRows 22 = .ok (.iload_n 1, 1) := by decide +kernel
theorem dX3_answerRows_23 : decode cX3_answerRows 23 = .ok (.ireturn, 1) := by decide +kernel
end
section
set_option maxRecDepth 20000 in
theorem ggX4_init_X2_init : GoodIn wsX4_init wsX2_init := goodIn_r _ [18, 19, 2, 3, 20, 21, 22, 23, 24, 25, 26, 27, 28, 29, 30, 31, 32, 33, 34, 35, 36, 37, 38, 39, 40, 41, 6, 42, 43, 44, 45, 46, 47, 48, 49, 50, 51, 52, 53, 54, 55, 56, 57, 58, 97, 98, 99, 100, 74, 75, 76, 77, 78, 79, 80, 81, 82] (by decide +kernel) (by decide +kernel)
set_option maxRecDepth 20000 in
theorem gX4_init_X2_init : GoodIn wsX4_init (wsX2_init) := ggX4_init_X2_init
set_option maxRecDepth 20000 in
theorem ggX4_init_X0_init : GoodIn wsX4_init wsX0_init := goodIn_r _ [61, 62, 2, 3, 63, 64, 5, 6, 65, 17, 18, 19, 20, 21, 22, 23, 24, 25, 26, 27, 28, 29, 30, 31, 32, 33, 34, 35, 36, 37, 38, 39, 40, 41, 42, 43, 44, 45, 46, 47, 48, 49, 50, 51, 52, 53, 54, 55, 56, 57, 58, 86, 87, 74, 75, 76, 77, 78, 79, 80, 81, 82, 97, 98, 99, 100] (by decide +kernel) (by decide +kernel)
set_option maxRecDepth 20000 in
theorem gX4_init_X0_init : GoodIn wsX4_init (wsX0_init) := ggX4_init_X0_init
set_option maxRecDepth 20000 in
theorem ggX4_init_X1_init : GoodIn wsX4_init wsX1_init := goodIn_r _ [68, 69, 2, 3, 25, 70, 71, 72, 73, 88, 89, 90, 91, 92, 93, 94, 95, 96] (by decide +kernel) (by decide +kernel)
set_option maxRecDepth 20000 in
theorem gX4_init_X1_init : GoodIn wsX4_init (wsX1_init) := ggX4_init_X1_init
theorem dX4_init_0 : decode cX4_init 0 = .ok (.aload_n 0, 1) := by decide +kernel
theorem dX4_init_1 : decode cX4_init 1 = .ok (.invokespecial 3, 3) := by decide +kernel
theorem dX4_init_4 : decode cX4_init 4 = .ok (.aload_n 0, 1) := by decide +kernel
theorem dX4_init_5 : decode cX4_init 5 = .ok (.new 9, 3) := by decide +kernel
theorem dX4_init_8 : decode cX4_init 8 = .ok (.dup, 1) := by decide +kernel
theorem dX4_init_9 : decode cX4_init 9 = .ok (.invokespecial 11, 3) := by decide +kernel
theorem dX4_init_12 : decode cX4_init 12 = .ok (.putfield 12, 3) := by decide +kernel
theorem dX4_init_15 : decode cX4_init 15 = .ok (.aload_n 0, 1) := by decide +kernel
theorem dX4_init_16 : decode cX4_init 16 = .ok (.new 16, 3) := by decide +kernel
theorem dX4_init_19 : decode cX4_init 19 = .ok (.dup, 1) := by decide +kernel
theorem dX4_init_20 : decode cX4_init 20 = .ok (.invokespecial 18, 3) := by decide +kernel
theorem dX4_init_23 : decode cX4_init 23 = .ok (.putfield 19, 3) := by decide +kernel
theorem dX4_init_26 : decode cX4_init 26 = .ok (.aload_n 0, 1) := by decide +kernel
theorem dX4_init_27 : decode cX4_init 27 = .ok (.new 23, 3) := by decide +kernel
theorem dX4_init_30 : decode cX4_init 30 = .ok (.dup, 1) := by decide +kernel
theorem dX4_init_31 : decode cX4_init 31 = .ok (.invokespecial 25, 3) := by decide +kernel
theorem dX4_init_34 : decode cX4_init 34 = .ok (.putfield 26, 3) := by decide +kernel
theorem dX4_init_37 : decode cX4_init 37 = .ok (.return_, 1) := by decide +kernel
set_option maxRecDepth 20000 in
theorem ggX4_begin_X0_save : GoodIn wsX4_begin wsX0_save := goodIn_r _ [9, 10, 11, 12, 13, 14, 8, 15, 16, 17, 18, 19, 20, 21, 22, 23, 24, 25, 26, 27, 28, 29, 30, 31, 32, 33, 34, 35, 36, 37, 38, 39, 40, 41, 42, 43, 44, 45, 46, 47, 48, 49, 50, 51, 52, 83, 84, 70, 71, 72, 73, 74, 75, 76, 77, 78, 79, 80, 81, 82] (by decide +kernel) (by decide +kernel)
set_option maxRecDepth 20000 in
theorem gX4_begin_X0_save : GoodIn wsX4_begin (wsV RX4 37 RX0 yX0_save wsX0_save) := goodIn_app (goodIn_of _ (by decide +kernel)) ggX4_begin_X0_save
set_option maxRecDepth 20000 in
theorem ggX4_begin_X2_start : GoodIn wsX4_begin wsX2_start := goodIn_r _ [56, 28, 29, 26, 57, 58, 59, 23, 60, 30, 31, 32, 61, 62, 63, 64, 25, 27, 65, 43, 66, 70, 71, 72, 73, 74, 75, 76, 77, 78, 79, 80, 81, 82] (by decide +kernel) (by decide +kernel)
set_option maxRecDepth 20000 in
theorem gX4_begin_X2_start : GoodIn wsX4_begin (wsV RX4 51 RX2 yX2_start wsX2_start) := goodIn_app (goodIn_of _ (by decide +kernel)) ggX4_begin_X2_start
theorem dX4_begin_0 : decode cX4_begin 0 = .ok (.iload_n 1, 1) := by decide +kernel
theorem dX4_begin_1 : decode cX4_begin 1 = .ok (.iconst 2, 1) := by decide +kernel
theorem dX4_begin_2 : decode cX4_begin 2 = .ok (.if_icmp .lt 9, 3) := by decide +kernel
theorem dX4_begin_5 : decode cX4_begin 5 = .ok (.iload_n 1, 1) := by decide +kernel
theorem dX4_begin_6 : decode cX4_begin 6 = .ok (.bipush 16, 2) := by decide +kernel
theorem dX4_begin_8 : decode cX4_begin 8 = .ok (.if_icmp .le 13, 3) := by decide +kernel
theorem dX4_begin_11 : decode cX4_begin 11 = .ok (.new 30, 3) := by decide +kernel
theorem dX4_begin_14 : decode cX4_begin 14 = .ok (.dup, 1) := by decide +kernel
theorem dX4_begin_15 : decode cX4_begin 15 = .ok (.ldc 32, 2) := by decide +kernel
theorem dX4_begin_17 : decode cX4_begin 17 = .ok (.invokespecial 34, 3) := by decide +kernel
theorem dX4_begin_20 : decode cX4_begin 20 = .ok (.athrow, 1) := by decide +kernel
theorem dX4_begin_21 : decode cX4_begin 21 = .ok (.aload_n 0, 1) := by decide +kernel
theorem dX4_begin_22 : decode cX4_begin 22 = .ok (.getfield 19, 3) := by decide +kernel
theorem dX4_begin_25 : decode cX4_begin 25 = .ok (.aload_n 0, 1) := by decide +kernel
theorem dX4_begin_26 : decode cX4_begin 26 = .ok (.getfield 12, 3) := by decide +kernel
theorem dX4_begin_29 : decode cX4_begin 29 = .ok (.invokevirtual 37, 3) := by decide +kernel
theorem dX4_begin_32 : decode cX4_begin 32 = .ok (.aload_n 0, 1) := by decide +kernel
theorem dX4_begin_33 : decode cX4_begin 33 = .ok (.getfield 12, 3) := by decide +kernel
theorem dX4_begin_36 : decode cX4_begin 36 = .ok (.getfield 41, 3) := by decide +kernel
theorem dX4_begin_39 : decode cX4_begin 39 = .ok (.getfield 45, 3) := by decide +kernel
theorem dX4_begin_42 : decode cX4_begin 42 = .ok (.istore_n 2, 1) := by decide +kernel
theorem dX4_begin_43 : decode cX4_begin 43 = .ok (.aload_n 0, 1) := by decide +kernel
theorem dX4_begin_44 : decode cX4_begin 44 = .ok (.getfield 12, 3) := by decide +kernel
theorem dX4_begin_47 : decode cX4_begin 47 = .ok (.iload_n 1, 1) := by decide +kernel
theorem dX4_begin_48 : decode cX4_begin 48 = .ok (.invokevirtual 51, 3) := by decide +kernel
theorem dX4_begin_51 : decode cX4_begin 51 = .ok (.iload_n 2, 1) := by decide +kernel
theorem dX4_begin_52 : decode cX4_begin 52 = .ok (.ireturn, 1) := by decide +kernel
set_option maxRecDepth 20000 in
theorem ggX4_setLimit_X0_save : GoodIn wsX4_setLimit wsX0_save := goodIn_r _ [9, 10, 11, 12, 13, 14, 8, 15, 16, 17, 18, 19, 20, 21, 22, 23, 24, 25, 26, 27, 28, 29, 30, 31, 32, 33, 34, 35, 36, 37, 38, 39, 40, 41, 42, 43, 44, 45, 46, 47, 48, 49, 50, 51, 52, 79, 80, 70, 71, 72, 73, 74, 75, 76, 77, 78, 81, 82, 83, 84] (by decide +kernel) (by decide +kernel)
set_option maxRecDepth 20000 in
theorem gX4_setLimit_X0_save : GoodIn wsX4_setLimit (wsV RX4 37 RX0 yX0_save wsX0_save) := goodIn_app (goodIn_of _ (by decide +kernel)) ggX4_setLimit_X0_save
set_option maxRecDepth 20000 in
theorem ggX4_setLimit_X2_countLeft : GoodIn wsX4_setLimit wsX2_countLeft := goodIn_r _ [56, 57, 58, 59, 23, 60, 28, 61, 62, 63, 64, 27, 29, 65, 43, 66, 70, 71, 72, 73, 74, 75, 76, 77, 78] (by decide +kernel) (by decide +kernel)
set_option maxRecDepth 20000 in
theorem gX4_setLimit_X2_countLeft : GoodIn wsX4_setLimit (wsV RX4 60 RX2 yX2_countLeft wsX2_countLeft) := goodIn_app (goodIn_of _ (by decide +kernel)) ggX4_setLimit_X2_countLeft
theorem dX4_setLimit_0 : decode cX4_setLimit 0 = .ok (.iload_n 1, 1) := by decide +kernel
theorem dX4_setLimit_1 : decode cX4_setLimit 1 = .ok (.ifCond .lt 8, 3) := by decide +kernel
theorem dX4_setLimit_4 : decode cX4_setLimit 4 = .ok (.iload_n 1, 1) := by decide +kernel
theorem dX4_setLimit_5 : decode cX4_setLimit 5 = .ok (.iconst 2, 1) := by decide +kernel
theorem dX4_setLimit_6 : decode cX4_setLimit 6 = .ok (.if_icmp .le 13, 3) := by decide +kernel
theorem dX4_setLimit_9 : decode cX4_setLimit 9 = .ok (.new 30, 3) := by decide +kernel
theorem dX4_setLimit_12 : decode cX4_setLimit 12 = .ok (.dup, 1) := by decide +kernel
theorem dX4_setLimit_13 : decode cX4_setLimit 13 = .ok (.ldc 55, 2) := by decide +kernel
theorem dX4_setLimit_15 : decode cX4_setLimit 15 = .ok (.invokespecial 34, 3) := by decide +kernel
theorem dX4_setLimit_18 : decode cX4_setLimit 18 = .ok (.athrow, 1) := by decide +kernel
theorem dX4_setLimit_19 : decode cX4_setLimit 19 = .ok (.aload_n 0, 1) := by decide +kernel
theorem dX4_setLimit_20 : decode cX4_setLimit 20 = .ok (.getfield 19, 3) := by decide +kernel
theorem dX4_setLimit_23 : decode cX4_setLimit 23 = .ok (.aload_n 0, 1) := by decide +kernel
theorem dX4_setLimit_24 : decode cX4_setLimit 24 = .ok (.getfield 12, 3) := by decide +kernel
theorem dX4_setLimit_27 : decode cX4_setLimit 27 = .ok (.invokevirtual 37, 3) := by decide +kernel
theorem dX4_setLimit_30 : decode cX4_setLimit 30 = .ok (.aload_n 0, 1) := by decide +kernel
theorem dX4_setLimit_31 : decode cX4_setLimit 31 = .ok (.getfield 12, 3) := by decide +kernel
theorem dX4_setLimit_34 : decode cX4_setLimit 34 = .ok (.iload_n 1, 1) := by decide +kernel
theorem dX4_setLimit_35 : decode cX4_setLimit 35 = .ok (.putfield 57, 3) := by decide +kernel
theorem dX4_setLimit_38 : decode cX4_setLimit 38 = .ok (.aload_n 0, 1) := by decide +kernel
theorem dX4_setLimit_39 : decode cX4_setLimit 39 = .ok (.getfield 12, 3) := by decide +kernel
theorem dX4_setLimit_42 : decode cX4_setLimit 42 = .ok (.invokevirtual 60, 3) := by decide +kernel
theorem dX4_setLimit_45 : decode cX4_setLimit 45 = .ok (.ireturn, 1) := by decide +kernel
set_option maxRecDepth 20000 in
theorem ggX4_tell_X2_isWeighing : GoodIn wsX4_tell wsX2_isWeighing := goodIn_r _ [11, 12, 13, 14, 15, 16, 17, 18, 19, 109, 110, 111, 112, 113, 114, 115, 116, 117] (by decide +kernel) (by decide +kernel)
set_option maxRecDepth 20000 in
theorem gX4_tell_X2_isWeighing : GoodIn wsX4_tell (wsV RX4 64 RX2 yX2_isWeighing wsX2_isWeighing) := goodIn_app (goodIn_of _ (by decide +kernel)) ggX4_tell_X2_isWeighing
set_option maxRecDepth 20000 in
theorem ggX4_tell_X4_isAnswer : GoodIn wsX4_tell wsX4_isAnswer := goodIn_r _ [23] (by decide +kernel) (by decide +kernel)
set_option maxRecDepth 20000 in
theorem gX4_tell_X4_isAnswer : GoodIn wsX4_tell (va_wsS RX4 68 yX4_isAnswer wsX4_isAnswer) := goodIn_app (goodIn_of _ (by decide +kernel)) ggX4_tell_X4_isAnswer
set_option maxRecDepth 20000 in
theorem ggX4_tell_X2_canLearn : GoodIn wsX4_tell wsX2_canLearn := goodIn_r _ [27, 28, 109, 110, 111, 112, 113, 114, 115, 116, 117, 118, 119, 120, 121] (by decide +kernel) (by decide +kernel)
set_option maxRecDepth 20000 in
theorem gX4_tell_X2_canLearn : GoodIn wsX4_tell (wsV RX4 74 RX2 yX2_canLearn wsX2_canLearn) := goodIn_app (goodIn_of _ (by decide +kernel)) ggX4_tell_X2_canLearn
set_option maxRecDepth 20000 in
theorem ggX4_tell_X0_save : GoodIn wsX4_tell wsX0_save := goodIn_r _ [33, 34, 35, 36, 37, 38, 32, 39, 40, 41, 42, 43, 44, 45, 46, 10, 47, 28, 48, 49, 12, 50, 51, 52, 53, 54, 55, 56, 57, 58, 59, 60, 61, 62, 63, 22, 64, 65, 66, 67, 68, 69, 70, 71, 72, 122, 123, 109, 110, 111, 112, 113, 114, 115, 116, 117, 118, 119, 120, 121] (by decide +kernel) (by decide +kernel)
set_option maxRecDepth 20000 in
theorem gX4_tell_X0_save : GoodIn wsX4_tell (wsV RX4 37 RX0 yX0_save wsX0_save) := goodIn_app (goodIn_of _ (by decide +kernel)) ggX4_tell_X0_save
set_option maxRecDepth 20000 in
theorem ggX4_tell_X2_learn : GoodIn wsX4_tell wsX2_learn := goodIn_r _ [76, 28, 49, 77, 78, 79, 57, 80, 62, 59, 60, 61, 81, 22, 82, 83, 84, 85, 10, 86, 12, 87, 88, 89, 90, 91, 92, 93, 94, 95, 96, 97, 109, 110, 111, 112, 113, 114, 115, 116, 117, 118, 119, 120, 121] (by decide +kernel) (by decide +kernel)
set_option maxRecDepth 20000 in
theorem gX4_tell_X2_learn : GoodIn wsX4_tell (wsV RX4 83 RX2 yX2_learn wsX2_learn) := goodIn_app (goodIn_of _ (by decide +kernel)) ggX4_tell_X2_learn
set_option maxRecDepth 20000 in
theorem ggX4_tell_X2_countLeft : GoodIn wsX4_tell wsX2_countLeft := goodIn_r _ [101, 83, 84, 85, 10, 86, 12, 102, 103, 104, 105, 49, 50, 91, 22, 92, 109, 110, 111, 112, 113, 114, 115, 116, 117] (by decide +kernel) (by decide +kernel)
set_option maxRecDepth 20000 in
theorem gX4_tell_X2_countLeft : GoodIn wsX4_tell (wsV RX4 60 RX2 yX2_countLeft wsX2_countLeft) := goodIn_app (goodIn_of _ (by decide +kernel)) ggX4_tell_X2_countLeft
theorem dX4_tell_0 : decode cX4_tell 0 = .ok (.aload_n 0, 1) := by decide +kernel
theorem dX4_tell_1 : decode cX4_tell 1 = .ok (.getfield 12, 3) := by decide +kernel
theorem dX4_tell_4 : decode cX4_tell 4 = .ok (.iload_n 1, 1) := by decide +kernel
theorem dX4_tell_5 : decode cX4_tell 5 = .ok (.iload_n 2, 1) := by decide +kernel
theorem dX4_tell_6 : decode cX4_tell 6 = .ok (.invokevirtual 64, 3) := by decide +kernel
theorem dX4_tell_9 : decode cX4_tell 9 = .ok (.ifCond .eq 10, 3) := by decide +kernel
theorem dX4_tell_12 : decode cX4_tell 12 = .ok (.iload_n 3, 1) := by decide +kernel
theorem dX4_tell_13 : decode cX4_tell 13 = .ok (.invokestatic 68, 3) := by decide +kernel
theorem dX4_tell_16 : decode cX4_tell 16 = .ok (.ifCond .ne 13, 3) := by decide +kernel
theorem dX4_tell_19 : decode cX4_tell 19 = .ok (.new 30, 3) := by decide +kernel
theorem dX4_tell_22 : decode cX4_tell 22 = .ok (.dup, 1) := by decide +kernel
theorem dX4_tell_23 : decode cX4_tell 23 = .ok (.ldc 72, 2) := by decide +kernel
theorem dX4_tell_25 : decode cX4_tell 25 = .ok (.invokespecial 34, 3) := by decide +kernel
theorem dX4_tell_28 : decode cX4_tell 28 = .ok (.athrow, 1) := by decide +kernel
theorem dX4_tell_29 : decode cX4_tell 29 = .ok (.aload_n 0, 1) := by decide +kernel
theorem dX4_tell_30 : decode cX4_tell 30 = .ok (.getfield 12, 3) := by decide +kernel
theorem dX4_tell_33 : decode cX4_tell 33 = .ok (.invokevirtual 74, 3) := by decide +kernel
theorem dX4_tell_36 : decode cX4_tell 36 = .ok (.ifCond .ne 13, 3) := by decide +kernel
theorem dX4_tell_39 : decode cX4_tell 39 = .ok (.new 78, 3) := by decide +kernel
theorem dX4_tell_42 : decode cX4_tell 42 = .ok (.dup, 1) := by decide +kernel
theorem dX4_tell_43 : decode cX4_tell 43 = .ok (.ldc 80, 2) := by decide +kernel
theorem dX4_tell_45 : decode cX4_tell 45 = .ok (.invokespecial 82, 3) := by decide +kernel
theorem dX4_tell_48 : decode cX4_tell 48 = .ok (.athrow, 1) := by decide +kernel
theorem dX4_tell_49 : decode cX4_tell 49 = .ok (.aload_n 0, 1) := by decide +kernel
theorem dX4_tell_50 : decode cX4_tell 50 = .ok (.getfield 19, 3) := by decide +kernel
theorem dX4_tell_53 : decode cX4_tell 53 = .ok (.aload_n 0, 1) := by decide +kernel
theorem dX4_tell_54 : decode cX4_tell 54 = .ok (.getfield 12, 3) := by decide +kernel
theorem dX4_tell_57 : decode cX4_tell 57 = .ok (.invokevirtual 37, 3) := by decide +kernel
theorem dX4_tell_60 : decode cX4_tell 60 = .ok (.aload_n 0, 1) := by decide +kernel
theorem dX4_tell_61 : decode cX4_tell 61 = .ok (.getfield 12, 3) := by decide +kernel
theorem dX4_tell_64 : decode cX4_tell 64 = .ok (.iload_n 1, 1) := by decide +kernel
theorem dX4_tell_65 : decode cX4_tell 65 = .ok (.iload_n 2, 1) := by decide +kernel
theorem dX4_tell_66 : decode cX4_tell 66 = .ok (.iload_n 3, 1) := by decide +kernel
theorem dX4_tell_67 : decode cX4_tell 67 = .ok (.invokevirtual 83, 3) := by decide +kernel
theorem dX4_tell_70 : decode cX4_tell 70 = .ok (.aload_n 0, 1) := by decide +kernel
theorem dX4_tell_71 : decode cX4_tell 71 = .ok (.getfield 12, 3) := by decide +kernel
theorem dX4_tell_74 : decode cX4_tell 74 = .ok (.invokevirtual 60, 3) := by decide +kernel
theorem dX4_tell_77 : decode cX4_tell 77 = .ok (.ireturn, 1) := by decide +kernel
set_option maxRecDepth 20000 in
theorem ggX4_forget_X0_save : GoodIn wsX4_forget wsX0_save := goodIn_r _ [7, 8, 9, 10, 11, 12, 6, 13, 14, 15, 16, 17, 18, 19, 20, 21, 22, 23, 24, 25, 26, 27, 28, 29, 30, 31, 32, 33, 34, 35, 36, 37, 38, 39, 40, 41, 42, 43, 44, 45, 46, 47, 48, 49, 50, 73, 74, 60, 61, 62, 63, 64, 65, 66, 67, 68, 69, 70, 71, 72] (by decide +kernel) (by decide +kernel)
set_option maxRecDepth 20000 in
theorem gX4_forget_X0_save : GoodIn wsX4_forget (wsV RX4 37 RX0 yX0_save wsX0_save) := goodIn_app (goodIn_of _ (by decide +kernel)) ggX4_forget_X0_save
set_option maxRecDepth 20000 in
theorem ggX4_forget_X2_forgetTold : GoodIn wsX4_forget wsX2_forgetTold := goodIn_r _ [54, 23, 25, 55, 41, 56, 60, 61, 62, 63, 64, 65, 66, 67, 68, 69, 70, 71, 72] (by decide +kernel) (by decide +kernel)
set_option maxRecDepth 20000 in
theorem gX4_forget_X2_forgetTold : GoodIn wsX4_forget (wsV RX4 87 RX2 yX2_forgetTold wsX2_forgetTold) := goodIn_app (goodIn_of _ (by decide +kernel)) ggX4_forget_X2_forgetTold
theorem dX4_forget_0 : decode cX4_forget 0 = .ok (.aload_n 0, 1) := by decide +kernel
theorem dX4_forget_1 : decode cX4_forget 1 = .ok (.getfield 19, 3) := by decide +kernel
theorem dX4_forget_4 : decode cX4_forget 4 = .ok (.aload_n 0, 1) := by decide +kernel
theorem dX4_forget_5 : decode cX4_forget 5 = .ok (.getfield 12, 3) := by decide +kernel
theorem dX4_forget_8 : decode cX4_forget 8 = .ok (.invokevirtual 37, 3) := by decide +kernel
theorem dX4_forget_11 : decode cX4_forget 11 = .ok (.aload_n 0, 1) := by decide +kernel
theorem dX4_forget_12 : decode cX4_forget 12 = .ok (.getfield 12, 3) := by decide +kernel
theorem dX4_forget_15 : decode cX4_forget 15 = .ok (.getfield 41, 3) := by decide +kernel
theorem dX4_forget_18 : decode cX4_forget 18 = .ok (.getfield 45, 3) := by decide +kernel
theorem dX4_forget_21 : decode cX4_forget 21 = .ok (.istore_n 1, 1) := by decide +kernel
theorem dX4_forget_22 : decode cX4_forget 22 = .ok (.aload_n 0, 1) := by decide +kernel
theorem dX4_forget_23 : decode cX4_forget 23 = .ok (.getfield 12, 3) := by decide +kernel
theorem dX4_forget_26 : decode cX4_forget 26 = .ok (.invokevirtual 87, 3) := by decide +kernel
theorem dX4_forget_29 : decode cX4_forget 29 = .ok (.iload_n 1, 1) := by decide +kernel
theorem dX4_forget_30 : decode cX4_forget 30 = .ok (.ireturn, 1) := by decide +kernel
set_option maxRecDepth 20000 in
theorem ggX4_hide_X2_isCase : GoodIn wsX4_hide wsX2_isCase := goodIn_r _ [12, 13, 14, 15, 11, 16, 17, 71, 72, 73, 74, 75, 76, 77, 78, 79] (by decide +kernel) (by decide +kernel)
set_option maxRecDepth 20000 in
theorem gX4_hide_X2_isCase : GoodIn wsX4_hide (wsV RX4 90 RX2 yX2_isCase wsX2_isCase) := goodIn_app (goodIn_of _ (by decide +kernel)) ggX4_hide_X2_isCase
set_option maxRecDepth 20000 in
theorem ggX4_hide_X0_save : GoodIn wsX4_hide wsX0_save := goodIn_r _ [22, 23, 24, 25, 26, 27, 21, 28, 29, 30, 31, 32, 33, 34, 35, 11, 36, 37, 38, 39, 17, 40, 41, 42, 43, 44, 45, 46, 47, 48, 49, 50, 51, 52, 53, 54, 55, 56, 57, 58, 59, 60, 61, 62, 63, 80, 81, 71, 72, 73, 74, 75, 76, 77, 78, 79, 82, 83, 84, 85] (by decide +kernel) (by decide +kernel)
set_option maxRecDepth 20000 in
theorem gX4_hide_X0_save : GoodIn wsX4_hide (wsV RX4 37 RX0 yX0_save wsX0_save) := goodIn_app (goodIn_of _ (by decide +kernel)) ggX4_hide_X0_save
set_option maxRecDepth 20000 in
theorem ggX4_hide_X2_hideCase : GoodIn wsX4_hide wsX2_hideCase := goodIn_r _ [67, 41, 42, 43, 71, 72, 73, 74, 75, 76, 77, 78, 79] (by decide +kernel) (by decide +kernel)
set_option maxRecDepth 20000 in
theorem gX4_hide_X2_hideCase : GoodIn wsX4_hide (wsV RX4 102 RX2 yX2_hideCase wsX2_hideCase) := goodIn_app (goodIn_of _ (by decide +kernel)) ggX4_hide_X2_hideCase
theorem dX4_hide_0 : decode cX4_hide 0 = .ok (.aload_n 0, 1) := by decide +kernel
theorem dX4_hide_1 : decode cX4_hide 1 = .ok (.getfield 12, 3) := by decide +kernel
theorem dX4_hide_4 : decode cX4_hide 4 = .ok (.iload_n 1, 1) := by decide +kernel
theorem dX4_hide_5 : decode cX4_hide 5 = .ok (.invokevirtual 90, 3) := by decide +kernel
theorem dX4_hide_8 : decode cX4_hide 8 = .ok (.ifCond .ne 13, 3) := by decide +kernel
theorem dX4_hide_11 : decode cX4_hide 11 = .ok (.new 93, 3) := by decide +kernel
theorem dX4_hide_14 : decode cX4_hide 14 = .ok (.dup, 1) := by decide +kernel
theorem dX4_hide_15 : decode cX4_hide 15 = .ok (.ldc 95, 2) := by decide +kernel
theorem dX4_hide_17 : decode cX4_hide 17 = .ok (.invokespecial 97, 3) := by decide +kernel
theorem dX4_hide_20 : decode cX4_hide 20 = .ok (.athrow, 1) := by decide +kernel
theorem dX4_hide_21 : decode cX4_hide 21 = .ok (.iload_n 2, 1) := by decide +kernel
theorem dX4_hide_22 : decode cX4_hide 22 = .ok (.ifCond .lt 9, 3) := by decide +kernel
theorem dX4_hide_25 : decode cX4_hide 25 = .ok (.iload_n 2, 1) := by decide +kernel
theorem dX4_hide_26 : decode cX4_hide 26 = .ok (.ldc 98, 2) := by decide +kernel
theorem dX4_hide_28 : decode cX4_hide 28 = .ok (.if_icmp .le 13, 3) := by decide +kernel
theorem dX4_hide_31 : decode cX4_hide 31 = .ok (.new 30, 3) := by decide +kernel
theorem dX4_hide_34 : decode cX4_hide 34 = .ok (.dup, 1) := by decide +kernel
theorem dX4_hide_35 : decode cX4_hide 35 = .ok (.ldc 55, 2) := by decide +kernel
theorem dX4_hide_37 : decode cX4_hide 37 = .ok (.invokespecial 34, 3) := by decide +kernel
theorem dX4_hide_40 : decode cX4_hide 40 = .ok (.athrow, 1) := by decide +kernel
theorem dX4_hide_41 : decode cX4_hide 41 = .ok (.aload_n 0, 1) := by decide +kernel
theorem dX4_hide_42 : decode cX4_hide 42 = .ok (.getfield 19, 3) := by decide +kernel
theorem dX4_hide_45 : decode cX4_hide 45 = .ok (.aload_n 0, 1) := by decide +kernel
theorem dX4_hide_46 : decode cX4_hide 46 = .ok (.getfield 12, 3) := by decide +kernel
theorem dX4_hide_49 : decode cX4_hide 49 = .ok (.invokevirtual 37, 3) := by decide +kernel
theorem dX4_hide_52 : decode cX4_hide 52 = .ok (.aload_n 0, 1) := by decide +kernel
theorem dX4_hide_53 : decode cX4_hide 53 = .ok (.getfield 12, 3) := by decide +kernel
theorem dX4_hide_56 : decode cX4_hide 56 = .ok (.getfield 99, 3) := by decide +kernel
theorem dX4_hide_59 : decode cX4_hide 59 = .ok (.istore_n 3, 1) := by decide +kernel
theorem dX4_hide_60 : decode cX4_hide 60 = .ok (.aload_n 0, 1) := by decide +kernel
theorem dX4_hide_61 : decode cX4_hide 61 = .ok (.getfield 12, 3) := by decide +kernel
theorem dX4_hide_64 : decode cX4_hide 64 = .ok (.iload_n 1, 1) := by decide +kernel
theorem dX4_hide_65 : decode cX4_hide 65 = .ok (.iload_n 2, 1) := by decide +kernel
theorem dX4_hide_66 : decode cX4_hide 66 = .ok (.invokevirtual 102, 3) := by decide +kernel
theorem dX4_hide_69 : decode cX4_hide 69 = .ok (.iload_n 3, 1) := by decide +kernel
theorem dX4_hide_70 : decode cX4_hide 70 = .ok (.ireturn, 1) := by decide +kernel
set_option maxRecDepth 20000 in
theorem ggX4_ask_X2_isWeighing : GoodIn wsX4_ask wsX2_isWeighing := goodIn_r _ [11, 12, 13, 14, 15, 16, 17, 18, 19, 106, 107, 108, 109, 110, 111, 112, 113, 114] (by decide +kernel) (by decide +kernel)
set_option maxRecDepth 20000 in
theorem gX4_ask_X2_isWeighing : GoodIn wsX4_ask (wsV RX4 64 RX2 yX2_isWeighing wsX2_isWeighing) := goodIn_app (goodIn_of _ (by decide +kernel)) ggX4_ask_X2_isWeighing
set_option maxRecDepth 20000 in
theorem ggX4_ask_X2_canReply : GoodIn wsX4_ask wsX2_canReply := goodIn_r _ [23, 24, 25, 26, 27, 28, 10, 29, 30, 106, 107, 108, 109, 110, 111, 112, 113, 114, 115, 116, 117, 118] (by decide +kernel) (by decide +kernel)
set_option maxRecDepth 20000 in
theorem gX4_ask_X2_canReply : GoodIn wsX4_ask (wsV RX4 108 RX2 yX2_canReply wsX2_canReply) := goodIn_app (goodIn_of _ (by decide +kernel)) ggX4_ask_X2_canReply
set_option maxRecDepth 20000 in
theorem ggX4_ask_X0_save : GoodIn wsX4_ask wsX0_save := goodIn_r _ [35, 36, 37, 38, 39, 40, 34, 41, 42, 43, 44, 45, 46, 47, 48, 10, 49, 30, 50, 51, 12, 52, 24, 53, 25, 54, 55, 56, 57, 58, 59, 60, 61, 62, 63, 64, 65, 66, 67, 68, 69, 70, 71, 72, 73, 119, 120, 106, 107, 108, 109, 110, 111, 112, 113, 114, 115, 116, 117, 118] (by decide +kernel) (by decide +kernel)
set_option maxRecDepth 20000 in
theorem gX4_ask_X0_save : GoodIn wsX4_ask (wsV RX4 37 RX0 yX0_save wsX0_save) := goodIn_app (goodIn_of _ (by decide +kernel)) ggX4_ask_X0_save
set_option maxRecDepth 20000 in
theorem ggX4_ask_X2_reply : GoodIn wsX4_ask wsX2_reply := goodIn_r _ [77, 24, 53, 25, 78, 64, 79, 80, 81, 82, 83, 84, 85, 10, 86, 30, 51, 87, 88, 89, 57, 90, 62, 59, 60, 61, 91, 92, 93, 94, 95, 96, 12, 97, 98, 99, 100, 101, 102, 106, 107, 108, 109, 110, 111, 112, 113, 114, 115, 116, 117, 118] (by decide +kernel) (by decide +kernel)
set_option maxRecDepth 20000 in
theorem gX4_ask_X2_reply : GoodIn wsX4_ask (wsV RX4 113 RX2 yX2_reply wsX2_reply) := goodIn_app (goodIn_of _ (by decide +kernel)) ggX4_ask_X2_reply
theorem dX4_ask_0 : decode cX4_ask 0 = .ok (.aload_n 0, 1) := by decide +kernel
theorem dX4_ask_1 : decode cX4_ask 1 = .ok (.getfield 12, 3) := by decide +kernel
theorem dX4_ask_4 : decode cX4_ask 4 = .ok (.iload_n 1, 1) := by decide +kernel
theorem dX4_ask_5 : decode cX4_ask 5 = .ok (.iload_n 2, 1) := by decide +kernel
theorem dX4_ask_6 : decode cX4_ask 6 = .ok (.invokevirtual 64, 3) := by decide +kernel
theorem dX4_ask_9 : decode cX4_ask 9 = .ok (.ifCond .ne 13, 3) := by decide +kernel
theorem dX4_ask_12 : decode cX4_ask 12 = .ok (.new 30, 3) := by decide +kernel
theorem dX4_ask_15 : decode cX4_ask 15 = .ok (.dup, 1) := by decide +kernel
theorem dX4_ask_16 : decode cX4_ask 16 = .ok (.ldc 106, 2) := by decide +kernel
theorem dX4_ask_18 : decode cX4_ask 18 = .ok (.invokespecial 34, 3) := by decide +kernel
theorem dX4_ask_21 : decode cX4_ask 21 = .ok (.athrow, 1) := by decide +kernel
theorem dX4_ask_22 : decode cX4_ask 22 = .ok (.aload_n 0, 1) := by decide +kernel
theorem dX4_ask_23 : decode cX4_ask 23 = .ok (.getfield 12, 3) := by decide +kernel
theorem dX4_ask_26 : decode cX4_ask 26 = .ok (.invokevirtual 108, 3) := by decide +kernel
theorem dX4_ask_29 : decode cX4_ask 29 = .ok (.ifCond .ne 13, 3) := by decide +kernel
theorem dX4_ask_32 : decode cX4_ask 32 = .ok (.new 78, 3) := by decide +kernel
theorem dX4_ask_35 : decode cX4_ask 35 = .ok (.dup, 1) := by decide +kernel
theorem dX4_ask_36 : decode cX4_ask 36 = .ok (.ldc 111, 2) := by decide +kernel
theorem dX4_ask_38 : decode cX4_ask 38 = .ok (.invokespecial 82, 3) := by decide +kernel
theorem dX4_ask_41 : decode cX4_ask 41 = .ok (.athrow, 1) := by decide +kernel
theorem dX4_ask_42 : decode cX4_ask 42 = .ok (.aload_n 0, 1) := by decide +kernel
theorem dX4_ask_43 : decode cX4_ask 43 = .ok (.getfield 19, 3) := by decide +kernel
theorem dX4_ask_46 : decode cX4_ask 46 = .ok (.aload_n 0, 1) := by decide +kernel
theorem dX4_ask_47 : decode cX4_ask 47 = .ok (.getfield 12, 3) := by decide +kernel
theorem dX4_ask_50 : decode cX4_ask 50 = .ok (.invokevirtual 37, 3) := by decide +kernel
theorem dX4_ask_53 : decode cX4_ask 53 = .ok (.aload_n 0, 1) := by decide +kernel
theorem dX4_ask_54 : decode cX4_ask 54 = .ok (.getfield 12, 3) := by decide +kernel
theorem dX4_ask_57 : decode cX4_ask 57 = .ok (.iload_n 1, 1) := by decide +kernel
theorem dX4_ask_58 : decode cX4_ask 58 = .ok (.iload_n 2, 1) := by decide +kernel
theorem dX4_ask_59 : decode cX4_ask 59 = .ok (.invokevirtual 113, 3) := by decide +kernel
theorem dX4_ask_62 : decode cX4_ask 62 = .ok (.ireturn, 1) := by decide +kernel
set_option maxRecDepth 20000 in
theorem ggX4_add_X2_isWeighing : GoodIn wsX4_add wsX2_isWeighing := goodIn_r _ [11, 12, 13, 14, 15, 16, 17, 18, 19, 83, 84, 85, 86, 87, 88, 89, 90, 91] (by decide +kernel) (by decide +kernel)
set_option maxRecDepth 20000 in
theorem gX4_add_X2_isWeighing : GoodIn wsX4_add (wsV RX4 64 RX2 yX2_isWeighing wsX2_isWeighing) := goodIn_app (goodIn_of _ (by decide +kernel)) ggX4_add_X2_isWeighing
set_option maxRecDepth 20000 in
theorem ggX4_add_X2_canPlan : GoodIn wsX4_add wsX2_canPlan := goodIn_r _ [23, 24, 83, 84, 85, 86, 87, 88, 89, 90, 91, 92, 93, 94, 95] (by decide +kernel) (by decide +kernel)
set_option maxRecDepth 20000 in
theorem gX4_add_X2_canPlan : GoodIn wsX4_add (wsV RX4 117 RX2 yX2_canPlan wsX2_canPlan) := goodIn_app (goodIn_of _ (by decide +kernel)) ggX4_add_X2_canPlan
set_option maxRecDepth 20000 in
theorem ggX4_add_X0_save : GoodIn wsX4_add wsX0_save := goodIn_r _ [29, 30, 31, 32, 33, 34, 28, 35, 36, 37, 38, 39, 40, 41, 42, 10, 43, 44, 24, 45, 12, 46, 47, 48, 49, 50, 51, 52, 53, 54, 55, 56, 57, 58, 59, 60, 61, 62, 63, 64, 65, 66, 67, 68, 69, 96, 97, 83, 84, 85, 86, 87, 88, 89, 90, 91, 92, 93, 94, 95] (by decide +kernel) (by decide +kernel)
set_option maxRecDepth 20000 in
theorem gX4_add_X0_save : GoodIn wsX4_add (wsV RX4 37 RX0 yX0_save wsX0_save) := goodIn_app (goodIn_of _ (by decide +kernel)) ggX4_add_X0_save
set_option maxRecDepth 20000 in
theorem ggX4_add_X2_planWeighing : GoodIn wsX4_add wsX2_planWeighing := goodIn_r _ [73, 24, 74, 75, 76, 53, 77, 58, 55, 56, 57, 78, 60, 79, 83, 84, 85, 86, 87, 88, 89, 90, 91, 92, 93, 94, 95] (by decide +kernel) (by decide +kernel)
set_option maxRecDepth 20000 in
theorem gX4_add_X2_planWeighing : GoodIn wsX4_add (wsV RX4 125 RX2 yX2_planWeighing wsX2_planWeighing) := goodIn_app (goodIn_of _ (by decide +kernel)) ggX4_add_X2_planWeighing
theorem dX4_add_0 : decode cX4_add 0 = .ok (.aload_n 0, 1) := by decide +kernel
theorem dX4_add_1 : decode cX4_add 1 = .ok (.getfield 12, 3) := by decide +kernel
theorem dX4_add_4 : decode cX4_add 4 = .ok (.iload_n 1, 1) := by decide +kernel
theorem dX4_add_5 : decode cX4_add 5 = .ok (.iload_n 2, 1) := by decide +kernel
theorem dX4_add_6 : decode cX4_add 6 = .ok (.invokevirtual 64, 3) := by decide +kernel
theorem dX4_add_9 : decode cX4_add 9 = .ok (.ifCond .ne 13, 3) := by decide +kernel
theorem dX4_add_12 : decode cX4_add 12 = .ok (.new 30, 3) := by decide +kernel
theorem dX4_add_15 : decode cX4_add 15 = .ok (.dup, 1) := by decide +kernel
theorem dX4_add_16 : decode cX4_add 16 = .ok (.ldc 106, 2) := by decide +kernel
theorem dX4_add_18 : decode cX4_add 18 = .ok (.invokespecial 34, 3) := by decide +kernel
theorem dX4_add_21 : decode cX4_add 21 = .ok (.athrow, 1) := by decide +kernel
theorem dX4_add_22 : decode cX4_add 22 = .ok (.aload_n 0, 1) := by decide +kernel
theorem dX4_add_23 : decode cX4_add 23 = .ok (.getfield 12, 3) := by decide +kernel
theorem dX4_add_26 : decode cX4_add 26 = .ok (.invokevirtual 117, 3) := by decide +kernel
theorem dX4_add_29 : decode cX4_add 29 = .ok (.ifCond .ne 13, 3) := by decide +kernel
theorem dX4_add_32 : decode cX4_add 32 = .ok (.new 78, 3) := by decide +kernel
theorem dX4_add_35 : decode cX4_add 35 = .ok (.dup, 1) := by decide +kernel
theorem dX4_add_36 : decode cX4_add 36 = .ok (.ldc 120, 2) := by decide +kernel
theorem dX4_add_38 : decode cX4_add 38 = .ok (.invokespecial 82, 3) := by decide +kernel
theorem dX4_add_41 : decode cX4_add 41 = .ok (.athrow, 1) := by decide +kernel
theorem dX4_add_42 : decode cX4_add 42 = .ok (.aload_n 0, 1) := by decide +kernel
theorem dX4_add_43 : decode cX4_add 43 = .ok (.getfield 19, 3) := by decide +kernel
theorem dX4_add_46 : decode cX4_add 46 = .ok (.aload_n 0, 1) := by decide +kernel
theorem dX4_add_47 : decode cX4_add 47 = .ok (.getfield 12, 3) := by decide +kernel
theorem dX4_add_50 : decode cX4_add 50 = .ok (.invokevirtual 37, 3) := by decide +kernel
theorem dX4_add_53 : decode cX4_add 53 = .ok (.aload_n 0, 1) := by decide +kernel
theorem dX4_add_54 : decode cX4_add 54 = .ok (.getfield 12, 3) := by decide +kernel
theorem dX4_add_57 : decode cX4_add 57 = .ok (.getfield 122, 3) := by decide +kernel
theorem dX4_add_60 : decode cX4_add 60 = .ok (.getfield 45, 3) := by decide +kernel
theorem dX4_add_63 : decode cX4_add 63 = .ok (.istore_n 3, 1) := by decide +kernel
theorem dX4_add_64 : decode cX4_add 64 = .ok (.aload_n 0, 1) := by decide +kernel
theorem dX4_add_65 : decode cX4_add 65 = .ok (.getfield 12, 3) := by decide +kernel
theorem dX4_add_68 : decode cX4_add 68 = .ok (.iload_n 1, 1) := by decide +kernel
theorem dX4_add_69 : decode cX4_add 69 = .ok (.iload_n 2, 1) := by decide +kernel
theorem dX4_add_70 : decode cX4_add 70 = .ok (.invokevirtual 125, 3) := by decide +kernel
theorem dX4_add_73 : decode cX4_add 73 = .ok (.iload_n 3, 1) := by decide +kernel
theorem dX4_add_74 : decode cX4_add 74 = .ok (.ireturn, 1) := by decide +kernel
set_option maxRecDepth 20000 in
theorem ggX4_removeLast_X0_save : GoodIn wsX4_removeLast wsX0_save := goodIn_r _ [9, 10, 11, 12, 13, 14, 8, 15, 16, 17, 18, 19, 20, 21, 22, 23, 24, 25, 26, 27, 28, 29, 30, 31, 32, 33, 34, 35, 36, 37, 38, 39, 40, 41, 42, 43, 44, 45, 46, 47, 48, 49, 50, 51, 52, 73, 74, 60, 61, 62, 63, 64, 65, 66, 67, 68, 69, 70, 71, 72] (by decide +kernel) (by decide +kernel)
set_option maxRecDepth 20000 in
theorem gX4_removeLast_X0_save : GoodIn wsX4_removeLast (wsV RX4 37 RX0 yX0_save wsX0_save) := goodIn_app (goodIn_of _ (by decide +kernel)) ggX4_removeLast_X0_save
set_option maxRecDepth 20000 in
theorem ggX4_removeLast_X3_dropLast : GoodIn wsX4_removeLast wsX3_dropLast := goodIn_r _ [56, 41, 69, 70, 71, 72] (by decide +kernel) (by decide +kernel)
set_option maxRecDepth 20000 in
theorem gX4_removeLast_X3_dropLast : GoodIn wsX4_removeLast (wsV RX4 130 RX3 yX3_dropLast wsX3_dropLast) := goodIn_app (goodIn_of _ (by decide +kernel)) ggX4_removeLast_X3_dropLast
theorem dX4_removeLast_0 : decode cX4_removeLast 0 = .ok (.aload_n 0, 1) := by decide +kernel
theorem dX4_removeLast_1 : decode cX4_removeLast 1 = .ok (.getfield 12, 3) := by decide +kernel
theorem dX4_removeLast_4 : decode cX4_removeLast 4 = .ok (.getfield 122, 3) := by decide +kernel
theorem dX4_removeLast_7 : decode cX4_removeLast 7 = .ok (.getfield 45, 3) := by decide +kernel
theorem dX4_removeLast_10 : decode cX4_removeLast 10 = .ok (.ifCond .ne 13, 3) := by decide +kernel
theorem dX4_removeLast_13 : decode cX4_removeLast 13 = .ok (.new 78, 3) := by decide +kernel
theorem dX4_removeLast_16 : decode cX4_removeLast 16 = .ok (.dup, 1) := by decide +kernel
theorem dX4_removeLast_17 : decode cX4_removeLast 17 = .ok (.ldc 128, 2) := by decide +kernel
theorem dX4_removeLast_19 : decode cX4_removeLast 19 = .ok (.invokespecial 82, 3) := by decide +kernel
theorem dX4_removeLast_22 : decode cX4_removeLast 22 = .ok (.athrow, 1) := by decide +kernel
theorem dX4_removeLast_23 : decode cX4_removeLast 23 = .ok (.aload_n 0, 1) := by decide +kernel
theorem dX4_removeLast_24 : decode cX4_removeLast 24 = .ok (.getfield 19, 3) := by decide +kernel
theorem dX4_removeLast_27 : decode cX4_removeLast 27 = .ok (.aload_n 0, 1) := by decide +kernel
theorem dX4_removeLast_28 : decode cX4_removeLast 28 = .ok (.getfield 12, 3) := by decide +kernel
theorem dX4_removeLast_31 : decode cX4_removeLast 31 = .ok (.invokevirtual 37, 3) := by decide +kernel
theorem dX4_removeLast_34 : decode cX4_removeLast 34 = .ok (.aload_n 0, 1) := by decide +kernel
theorem dX4_removeLast_35 : decode cX4_removeLast 35 = .ok (.getfield 12, 3) := by decide +kernel
theorem dX4_removeLast_38 : decode cX4_removeLast 38 = .ok (.getfield 122, 3) := by decide +kernel
theorem dX4_removeLast_41 : decode cX4_removeLast 41 = .ok (.invokevirtual 130, 3) := by decide +kernel
theorem dX4_removeLast_44 : decode cX4_removeLast 44 = .ok (.aload_n 0, 1) := by decide +kernel
theorem dX4_removeLast_45 : decode cX4_removeLast 45 = .ok (.getfield 12, 3) := by decide +kernel
theorem dX4_removeLast_48 : decode cX4_removeLast 48 = .ok (.getfield 122, 3) := by decide +kernel
theorem dX4_removeLast_51 : decode cX4_removeLast 51 = .ok (.getfield 45, 3) := by decide +kernel
theorem dX4_removeLast_54 : decode cX4_removeLast 54 = .ok (.ireturn, 1) := by decide +kernel
set_option maxRecDepth 20000 in
theorem ggX4_lies_X2_isCase : GoodIn wsX4_lies wsX2_isCase := goodIn_r _ [8, 9, 10, 11, 7, 12, 13, 21, 22, 23, 24, 25, 26, 27, 28, 29] (by decide +kernel) (by decide +kernel)
set_option maxRecDepth 20000 in
theorem gX4_lies_X2_isCase : GoodIn wsX4_lies (wsV RX4 90 RX2 yX2_isCase wsX2_isCase) := goodIn_app (goodIn_of _ (by decide +kernel)) ggX4_lies_X2_isCase
set_option maxRecDepth 20000 in
theorem ggX4_lies_X4_at : GoodIn wsX4_lies wsX4_at := goodIn_r _ [17] (by decide +kernel) (by decide +kernel)
set_option maxRecDepth 20000 in
theorem gX4_lies_X4_at : GoodIn wsX4_lies (va_wsS RX4 137 yX4_at wsX4_at) := goodIn_app (goodIn_of _ (by decide +kernel)) ggX4_lies_X4_at
theorem dX4_lies_0 : decode cX4_lies 0 = .ok (.aload_n 0, 1) := by decide +kernel
theorem dX4_lies_1 : decode cX4_lies 1 = .ok (.getfield 12, 3) := by decide +kernel
theorem dX4_lies_4 : decode cX4_lies 4 = .ok (.iload_n 1, 1) := by decide +kernel
theorem dX4_lies_5 : decode cX4_lies 5 = .ok (.invokevirtual 90, 3) := by decide +kernel
theorem dX4_lies_8 : decode cX4_lies 8 = .ok (.ifCond .ne 13, 3) := by decide +kernel
theorem dX4_lies_11 : decode cX4_lies 11 = .ok (.new 93, 3) := by decide +kernel
theorem dX4_lies_14 : decode cX4_lies 14 = .ok (.dup, 1) := by decide +kernel
theorem dX4_lies_15 : decode cX4_lies 15 = .ok (.ldc 95, 2) := by decide +kernel
theorem dX4_lies_17 : decode cX4_lies 17 = .ok (.invokespecial 97, 3) := by decide +kernel
theorem dX4_lies_20 : decode cX4_lies 20 = .ok (.athrow, 1) := by decide +kernel
theorem dX4_lies_21 : decode cX4_lies 21 = .ok (.aload_n 0, 1) := by decide +kernel
theorem dX4_lies_22 : decode cX4_lies 22 = .ok (.getfield 12, 3) := by decide +kernel
theorem dX4_lies_25 : decode cX4_lies 25 = .ok (.getfield 133, 3) := by decide +kernel
theorem dX4_lies_28 : decode cX4_lies 28 = .ok (.iload_n 1, 1) := by decide +kernel
theorem dX4_lies_29 : decode cX4_lies 29 = .ok (.invokestatic 137, 3) := by decide +kernel
theorem dX4_lies_32 : decode cX4_lies 32 = .ok (.ireturn, 1) := by decide +kernel
set_option maxRecDepth 20000 in
theorem ggX4_answer_X2_isCase : GoodIn wsX4_answer wsX2_isCase := goodIn_r _ [10, 11, 12, 13, 9, 14, 15, 37, 38, 39, 40, 41, 42, 43, 44, 45] (by decide +kernel) (by decide +kernel)
set_option maxRecDepth 20000 in
theorem gX4_answer_X2_isCase : GoodIn wsX4_answer (wsV RX4 90 RX2 yX2_isCase wsX2_isCase) := goodIn_app (goodIn_of _ (by decide +kernel)) ggX4_answer_X2_isCase
set_option maxRecDepth 20000 in
theorem ggX4_answer_X2_isWeighing : GoodIn wsX4_answer wsX2_isWeighing := goodIn_r _ [19, 15, 20, 21, 22, 23, 24, 25, 26, 37, 38, 39, 40, 41, 42, 43, 44, 45] (by decide +kernel) (by decide +kernel)
set_option maxRecDepth 20000 in
theorem gX4_answer_X2_isWeighing : GoodIn wsX4_answer (wsV RX4 64 RX2 yX2_isWeighing wsX2_isWeighing) := goodIn_app (goodIn_of _ (by decide +kernel)) ggX4_answer_X2_isWeighing
set_option maxRecDepth 20000 in
theorem ggX4_answer_X4_trueAnswer : GoodIn wsX4_answer wsX4_trueAnswer := goodIn_r _ [30, 31, 32, 29, 33] (by decide +kernel) (by decide +kernel)
set_option maxRecDepth 20000 in
theorem gX4_answer_X4_trueAnswer : GoodIn wsX4_answer (va_wsS RX4 141 yX4_trueAnswer wsX4_trueAnswer) := goodIn_app (goodIn_of _ (by decide +kernel)) ggX4_answer_X4_trueAnswer
theorem dX4_answer_0 : decode cX4_answer 0 = .ok (.aload_n 0, 1) := by decide +kernel
theorem dX4_answer_1 : decode cX4_answer 1 = .ok (.getfield 12, 3) := by decide +kernel
theorem dX4_answer_4 : decode cX4_answer 4 = .ok (.iload_n 1, 1) := by decide +kernel
theorem dX4_answer_5 : decode cX4_answer 5 = .ok (.invokevirtual 90, 3) := by decide +kernel
theorem dX4_answer_8 : decode cX4_answer 8 = .ok (.ifCond .ne 13, 3) := by decide +kernel
theorem dX4_answer_11 : decode cX4_answer 11 = .ok (.new 93, 3) := by decide +kernel
theorem dX4_answer_14 : decode cX4_answer 14 = .ok (.dup, 1) := by decide +kernel
theorem dX4_answer_15 : decode cX4_answer 15 = .ok (.ldc 95, 2) := by decide +kernel
theorem dX4_answer_17 : decode cX4_answer 17 = .ok (.invokespecial 97, 3) := by decide +kernel
theorem dX4_answer_20 : decode cX4_answer 20 = .ok (.athrow, 1) := by decide +kernel
theorem dX4_answer_21 : decode cX4_answer 21 = .ok (.aload_n 0, 1) := by decide +kernel
theorem dX4_answer_22 : decode cX4_answer 22 = .ok (.getfield 12, 3) := by decide +kernel
theorem dX4_answer_25 : decode cX4_answer 25 = .ok (.iload_n 2, 1) := by decide +kernel
theorem dX4_answer_26 : decode cX4_answer 26 = .ok (.iload_n 3, 1) := by decide +kernel
theorem dX4_answer_27 : decode cX4_answer 27 = .ok (.invokevirtual 64, 3) := by decide +kernel
theorem dX4_answer_30 : decode cX4_answer 30 = .ok (.ifCond .ne 13, 3) := by decide +kernel
theorem dX4_answer_33 : decode cX4_answer 33 = .ok (.new 30, 3) := by decide +kernel
theorem dX4_answer_36 : decode cX4_answer 36 = .ok (.dup, 1) := by decide +kernel
theorem dX4_answer_37 : decode cX4_answer 37 = .ok (.ldc 106, 2) := by decide +kernel
theorem dX4_answer_39 : decode cX4_answer 39 = .ok (.invokespecial 34, 3) := by decide +kernel
theorem dX4_answer_42 : decode cX4_answer 42 = .ok (.athrow, 1) := by decide +kernel
theorem dX4_answer_43 : decode cX4_answer 43 = .ok (.iload_n 1, 1) := by decide +kernel
theorem dX4_answer_44 : decode cX4_answer 44 = .ok (.iload_n 2, 1) := by decide +kernel
theorem dX4_answer_45 : decode cX4_answer 45 = .ok (.iload_n 3, 1) := by decide +kernel
theorem dX4_answer_46 : decode cX4_answer 46 = .ok (.invokestatic 141, 3) := by decide +kernel
theorem dX4_answer_49 : decode cX4_answer 49 = .ok (.ireturn, 1) := by decide +kernel
set_option maxRecDepth 20000 in
theorem ggX4_leftCase_X2_findLeft : GoodIn wsX4_leftCase wsX2_findLeft := goodIn_r _ [8, 9, 10, 11, 7, 12, 13, 14, 15, 16, 17, 18, 19, 20, 21, 22, 26, 27, 28, 29, 30, 31, 32, 33, 34] (by decide +kernel) (by decide +kernel)
set_option maxRecDepth 20000 in
theorem gX4_leftCase_X2_findLeft : GoodIn wsX4_leftCase (wsV RX4 145 RX2 yX2_findLeft wsX2_findLeft) := goodIn_app (goodIn_of _ (by decide +kernel)) ggX4_leftCase_X2_findLeft
theorem dX4_leftCase_0 : decode cX4_leftCase 0 = .ok (.aload_n 0, 1) := by decide +kernel
theorem dX4_leftCase_1 : decode cX4_leftCase 1 = .ok (.getfield 12, 3) := by decide +kernel
theorem dX4_leftCase_4 : decode cX4_leftCase 4 = .ok (.iload_n 1, 1) := by decide +kernel
theorem dX4_leftCase_5 : decode cX4_leftCase 5 = .ok (.invokevirtual 145, 3) := by decide +kernel
theorem dX4_leftCase_8 : decode cX4_leftCase 8 = .ok (.istore_n 2, 1) := by decide +kernel
theorem dX4_leftCase_9 : decode cX4_leftCase 9 = .ok (.iload_n 2, 1) := by decide +kernel
theorem dX4_leftCase_10 : decode cX4_leftCase 10 = .ok (.iconst (-1), 1) := by decide +kernel
theorem dX4_leftCase_11 : decode cX4_leftCase 11 = .ok (.if_icmp .ne 13, 3) := by decide +kernel
theorem dX4_leftCase_14 : decode cX4_leftCase 14 = .ok (.new 93, 3) := by decide +kernel
theorem dX4_leftCase_17 : decode cX4_leftCase 17 = .ok (.dup, 1) := by decide +kernel
theorem dX4_leftCase_18 : decode cX4_leftCase 18 = .ok (.ldc 149, 2) := by decide +kernel
theorem dX4_leftCase_20 : decode cX4_leftCase 20 = .ok (.invokespecial 97, 3) := by decide +kernel
theorem dX4_leftCase_23 : decode cX4_leftCase 23 = .ok (.athrow, 1) := by decide +kernel
theorem dX4_leftCase_24 : decode cX4_leftCase 24 = .ok (.iload_n 2, 1) := by decide +kernel
theorem dX4_leftCase_25 : decode cX4_leftCase 25 = .ok (.ireturn, 1) := by decide +kernel
set_option maxRecDepth 20000 in
theorem ggX4_weighing_X3_part : GoodIn wsX4_weighing wsX3_part := goodIn_r _ [10, 11, 12, 13, 14, 15, 16, 29, 30, 31, 32] (by decide +kernel) (by decide +kernel)
set_option maxRecDepth 20000 in
theorem gX4_weighing_X3_part : GoodIn wsX4_weighing (wsV RX4 155 RX3 yX3_part wsX3_part) := goodIn_app (goodIn_of _ (by decide +kernel)) ggX4_weighing_X3_part
theorem dX4_weighing_0 : decode cX4_weighing 0 = .ok (.iload_n 1, 1) := by decide +kernel
theorem dX4_weighing_1 : decode cX4_weighing 1 = .ok (.ifCond .lt 17, 3) := by decide +kernel
theorem dX4_weighing_4 : decode cX4_weighing 4 = .ok (.iload_n 1, 1) := by decide +kernel
theorem dX4_weighing_5 : decode cX4_weighing 5 = .ok (.aload_n 0, 1) := by decide +kernel
theorem dX4_weighing_6 : decode cX4_weighing 6 = .ok (.getfield 12, 3) := by decide +kernel
theorem dX4_weighing_9 : decode cX4_weighing 9 = .ok (.getfield 41, 3) := by decide +kernel
theorem dX4_weighing_12 : decode cX4_weighing 12 = .ok (.getfield 45, 3) := by decide +kernel
theorem dX4_weighing_15 : decode cX4_weighing 15 = .ok (.if_icmp .lt 13, 3) := by decide +kernel
theorem dX4_weighing_18 : decode cX4_weighing 18 = .ok (.new 93, 3) := by decide +kernel
theorem dX4_weighing_21 : decode cX4_weighing 21 = .ok (.dup, 1) := by decide +kernel
theorem dX4_weighing_22 : decode cX4_weighing 22 = .ok (.ldc 151, 2) := by decide +kernel
theorem dX4_weighing_24 : decode cX4_weighing 24 = .ok (.invokespecial 97, 3) := by decide +kernel
theorem dX4_weighing_27 : decode cX4_weighing 27 = .ok (.athrow, 1) := by decide +kernel
theorem dX4_weighing_28 : decode cX4_weighing 28 = .ok (.iload_n 2, 1) := by decide +kernel
theorem dX4_weighing_29 : decode cX4_weighing 29 = .ok (.ifCond .lt 8, 3) := by decide +kernel
theorem dX4_weighing_32 : decode cX4_weighing 32 = .ok (.iload_n 2, 1) := by decide +kernel
theorem dX4_weighing_33 : decode cX4_weighing 33 = .ok (.iconst 3, 1) := by decide +kernel
theorem dX4_weighing_34 : decode cX4_weighing 34 = .ok (.if_icmp .lt 13, 3) := by decide +kernel
theorem dX4_weighing_37 : decode cX4_weighing 37 = .ok (.new 30, 3) := by decide +kernel
theorem dX4_weighing_40 : decode cX4_weighing 40 = .ok (.dup, 1) := by decide +kernel
theorem dX4_weighing_41 : decode cX4_weighing 41 = .ok (.ldc 153, 2) := by decide +kernel
theorem dX4_weighing_43 : decode cX4_weighing 43 = .ok (.invokespecial 34, 3) := by decide +kernel
theorem dX4_weighing_46 : decode cX4_weighing 46 = .ok (.athrow, 1) := by decide +kernel
theorem dX4_weighing_47 : decode cX4_weighing 47 = .ok (.aload_n 0, 1) := by decide +kernel
theorem dX4_weighing_48 : decode cX4_weighing 48 = .ok (.getfield 12, 3) := by decide +kernel
theorem dX4_weighing_51 : decode cX4_weighing 51 = .ok (.getfield 41, 3) := by decide +kernel
theorem dX4_weighing_54 : decode cX4_weighing 54 = .ok (.iload_n 1, 1) := by decide +kernel
theorem dX4_weighing_55 : decode cX4_weighing 55 = .ok (.iload_n 2, 1) := by decide +kernel
theorem dX4_weighing_56 : decode cX4_weighing 56 = .ok (.invokevirtual 155, 3) := by decide +kernel
theorem dX4_weighing_59 : decode cX4_weighing 59 = .ok (.ireturn, 1) := by decide +kernel
set_option maxRecDepth 20000 in
theorem ggX4_value_X2_number : GoodIn wsX4_value wsX2_number := goodIn_r _ [8, 9, 10, 11, 12, 13, 14, 15, 16, 17, 7, 18, 19, 20, 21, 22, 23, 24, 25, 26, 27, 28, 29, 30, 31, 32, 33, 34, 35, 36, 40, 41, 42, 43, 44, 45, 46, 47, 48, 49, 50, 51, 52] (by decide +kernel) (by decide +kernel)
set_option maxRecDepth 20000 in
theorem gX4_value_X2_number : GoodIn wsX4_value (wsV RX4 158 RX2 yX2_number wsX2_number) := goodIn_app (goodIn_of _ (by decide +kernel)) ggX4_value_X2_number
theorem dX4_value_0 : decode cX4_value 0 = .ok (.iload_n 1, 1) := by decide +kernel
theorem dX4_value_1 : decode cX4_value 1 = .ok (.ifCond .lt 9, 3) := by decide +kernel
theorem dX4_value_4 : decode cX4_value 4 = .ok (.iload_n 1, 1) := by decide +kernel
theorem dX4_value_5 : decode cX4_value 5 = .ok (.bipush 9, 2) := by decide +kernel
theorem dX4_value_7 : decode cX4_value 7 = .ok (.if_icmp .lt 13, 3) := by decide +kernel
theorem dX4_value_10 : decode cX4_value 10 = .ok (.new 30, 3) := by decide +kernel
theorem dX4_value_13 : decode cX4_value 13 = .ok (.dup, 1) := by decide +kernel
theorem dX4_value_14 : decode cX4_value 14 = .ok (.ldc 153, 2) := by decide +kernel
theorem dX4_value_16 : decode cX4_value 16 = .ok (.invokespecial 34, 3) := by decide +kernel
theorem dX4_value_19 : decode cX4_value 19 = .ok (.athrow, 1) := by decide +kernel
theorem dX4_value_20 : decode cX4_value 20 = .ok (.aload_n 0, 1) := by decide +kernel
theorem dX4_value_21 : decode cX4_value 21 = .ok (.getfield 12, 3) := by decide +kernel
theorem dX4_value_24 : decode cX4_value 24 = .ok (.iload_n 1, 1) := by decide +kernel
theorem dX4_value_25 : decode cX4_value 25 = .ok (.invokevirtual 158, 3) := by decide +kernel
theorem dX4_value_28 : decode cX4_value 28 = .ok (.ireturn, 1) := by decide +kernel
set_option maxRecDepth 20000 in
theorem ggX4_weight_X4_isAhead : GoodIn wsX4_weight wsX4_isAhead := goodIn_r _ [7] (by decide +kernel) (by decide +kernel)
set_option maxRecDepth 20000 in
theorem gX4_weight_X4_isAhead : GoodIn wsX4_weight (va_wsS RX4 161 yX4_isAhead wsX4_isAhead) := goodIn_app (goodIn_of _ (by decide +kernel)) ggX4_weight_X4_isAhead
set_option maxRecDepth 20000 in
theorem ggX4_weight_X2_weightAhead : GoodIn wsX4_weight wsX2_weightAhead := goodIn_r _ [12, 13, 14, 15, 16, 11, 17, 18, 19, 6, 20, 21, 22, 23, 24, 25, 26, 27, 28, 29, 30, 31, 35, 36, 37, 38, 39, 40, 41, 42, 43] (by decide +kernel) (by decide +kernel)
set_option maxRecDepth 20000 in
theorem gX4_weight_X2_weightAhead : GoodIn wsX4_weight (wsV RX4 166 RX2 yX2_weightAhead wsX2_weightAhead) := goodIn_app (goodIn_of _ (by decide +kernel)) ggX4_weight_X2_weightAhead
theorem dX4_weight_0 : decode cX4_weight 0 = .ok (.iload_n 1, 1) := by decide +kernel
theorem dX4_weight_1 : decode cX4_weight 1 = .ok (.invokestatic 161, 3) := by decide +kernel
theorem dX4_weight_4 : decode cX4_weight 4 = .ok (.ifCond .ne 13, 3) := by decide +kernel
theorem dX4_weight_7 : decode cX4_weight 7 = .ok (.new 30, 3) := by decide +kernel
theorem dX4_weight_10 : decode cX4_weight 10 = .ok (.dup, 1) := by decide +kernel
theorem dX4_weight_11 : decode cX4_weight 11 = .ok (.ldc 164, 2) := by decide +kernel
theorem dX4_weight_13 : decode cX4_weight 13 = .ok (.invokespecial 34, 3) := by decide +kernel
theorem dX4_weight_16 : decode cX4_weight 16 = .ok (.athrow, 1) := by decide +kernel
theorem dX4_weight_17 : decode cX4_weight 17 = .ok (.aload_n 0, 1) := by decide +kernel
theorem dX4_weight_18 : decode cX4_weight 18 = .ok (.getfield 12, 3) := by decide +kernel
theorem dX4_weight_21 : decode cX4_weight 21 = .ok (.iload_n 1, 1) := by decide +kernel
theorem dX4_weight_22 : decode cX4_weight 22 = .ok (.invokevirtual 166, 3) := by decide +kernel
theorem dX4_weight_25 : decode cX4_weight 25 = .ok (.lreturn, 1) := by decide +kernel
set_option maxRecDepth 20000 in
theorem ggX4_bound_X2_weightAhead : GoodIn wsX4_bound wsX2_weightAhead := goodIn_r _ [7, 8, 9, 10, 11, 6, 12, 13, 14, 15, 16, 17, 18, 19, 20, 21, 22, 23, 24, 25, 26, 27, 31, 32, 33, 34, 35, 36, 37, 38, 39] (by decide +kernel) (by decide +kernel)
set_option maxRecDepth 20000 in
theorem gX4_bound_X2_weightAhead : GoodIn wsX4_bound (wsV RX4 166 RX2 yX2_weightAhead wsX2_weightAhead) := goodIn_app (goodIn_of _ (by decide +kernel)) ggX4_bound_X2_weightAhead
theorem dX4_bound_0 : decode cX4_bound 0 = .ok (.lconst 1, 1) := by decide +kernel
theorem dX4_bound_1 : decode cX4_bound 1 = .ok (.lstore_n 1, 1) := by decide +kernel
theorem dX4_bound_2 : decode cX4_bound 2 = .ok (.iconst 0, 1) := by decide +kernel
theorem dX4_bound_3 : decode cX4_bound 3 = .ok (.istore_n 3, 1) := by decide +kernel
theorem dX4_bound_4 : decode cX4_bound 4 = .ok (.iload_n 3, 1) := by decide +kernel
theorem dX4_bound_5 : decode cX4_bound 5 = .ok (.bipush 20, 2) := by decide +kernel
theorem dX4_bound_7 : decode cX4_bound 7 = .ok (.if_icmp .gt 30, 3) := by decide +kernel
theorem dX4_bound_10 : decode cX4_bound 10 = .ok (.aload_n 0, 1) := by decide +kernel
theorem dX4_bound_11 : decode cX4_bound 11 = .ok (.getfield 12, 3) := by decide +kernel
theorem dX4_bound_14 : decode cX4_bound 14 = .ok (.iload_n 3, 1) := by decide +kernel
theorem dX4_bound_15 : decode cX4_bound 15 = .ok (.invokevirtual 166, 3) := by decide +kernel
theorem dX4_bound_18 : decode cX4_bound 18 = .ok (.lload_n 1, 1) := by decide +kernel
theorem dX4_bound_19 : decode cX4_bound 19 = .ok (.lcmp, 1) := by decide +kernel
theorem dX4_bound_20 : decode cX4_bound 20 = .ok (.ifCond .gt 5, 3) := by decide +kernel
theorem dX4_bound_23 : decode cX4_bound 23 = .ok (.iload_n 3, 1) := by decide +kernel
theorem dX4_bound_24 : decode cX4_bound 24 = .ok (.ireturn, 1) := by decide +kernel
theorem dX4_bound_25 : decode cX4_bound 25 = .ok (.lload_n 1, 1) := by decide +kernel
theorem dX4_bound_26 : decode cX4_bound 26 = .ok (.ldc2_w 170, 3) := by decide +kernel
theorem dX4_bound_29 : decode cX4_bound 29 = .ok (.lmul, 1) := by decide +kernel
theorem dX4_bound_30 : decode cX4_bound 30 = .ok (.lstore_n 1, 1) := by decide +kernel
theorem dX4_bound_31 : decode cX4_bound 31 = .ok (.iinc 3 1, 3) := by decide +kernel
theorem dX4_bound_34 : decode cX4_bound 34 = .ok (.goto (-30), 3) := by decide +kernel
theorem dX4_bound_37 : decode cX4_bound 37 = .ok (.iconst (-1), 1) := by decide +kernel
theorem dX4_bound_38 : decode cX4_bound 38 = .ok (.ireturn, 1) := by decide +kernel
set_option maxRecDepth 20000 in
theorem ggX4_weightBehind_X2_isWeighing : GoodIn wsX4_weightBehind wsX2_isWeighing := goodIn_r _ [8, 9, 10, 11, 12, 13, 14, 15, 16, 58, 59, 60, 61, 62, 63, 64, 65, 66] (by decide +kernel) (by decide +kernel)
set_option maxRecDepth 20000 in
theorem gX4_weightBehind_X2_isWeighing : GoodIn wsX4_weightBehind (wsV RX4 64 RX2 yX2_isWeighing wsX2_isWeighing) := goodIn_app (goodIn_of _ (by decide +kernel)) ggX4_weightBehind_X2_isWeighing
set_option maxRecDepth 20000 in
theorem ggX4_weightBehind_X4_isAnswer : GoodIn wsX4_weightBehind wsX4_isAnswer := goodIn_r _ [20] (by decide +kernel) (by decide +kernel)
set_option maxRecDepth 20000 in
theorem gX4_weightBehind_X4_isAnswer : GoodIn wsX4_weightBehind (va_wsS RX4 68 yX4_isAnswer wsX4_isAnswer) := goodIn_app (goodIn_of _ (by decide +kernel)) ggX4_weightBehind_X4_isAnswer
set_option maxRecDepth 20000 in
theorem ggX4_weightBehind_X4_isAhead : GoodIn wsX4_weightBehind wsX4_isAhead := goodIn_r _ [23] (by decide +kernel) (by decide +kernel)
set_option maxRecDepth 20000 in
theorem gX4_weightBehind_X4_isAhead : GoodIn wsX4_weightBehind (va_wsS RX4 161 yX4_isAhead wsX4_isAhead) := goodIn_app (goodIn_of _ (by decide +kernel)) ggX4_weightBehind_X4_isAhead
set_option maxRecDepth 20000 in
theorem ggX4_weightBehind_X2_weightIfTold : GoodIn wsX4_weightBehind wsX2_weightIfTold := goodIn_r _ [27, 28, 29, 30, 7, 31, 9, 32, 33, 34, 35, 36, 37, 19, 38, 39, 40, 41, 42, 43, 44, 45, 46, 47, 48, 49, 50, 51, 52, 53, 54, 58, 59, 60, 61, 62, 63, 64, 65, 66] (by decide +kernel) (by decide +kernel)
set_option maxRecDepth 20000 in
theorem gX4_weightBehind_X2_weightIfTold : GoodIn wsX4_weightBehind (wsV RX4 174 RX2 yX2_weightIfTold wsX2_weightIfTold) := goodIn_app (goodIn_of _ (by decide +kernel)) ggX4_weightBehind_X2_weightIfTold
theorem dX4_weightBehind_0 : decode cX4_weightBehind 0 = .ok (.aload_n 0, 1) := by decide +kernel
theorem dX4_weightBehind_1 : decode cX4_weightBehind 1 = .ok (.getfield 12, 3) := by decide +kernel
theorem dX4_weightBehind_4 : decode cX4_weightBehind 4 = .ok (.iload_n 1, 1) := by decide +kernel
theorem dX4_weightBehind_5 : decode cX4_weightBehind 5 = .ok (.iload_n 2, 1) := by decide +kernel
theorem dX4_weightBehind_6 : decode cX4_weightBehind 6 = .ok (.invokevirtual 64, 3) := by decide +kernel
theorem dX4_weightBehind_9 : decode cX4_weightBehind 9 = .ok (.ifCond .eq 18, 3) := by decide +kernel
theorem dX4_weightBehind_12 : decode cX4_weightBehind 12 = .ok (.iload_n 3, 1) := by decide +kernel
theorem dX4_weightBehind_13 : decode cX4_weightBehind 13 = .ok (.invokestatic 68, 3) := by decide +kernel
theorem dX4_weightBehind_16 : decode cX4_weightBehind 16 = .ok (.ifCond .eq 11, 3) := by decide +kernel
theorem dX4_weightBehind_19 : decode cX4_weightBehind 19 = .ok (.iload 4, 2) := by decide +kernel
theorem dX4_weightBehind_21 : decode cX4_weightBehind 21 = .ok (.invokestatic 161, 3) := by decide +kernel
theorem dX4_weightBehind_24 : decode cX4_weightBehind 24 = .ok (.ifCond .ne 13, 3) := by decide +kernel
theorem dX4_weightBehind_27 : decode cX4_weightBehind 27 = .ok (.new 30, 3) := by decide +kernel
theorem dX4_weightBehind_30 : decode cX4_weightBehind 30 = .ok (.dup, 1) := by decide +kernel
theorem dX4_weightBehind_31 : decode cX4_weightBehind 31 = .ok (.ldc 172, 2) := by decide +kernel
theorem dX4_weightBehind_33 : decode cX4_weightBehind 33 = .ok (.invokespecial 34, 3) := by decide +kernel
theorem dX4_weightBehind_36 : decode cX4_weightBehind 36 = .ok (.athrow, 1) := by decide +kernel
theorem dX4_weightBehind_37 : decode cX4_weightBehind 37 = .ok (.aload_n 0, 1) := by decide +kernel
theorem dX4_weightBehind_38 : decode cX4_weightBehind 38 = .ok (.getfield 12, 3) := by decide +kernel
theorem dX4_weightBehind_41 : decode cX4_weightBehind 41 = .ok (.iload_n 1, 1) := by decide +kernel
theorem dX4_weightBehind_42 : decode cX4_weightBehind 42 = .ok (.iload_n 2, 1) := by decide +kernel
theorem dX4_weightBehind_43 : decode cX4_weightBehind 43 = .ok (.iload_n 3, 1) := by decide +kernel
theorem dX4_weightBehind_44 : decode cX4_weightBehind 44 = .ok (.iload 4, 2) := by decide +kernel
theorem dX4_weightBehind_46 : decode cX4_weightBehind 46 = .ok (.invokevirtual 174, 3) := by decide +kernel
theorem dX4_weightBehind_49 : decode cX4_weightBehind 49 = .ok (.lreturn, 1) := by decide +kernel
set_option maxRecDepth 20000 in
theorem ggX4_bestGroup_X4_isAhead : GoodIn wsX4_bestGroup wsX4_isAhead := goodIn_r _ [7] (by decide +kernel) (by decide +kernel)
set_option maxRecDepth 20000 in
theorem gX4_bestGroup_X4_isAhead : GoodIn wsX4_bestGroup (va_wsS RX4 161 yX4_isAhead wsX4_isAhead) := goodIn_app (goodIn_of _ (by decide +kernel)) ggX4_bestGroup_X4_isAhead
set_option maxRecDepth 20000 in
theorem ggX4_bestGroup_X2_findGroup : GoodIn wsX4_bestGroup wsX2_findGroup := goodIn_r _ [12, 13, 14, 15, 16, 11, 17, 18, 19, 20, 21, 22, 23, 24, 25, 26, 27, 28, 29, 30, 31, 32, 33, 34, 35, 6, 36, 37, 38, 39, 40, 41, 42, 43, 44, 45, 46, 47, 48, 49, 50, 51, 55, 56, 57, 58, 59, 60, 61, 62, 63] (by decide +kernel) (by decide +kernel)
set_option maxRecDepth 20000 in
theorem gX4_bestGroup_X2_findGroup : GoodIn wsX4_bestGroup (wsV RX4 178 RX2 yX2_findGroup wsX2_findGroup) := goodIn_app (goodIn_of _ (by decide +kernel)) ggX4_bestGroup_X2_findGroup
theorem dX4_bestGroup_0 : decode cX4_bestGroup 0 = .ok (.iload_n 1, 1) := by decide +kernel
theorem dX4_bestGroup_1 : decode cX4_bestGroup 1 = .ok (.invokestatic 161, 3) := by decide +kernel
theorem dX4_bestGroup_4 : decode cX4_bestGroup 4 = .ok (.ifCond .ne 13, 3) := by decide +kernel
theorem dX4_bestGroup_7 : decode cX4_bestGroup 7 = .ok (.new 30, 3) := by decide +kernel
theorem dX4_bestGroup_10 : decode cX4_bestGroup 10 = .ok (.dup, 1) := by decide +kernel
theorem dX4_bestGroup_11 : decode cX4_bestGroup 11 = .ok (.ldc 164, 2) := by decide +kernel
theorem dX4_bestGroup_13 : decode cX4_bestGroup 13 = .ok (.invokespecial 34, 3) := by decide +kernel
theorem dX4_bestGroup_16 : decode cX4_bestGroup 16 = .ok (.athrow, 1) := by decide +kernel
theorem dX4_bestGroup_17 : decode cX4_bestGroup 17 = .ok (.aload_n 0, 1) := by decide +kernel
theorem dX4_bestGroup_18 : decode cX4_bestGroup 18 = .ok (.getfield 12, 3) := by decide +kernel
theorem dX4_bestGroup_21 : decode cX4_bestGroup 21 = .ok (.iload_n 1, 1) := by decide +kernel
theorem dX4_bestGroup_22 : decode cX4_bestGroup 22 = .ok (.invokevirtual 178, 3) := by decide +kernel
theorem dX4_bestGroup_25 : decode cX4_bestGroup 25 = .ok (.ireturn, 1) := by decide +kernel
set_option maxRecDepth 20000 in
theorem ggX4_teaches_X2_isWeighing : GoodIn wsX4_teaches wsX2_isWeighing := goodIn_r _ [8, 9, 10, 11, 12, 13, 14, 15, 16, 42, 43, 44, 45, 46, 47, 48, 49, 50] (by decide +kernel) (by decide +kernel)
set_option maxRecDepth 20000 in
theorem gX4_teaches_X2_isWeighing : GoodIn wsX4_teaches (wsV RX4 64 RX2 yX2_isWeighing wsX2_isWeighing) := goodIn_app (goodIn_of _ (by decide +kernel)) ggX4_teaches_X2_isWeighing
set_option maxRecDepth 20000 in
theorem ggX4_teaches_X2_differs : GoodIn wsX4_teaches wsX2_differs := goodIn_r _ [20, 21, 22, 23, 7, 24, 9, 25, 26, 27, 28, 29, 30, 31, 32, 33, 34, 35, 36, 37, 38, 42, 43, 44, 45, 46, 47, 48, 49, 50] (by decide +kernel) (by decide +kernel)
set_option maxRecDepth 20000 in
theorem gX4_teaches_X2_differs : GoodIn wsX4_teaches (wsV RX4 181 RX2 yX2_differs wsX2_differs) := goodIn_app (goodIn_of _ (by decide +kernel)) ggX4_teaches_X2_differs
theorem dX4_teaches_0 : decode cX4_teaches 0 = .ok (.aload_n 0, 1) := by decide +kernel
theorem dX4_teaches_1 : decode cX4_teaches 1 = .ok (.getfield 12, 3) := by decide +kernel
theorem dX4_teaches_4 : decode cX4_teaches 4 = .ok (.iload_n 1, 1) := by decide +kernel
theorem dX4_teaches_5 : decode cX4_teaches 5 = .ok (.iload_n 2, 1) := by decide +kernel
theorem dX4_teaches_6 : decode cX4_teaches 6 = .ok (.invokevirtual 64, 3) := by decide +kernel
theorem dX4_teaches_9 : decode cX4_teaches 9 = .ok (.ifCond .ne 13, 3) := by decide +kernel
theorem dX4_teaches_12 : decode cX4_teaches 12 = .ok (.new 30, 3) := by decide +kernel
theorem dX4_teaches_15 : decode cX4_teaches 15 = .ok (.dup, 1) := by decide +kernel
theorem dX4_teaches_16 : decode cX4_teaches 16 = .ok (.ldc 106, 2) := by decide +kernel
theorem dX4_teaches_18 : decode cX4_teaches 18 = .ok (.invokespecial 34, 3) := by decide +kernel
theorem dX4_teaches_21 : decode cX4_teaches 21 = .ok (.athrow, 1) := by decide +kernel
theorem dX4_teaches_22 : decode cX4_teaches 22 = .ok (.aload_n 0, 1) := by decide +kernel
theorem dX4_teaches_23 : decode cX4_teaches 23 = .ok (.getfield 12, 3) := by decide +kernel
theorem dX4_teaches_26 : decode cX4_teaches 26 = .ok (.iload_n 1, 1) := by decide +kernel
theorem dX4_teaches_27 : decode cX4_teaches 27 = .ok (.iload_n 2, 1) := by decide +kernel
theorem dX4_teaches_28 : decode cX4_teaches 28 = .ok (.invokevirtual 181, 3) := by decide +kernel
theorem dX4_teaches_31 : decode cX4_teaches 31 = .ok (.ireturn, 1) := by decide +kernel
set_option maxRecDepth 20000 in
theorem ggX4_distance_X2_isCase : GoodIn wsX4_distance wsX2_isCase := goodIn_r _ [8, 9, 10, 11, 7, 12, 13, 43, 44, 45, 46, 47, 48, 49, 50, 51] (by decide +kernel) (by decide +kernel)
set_option maxRecDepth 20000 in
theorem gX4_distance_X2_isCase : GoodIn wsX4_distance (wsV RX4 90 RX2 yX2_isCase wsX2_isCase) := goodIn_app (goodIn_of _ (by decide +kernel)) ggX4_distance_X2_isCase
set_option maxRecDepth 20000 in
theorem ggX4_distance_X3_codeWord : GoodIn wsX4_distance wsX3_codeWord := goodIn_r _ [18, 19, 20, 21, 22, 23, 24, 25, 26, 27, 28, 29, 52, 53, 54, 55] (by decide +kernel) (by decide +kernel)
set_option maxRecDepth 20000 in
theorem gX4_distance_X3_codeWord : GoodIn wsX4_distance (wsV RX4 184 RX3 yX3_codeWord wsX3_codeWord) := goodIn_app (goodIn_of _ (by decide +kernel)) ggX4_distance_X3_codeWord
set_option maxRecDepth 20000 in
theorem ggX4_distance_X4_differences : GoodIn wsX4_distance wsX4_differences := goodIn_r _ [32, 33, 34, 35, 36, 37, 38, 39] (by decide +kernel) (by decide +kernel)
set_option maxRecDepth 20000 in
theorem gX4_distance_X4_differences : GoodIn wsX4_distance (va_wsS RX4 187 yX4_differences wsX4_differences) := goodIn_app (goodIn_of _ (by decide +kernel)) ggX4_distance_X4_differences
theorem dX4_distance_0 : decode cX4_distance 0 = .ok (.aload_n 0, 1) := by decide +kernel
theorem dX4_distance_1 : decode cX4_distance 1 = .ok (.getfield 12, 3) := by decide +kernel
theorem dX4_distance_4 : decode cX4_distance 4 = .ok (.iload_n 1, 1) := by decide +kernel
theorem dX4_distance_5 : decode cX4_distance 5 = .ok (.invokevirtual 90, 3) := by decide +kernel
theorem dX4_distance_8 : decode cX4_distance 8 = .ok (.ifCond .eq 14, 3) := by decide +kernel
theorem dX4_distance_11 : decode cX4_distance 11 = .ok (.aload_n 0, 1) := by decide +kernel
theorem dX4_distance_12 : decode cX4_distance 12 = .ok (.getfield 12, 3) := by decide +kernel
theorem dX4_distance_15 : decode cX4_distance 15 = .ok (.iload_n 2, 1) := by decide +kernel
theorem dX4_distance_16 : decode cX4_distance 16 = .ok (.invokevirtual 90, 3) := by decide +kernel
theorem dX4_distance_19 : decode cX4_distance 19 = .ok (.ifCond .ne 13, 3) := by decide +kernel
theorem dX4_distance_22 : decode cX4_distance 22 = .ok (.new 93, 3) := by decide +kernel
theorem dX4_distance_25 : decode cX4_distance 25 = .ok (.dup, 1) := by decide +kernel
theorem dX4_distance_26 : decode cX4_distance 26 = .ok (.ldc 95, 2) := by decide +kernel
theorem dX4_distance_28 : decode cX4_distance 28 = .ok (.invokespecial 97, 3) := by decide +kernel
theorem dX4_distance_31 : decode cX4_distance 31 = .ok (.athrow, 1) := by decide +kernel
theorem dX4_distance_32 : decode cX4_distance 32 = .ok (.aload_n 0, 1) := by decide +kernel
theorem dX4_distance_33 : decode cX4_distance 33 = .ok (.getfield 12, 3) := by decide +kernel
theorem dX4_distance_36 : decode cX4_distance 36 = .ok (.getfield 122, 3) := by decide +kernel
theorem dX4_distance_39 : decode cX4_distance 39 = .ok (.iload_n 1, 1) := by decide +kernel
theorem dX4_distance_40 : decode cX4_distance 40 = .ok (.invokevirtual 184, 3) := by decide +kernel
theorem dX4_distance_43 : decode cX4_distance 43 = .ok (.aload_n 0, 1) := by decide +kernel
theorem dX4_distance_44 : decode cX4_distance 44 = .ok (.getfield 12, 3) := by decide +kernel
theorem dX4_distance_47 : decode cX4_distance 47 = .ok (.getfield 122, 3) := by decide +kernel
theorem dX4_distance_50 : decode cX4_distance 50 = .ok (.iload_n 2, 1) := by decide +kernel
theorem dX4_distance_51 : decode cX4_distance 51 = .ok (.invokevirtual 184, 3) := by decide +kernel
theorem dX4_distance_54 : decode cX4_distance 54 = .ok (.invokestatic 187, 3) := by decide +kernel
theorem dX4_distance_57 : decode cX4_distance 57 = .ok (.ireturn, 1) := by decide +kernel
set_option maxRecDepth 20000 in
theorem ggX4_leastDistance_X2_leastDifferences : GoodIn wsX4_leastDistance wsX2_leastDifferences := goodIn_r _ [6, 7, 8, 9, 10, 11, 12, 13, 14, 15, 5, 16, 17, 18, 19, 20, 21, 22, 23, 24, 25, 26, 27, 28, 29, 30, 31, 32, 33, 34, 35, 36, 37, 38, 39, 40, 41, 42, 43, 44, 48, 49, 50, 51, 52, 53, 54, 55, 56, 57, 58, 59, 60] (by decide +kernel) (by decide +kernel)
set_option maxRecDepth 20000 in
theorem gX4_leastDistance_X2_leastDifferences : GoodIn wsX4_leastDistance (wsV RX4 190 RX2 yX2_leastDifferences wsX2_leastDifferences) := goodIn_app (goodIn_of _ (by decide +kernel)) ggX4_leastDistance_X2_leastDifferences
theorem dX4_leastDistance_0 : decode cX4_leastDistance 0 = .ok (.aload_n 0, 1) := by decide +kernel
theorem dX4_leastDistance_1 : decode cX4_leastDistance 1 = .ok (.getfield 12, 3) := by decide +kernel
theorem dX4_leastDistance_4 : decode cX4_leastDistance 4 = .ok (.invokevirtual 190, 3) := by decide +kernel
theorem dX4_leastDistance_7 : decode cX4_leastDistance 7 = .ok (.ireturn, 1) := by decide +kernel
set_option maxRecDepth 20000 in
theorem ggX4_bears_X2_leastDifferences : GoodIn wsX4_bears wsX2_leastDifferences := goodIn_r _ [6, 7, 8, 9, 10, 11, 12, 13, 14, 15, 5, 16, 17, 18, 19, 20, 21, 22, 23, 24, 25, 26, 27, 28, 29, 30, 31, 32, 33, 34, 35, 36, 37, 38, 39, 40, 41, 42, 43, 44, 48, 49, 50, 51, 52, 53, 54, 55, 56, 57, 58, 59, 60] (by decide +kernel) (by decide +kernel)
set_option maxRecDepth 20000 in
theorem gX4_bears_X2_leastDifferences : GoodIn wsX4_bears (wsV RX4 190 RX2 yX2_leastDifferences wsX2_leastDifferences) := goodIn_app (goodIn_of _ (by decide +kernel)) ggX4_bears_X2_leastDifferences
theorem dX4_bears_0 : decode cX4_bears 0 = .ok (.aload_n 0, 1) := by decide +kernel
theorem dX4_bears_1 : decode cX4_bears 1 = .ok (.getfield 12, 3) := by decide +kernel
theorem dX4_bears_4 : decode cX4_bears 4 = .ok (.invokevirtual 190, 3) := by decide +kernel
theorem dX4_bears_7 : decode cX4_bears 7 = .ok (.istore_n 1, 1) := by decide +kernel
theorem dX4_bears_8 : decode cX4_bears 8 = .ok (.iload_n 1, 1) := by decide +kernel
theorem dX4_bears_9 : decode cX4_bears 9 = .ok (.ifCond .ne 7, 3) := by decide +kernel
theorem dX4_bears_12 : decode cX4_bears 12 = .ok (.iconst (-1), 1) := by decide +kernel
theorem dX4_bears_13 : decode cX4_bears 13 = .ok (.goto 8, 3) := by decide +kernel
theorem dX4_bears_16 : decode cX4_bears 16 = .ok (.iload_n 1, 1) := by decide +kernel
theorem dX4_bears_17 : decode cX4_bears 17 = .ok (.iconst 1, 1) := by decide +kernel
theorem dX4_bears_18 : decode cX4_bears 18 = .ok (.isub, 1) := by decide +kernel
theorem dX4_bears_19 : decode cX4_bears 19 = .ok (.iconst 2, 1) := by decide +kernel
theorem dX4_bears_20 : decode cX4_bears 20 = .ok (.idiv, 1) := by decide +kernel
theorem dX4_bears_21 : decode cX4_bears 21 = .ok (.ireturn, 1) := by decide +kernel
set_option maxRecDepth 20000 in
theorem ggX4_decode_X3_answerRows : GoodIn wsX4_decode wsX3_answerRows := goodIn_r _ [8, 9, 59, 60, 61, 62] (by decide +kernel) (by decide +kernel)
set_option maxRecDepth 20000 in
theorem gX4_decode_X3_answerRows : GoodIn wsX4_decode (wsV RX4 193 RX3 yX3_answerRows wsX3_answerRows) := goodIn_app (goodIn_of _ (by decide +kernel)) ggX4_decode_X3_answerRows
set_option maxRecDepth 20000 in
theorem ggX4_decode_X4_wordOf : GoodIn wsX4_decode wsX4_wordOf := goodIn_r _ [13] (by decide +kernel) (by decide +kernel)
set_option maxRecDepth 20000 in
theorem gX4_decode_X4_wordOf : GoodIn wsX4_decode (va_wsS RX4 198 yX4_wordOf wsX4_wordOf) := goodIn_app (goodIn_of _ (by decide +kernel)) ggX4_decode_X4_wordOf
set_option maxRecDepth 20000 in
theorem ggX4_decode_X2_nearestCase : GoodIn wsX4_decode wsX2_nearestCase := goodIn_r _ [18, 19, 20, 21, 22, 17, 23, 24, 25, 26, 27, 7, 28, 9, 29, 30, 31, 12, 32, 33, 34, 35, 36, 37, 38, 39, 40, 41, 42, 43, 44, 45, 46, 50, 51, 52, 53, 54, 55, 56, 57, 58, 59, 60, 61, 62] (by decide +kernel) (by decide +kernel)
set_option maxRecDepth 20000 in
theorem gX4_decode_X2_nearestCase : GoodIn wsX4_decode (wsV RX4 201 RX2 yX2_nearestCase wsX2_nearestCase) := goodIn_app (goodIn_of _ (by decide +kernel)) ggX4_decode_X2_nearestCase
theorem dX4_decode_0 : decode cX4_decode 0 = .ok (.iload_n 1, 1) := by decide +kernel
theorem dX4_decode_1 : decode cX4_decode 1 = .ok (.ifCond .lt 17, 3) := by decide +kernel
theorem dX4_decode_4 : decode cX4_decode 4 = .ok (.iload_n 1, 1) := by decide +kernel
theorem dX4_decode_5 : decode cX4_decode 5 = .ok (.aload_n 0, 1) := by decide +kernel
theorem dX4_decode_6 : decode cX4_decode 6 = .ok (.getfield 12, 3) := by decide +kernel
theorem dX4_decode_9 : decode cX4_decode 9 = .ok (.getfield 122, 3) := by decide +kernel
theorem dX4_decode_12 : decode cX4_decode 12 = .ok (.invokevirtual 193, 3) := by decide +kernel
theorem dX4_decode_15 : decode cX4_decode 15 = .ok (.if_icmp .lt 13, 3) := by decide +kernel
theorem dX4_decode_18 : decode cX4_decode 18 = .ok (.new 30, 3) := by decide +kernel
theorem dX4_decode_21 : decode cX4_decode 21 = .ok (.dup, 1) := by decide +kernel
theorem dX4_decode_22 : decode cX4_decode 22 = .ok (.ldc 196, 2) := by decide +kernel
theorem dX4_decode_24 : decode cX4_decode 24 = .ok (.invokespecial 34, 3) := by decide +kernel
theorem dX4_decode_27 : decode cX4_decode 27 = .ok (.athrow, 1) := by decide +kernel
theorem dX4_decode_28 : decode cX4_decode 28 = .ok (.aload_n 0, 1) := by decide +kernel
theorem dX4_decode_29 : decode cX4_decode 29 = .ok (.getfield 12, 3) := by decide +kernel
theorem dX4_decode_32 : decode cX4_decode 32 = .ok (.iload_n 1, 1) := by decide +kernel
theorem dX4_decode_33 : decode cX4_decode 33 = .ok (.invokestatic 198, 3) := by decide +kernel
theorem dX4_decode_36 : decode cX4_decode 36 = .ok (.invokevirtual 201, 3) := by decide +kernel
theorem dX4_decode_39 : decode cX4_decode 39 = .ok (.ireturn, 1) := by decide +kernel
set_option maxRecDepth 20000 in
theorem ggX4_share_X2_countLeft : GoodIn wsX4_share wsX2_countLeft := goodIn_r _ [6, 7, 8, 9, 5, 10, 11, 12, 13, 14, 15, 16, 17, 18, 19, 20, 25, 26, 27, 28, 29, 30, 31, 32, 33] (by decide +kernel) (by decide +kernel)
set_option maxRecDepth 20000 in
theorem gX4_share_X2_countLeft : GoodIn wsX4_share (wsV RX4 60 RX2 yX2_countLeft wsX2_countLeft) := goodIn_app (goodIn_of _ (by decide +kernel)) ggX4_share_X2_countLeft
set_option maxRecDepth 20000 in
theorem ggX4_share_X2_cases : GoodIn wsX4_share wsX2_cases := goodIn_r _ [10, 11, 25, 26, 27, 28, 29, 30, 31, 32, 33] (by decide +kernel) (by decide +kernel)
set_option maxRecDepth 20000 in
theorem gX4_share_X2_cases : GoodIn wsX4_share (wsV RX4 204 RX2 yX2_cases wsX2_cases) := goodIn_app (goodIn_of _ (by decide +kernel)) ggX4_share_X2_cases
theorem dX4_share_0 : decode cX4_share 0 = .ok (.aload_n 0, 1) := by decide +kernel
theorem dX4_share_1 : decode cX4_share 1 = .ok (.getfield 12, 3) := by decide +kernel
theorem dX4_share_4 : decode cX4_share 4 = .ok (.invokevirtual 60, 3) := by decide +kernel
theorem dX4_share_7 : decode cX4_share 7 = .ok (.i2d, 1) := by decide +kernel
theorem dX4_share_8 : decode cX4_share 8 = .ok (.aload_n 0, 1) := by decide +kernel
theorem dX4_share_9 : decode cX4_share 9 = .ok (.getfield 12, 3) := by decide +kernel
theorem dX4_share_12 : decode cX4_share 12 = .ok (.invokevirtual 204, 3) := by decide +kernel
theorem dX4_share_15 : decode cX4_share 15 = .ok (.i2d, 1) := by decide +kernel
theorem dX4_share_16 : decode cX4_share 16 = .ok (.ddiv, 1) := by decide +kernel
theorem dX4_share_17 : decode cX4_share 17 = .ok (.dreturn, 1) := by decide +kernel
set_option maxRecDepth 20000 in
theorem ggX4_append_X1_write : GoodIn wsX4_append wsX1_write := goodIn_r _ [10, 11, 12, 13, 14, 15, 19, 20, 21, 22, 23, 24, 25, 26, 27] (by decide +kernel) (by decide +kernel)
set_option maxRecDepth 20000 in
theorem gX4_append_X1_write : GoodIn wsX4_append (wsV RX4 214 RX1 yX1_write wsX1_write) := goodIn_app (goodIn_of _ (by decide +kernel)) ggX4_append_X1_write
theorem dX4_append_0 : decode cX4_append 0 = .ok (.iload_n 1, 1) := by decide +kernel
theorem dX4_append_1 : decode cX4_append 1 = .ok (.ifCond .lt 9, 3) := by decide +kernel
theorem dX4_append_4 : decode cX4_append 4 = .ok (.iload_n 1, 1) := by decide +kernel
theorem dX4_append_5 : decode cX4_append 5 = .ok (.bipush 127, 2) := by decide +kernel
theorem dX4_append_7 : decode cX4_append 7 = .ok (.if_icmp .le 13, 3) := by decide +kernel
theorem dX4_append_10 : decode cX4_append 10 = .ok (.new 30, 3) := by decide +kernel
theorem dX4_append_13 : decode cX4_append 13 = .ok (.dup, 1) := by decide +kernel
theorem dX4_append_14 : decode cX4_append 14 = .ok (.ldc 207, 2) := by decide +kernel
theorem dX4_append_16 : decode cX4_append 16 = .ok (.invokespecial 34, 3) := by decide +kernel
theorem dX4_append_19 : decode cX4_append 19 = .ok (.athrow, 1) := by decide +kernel
theorem dX4_append_20 : decode cX4_append 20 = .ok (.aload_n 0, 1) := by decide +kernel
theorem dX4_append_21 : decode cX4_append 21 = .ok (.getfield 26, 3) := by decide +kernel
theorem dX4_append_24 : decode cX4_append 24 = .ok (.getfield 209, 3) := by decide +kernel
theorem dX4_append_27 : decode cX4_append 27 = .ok (.bipush 100, 2) := by decide +kernel
theorem dX4_append_29 : decode cX4_append 29 = .ok (.if_icmp .lt 13, 3) := by decide +kernel
theorem dX4_append_32 : decode cX4_append 32 = .ok (.new 78, 3) := by decide +kernel
theorem dX4_append_35 : decode cX4_append 35 = .ok (.dup, 1) := by decide +kernel
theorem dX4_append_36 : decode cX4_append 36 = .ok (.ldc 212, 2) := by decide +kernel
theorem dX4_append_38 : decode cX4_append 38 = .ok (.invokespecial 82, 3) := by decide +kernel
theorem dX4_append_41 : decode cX4_append 41 = .ok (.athrow, 1) := by decide +kernel
theorem dX4_append_42 : decode cX4_append 42 = .ok (.aload_n 0, 1) := by decide +kernel
theorem dX4_append_43 : decode cX4_append 43 = .ok (.getfield 26, 3) := by decide +kernel
theorem dX4_append_46 : decode cX4_append 46 = .ok (.iload_n 1, 1) := by decide +kernel
theorem dX4_append_47 : decode cX4_append 47 = .ok (.invokevirtual 214, 3) := by decide +kernel
theorem dX4_append_50 : decode cX4_append 50 = .ok (.aload_n 0, 1) := by decide +kernel
theorem dX4_append_51 : decode cX4_append 51 = .ok (.getfield 26, 3) := by decide +kernel
theorem dX4_append_54 : decode cX4_append 54 = .ok (.getfield 209, 3) := by decide +kernel
theorem dX4_append_57 : decode cX4_append 57 = .ok (.ireturn, 1) := by decide +kernel
theorem dX4_clearText_0 : decode cX4_clearText 0 = .ok (.aload_n 0, 1) := by decide +kernel
theorem dX4_clearText_1 : decode cX4_clearText 1 = .ok (.getfield 26, 3) := by decide +kernel
theorem dX4_clearText_4 : decode cX4_clearText 4 = .ok (.getfield 209, 3) := by decide +kernel
theorem dX4_clearText_7 : decode cX4_clearText 7 = .ok (.istore_n 1, 1) := by decide +kernel
theorem dX4_clearText_8 : decode cX4_clearText 8 = .ok (.aload_n 0, 1) := by decide +kernel
theorem dX4_clearText_9 : decode cX4_clearText 9 = .ok (.getfield 26, 3) := by decide +kernel
theorem dX4_clearText_12 : decode cX4_clearText 12 = .ok (.iconst 0, 1) := by decide +kernel
theorem dX4_clearText_13 : decode cX4_clearText 13 = .ok (.putfield 209, 3) := by decide +kernel
theorem dX4_clearText_16 : decode cX4_clearText 16 = .ok (.iload_n 1, 1) := by decide +kernel
theorem dX4_clearText_17 : decode cX4_clearText 17 = .ok (.ireturn, 1) := by decide +kernel
set_option maxRecDepth 20000 in
theorem ggX4_carryOut_X1_read : GoodIn wsX4_carryOut wsX1_read := goodIn_r _ [8, 9, 10, 11, 12, 13, 14, 15, 16, 17, 18, 7, 19, 20, 21, 22, 23, 24, 25, 26, 27, 28, 29, 30, 31, 32, 33, 34, 35, 36, 37, 38, 39, 40, 41, 42, 43, 44, 45, 46, 47, 48, 49, 50, 51, 52, 53, 54, 55, 56, 57, 58, 170, 171, 172, 173, 174, 175, 176, 177, 178] (by decide +kernel) (by decide +kernel)
set_option maxRecDepth 20000 in
theorem gX4_carryOut_X1_read : GoodIn wsX4_carryOut (wsV RX4 217 RX1 yX1_read wsX1_read) := goodIn_app (goodIn_of _ (by decide +kernel)) ggX4_carryOut_X1_read
set_option maxRecDepth 20000 in
theorem ggX4_carryOut_X0_save : GoodIn wsX4_carryOut wsX0_save := goodIn_r _ [63, 64, 65, 66, 67, 68, 62, 69, 70, 71, 72, 73, 74, 75, 76, 77, 78, 79, 80, 81, 82, 83, 84, 85, 86, 87, 88, 89, 90, 91, 92, 93, 94, 95, 96, 14, 97, 98, 99, 100, 101, 102, 103, 104, 105, 179, 180, 181, 182, 183, 184, 185, 186, 187, 188, 189, 190, 191, 192, 193] (by decide +kernel) (by decide +kernel)
set_option maxRecDepth 20000 in
theorem gX4_carryOut_X0_save : GoodIn wsX4_carryOut (wsV RX4 37 RX0 yX0_save wsX0_save) := goodIn_app (goodIn_of _ (by decide +kernel)) ggX4_carryOut_X0_save
set_option maxRecDepth 20000 in
theorem ggX4_carryOut_X4_at : GoodIn wsX4_carryOut wsX4_at := goodIn_r _ [15] (by decide +kernel) (by decide +kernel)
set_option maxRecDepth 20000 in
theorem gX4_carryOut_X4_at : GoodIn wsX4_carryOut (va_wsS RX4 137 yX4_at wsX4_at) := goodIn_app (goodIn_of _ (by decide +kernel)) ggX4_carryOut_X4_at
set_option maxRecDepth 20000 in
theorem ggX4_carryOut_X2_obey : GoodIn wsX4_carryOut wsX2_obey := goodIn_r _ [110, 111, 112, 113, 77, 114, 82, 115, 116, 117, 118, 119, 120, 121, 122, 123, 124, 125, 126, 127, 128, 129, 84, 86, 130, 131, 132, 133, 79, 134, 135, 136, 137, 80, 138, 139, 140, 141, 85, 142, 14, 143, 144, 145, 146, 147, 148, 149, 150, 81, 151, 152, 153, 90, 154, 95, 92, 93, 94, 49, 50, 155, 156, 157, 158, 159, 160, 161, 162, 13, 15, 163, 164, 165, 166, 181, 182, 183, 184, 185, 186, 187, 188, 189, 190, 191, 192, 193] (by decide +kernel) (by decide +kernel)
set_option maxRecDepth 20000 in
theorem gX4_carryOut_X2_obey : GoodIn wsX4_carryOut (wsV RX4 230 RX2 yX2_obey wsX2_obey) := goodIn_app (goodIn_of _ (by decide +kernel)) ggX4_carryOut_X2_obey
theorem dX4_carryOut_0 : decode cX4_carryOut 0 = .ok (.aload_n 0, 1) := by decide +kernel
theorem dX4_carryOut_1 : decode cX4_carryOut 1 = .ok (.getfield 26, 3) := by decide +kernel
theorem dX4_carryOut_4 : decode cX4_carryOut 4 = .ok (.invokevirtual 217, 3) := by decide +kernel
theorem dX4_carryOut_7 : decode cX4_carryOut 7 = .ok (.istore_n 1, 1) := by decide +kernel
theorem dX4_carryOut_8 : decode cX4_carryOut 8 = .ok (.iload_n 1, 1) := by decide +kernel
theorem dX4_carryOut_9 : decode cX4_carryOut 9 = .ok (.iconst (-1), 1) := by decide +kernel
theorem dX4_carryOut_10 : decode cX4_carryOut 10 = .ok (.if_icmp .eq 8, 3) := by decide +kernel
theorem dX4_carryOut_13 : decode cX4_carryOut 13 = .ok (.bipush (-10), 2) := by decide +kernel
theorem dX4_carryOut_15 : decode cX4_carryOut 15 = .ok (.iload_n 1, 1) := by decide +kernel
theorem dX4_carryOut_16 : decode cX4_carryOut 16 = .ok (.isub, 1) := by decide +kernel
theorem dX4_carryOut_17 : decode cX4_carryOut 17 = .ok (.ireturn, 1) := by decide +kernel
theorem dX4_carryOut_18 : decode cX4_carryOut 18 = .ok (.aload_n 0, 1) := by decide +kernel
theorem dX4_carryOut_19 : decode cX4_carryOut 19 = .ok (.getfield 19, 3) := by decide +kernel
theorem dX4_carryOut_22 : decode cX4_carryOut 22 = .ok (.aload_n 0, 1) := by decide +kernel
theorem dX4_carryOut_23 : decode cX4_carryOut 23 = .ok (.getfield 12, 3) := by decide +kernel
theorem dX4_carryOut_26 : decode cX4_carryOut 26 = .ok (.invokevirtual 37, 3) := by decide +kernel
theorem dX4_carryOut_29 : decode cX4_carryOut 29 = .ok (.iconst 0, 1) := by decide +kernel
theorem dX4_carryOut_30 : decode cX4_carryOut 30 = .ok (.istore_n 2, 1) := by decide +kernel
theorem dX4_carryOut_31 : decode cX4_carryOut 31 = .ok (.iload_n 2, 1) := by decide +kernel
theorem dX4_carryOut_32 : decode cX4_carryOut 32 = .ok (.aload_n 0, 1) := by decide +kernel
theorem dX4_carryOut_33 : decode cX4_carryOut 33 = .ok (.getfield 26, 3) := by decide +kernel
theorem dX4_carryOut_36 : decode cX4_carryOut 36 = .ok (.getfield 220, 3) := by decide +kernel
theorem dX4_carryOut_39 : decode cX4_carryOut 39 = .ok (.if_icmp .ge 54, 3) := by decide +kernel
theorem dX4_carryOut_42 : decode cX4_carryOut 42 = .ok (.aload_n 0, 1) := by decide +kernel
theorem dX4_carryOut_43 : decode cX4_carryOut 43 = .ok (.getfield 12, 3) := by decide +kernel
theorem dX4_carryOut_46 : decode cX4_carryOut 46 = .ok (.aload_n 0, 1) := by decide +kernel
theorem dX4_carryOut_47 : decode cX4_carryOut 47 = .ok (.getfield 26, 3) := by decide +kernel
theorem dX4_carryOut_50 : decode cX4_carryOut 50 = .ok (.getfield 221, 3) := by decide +kernel
theorem dX4_carryOut_53 : decode cX4_carryOut 53 = .ok (.iload_n 2, 1) := by decide +kernel
theorem dX4_carryOut_54 : decode cX4_carryOut 54 = .ok (.invokestatic 137, 3) := by decide +kernel
theorem dX4_carryOut_57 : decode cX4_carryOut 57 = .ok (.aload_n 0, 1) := by decide +kernel
theorem dX4_carryOut_58 : decode cX4_carryOut 58 = .ok (.getfield 26, 3) := by decide +kernel
theorem dX4_carryOut_61 : decode cX4_carryOut 61 = .ok (.getfield 224, 3) := by decide +kernel
theorem dX4_carryOut_64 : decode cX4_carryOut 64 = .ok (.iload_n 2, 1) := by decide +kernel
theorem dX4_carryOut_65 : decode cX4_carryOut 65 = .ok (.invokestatic 137, 3) := by decide +kernel
theorem dX4_carryOut_68 : decode cX4_carryOut 68 = .ok (.aload_n 0, 1) := by decide +kernel
theorem dX4_carryOut_69 : decode cX4_carryOut 69 = .ok (.getfield 26, 3) := by decide +kernel
theorem dX4_carryOut_72 : decode cX4_carryOut 72 = .ok (.getfield 227, 3) := by decide +kernel
theorem dX4_carryOut_75 : decode cX4_carryOut 75 = .ok (.iload_n 2, 1) := by decide +kernel
theorem dX4_carryOut_76 : decode cX4_carryOut 76 = .ok (.invokestatic 137, 3) := by decide +kernel
theorem dX4_carryOut_79 : decode cX4_carryOut 79 = .ok (.invokevirtual 230, 3) := by decide +kernel
theorem dX4_carryOut_82 : decode cX4_carryOut 82 = .ok (.ifCond .ne 5, 3) := by decide +kernel
theorem dX4_carryOut_85 : decode cX4_carryOut 85 = .ok (.iload_n 2, 1) := by decide +kernel
theorem dX4_carryOut_86 : decode cX4_carryOut 86 = .ok (.ireturn, 1) := by decide +kernel
theorem dX4_carryOut_87 : decode cX4_carryOut 87 = .ok (.iinc 2 1, 3) := by decide +kernel
theorem dX4_carryOut_90 : decode cX4_carryOut 90 = .ok (.goto (-59), 3) := by decide +kernel
theorem dX4_carryOut_93 : decode cX4_carryOut 93 = .ok (.aload_n 0, 1) := by decide +kernel
theorem dX4_carryOut_94 : decode cX4_carryOut 94 = .ok (.getfield 26, 3) := by decide +kernel
theorem dX4_carryOut_97 : decode cX4_carryOut 97 = .ok (.getfield 220, 3) := by decide +kernel
theorem dX4_carryOut_100 : decode cX4_carryOut 100 = .ok (.ireturn, 1) := by decide +kernel
set_option maxRecDepth 20000 in
theorem ggX4_undo_X0_restore : GoodIn wsX4_undo wsX0_restore := goodIn_r _ [9, 10, 11, 12, 13, 8, 14, 15, 16, 17, 18, 19, 20, 21, 22, 23, 24, 25, 26, 27, 28, 29, 30, 31, 32, 33, 34, 35, 36, 37, 38, 39, 40, 41, 42, 43, 44, 45, 46, 47, 48, 52, 53, 54, 55, 56, 57, 58, 59, 60, 61, 62, 63, 64, 65, 66] (by decide +kernel) (by decide +kernel)
set_option maxRecDepth 20000 in
theorem gX4_undo_X0_restore : GoodIn wsX4_undo (wsV RX4 237 RX0 yX0_restore wsX0_restore) := goodIn_app (goodIn_of _ (by decide +kernel)) ggX4_undo_X0_restore
theorem dX4_undo_0 : decode cX4_undo 0 = .ok (.aload_n 0, 1) := by decide +kernel
theorem dX4_undo_1 : decode cX4_undo 1 = .ok (.getfield 19, 3) := by decide +kernel
theorem dX4_undo_4 : decode cX4_undo 4 = .ok (.getfield 234, 3) := by decide +kernel
theorem dX4_undo_7 : decode cX4_undo 7 = .ok (.ifCond .ne 13, 3) := by decide +kernel
theorem dX4_undo_10 : decode cX4_undo 10 = .ok (.new 78, 3) := by decide +kernel
theorem dX4_undo_13 : decode cX4_undo 13 = .ok (.dup, 1) := by decide +kernel
theorem dX4_undo_14 : decode cX4_undo 14 = .ok (.ldc 235, 2) := by decide +kernel
theorem dX4_undo_16 : decode cX4_undo 16 = .ok (.invokespecial 82, 3) := by decide +kernel
theorem dX4_undo_19 : decode cX4_undo 19 = .ok (.athrow, 1) := by decide +kernel
theorem dX4_undo_20 : decode cX4_undo 20 = .ok (.aload_n 0, 1) := by decide +kernel
theorem dX4_undo_21 : decode cX4_undo 21 = .ok (.getfield 19, 3) := by decide +kernel
theorem dX4_undo_24 : decode cX4_undo 24 = .ok (.aload_n 0, 1) := by decide +kernel
theorem dX4_undo_25 : decode cX4_undo 25 = .ok (.getfield 12, 3) := by decide +kernel
theorem dX4_undo_28 : decode cX4_undo 28 = .ok (.invokevirtual 237, 3) := by decide +kernel
theorem dX4_undo_31 : decode cX4_undo 31 = .ok (.aload_n 0, 1) := by decide +kernel
theorem dX4_undo_32 : decode cX4_undo 32 = .ok (.getfield 19, 3) := by decide +kernel
theorem dX4_undo_35 : decode cX4_undo 35 = .ok (.getfield 234, 3) := by decide +kernel
theorem dX4_undo_38 : decode cX4_undo 38 = .ok (.ireturn, 1) := by decide +kernel
set_option maxRecDepth 20000 in
theorem ggX4_digest_X4_mix : GoodIn wsX4_digest wsX4_mix := goodIn_r _ [8, 9] (by decide +kernel) (by decide +kernel)
set_option maxRecDepth 20000 in
theorem gX4_digest_X4_mix : GoodIn wsX4_digest (va_wsS RX4 242 yX4_mix wsX4_mix) := goodIn_app (goodIn_of _ (by decide +kernel)) ggX4_digest_X4_mix
set_option maxRecDepth 20000 in
theorem ggX4_digest_X2_number : GoodIn wsX4_digest wsX2_number := goodIn_r _ [14, 15, 16, 17, 18, 19, 20, 21, 22, 23, 13, 24, 25, 26, 27, 28, 29, 30, 31, 32, 33, 34, 7, 35, 36, 37, 38, 39, 40, 41, 127, 128, 129, 130, 131, 132, 133, 134, 135, 136, 137, 138, 139] (by decide +kernel) (by decide +kernel)
set_option maxRecDepth 20000 in
theorem gX4_digest_X2_number : GoodIn wsX4_digest (wsV RX4 158 RX2 yX2_number wsX2_number) := goodIn_app (goodIn_of _ (by decide +kernel)) ggX4_digest_X2_number
set_option maxRecDepth 20000 in
theorem ggX4_digest_X3_part : GoodIn wsX4_digest wsX3_part := goodIn_r _ [46, 47, 48, 49, 34, 7, 35, 136, 137, 138, 139] (by decide +kernel) (by decide +kernel)
set_option maxRecDepth 20000 in
theorem gX4_digest_X3_part : GoodIn wsX4_digest (wsV RX4 155 RX3 yX3_part wsX3_part) := goodIn_app (goodIn_of _ (by decide +kernel)) ggX4_digest_X3_part
set_option maxRecDepth 20000 in
theorem ggX4_digest_X2_cases : GoodIn wsX4_digest wsX2_cases := goodIn_r _ [28, 15, 127, 128, 129, 130, 131, 132, 133, 134, 135] (by decide +kernel) (by decide +kernel)
set_option maxRecDepth 20000 in
theorem gX4_digest_X2_cases : GoodIn wsX4_digest (wsV RX4 204 RX2 yX2_cases wsX2_cases) := goodIn_app (goodIn_of _ (by decide +kernel)) ggX4_digest_X2_cases
set_option maxRecDepth 20000 in
theorem ggX4_digest_X4_at : GoodIn wsX4_digest wsX4_at := goodIn_r _ [35] (by decide +kernel) (by decide +kernel)
set_option maxRecDepth 20000 in
theorem gX4_digest_X4_at : GoodIn wsX4_digest (va_wsS RX4 137 yX4_at wsX4_at) := goodIn_app (goodIn_of _ (by decide +kernel)) ggX4_digest_X4_at
set_option maxRecDepth 20000 in
theorem ggX4_digest_X2_leastDifferences : GoodIn wsX4_digest wsX2_leastDifferences := goodIn_r _ [55, 56, 18, 57, 58, 59, 60, 25, 26, 27, 13, 28, 15, 61, 62, 63, 45, 64, 65, 47, 48, 34, 7, 35, 66, 67, 68, 40, 41, 69, 70, 71, 72, 73, 74, 75, 76, 77, 78, 79, 127, 128, 129, 130, 131, 132, 133, 134, 135, 136, 137, 138, 139] (by decide +kernel) (by decide +kernel)
set_option maxRecDepth 20000 in
theorem gX4_digest_X2_leastDifferences : GoodIn wsX4_digest (wsV RX4 190 RX2 yX2_leastDifferences wsX2_leastDifferences) := goodIn_app (goodIn_of _ (by decide +kernel)) ggX4_digest_X2_leastDifferences
set_option maxRecDepth 20000 in
theorem ggX4_digest_X4_bound : GoodIn wsX4_digest wsX4_bound := goodIn_r _ [83, 3, 84, 85, 86, 87, 13, 88, 33, 25, 26, 27, 28, 15, 34, 7, 35, 89, 90, 91, 92, 16, 93, 94, 95, 58, 59, 60, 115, 116, 117, 127, 128, 129, 130, 131, 132, 133, 134, 135] (by decide +kernel) (by decide +kernel)
set_option maxRecDepth 20000 in
theorem gX4_digest_X4_bound : GoodIn wsX4_digest (wsV RX4 248 RX4 yX4_bound wsX4_bound) := goodIn_app (goodIn_of _ (by decide +kernel)) ggX4_digest_X4_bound
set_option maxRecDepth 20000 in
theorem ggX4_digest_X2_weightAhead : GoodIn wsX4_digest wsX2_weightAhead := goodIn_r _ [88, 33, 25, 26, 27, 13, 28, 15, 34, 7, 35, 89, 90, 91, 92, 16, 93, 94, 95, 58, 59, 60, 127, 128, 129, 130, 131, 132, 133, 134, 135] (by decide +kernel) (by decide +kernel)
set_option maxRecDepth 20000 in
theorem gX4_digest_X2_weightAhead : GoodIn wsX4_digest (wsV RX4 166 RX2 yX2_weightAhead wsX2_weightAhead) := goodIn_app (goodIn_of _ (by decide +kernel)) ggX4_digest_X2_weightAhead
set_option maxRecDepth 20000 in
theorem ggX4_digest_X2_findGroup : GoodIn wsX4_digest wsX2_findGroup := goodIn_r _ [99, 15, 100, 101, 102, 13, 103, 104, 105, 59, 106, 107, 108, 109, 110, 25, 26, 27, 28, 111, 112, 113, 114, 33, 34, 7, 35, 66, 67, 68, 40, 41, 89, 90, 91, 92, 16, 93, 94, 95, 58, 60, 127, 128, 129, 130, 131, 132, 133, 134, 135] (by decide +kernel) (by decide +kernel)
set_option maxRecDepth 20000 in
theorem gX4_digest_X2_findGroup : GoodIn wsX4_digest (wsV RX4 178 RX2 yX2_findGroup wsX2_findGroup) := goodIn_app (goodIn_of _ (by decide +kernel)) ggX4_digest_X2_findGroup
theorem dX4_digest_0 : decode cX4_digest 0 = .ok (.ldc2_w 240, 3) := by decide +kernel
theorem dX4_digest_3 : decode cX4_digest 3 = .ok (.aload_n 0, 1) := by decide +kernel
theorem dX4_digest_4 : decode cX4_digest 4 = .ok (.getfield 26, 3) := by decide +kernel
theorem dX4_digest_7 : decode cX4_digest 7 = .ok (.getfield 209, 3) := by decide +kernel
theorem dX4_digest_10 : decode cX4_digest 10 = .ok (.i2l, 1) := by decide +kernel
theorem dX4_digest_11 : decode cX4_digest 11 = .ok (.invokestatic 242, 3) := by decide +kernel
theorem dX4_digest_14 : decode cX4_digest 14 = .ok (.lstore_n 1, 1) := by decide +kernel
theorem dX4_digest_15 : decode cX4_digest 15 = .ok (.iconst 0, 1) := by decide +kernel
theorem dX4_digest_16 : decode cX4_digest 16 = .ok (.istore_n 3, 1) := by decide +kernel
theorem dX4_digest_17 : decode cX4_digest 17 = .ok (.iload_n 3, 1) := by decide +kernel
theorem dX4_digest_18 : decode cX4_digest 18 = .ok (.bipush 9, 2) := by decide +kernel
theorem dX4_digest_20 : decode cX4_digest 20 = .ok (.if_icmp .ge 23, 3) := by decide +kernel
theorem dX4_digest_23 : decode cX4_digest 23 = .ok (.lload_n 1, 1) := by decide +kernel
theorem dX4_digest_24 : decode cX4_digest 24 = .ok (.aload_n 0, 1) := by decide +kernel
theorem dX4_digest_25 : decode cX4_digest 25 = .ok (.getfield 12, 3) := by decide +kernel
theorem dX4_digest_28 : decode cX4_digest 28 = .ok (.iload_n 3, 1) := by decide +kernel
theorem dX4_digest_29 : decode cX4_digest 29 = .ok (.invokevirtual 158, 3) := by decide +kernel
theorem dX4_digest_32 : decode cX4_digest 32 = .ok (.i2l, 1) := by decide +kernel
theorem dX4_digest_33 : decode cX4_digest 33 = .ok (.invokestatic 242, 3) := by decide +kernel
theorem dX4_digest_36 : decode cX4_digest 36 = .ok (.lstore_n 1, 1) := by decide +kernel
theorem dX4_digest_37 : decode cX4_digest 37 = .ok (.iinc 3 1, 3) := by decide +kernel
theorem dX4_digest_40 : decode cX4_digest 40 = .ok (.goto (-23), 3) := by decide +kernel
theorem dX4_digest_43 : decode cX4_digest 43 = .ok (.iconst 0, 1) := by decide +kernel
theorem dX4_digest_44 : decode cX4_digest 44 = .ok (.istore_n 3, 1) := by decide +kernel
theorem dX4_digest_45 : decode cX4_digest 45 = .ok (.iload_n 3, 1) := by decide +kernel
theorem dX4_digest_46 : decode cX4_digest 46 = .ok (.aload_n 0, 1) := by decide +kernel
theorem dX4_digest_47 : decode cX4_digest 47 = .ok (.getfield 12, 3) := by decide +kernel
theorem dX4_digest_50 : decode cX4_digest 50 = .ok (.getfield 41, 3) := by decide +kernel
theorem dX4_digest_53 : decode cX4_digest 53 = .ok (.getfield 45, 3) := by decide +kernel
theorem dX4_digest_56 : decode cX4_digest 56 = .ok (.if_icmp .ge 43, 3) := by decide +kernel
theorem dX4_digest_59 : decode cX4_digest 59 = .ok (.iconst 0, 1) := by decide +kernel
theorem dX4_digest_60 : decode cX4_digest 60 = .ok (.istore 4, 2) := by decide +kernel
theorem dX4_digest_62 : decode cX4_digest 62 = .ok (.iload 4, 2) := by decide +kernel
theorem dX4_digest_64 : decode cX4_digest 64 = .ok (.iconst 3, 1) := by decide +kernel
theorem dX4_digest_65 : decode cX4_digest 65 = .ok (.if_icmp .ge 28, 3) := by decide +kernel
theorem dX4_digest_68 : decode cX4_digest 68 = .ok (.lload_n 1, 1) := by decide +kernel
theorem dX4_digest_69 : decode cX4_digest 69 = .ok (.aload_n 0, 1) := by decide +kernel
theorem dX4_digest_70 : decode cX4_digest 70 = .ok (.getfield 12, 3) := by decide +kernel
theorem dX4_digest_73 : decode cX4_digest 73 = .ok (.getfield 41, 3) := by decide +kernel
theorem dX4_digest_76 : decode cX4_digest 76 = .ok (.iload_n 3, 1) := by decide +kernel
theorem dX4_digest_77 : decode cX4_digest 77 = .ok (.iload 4, 2) := by decide +kernel
theorem dX4_digest_79 : decode cX4_digest 79 = .ok (.invokevirtual 155, 3) := by decide +kernel
theorem dX4_digest_82 : decode cX4_digest 82 = .ok (.i2l, 1) := by decide +kernel
theorem dX4_digest_83 : decode cX4_digest 83 = .ok (.invokestatic 242, 3) := by decide +kernel
theorem dX4_digest_86 : decode cX4_digest 86 = .ok (.lstore_n 1, 1) := by decide +kernel
theorem dX4_digest_87 : decode cX4_digest 87 = .ok (.iinc 4 1, 3) := by decide +kernel
theorem dX4_digest_90 : decode cX4_digest 90 = .ok (.goto (-28), 3) := by decide +kernel
theorem dX4_digest_93 : decode cX4_digest 93 = .ok (.iinc 3 1, 3) := by decide +kernel
theorem dX4_digest_96 : decode cX4_digest 96 = .ok (.goto (-51), 3) := by decide +kernel
theorem dX4_digest_99 : decode cX4_digest 99 = .ok (.iconst 0, 1) := by decide +kernel
theorem dX4_digest_100 : decode cX4_digest 100 = .ok (.istore_n 3, 1) := by decide +kernel
theorem dX4_digest_101 : decode cX4_digest 101 = .ok (.iload_n 3, 1) := by decide +kernel
theorem dX4_digest_102 : decode cX4_digest 102 = .ok (.aload_n 0, 1) := by decide +kernel
theorem dX4_digest_103 : decode cX4_digest 103 = .ok (.getfield 12, 3) := by decide +kernel
theorem dX4_digest_106 : decode cX4_digest 106 = .ok (.invokevirtual 204, 3) := by decide +kernel
theorem dX4_digest_109 : decode cX4_digest 109 = .ok (.if_icmp .ge 26, 3) := by decide +kernel
theorem dX4_digest_112 : decode cX4_digest 112 = .ok (.lload_n 1, 1) := by decide +kernel
theorem dX4_digest_113 : decode cX4_digest 113 = .ok (.aload_n 0, 1) := by decide +kernel
theorem dX4_digest_114 : decode cX4_digest 114 = .ok (.getfield 12, 3) := by decide +kernel
theorem dX4_digest_117 : decode cX4_digest 117 = .ok (.getfield 133, 3) := by decide +kernel
theorem dX4_digest_120 : decode cX4_digest 120 = .ok (.iload_n 3, 1) := by decide +kernel
theorem dX4_digest_121 : decode cX4_digest 121 = .ok (.invokestatic 137, 3) := by decide +kernel
theorem dX4_digest_124 : decode cX4_digest 124 = .ok (.i2l, 1) := by decide +kernel
theorem dX4_digest_125 : decode cX4_digest 125 = .ok (.invokestatic 242, 3) := by decide +kernel
theorem dX4_digest_128 : decode cX4_digest 128 = .ok (.lstore_n 1, 1) := by decide +kernel
theorem dX4_digest_129 : decode cX4_digest 129 = .ok (.iinc 3 1, 3) := by decide +kernel
theorem dX4_digest_132 : decode cX4_digest 132 = .ok (.goto (-31), 3) := by decide +kernel
theorem dX4_digest_135 : decode cX4_digest 135 = .ok (.iconst 0, 1) := by decide +kernel
theorem dX4_digest_136 : decode cX4_digest 136 = .ok (.istore_n 3, 1) := by decide +kernel
theorem dX4_digest_137 : decode cX4_digest 137 = .ok (.iload_n 3, 1) := by decide +kernel
theorem dX4_digest_138 : decode cX4_digest 138 = .ok (.aload_n 0, 1) := by decide +kernel
theorem dX4_digest_139 : decode cX4_digest 139 = .ok (.getfield 12, 3) := by decide +kernel
theorem dX4_digest_142 : decode cX4_digest 142 = .ok (.getfield 122, 3) := by decide +kernel
theorem dX4_digest_145 : decode cX4_digest 145 = .ok (.getfield 45, 3) := by decide +kernel
theorem dX4_digest_148 : decode cX4_digest 148 = .ok (.if_icmp .ge 49, 3) := by decide +kernel
theorem dX4_digest_151 : decode cX4_digest 151 = .ok (.lload_n 1, 1) := by decide +kernel
theorem dX4_digest_152 : decode cX4_digest 152 = .ok (.aload_n 0, 1) := by decide +kernel
theorem dX4_digest_153 : decode cX4_digest 153 = .ok (.getfield 12, 3) := by decide +kernel
theorem dX4_digest_156 : decode cX4_digest 156 = .ok (.getfield 122, 3) := by decide +kernel
theorem dX4_digest_159 : decode cX4_digest 159 = .ok (.getfield 246, 3) := by decide +kernel
theorem dX4_digest_162 : decode cX4_digest 162 = .ok (.iload_n 3, 1) := by decide +kernel
theorem dX4_digest_163 : decode cX4_digest 163 = .ok (.invokestatic 137, 3) := by decide +kernel
theorem dX4_digest_166 : decode cX4_digest 166 = .ok (.i2l, 1) := by decide +kernel
theorem dX4_digest_167 : decode cX4_digest 167 = .ok (.invokestatic 242, 3) := by decide +kernel
theorem dX4_digest_170 : decode cX4_digest 170 = .ok (.lstore_n 1, 1) := by decide +kernel
theorem dX4_digest_171 : decode cX4_digest 171 = .ok (.lload_n 1, 1) := by decide +kernel
theorem dX4_digest_172 : decode cX4_digest 172 = .ok (.aload_n 0, 1) := by decide +kernel
theorem dX4_digest_173 : decode cX4_digest 173 = .ok (.getfield 12, 3) := by decide +kernel
theorem dX4_digest_176 : decode cX4_digest 176 = .ok (.getfield 122, 3) := by decide +kernel
theorem dX4_digest_179 : decode cX4_digest 179 = .ok (.getfield 247, 3) := by decide +kernel
theorem dX4_digest_182 : decode cX4_digest 182 = .ok (.iload_n 3, 1) := by decide +kernel
theorem dX4_digest_183 : decode cX4_digest 183 = .ok (.invokestatic 137, 3) := by decide +kernel
theorem dX4_digest_186 : decode cX4_digest 186 = .ok (.i2l, 1) := by decide +kernel
theorem dX4_digest_187 : decode cX4_digest 187 = .ok (.invokestatic 242, 3) := by decide +kernel
theorem dX4_digest_190 : decode cX4_digest 190 = .ok (.lstore_n 1, 1) := by decide +kernel
theorem dX4_digest_191 : decode cX4_digest 191 = .ok (.iinc 3 1, 3) := by decide +kernel
theorem dX4_digest_194 : decode cX4_digest 194 = .ok (.goto (-57), 3) := by decide +kernel
theorem dX4_digest_197 : decode cX4_digest 197 = .ok (.lload_n 1, 1) := by decide +kernel
theorem dX4_digest_198 : decode cX4_digest 198 = .ok (.aload_n 0, 1) := by decide +kernel
theorem dX4_digest_199 : decode cX4_digest 199 = .ok (.getfield 12, 3) := by decide +kernel
theorem dX4_digest_202 : decode cX4_digest 202 = .ok (.invokevirtual 190, 3) := by decide +kernel
theorem dX4_digest_205 : decode cX4_digest 205 = .ok (.i2l, 1) := by decide +kernel
theorem dX4_digest_206 : decode cX4_digest 206 = .ok (.invokestatic 242, 3) := by decide +kernel
theorem dX4_digest_209 : decode cX4_digest 209 = .ok (.lstore_n 1, 1) := by decide +kernel
theorem dX4_digest_210 : decode cX4_digest 210 = .ok (.lload_n 1, 1) := by decide +kernel
theorem dX4_digest_211 : decode cX4_digest 211 = .ok (.aload_n 0, 1) := by decide +kernel
theorem dX4_digest_212 : decode cX4_digest 212 = .ok (.invokevirtual 248, 3) := by decide +kernel
theorem dX4_digest_215 : decode cX4_digest 215 = .ok (.i2l, 1) := by decide +kernel
theorem dX4_digest_216 : decode cX4_digest 216 = .ok (.invokestatic 242, 3) := by decide +kernel
theorem dX4_digest_219 : decode cX4_digest 219 = .ok (.lstore_n 1, 1) := by decide +kernel
theorem dX4_digest_220 : decode cX4_digest 220 = .ok (.lload_n 1, 1) := by decide +kernel
theorem dX4_digest_221 : decode cX4_digest 221 = .ok (.aload_n 0, 1) := by decide +kernel
theorem dX4_digest_222 : decode cX4_digest 222 = .ok (.getfield 12, 3) := by decide +kernel
theorem dX4_digest_225 : decode cX4_digest 225 = .ok (.iconst 5, 1) := by decide +kernel
theorem dX4_digest_226 : decode cX4_digest 226 = .ok (.invokevirtual 166, 3) := by decide +kernel
theorem dX4_digest_229 : decode cX4_digest 229 = .ok (.invokestatic 242, 3) := by decide +kernel
theorem dX4_digest_232 : decode cX4_digest 232 = .ok (.lstore_n 1, 1) := by decide +kernel
theorem dX4_digest_233 : decode cX4_digest 233 = .ok (.lload_n 1, 1) := by decide +kernel
theorem dX4_digest_234 : decode cX4_digest 234 = .ok (.aload_n 0, 1) := by decide +kernel
theorem dX4_digest_235 : decode cX4_digest 235 = .ok (.getfield 12, 3) := by decide +kernel
theorem dX4_digest_238 : decode cX4_digest 238 = .ok (.iconst 3, 1) := by decide +kernel
theorem dX4_digest_239 : decode cX4_digest 239 = .ok (.invokevirtual 178, 3) := by decide +kernel
theorem dX4_digest_242 : decode cX4_digest 242 = .ok (.i2l, 1) := by decide +kernel
theorem dX4_digest_243 : decode cX4_digest 243 = .ok (.invokestatic 242, 3) := by decide +kernel
theorem dX4_digest_246 : decode cX4_digest 246 = .ok (.lstore_n 1, 1) := by decide +kernel
theorem dX4_digest_247 : decode cX4_digest 247 = .ok (.lload_n 1, 1) := by decide +kernel
theorem dX4_digest_248 : decode cX4_digest 248 = .ok (.aload_n 0, 1) := by decide +kernel
theorem dX4_digest_249 : decode cX4_digest 249 = .ok (.getfield 19, 3) := by decide +kernel
theorem dX4_digest_252 : decode cX4_digest 252 = .ok (.getfield 234, 3) := by decide +kernel
theorem dX4_digest_255 : decode cX4_digest 255 = .ok (.i2l, 1) := by decide +kernel
theorem dX4_digest_256 : decode cX4_digest 256 = .ok (.invokestatic 242, 3) := by decide +kernel
theorem dX4_digest_259 : decode cX4_digest 259 = .ok (.lreturn, 1) := by decide +kernel
theorem dX4_mix_0 : decode cX4_mix 0 = .ok (.ldc2_w 251, 3) := by decide +kernel
theorem dX4_mix_3 : decode cX4_mix 3 = .ok (.lload_n 0, 1) := by decide +kernel
theorem dX4_mix_4 : decode cX4_mix 4 = .ok (.lmul, 1) := by decide +kernel
theorem dX4_mix_5 : decode cX4_mix 5 = .ok (.lload_n 2, 1) := by decide +kernel
theorem dX4_mix_6 : decode cX4_mix 6 = .ok (.ladd, 1) := by decide +kernel
theorem dX4_mix_7 : decode cX4_mix 7 = .ok (.lreturn, 1) := by decide +kernel
theorem dX4_isAnswer_0 : decode cX4_isAnswer 0 = .ok (.iload_n 0, 1) := by decide +kernel
theorem dX4_isAnswer_1 : decode cX4_isAnswer 1 = .ok (.ifCond .lt 12, 3) := by decide +kernel
theorem dX4_isAnswer_4 : decode cX4_isAnswer 4 = .ok (.iload_n 0, 1) := by decide +kernel
theorem dX4_isAnswer_5 : decode cX4_isAnswer 5 = .ok (.iconst 3, 1) := by decide +kernel
theorem dX4_isAnswer_6 : decode cX4_isAnswer 6 = .ok (.if_icmp .ge 7, 3) := by decide +kernel
theorem dX4_isAnswer_9 : decode cX4_isAnswer 9 = .ok (.iconst 1, 1) := by decide +kernel
theorem dX4_isAnswer_10 : decode cX4_isAnswer 10 = .ok (.goto 4, 3) := by decide +kernel
theorem dX4_isAnswer_13 : decode cX4_isAnswer 13 = .ok (.iconst 0, 1) := by decide +kernel
theorem dX4_isAnswer_14 : decode cX4_isAnswer 14 = .ok (.ireturn, 1) := by decide +kernel
theorem dX4_isAhead_0 : decode cX4_isAhead 0 = .ok (.iload_n 0, 1) := by decide +kernel
theorem dX4_isAhead_1 : decode cX4_isAhead 1 = .ok (.ifCond .lt 13, 3) := by decide +kernel
theorem dX4_isAhead_4 : decode cX4_isAhead 4 = .ok (.iload_n 0, 1) := by decide +kernel
theorem dX4_isAhead_5 : decode cX4_isAhead 5 = .ok (.bipush 20, 2) := by decide +kernel
theorem dX4_isAhead_7 : decode cX4_isAhead 7 = .ok (.if_icmp .gt 7, 3) := by decide +kernel
theorem dX4_isAhead_10 : decode cX4_isAhead 10 = .ok (.iconst 1, 1) := by decide +kernel
theorem dX4_isAhead_11 : decode cX4_isAhead 11 = .ok (.goto 4, 3) := by decide +kernel
theorem dX4_isAhead_14 : decode cX4_isAhead 14 = .ok (.iconst 0, 1) := by decide +kernel
theorem dX4_isAhead_15 : decode cX4_isAhead 15 = .ok (.ireturn, 1) := by decide +kernel
theorem dX4_at_0 : decode cX4_at 0 = .ok (.iload_n 1, 1) := by decide +kernel
theorem dX4_at_1 : decode cX4_at 1 = .ok (.ifCond .lt 15, 3) := by decide +kernel
theorem dX4_at_4 : decode cX4_at 4 = .ok (.iload_n 1, 1) := by decide +kernel
theorem dX4_at_5 : decode cX4_at 5 = .ok (.aload_n 0, 1) := by decide +kernel
theorem dX4_at_6 : decode cX4_at 6 = .ok (.arraylength, 1) := by decide +kernel
theorem dX4_at_7 : decode cX4_at 7 = .ok (.if_icmp .ge 9, 3) := by decide +kernel
theorem dX4_at_10 : decode cX4_at 10 = .ok (.aload_n 0, 1) := by decide +kernel
theorem dX4_at_11 : decode cX4_at 11 = .ok (.iload_n 1, 1) := by decide +kernel
theorem dX4_at_12 : decode cX4_at 12 = .ok (.iaload, 1) := by decide +kernel
theorem dX4_at_13 : decode cX4_at 13 = .ok (.goto 4, 3) := by decide +kernel
theorem dX4_at_16 : decode cX4_at 16 = .ok (.iconst 0, 1) := by decide +kernel
theorem dX4_at_17 : decode cX4_at 17 = .ok (.ireturn, 1) := by decide +kernel
theorem dX4_put_0 : decode cX4_put 0 = .ok (.iload_n 1, 1) := by decide +kernel
theorem dX4_put_1 : decode cX4_put 1 = .ok (.ifCond .lt 13, 3) := by decide +kernel
theorem dX4_put_4 : decode cX4_put 4 = .ok (.iload_n 1, 1) := by decide +kernel
theorem dX4_put_5 : decode cX4_put 5 = .ok (.aload_n 0, 1) := by decide +kernel
theorem dX4_put_6 : decode cX4_put 6 = .ok (.arraylength, 1) := by decide +kernel
theorem dX4_put_7 : decode cX4_put 7 = .ok (.if_icmp .ge 7, 3) := by decide +kernel
theorem dX4_put_10 : decode cX4_put 10 = .ok (.aload_n 0, 1) := by decide +kernel
theorem dX4_put_11 : decode cX4_put 11 = .ok (.iload_n 1, 1) := by decide +kernel
theorem dX4_put_12 : decode cX4_put 12 = .ok (.iload_n 2, 1) := by decide +kernel
theorem dX4_put_13 : decode cX4_put 13 = .ok (.iastore, 1) := by decide +kernel
theorem dX4_put_14 : decode cX4_put 14 = .ok (.return_, 1) := by decide +kernel
theorem dX4_copyRow_0 : decode cX4_copyRow 0 = .ok (.aload_n 0, 1) := by decide +kernel
theorem dX4_copyRow_1 : decode cX4_copyRow 1 = .ok (.iconst 0, 1) := by decide +kernel
theorem dX4_copyRow_2 : decode cX4_copyRow 2 = .ok (.aload_n 1, 1) := by decide +kernel
theorem dX4_copyRow_3 : decode cX4_copyRow 3 = .ok (.iconst 0, 1) := by decide +kernel
theorem dX4_copyRow_4 : decode cX4_copyRow 4 = .ok (.aload_n 0, 1) := by decide +kernel
theorem dX4_copyRow_5 : decode cX4_copyRow 5 = .ok (.arraylength, 1) := by decide +kernel
theorem dX4_copyRow_6 : decode cX4_copyRow 6 = .ok (.aload_n 1, 1) := by decide +kernel
theorem dX4_copyRow_7 : decode cX4_copyRow 7 = .ok (.arraylength, 1) := by decide +kernel
theorem dX4_copyRow_8 : decode cX4_copyRow 8 = .ok (.invokestatic 253, 3) := by decide +kernel
theorem dX4_copyRow_11 : decode cX4_copyRow 11 = .ok (.invokestatic 258, 3) := by decide +kernel
theorem dX4_copyRow_14 : decode cX4_copyRow 14 = .ok (.return_, 1) := by decide +kernel
theorem dX4_coinBit_0 : decode cX4_coinBit 0 = .ok (.iload_n 0, 1) := by decide +kernel
theorem dX4_coinBit_1 : decode cX4_coinBit 1 = .ok (.ifCond .gt 7, 3) := by decide +kernel
theorem dX4_coinBit_4 : decode cX4_coinBit 4 = .ok (.iconst 0, 1) := by decide +kernel
theorem dX4_coinBit_5 : decode cX4_coinBit 5 = .ok (.goto 10, 3) := by decide +kernel
theorem dX4_coinBit_8 : decode cX4_coinBit 8 = .ok (.iconst 1, 1) := by decide +kernel
theorem dX4_coinBit_9 : decode cX4_coinBit 9 = .ok (.iload_n 0, 1) := by decide +kernel
theorem dX4_coinBit_10 : decode cX4_coinBit 10 = .ok (.iconst 1, 1) := by decide +kernel
theorem dX4_coinBit_11 : decode cX4_coinBit 11 = .ok (.isub, 1) := by decide +kernel
theorem dX4_coinBit_12 : decode cX4_coinBit 12 = .ok (.iconst 2, 1) := by decide +kernel
theorem dX4_coinBit_13 : decode cX4_coinBit 13 = .ok (.idiv, 1) := by decide +kernel
theorem dX4_coinBit_14 : decode cX4_coinBit 14 = .ok (.ishl, 1) := by decide +kernel
theorem dX4_coinBit_15 : decode cX4_coinBit 15 = .ok (.ireturn, 1) := by decide +kernel
set_option maxRecDepth 20000 in
theorem ggX4_trueAnswer_X4_coinBit : GoodIn wsX4_trueAnswer wsX4_coinBit := goodIn_r _ [4] (by decide +kernel) (by decide +kernel)
set_option maxRecDepth 20000 in
theorem gX4_trueAnswer_X4_coinBit : GoodIn wsX4_trueAnswer (va_wsS RX4 264 yX4_coinBit wsX4_coinBit) := goodIn_app (goodIn_of _ (by decide +kernel)) ggX4_trueAnswer_X4_coinBit
theorem dX4_trueAnswer_0 : decode cX4_trueAnswer 0 = .ok (.iload_n 0, 1) := by decide +kernel
theorem dX4_trueAnswer_1 : decode cX4_trueAnswer 1 = .ok (.invokestatic 264, 3) := by decide +kernel
theorem dX4_trueAnswer_4 : decode cX4_trueAnswer 4 = .ok (.istore_n 3, 1) := by decide +kernel
theorem dX4_trueAnswer_5 : decode cX4_trueAnswer 5 = .ok (.iload_n 0, 1) := by decide +kernel
theorem dX4_trueAnswer_6 : decode cX4_trueAnswer 6 = .ok (.iconst 1, 1) := by decide +kernel
theorem dX4_trueAnswer_7 : decode cX4_trueAnswer 7 = .ok (.iand, 1) := by decide +kernel
theorem dX4_trueAnswer_8 : decode cX4_trueAnswer 8 = .ok (.iconst 1, 1) := by decide +kernel
theorem dX4_trueAnswer_9 : decode cX4_trueAnswer 9 = .ok (.if_icmp .ne 7, 3) := by decide +kernel
theorem dX4_trueAnswer_12 : decode cX4_trueAnswer 12 = .ok (.iconst 1, 1) := by decide +kernel
theorem dX4_trueAnswer_13 : decode cX4_trueAnswer 13 = .ok (.goto 4, 3) := by decide +kernel
theorem dX4_trueAnswer_16 : decode cX4_trueAnswer 16 = .ok (.iconst 0, 1) := by decide +kernel
theorem dX4_trueAnswer_17 : decode cX4_trueAnswer 17 = .ok (.istore 4, 2) := by decide +kernel
theorem dX4_trueAnswer_19 : decode cX4_trueAnswer 19 = .ok (.iload_n 1, 1) := by decide +kernel
theorem dX4_trueAnswer_20 : decode cX4_trueAnswer 20 = .ok (.iload_n 3, 1) := by decide +kernel
theorem dX4_trueAnswer_21 : decode cX4_trueAnswer 21 = .ok (.iand, 1) := by decide +kernel
theorem dX4_trueAnswer_22 : decode cX4_trueAnswer 22 = .ok (.ifCond .eq 14, 3) := by decide +kernel
theorem dX4_trueAnswer_25 : decode cX4_trueAnswer 25 = .ok (.iload 4, 2) := by decide +kernel
theorem dX4_trueAnswer_27 : decode cX4_trueAnswer 27 = .ok (.ifCond .eq 7, 3) := by decide +kernel
theorem dX4_trueAnswer_30 : decode cX4_trueAnswer 30 = .ok (.iconst 0, 1) := by decide +kernel
theorem dX4_trueAnswer_31 : decode cX4_trueAnswer 31 = .ok (.goto 4, 3) := by decide +kernel
theorem dX4_trueAnswer_34 : decode cX4_trueAnswer 34 = .ok (.iconst 1, 1) := by decide +kernel
theorem dX4_trueAnswer_35 : decode cX4_trueAnswer 35 = .ok (.ireturn, 1) := by decide +kernel
theorem dX4_trueAnswer_36 : decode cX4_trueAnswer 36 = .ok (.iload_n 2, 1) := by decide +kernel
theorem dX4_trueAnswer_37 : decode cX4_trueAnswer 37 = .ok (.iload_n 3, 1) := by decide +kernel
theorem dX4_trueAnswer_38 : decode cX4_trueAnswer 38 = .ok (.iand, 1) := by decide +kernel
theorem dX4_trueAnswer_39 : decode cX4_trueAnswer 39 = .ok (.ifCond .eq 14, 3) := by decide +kernel
theorem dX4_trueAnswer_42 : decode cX4_trueAnswer 42 = .ok (.iload 4, 2) := by decide +kernel
theorem dX4_trueAnswer_44 : decode cX4_trueAnswer 44 = .ok (.ifCond .eq 7, 3) := by decide +kernel
theorem dX4_trueAnswer_47 : decode cX4_trueAnswer 47 = .ok (.iconst 1, 1) := by decide +kernel
theorem dX4_trueAnswer_48 : decode cX4_trueAnswer 48 = .ok (.goto 4, 3) := by decide +kernel
theorem dX4_trueAnswer_51 : decode cX4_trueAnswer 51 = .ok (.iconst 0, 1) := by decide +kernel
theorem dX4_trueAnswer_52 : decode cX4_trueAnswer 52 = .ok (.ireturn, 1) := by decide +kernel
theorem dX4_trueAnswer_53 : decode cX4_trueAnswer 53 = .ok (.iconst 2, 1) := by decide +kernel
theorem dX4_trueAnswer_54 : decode cX4_trueAnswer 54 = .ok (.ireturn, 1) := by decide +kernel
theorem dX4_volume_0 : decode cX4_volume 0 = .ok (.lconst 1, 1) := by decide +kernel
theorem dX4_volume_1 : decode cX4_volume 1 = .ok (.lstore_n 2, 1) := by decide +kernel
theorem dX4_volume_2 : decode cX4_volume 2 = .ok (.lconst 1, 1) := by decide +kernel
theorem dX4_volume_3 : decode cX4_volume 3 = .ok (.lstore 4, 2) := by decide +kernel
theorem dX4_volume_5 : decode cX4_volume 5 = .ok (.iload_n 0, 1) := by decide +kernel
theorem dX4_volume_6 : decode cX4_volume 6 = .ok (.iload_n 1, 1) := by decide +kernel
theorem dX4_volume_7 : decode cX4_volume 7 = .ok (.invokestatic 253, 3) := by decide +kernel
theorem dX4_volume_10 : decode cX4_volume 10 = .ok (.istore 6, 2) := by decide +kernel
theorem dX4_volume_12 : decode cX4_volume 12 = .ok (.iconst 1, 1) := by decide +kernel
theorem dX4_volume_13 : decode cX4_volume 13 = .ok (.istore 7, 2) := by decide +kernel
theorem dX4_volume_15 : decode cX4_volume 15 = .ok (.iload 7, 2) := by decide +kernel
theorem dX4_volume_17 : decode cX4_volume 17 = .ok (.iload 6, 2) := by decide +kernel
theorem dX4_volume_19 : decode cX4_volume 19 = .ok (.if_icmp .gt 32, 3) := by decide +kernel
theorem dX4_volume_22 : decode cX4_volume 22 = .ok (.lload_n 2, 1) := by decide +kernel
theorem dX4_volume_23 : decode cX4_volume 23 = .ok (.iload_n 0, 1) := by decide +kernel
theorem dX4_volume_24 : decode cX4_volume 24 = .ok (.iload 7, 2) := by decide +kernel
theorem dX4_volume_26 : decode cX4_volume 26 = .ok (.isub, 1) := by decide +kernel
theorem dX4_volume_27 : decode cX4_volume 27 = .ok (.iconst 1, 1) := by decide +kernel
theorem dX4_volume_28 : decode cX4_volume 28 = .ok (.iadd, 1) := by decide +kernel
theorem dX4_volume_29 : decode cX4_volume 29 = .ok (.i2l, 1) := by decide +kernel
theorem dX4_volume_30 : decode cX4_volume 30 = .ok (.lmul, 1) := by decide +kernel
theorem dX4_volume_31 : decode cX4_volume 31 = .ok (.iload 7, 2) := by decide +kernel
theorem dX4_volume_33 : decode cX4_volume 33 = .ok (.i2l, 1) := by decide +kernel
theorem dX4_volume_34 : decode cX4_volume 34 = .ok (.ldiv, 1) := by decide +kernel
theorem dX4_volume_35 : decode cX4_volume 35 = .ok (.lstore_n 2, 1) := by decide +kernel
theorem dX4_volume_36 : decode cX4_volume 36 = .ok (.lload 4, 2) := by decide +kernel
theorem dX4_volume_38 : decode cX4_volume 38 = .ok (.lload_n 2, 1) := by decide +kernel
theorem dX4_volume_39 : decode cX4_volume 39 = .ok (.iload 7, 2) := by decide +kernel
theorem dX4_volume_41 : decode cX4_volume 41 = .ok (.lshl, 1) := by decide +kernel
theorem dX4_volume_42 : decode cX4_volume 42 = .ok (.ladd, 1) := by decide +kernel
theorem dX4_volume_43 : decode cX4_volume 43 = .ok (.lstore 4, 2) := by decide +kernel
theorem dX4_volume_45 : decode cX4_volume 45 = .ok (.iinc 7 1, 3) := by decide +kernel
theorem dX4_volume_48 : decode cX4_volume 48 = .ok (.goto (-33), 3) := by decide +kernel
theorem dX4_volume_51 : decode cX4_volume 51 = .ok (.lload 4, 2) := by decide +kernel
theorem dX4_volume_53 : decode cX4_volume 53 = .ok (.lreturn, 1) := by decide +kernel
set_option maxRecDepth 20000 in
theorem ggX4_differences_J6_bitCount_0f7a4 : GoodIn wsX4_differences wsJ6_bitCount_0f7a4 := goodIn_r _ [4, 5, 6, 7] (by decide +kernel) (by decide +kernel)
set_option maxRecDepth 20000 in
theorem gX4_differences_J6_bitCount_0f7a4 : GoodIn wsX4_differences (va_wsS RX4 267 yJ6_bitCount_0f7a4 wsJ6_bitCount_0f7a4) := goodIn_app (goodIn_of _ (by decide +kernel)) ggX4_differences_J6_bitCount_0f7a4
theorem dX4_differences_0 : decode cX4_differences 0 = .ok (.iload_n 0, 1) := by decide +kernel
theorem dX4_differences_1 : decode cX4_differences 1 = .ok (.iload_n 1, 1) := by decide +kernel
theorem dX4_differences_2 : decode cX4_differences 2 = .ok (.ixor, 1) := by decide +kernel
theorem dX4_differences_3 : decode cX4_differences 3 = .ok (.istore_n 2, 1) := by decide +kernel
theorem dX4_differences_4 : decode cX4_differences 4 = .ok (.iload_n 2, 1) := by decide +kernel
theorem dX4_differences_5 : decode cX4_differences 5 = .ok (.iload_n 2, 1) := by decide +kernel
theorem dX4_differences_6 : decode cX4_differences 6 = .ok (.iconst 1, 1) := by decide +kernel
theorem dX4_differences_7 : decode cX4_differences 7 = .ok (.ishr, 1) := by decide +kernel
theorem dX4_differences_8 : decode cX4_differences 8 = .ok (.ior, 1) := by decide +kernel
theorem dX4_differences_9 : decode cX4_differences 9 = .ok (.sipush 21845, 3) := by decide +kernel
theorem dX4_differences_12 : decode cX4_differences 12 = .ok (.iand, 1) := by decide +kernel
theorem dX4_differences_13 : decode cX4_differences 13 = .ok (.invokestatic 267, 3) := by decide +kernel
theorem dX4_differences_16 : decode cX4_differences 16 = .ok (.ireturn, 1) := by decide +kernel
theorem dX4_wordOf_0 : decode cX4_wordOf 0 = .ok (.iconst 0, 1) := by decide +kernel
theorem dX4_wordOf_1 : decode cX4_wordOf 1 = .ok (.istore_n 1, 1) := by decide +kernel
theorem dX4_wordOf_2 : decode cX4_wordOf 2 = .ok (.iload_n 0, 1) := by decide +kernel
theorem dX4_wordOf_3 : decode cX4_wordOf 3 = .ok (.istore_n 2, 1) := by decide +kernel
theorem dX4_wordOf_4 : decode cX4_wordOf 4 = .ok (.iconst 0, 1) := by decide +kernel
theorem dX4_wordOf_5 : decode cX4_wordOf 5 = .ok (.istore_n 3, 1) := by decide +kernel
theorem dX4_wordOf_6 : decode cX4_wordOf 6 = .ok (.iload_n 3, 1) := by decide +kernel
theorem dX4_wordOf_7 : decode cX4_wordOf 7 = .ok (.bipush 8, 2) := by decide +kernel
theorem dX4_wordOf_9 : decode cX4_wordOf 9 = .ok (.if_icmp .ge 23, 3) := by decide +kernel
theorem dX4_wordOf_12 : decode cX4_wordOf 12 = .ok (.iload_n 1, 1) := by decide +kernel
theorem dX4_wordOf_13 : decode cX4_wordOf 13 = .ok (.iload_n 2, 1) := by decide +kernel
theorem dX4_wordOf_14 : decode cX4_wordOf 14 = .ok (.iconst 3, 1) := by decide +kernel
theorem dX4_wordOf_15 : decode cX4_wordOf 15 = .ok (.irem, 1) := by decide +kernel
theorem dX4_wordOf_16 : decode cX4_wordOf 16 = .ok (.iconst 2, 1) := by decide +kernel
theorem dX4_wordOf_17 : decode cX4_wordOf 17 = .ok (.iload_n 3, 1) := by decide +kernel
theorem dX4_wordOf_18 : decode cX4_wordOf 18 = .ok (.imul, 1) := by decide +kernel
theorem dX4_wordOf_19 : decode cX4_wordOf 19 = .ok (.ishl, 1) := by decide +kernel
theorem dX4_wordOf_20 : decode cX4_wordOf 20 = .ok (.ior, 1) := by decide +kernel
theorem dX4_wordOf_21 : decode cX4_wordOf 21 = .ok (.istore_n 1, 1) := by decide +kernel
theorem dX4_wordOf_22 : decode cX4_wordOf 22 = .ok (.iload_n 2, 1) := by decide +kernel
theorem dX4_wordOf_23 : decode cX4_wordOf 23 = .ok (.iconst 3, 1) := by decide +kernel
theorem dX4_wordOf_24 : decode cX4_wordOf 24 = .ok (.idiv, 1) := by decide +kernel
theorem dX4_wordOf_25 : decode cX4_wordOf 25 = .ok (.istore_n 2, 1) := by decide +kernel
theorem dX4_wordOf_26 : decode cX4_wordOf 26 = .ok (.iinc 3 1, 3) := by decide +kernel
theorem dX4_wordOf_29 : decode cX4_wordOf 29 = .ok (.goto (-23), 3) := by decide +kernel
theorem dX4_wordOf_32 : decode cX4_wordOf 32 = .ok (.iload_n 1, 1) := by decide +kernel
theorem dX4_wordOf_33 : decode cX4_wordOf 33 = .ok (.ireturn, 1) := by decide +kernel
end
section
set_option maxRecDepth 20000 in
theorem ggX5_init_X5_sets : GoodIn wsX5_init wsX5_sets := goodIn_r _ [14, 5, 15, 16, 17, 18, 19, 20, 21, 22, 23, 24, 25] (by decide +kernel) (by decide +kernel)
set_option maxRecDepth 20000 in
theorem gX5_init_X5_sets : GoodIn wsX5_init (wsV RX5 23 RX5 yX5_sets wsX5_sets) := goodIn_app (goodIn_of _ (by decide +kernel)) ggX5_init_X5_sets
theorem dX5_init_0 : decode cX5_init 0 = .ok (.aload_n 0, 1) := by decide +kernel
theorem dX5_init_1 : decode cX5_init 1 = .ok (.invokespecial 1, 3) := by decide +kernel
theorem dX5_init_4 : decode cX5_init 4 = .ok (.aload_n 0, 1) := by decide +kernel
theorem dX5_init_5 : decode cX5_init 5 = .ok (.sipush 176, 3) := by decide +kernel
theorem dX5_init_8 : decode cX5_init 8 = .ok (.newarray .int, 2) := by decide +kernel
theorem dX5_init_10 : decode cX5_init 10 = .ok (.putfield 7, 3) := by decide +kernel
theorem dX5_init_13 : decode cX5_init 13 = .ok (.aload_n 0, 1) := by decide +kernel
theorem dX5_init_14 : decode cX5_init 14 = .ok (.sipush 704, 3) := by decide +kernel
theorem dX5_init_17 : decode cX5_init 17 = .ok (.newarray .int, 2) := by decide +kernel
theorem dX5_init_19 : decode cX5_init 19 = .ok (.putfield 13, 3) := by decide +kernel
theorem dX5_init_22 : decode cX5_init 22 = .ok (.aload_n 0, 1) := by decide +kernel
theorem dX5_init_23 : decode cX5_init 23 = .ok (.sipush 176, 3) := by decide +kernel
theorem dX5_init_26 : decode cX5_init 26 = .ok (.newarray .int, 2) := by decide +kernel
theorem dX5_init_28 : decode cX5_init 28 = .ok (.putfield 16, 3) := by decide +kernel
theorem dX5_init_31 : decode cX5_init 31 = .ok (.aload_n 0, 1) := by decide +kernel
theorem dX5_init_32 : decode cX5_init 32 = .ok (.bipush 100, 2) := by decide +kernel
theorem dX5_init_34 : decode cX5_init 34 = .ok (.newarray .byte, 2) := by decide +kernel
theorem dX5_init_36 : decode cX5_init 36 = .ok (.putfield 19, 3) := by decide +kernel
theorem dX5_init_39 : decode cX5_init 39 = .ok (.aload_n 0, 1) := by decide +kernel
theorem dX5_init_40 : decode cX5_init 40 = .ok (.bipush 8, 2) := by decide +kernel
theorem dX5_init_42 : decode cX5_init 42 = .ok (.invokevirtual 23, 3) := by decide +kernel
theorem dX5_init_45 : decode cX5_init 45 = .ok (.return_, 1) := by decide +kernel
theorem dX5_thrown_0 : decode cX5_thrown 0 = .ok (.aload_n 0, 1) := by decide +kernel
theorem dX5_thrown_1 : decode cX5_thrown 1 = .ok (.getfield 27, 3) := by decide +kernel
theorem dX5_thrown_4 : decode cX5_thrown 4 = .ok (.ireturn, 1) := by decide +kernel
theorem dX5_in_0 : decode cX5_in 0 = .ok (.iload_n 0, 1) := by decide +kernel
theorem dX5_in_1 : decode cX5_in 1 = .ok (.iload_n 1, 1) := by decide +kernel
theorem dX5_in_2 : decode cX5_in 2 = .ok (.if_icmp .lt 12, 3) := by decide +kernel
theorem dX5_in_5 : decode cX5_in 5 = .ok (.iload_n 0, 1) := by decide +kernel
theorem dX5_in_6 : decode cX5_in 6 = .ok (.iload_n 2, 1) := by decide +kernel
theorem dX5_in_7 : decode cX5_in 7 = .ok (.if_icmp .gt 7, 3) := by decide +kernel
theorem dX5_in_10 : decode cX5_in 10 = .ok (.iconst 1, 1) := by decide +kernel
theorem dX5_in_11 : decode cX5_in 11 = .ok (.goto 4, 3) := by decide +kernel
theorem dX5_in_14 : decode cX5_in 14 = .ok (.iconst 0, 1) := by decide +kernel
theorem dX5_in_15 : decode cX5_in 15 = .ok (.ireturn, 1) := by decide +kernel
theorem dX5_fails_0 : decode cX5_fails 0 = .ok (.aload_n 0, 1) := by decide +kernel
theorem dX5_fails_1 : decode cX5_fails 1 = .ok (.iload_n 1, 1) := by decide +kernel
theorem dX5_fails_2 : decode cX5_fails 2 = .ok (.putfield 27, 3) := by decide +kernel
theorem dX5_fails_5 : decode cX5_fails 5 = .ok (.iconst 0, 1) := by decide +kernel
theorem dX5_fails_6 : decode cX5_fails 6 = .ok (.ireturn, 1) := by decide +kernel
theorem dX5_tells_0 : decode cX5_tells 0 = .ok (.aload_n 0, 1) := by decide +kernel
theorem dX5_tells_1 : decode cX5_tells 1 = .ok (.iconst 0, 1) := by decide +kernel
theorem dX5_tells_2 : decode cX5_tells 2 = .ok (.putfield 27, 3) := by decide +kernel
theorem dX5_tells_5 : decode cX5_tells 5 = .ok (.iload_n 1, 1) := by decide +kernel
theorem dX5_tells_6 : decode cX5_tells 6 = .ok (.ireturn, 1) := by decide +kernel
theorem dX5_begins_0 : decode cX5_begins 0 = .ok (.iconst 0, 1) := by decide +kernel
theorem dX5_begins_1 : decode cX5_begins 1 = .ok (.istore_n 1, 1) := by decide +kernel
theorem dX5_begins_2 : decode cX5_begins 2 = .ok (.iload_n 1, 1) := by decide +kernel
theorem dX5_begins_3 : decode cX5_begins 3 = .ok (.sipush 176, 3) := by decide +kernel
theorem dX5_begins_6 : decode cX5_begins 6 = .ok (.if_icmp .ge 21, 3) := by decide +kernel
theorem dX5_begins_9 : decode cX5_begins 9 = .ok (.aload_n 0, 1) := by decide +kernel
theorem dX5_begins_10 : decode cX5_begins 10 = .ok (.getfield 16, 3) := by decide +kernel
theorem dX5_begins_13 : decode cX5_begins 13 = .ok (.iload_n 1, 1) := by decide +kernel
theorem dX5_begins_14 : decode cX5_begins 14 = .ok (.aload_n 0, 1) := by decide +kernel
theorem dX5_begins_15 : decode cX5_begins 15 = .ok (.getfield 7, 3) := by decide +kernel
theorem dX5_begins_18 : decode cX5_begins 18 = .ok (.iload_n 1, 1) := by decide +kernel
theorem dX5_begins_19 : decode cX5_begins 19 = .ok (.iaload, 1) := by decide +kernel
theorem dX5_begins_20 : decode cX5_begins 20 = .ok (.iastore, 1) := by decide +kernel
theorem dX5_begins_21 : decode cX5_begins 21 = .ok (.iinc 1 1, 3) := by decide +kernel
theorem dX5_begins_24 : decode cX5_begins 24 = .ok (.goto (-22), 3) := by decide +kernel
theorem dX5_begins_27 : decode cX5_begins 27 = .ok (.return_, 1) := by decide +kernel
set_option maxRecDepth 20000 in
theorem ggX5_saved_X5_tells : GoodIn wsX5_saved wsX5_tells := goodIn_r _ [8, 9, 10, 11, 12, 13, 14, 15, 16, 17, 18, 19, 20] (by decide +kernel) (by decide +kernel)
set_option maxRecDepth 20000 in
theorem gX5_saved_X5_tells : GoodIn wsX5_saved (wsV RX5 34 RX5 yX5_tells wsX5_tells) := goodIn_app (goodIn_of _ (by decide +kernel)) ggX5_saved_X5_tells
theorem dX5_saved_0 : decode cX5_saved 0 = .ok (.aload_n 0, 1) := by decide +kernel
theorem dX5_saved_1 : decode cX5_saved 1 = .ok (.getfield 31, 3) := by decide +kernel
theorem dX5_saved_4 : decode cX5_saved 4 = .ok (.iconst 4, 1) := by decide +kernel
theorem dX5_saved_5 : decode cX5_saved 5 = .ok (.if_icmp .ne 44, 3) := by decide +kernel
theorem dX5_saved_8 : decode cX5_saved 8 = .ok (.iconst 0, 1) := by decide +kernel
theorem dX5_saved_9 : decode cX5_saved 9 = .ok (.istore_n 2, 1) := by decide +kernel
theorem dX5_saved_10 : decode cX5_saved 10 = .ok (.iload_n 2, 1) := by decide +kernel
theorem dX5_saved_11 : decode cX5_saved 11 = .ok (.sipush 528, 3) := by decide +kernel
theorem dX5_saved_14 : decode cX5_saved 14 = .ok (.if_icmp .ge 25, 3) := by decide +kernel
theorem dX5_saved_17 : decode cX5_saved 17 = .ok (.aload_n 0, 1) := by decide +kernel
theorem dX5_saved_18 : decode cX5_saved 18 = .ok (.getfield 13, 3) := by decide +kernel
theorem dX5_saved_21 : decode cX5_saved 21 = .ok (.iload_n 2, 1) := by decide +kernel
theorem dX5_saved_22 : decode cX5_saved 22 = .ok (.aload_n 0, 1) := by decide +kernel
theorem dX5_saved_23 : decode cX5_saved 23 = .ok (.getfield 13, 3) := by decide +kernel
theorem dX5_saved_26 : decode cX5_saved 26 = .ok (.iload_n 2, 1) := by decide +kernel
theorem dX5_saved_27 : decode cX5_saved 27 = .ok (.sipush 176, 3) := by decide +kernel
theorem dX5_saved_30 : decode cX5_saved 30 = .ok (.iadd, 1) := by decide +kernel
theorem dX5_saved_31 : decode cX5_saved 31 = .ok (.iaload, 1) := by decide +kernel
theorem dX5_saved_32 : decode cX5_saved 32 = .ok (.iastore, 1) := by decide +kernel
theorem dX5_saved_33 : decode cX5_saved 33 = .ok (.iinc 2 1, 3) := by decide +kernel
theorem dX5_saved_36 : decode cX5_saved 36 = .ok (.goto (-26), 3) := by decide +kernel
theorem dX5_saved_39 : decode cX5_saved 39 = .ok (.aload_n 0, 1) := by decide +kernel
theorem dX5_saved_40 : decode cX5_saved 40 = .ok (.dup, 1) := by decide +kernel
theorem dX5_saved_41 : decode cX5_saved 41 = .ok (.getfield 31, 3) := by decide +kernel
theorem dX5_saved_44 : decode cX5_saved 44 = .ok (.iconst 1, 1) := by decide +kernel
theorem dX5_saved_45 : decode cX5_saved 45 = .ok (.isub, 1) := by decide +kernel
theorem dX5_saved_46 : decode cX5_saved 46 = .ok (.putfield 31, 3) := by decide +kernel
theorem dX5_saved_49 : decode cX5_saved 49 = .ok (.iconst 0, 1) := by decide +kernel
theorem dX5_saved_50 : decode cX5_saved 50 = .ok (.istore_n 2, 1) := by decide +kernel
theorem dX5_saved_51 : decode cX5_saved 51 = .ok (.iload_n 2, 1) := by decide +kernel
theorem dX5_saved_52 : decode cX5_saved 52 = .ok (.sipush 176, 3) := by decide +kernel
theorem dX5_saved_55 : decode cX5_saved 55 = .ok (.if_icmp .ge 30, 3) := by decide +kernel
theorem dX5_saved_58 : decode cX5_saved 58 = .ok (.aload_n 0, 1) := by decide +kernel
theorem dX5_saved_59 : decode cX5_saved 59 = .ok (.getfield 13, 3) := by decide +kernel
theorem dX5_saved_62 : decode cX5_saved 62 = .ok (.sipush 176, 3) := by decide +kernel
theorem dX5_saved_65 : decode cX5_saved 65 = .ok (.aload_n 0, 1) := by decide +kernel
theorem dX5_saved_66 : decode cX5_saved 66 = .ok (.getfield 31, 3) := by decide +kernel
theorem dX5_saved_69 : decode cX5_saved 69 = .ok (.imul, 1) := by decide +kernel
theorem dX5_saved_70 : decode cX5_saved 70 = .ok (.iload_n 2, 1) := by decide +kernel
theorem dX5_saved_71 : decode cX5_saved 71 = .ok (.iadd, 1) := by decide +kernel
theorem dX5_saved_72 : decode cX5_saved 72 = .ok (.aload_n 0, 1) := by decide +kernel
theorem dX5_saved_73 : decode cX5_saved 73 = .ok (.getfield 16, 3) := by decide +kernel
theorem dX5_saved_76 : decode cX5_saved 76 = .ok (.iload_n 2, 1) := by decide +kernel
theorem dX5_saved_77 : decode cX5_saved 77 = .ok (.iaload, 1) := by decide +kernel
theorem dX5_saved_78 : decode cX5_saved 78 = .ok (.iastore, 1) := by decide +kernel
theorem dX5_saved_79 : decode cX5_saved 79 = .ok (.iinc 2 1, 3) := by decide +kernel
theorem dX5_saved_82 : decode cX5_saved 82 = .ok (.goto (-31), 3) := by decide +kernel
theorem dX5_saved_85 : decode cX5_saved 85 = .ok (.aload_n 0, 1) := by decide +kernel
theorem dX5_saved_86 : decode cX5_saved 86 = .ok (.dup, 1) := by decide +kernel
theorem dX5_saved_87 : decode cX5_saved 87 = .ok (.getfield 31, 3) := by decide +kernel
theorem dX5_saved_90 : decode cX5_saved 90 = .ok (.iconst 1, 1) := by decide +kernel
theorem dX5_saved_91 : decode cX5_saved 91 = .ok (.iadd, 1) := by decide +kernel
theorem dX5_saved_92 : decode cX5_saved 92 = .ok (.putfield 31, 3) := by decide +kernel
theorem dX5_saved_95 : decode cX5_saved 95 = .ok (.aload_n 0, 1) := by decide +kernel
theorem dX5_saved_96 : decode cX5_saved 96 = .ok (.iload_n 1, 1) := by decide +kernel
theorem dX5_saved_97 : decode cX5_saved 97 = .ok (.invokevirtual 34, 3) := by decide +kernel
theorem dX5_saved_100 : decode cX5_saved 100 = .ok (.ireturn, 1) := by decide +kernel
theorem dX5_sets_0 : decode cX5_sets 0 = .ok (.iconst 0, 1) := by decide +kernel
theorem dX5_sets_1 : decode cX5_sets 1 = .ok (.istore_n 2, 1) := by decide +kernel
theorem dX5_sets_2 : decode cX5_sets 2 = .ok (.iload_n 2, 1) := by decide +kernel
theorem dX5_sets_3 : decode cX5_sets 3 = .ok (.sipush 176, 3) := by decide +kernel
theorem dX5_sets_6 : decode cX5_sets 6 = .ok (.if_icmp .ge 16, 3) := by decide +kernel
theorem dX5_sets_9 : decode cX5_sets 9 = .ok (.aload_n 0, 1) := by decide +kernel
theorem dX5_sets_10 : decode cX5_sets 10 = .ok (.getfield 7, 3) := by decide +kernel
theorem dX5_sets_13 : decode cX5_sets 13 = .ok (.iload_n 2, 1) := by decide +kernel
theorem dX5_sets_14 : decode cX5_sets 14 = .ok (.iconst 0, 1) := by decide +kernel
theorem dX5_sets_15 : decode cX5_sets 15 = .ok (.iastore, 1) := by decide +kernel
theorem dX5_sets_16 : decode cX5_sets 16 = .ok (.iinc 2 1, 3) := by decide +kernel
theorem dX5_sets_19 : decode cX5_sets 19 = .ok (.goto (-17), 3) := by decide +kernel
theorem dX5_sets_22 : decode cX5_sets 22 = .ok (.aload_n 0, 1) := by decide +kernel
theorem dX5_sets_23 : decode cX5_sets 23 = .ok (.getfield 7, 3) := by decide +kernel
theorem dX5_sets_26 : decode cX5_sets 26 = .ok (.iconst 0, 1) := by decide +kernel
theorem dX5_sets_27 : decode cX5_sets 27 = .ok (.iload_n 1, 1) := by decide +kernel
theorem dX5_sets_28 : decode cX5_sets 28 = .ok (.iastore, 1) := by decide +kernel
theorem dX5_sets_29 : decode cX5_sets 29 = .ok (.aload_n 0, 1) := by decide +kernel
theorem dX5_sets_30 : decode cX5_sets 30 = .ok (.getfield 7, 3) := by decide +kernel
theorem dX5_sets_33 : decode cX5_sets 33 = .ok (.iconst 1, 1) := by decide +kernel
theorem dX5_sets_34 : decode cX5_sets 34 = .ok (.iconst 1, 1) := by decide +kernel
theorem dX5_sets_35 : decode cX5_sets 35 = .ok (.iastore, 1) := by decide +kernel
theorem dX5_sets_36 : decode cX5_sets 36 = .ok (.aload_n 0, 1) := by decide +kernel
theorem dX5_sets_37 : decode cX5_sets 37 = .ok (.getfield 7, 3) := by decide +kernel
theorem dX5_sets_40 : decode cX5_sets 40 = .ok (.iconst 4, 1) := by decide +kernel
theorem dX5_sets_41 : decode cX5_sets 41 = .ok (.iconst (-1), 1) := by decide +kernel
theorem dX5_sets_42 : decode cX5_sets 42 = .ok (.iastore, 1) := by decide +kernel
theorem dX5_sets_43 : decode cX5_sets 43 = .ok (.return_, 1) := by decide +kernel
theorem dX5_cases_0 : decode cX5_cases 0 = .ok (.iconst 2, 1) := by decide +kernel
theorem dX5_cases_1 : decode cX5_cases 1 = .ok (.aload_n 0, 1) := by decide +kernel
theorem dX5_cases_2 : decode cX5_cases 2 = .ok (.getfield 7, 3) := by decide +kernel
theorem dX5_cases_5 : decode cX5_cases 5 = .ok (.iconst 0, 1) := by decide +kernel
theorem dX5_cases_6 : decode cX5_cases 6 = .ok (.iaload, 1) := by decide +kernel
theorem dX5_cases_7 : decode cX5_cases 7 = .ok (.imul, 1) := by decide +kernel
theorem dX5_cases_8 : decode cX5_cases 8 = .ok (.iconst 1, 1) := by decide +kernel
theorem dX5_cases_9 : decode cX5_cases 9 = .ok (.iadd, 1) := by decide +kernel
theorem dX5_cases_10 : decode cX5_cases 10 = .ok (.ireturn, 1) := by decide +kernel
set_option maxRecDepth 20000 in
theorem ggX5_isCase_X5_cases : GoodIn wsX5_isCase wsX5_cases := goodIn_r _ [5, 6, 10, 11, 12, 13, 14, 15, 16, 17, 18, 19, 20] (by decide +kernel) (by decide +kernel)
set_option maxRecDepth 20000 in
theorem gX5_isCase_X5_cases : GoodIn wsX5_isCase (wsV RX5 38 RX5 yX5_cases wsX5_cases) := goodIn_app (goodIn_of _ (by decide +kernel)) ggX5_isCase_X5_cases
set_option maxRecDepth 20000 in
theorem ggX5_isCase_X5_in : GoodIn wsX5_isCase wsX5_in := goodIn_r _ [9] (by decide +kernel) (by decide +kernel)
set_option maxRecDepth 20000 in
theorem gX5_isCase_X5_in : GoodIn wsX5_isCase (va_wsS RX5 42 yX5_in wsX5_in) := goodIn_app (goodIn_of _ (by decide +kernel)) ggX5_isCase_X5_in
theorem dX5_isCase_0 : decode cX5_isCase 0 = .ok (.iload_n 1, 1) := by decide +kernel
theorem dX5_isCase_1 : decode cX5_isCase 1 = .ok (.iconst 0, 1) := by decide +kernel
theorem dX5_isCase_2 : decode cX5_isCase 2 = .ok (.aload_n 0, 1) := by decide +kernel
theorem dX5_isCase_3 : decode cX5_isCase 3 = .ok (.invokevirtual 38, 3) := by decide +kernel
theorem dX5_isCase_6 : decode cX5_isCase 6 = .ok (.iconst 1, 1) := by decide +kernel
theorem dX5_isCase_7 : decode cX5_isCase 7 = .ok (.isub, 1) := by decide +kernel
theorem dX5_isCase_8 : decode cX5_isCase 8 = .ok (.invokestatic 42, 3) := by decide +kernel
theorem dX5_isCase_11 : decode cX5_isCase 11 = .ok (.ireturn, 1) := by decide +kernel
theorem dX5_ones_0 : decode cX5_ones 0 = .ok (.iconst 0, 1) := by decide +kernel
theorem dX5_ones_1 : decode cX5_ones 1 = .ok (.istore_n 1, 1) := by decide +kernel
theorem dX5_ones_2 : decode cX5_ones 2 = .ok (.iconst 0, 1) := by decide +kernel
theorem dX5_ones_3 : decode cX5_ones 3 = .ok (.istore_n 2, 1) := by decide +kernel
theorem dX5_ones_4 : decode cX5_ones 4 = .ok (.iload_n 2, 1) := by decide +kernel
theorem dX5_ones_5 : decode cX5_ones 5 = .ok (.bipush 16, 2) := by decide +kernel
theorem dX5_ones_7 : decode cX5_ones 7 = .ok (.if_icmp .ge 17, 3) := by decide +kernel
theorem dX5_ones_10 : decode cX5_ones 10 = .ok (.iload_n 1, 1) := by decide +kernel
theorem dX5_ones_11 : decode cX5_ones 11 = .ok (.iload_n 0, 1) := by decide +kernel
theorem dX5_ones_12 : decode cX5_ones 12 = .ok (.iload_n 2, 1) := by decide +kernel
theorem dX5_ones_13 : decode cX5_ones 13 = .ok (.ishr, 1) := by decide +kernel
theorem dX5_ones_14 : decode cX5_ones 14 = .ok (.iconst 1, 1) := by decide +kernel
theorem dX5_ones_15 : decode cX5_ones 15 = .ok (.iand, 1) := by decide +kernel
theorem dX5_ones_16 : decode cX5_ones 16 = .ok (.iadd, 1) := by decide +kernel
theorem dX5_ones_17 : decode cX5_ones 17 = .ok (.istore_n 1, 1) := by decide +kernel
theorem dX5_ones_18 : decode cX5_ones 18 = .ok (.iinc 2 1, 3) := by decide +kernel
theorem dX5_ones_21 : decode cX5_ones 21 = .ok (.goto (-17), 3) := by decide +kernel
theorem dX5_ones_24 : decode cX5_ones 24 = .ok (.iload_n 1, 1) := by decide +kernel
theorem dX5_ones_25 : decode cX5_ones 25 = .ok (.ireturn, 1) := by decide +kernel
set_option maxRecDepth 20000 in
theorem ggX5_areSides_X5_in : GoodIn wsX5_areSides wsX5_in := goodIn_r _ [5] (by decide +kernel) (by decide +kernel)
set_option maxRecDepth 20000 in
theorem gX5_areSides_X5_in : GoodIn wsX5_areSides (va_wsS RX5 42 yX5_in wsX5_in) := goodIn_app (goodIn_of _ (by decide +kernel)) ggX5_areSides_X5_in
set_option maxRecDepth 20000 in
theorem ggX5_areSides_X5_ones : GoodIn wsX5_areSides wsX5_ones := goodIn_r _ [8] (by decide +kernel) (by decide +kernel)
set_option maxRecDepth 20000 in
theorem gX5_areSides_X5_ones : GoodIn wsX5_areSides (va_wsS RX5 46 yX5_ones wsX5_ones) := goodIn_app (goodIn_of _ (by decide +kernel)) ggX5_areSides_X5_ones
theorem dX5_areSides_0 : decode cX5_areSides 0 = .ok (.iconst 1, 1) := by decide +kernel
theorem dX5_areSides_1 : decode cX5_areSides 1 = .ok (.aload_n 0, 1) := by decide +kernel
theorem dX5_areSides_2 : decode cX5_areSides 2 = .ok (.getfield 7, 3) := by decide +kernel
theorem dX5_areSides_5 : decode cX5_areSides 5 = .ok (.iconst 0, 1) := by decide +kernel
theorem dX5_areSides_6 : decode cX5_areSides 6 = .ok (.iaload, 1) := by decide +kernel
theorem dX5_areSides_7 : decode cX5_areSides 7 = .ok (.ishl, 1) := by decide +kernel
theorem dX5_areSides_8 : decode cX5_areSides 8 = .ok (.iconst 1, 1) := by decide +kernel
theorem dX5_areSides_9 : decode cX5_areSides 9 = .ok (.isub, 1) := by decide +kernel
theorem dX5_areSides_10 : decode cX5_areSides 10 = .ok (.istore_n 3, 1) := by decide +kernel
theorem dX5_areSides_11 : decode cX5_areSides 11 = .ok (.iload_n 1, 1) := by decide +kernel
theorem dX5_areSides_12 : decode cX5_areSides 12 = .ok (.iconst 1, 1) := by decide +kernel
theorem dX5_areSides_13 : decode cX5_areSides 13 = .ok (.iload_n 3, 1) := by decide +kernel
theorem dX5_areSides_14 : decode cX5_areSides 14 = .ok (.invokestatic 42, 3) := by decide +kernel
theorem dX5_areSides_17 : decode cX5_areSides 17 = .ok (.ifCond .eq 33, 3) := by decide +kernel
theorem dX5_areSides_20 : decode cX5_areSides 20 = .ok (.iload_n 2, 1) := by decide +kernel
theorem dX5_areSides_21 : decode cX5_areSides 21 = .ok (.iconst 1, 1) := by decide +kernel
theorem dX5_areSides_22 : decode cX5_areSides 22 = .ok (.iload_n 3, 1) := by decide +kernel
theorem dX5_areSides_23 : decode cX5_areSides 23 = .ok (.invokestatic 42, 3) := by decide +kernel
theorem dX5_areSides_26 : decode cX5_areSides 26 = .ok (.ifCond .eq 24, 3) := by decide +kernel
theorem dX5_areSides_29 : decode cX5_areSides 29 = .ok (.iload_n 1, 1) := by decide +kernel
theorem dX5_areSides_30 : decode cX5_areSides 30 = .ok (.iload_n 2, 1) := by decide +kernel
theorem dX5_areSides_31 : decode cX5_areSides 31 = .ok (.iand, 1) := by decide +kernel
theorem dX5_areSides_32 : decode cX5_areSides 32 = .ok (.ifCond .ne 18, 3) := by decide +kernel
theorem dX5_areSides_35 : decode cX5_areSides 35 = .ok (.iload_n 1, 1) := by decide +kernel
theorem dX5_areSides_36 : decode cX5_areSides 36 = .ok (.invokestatic 46, 3) := by decide +kernel
theorem dX5_areSides_39 : decode cX5_areSides 39 = .ok (.iload_n 2, 1) := by decide +kernel
theorem dX5_areSides_40 : decode cX5_areSides 40 = .ok (.invokestatic 46, 3) := by decide +kernel
theorem dX5_areSides_43 : decode cX5_areSides 43 = .ok (.if_icmp .ne 7, 3) := by decide +kernel
theorem dX5_areSides_46 : decode cX5_areSides 46 = .ok (.iconst 1, 1) := by decide +kernel
theorem dX5_areSides_47 : decode cX5_areSides 47 = .ok (.goto 4, 3) := by decide +kernel
theorem dX5_areSides_50 : decode cX5_areSides 50 = .ok (.iconst 0, 1) := by decide +kernel
theorem dX5_areSides_51 : decode cX5_areSides 51 = .ok (.ireturn, 1) := by decide +kernel
theorem dX5_truth_0 : decode cX5_truth 0 = .ok (.iload_n 0, 1) := by decide +kernel
theorem dX5_truth_1 : decode cX5_truth 1 = .ok (.ifCond .ne 5, 3) := by decide +kernel
theorem dX5_truth_4 : decode cX5_truth 4 = .ok (.iconst 2, 1) := by decide +kernel
theorem dX5_truth_5 : decode cX5_truth 5 = .ok (.ireturn, 1) := by decide +kernel
theorem dX5_truth_6 : decode cX5_truth 6 = .ok (.iload_n 0, 1) := by decide +kernel
theorem dX5_truth_7 : decode cX5_truth 7 = .ok (.iconst 1, 1) := by decide +kernel
theorem dX5_truth_8 : decode cX5_truth 8 = .ok (.isub, 1) := by decide +kernel
theorem dX5_truth_9 : decode cX5_truth 9 = .ok (.iconst 2, 1) := by decide +kernel
theorem dX5_truth_10 : decode cX5_truth 10 = .ok (.idiv, 1) := by decide +kernel
theorem dX5_truth_11 : decode cX5_truth 11 = .ok (.istore_n 3, 1) := by decide +kernel
theorem dX5_truth_12 : decode cX5_truth 12 = .ok (.iload_n 0, 1) := by decide +kernel
theorem dX5_truth_13 : decode cX5_truth 13 = .ok (.iconst 1, 1) := by decide +kernel
theorem dX5_truth_14 : decode cX5_truth 14 = .ok (.isub, 1) := by decide +kernel
theorem dX5_truth_15 : decode cX5_truth 15 = .ok (.iconst 2, 1) := by decide +kernel
theorem dX5_truth_16 : decode cX5_truth 16 = .ok (.irem, 1) := by decide +kernel
theorem dX5_truth_17 : decode cX5_truth 17 = .ok (.istore 4, 2) := by decide +kernel
theorem dX5_truth_19 : decode cX5_truth 19 = .ok (.iload_n 1, 1) := by decide +kernel
theorem dX5_truth_20 : decode cX5_truth 20 = .ok (.iload_n 3, 1) := by decide +kernel
theorem dX5_truth_21 : decode cX5_truth 21 = .ok (.ishr, 1) := by decide +kernel
theorem dX5_truth_22 : decode cX5_truth 22 = .ok (.iconst 1, 1) := by decide +kernel
theorem dX5_truth_23 : decode cX5_truth 23 = .ok (.iand, 1) := by decide +kernel
theorem dX5_truth_24 : decode cX5_truth 24 = .ok (.iconst 1, 1) := by decide +kernel
theorem dX5_truth_25 : decode cX5_truth 25 = .ok (.if_icmp .ne 8, 3) := by decide +kernel
theorem dX5_truth_28 : decode cX5_truth 28 = .ok (.iload 4, 2) := by decide +kernel
theorem dX5_truth_30 : decode cX5_truth 30 = .ok (.goto 20, 3) := by decide +kernel
theorem dX5_truth_33 : decode cX5_truth 33 = .ok (.iload_n 2, 1) := by decide +kernel
theorem dX5_truth_34 : decode cX5_truth 34 = .ok (.iload_n 3, 1) := by decide +kernel
theorem dX5_truth_35 : decode cX5_truth 35 = .ok (.ishr, 1) := by decide +kernel
theorem dX5_truth_36 : decode cX5_truth 36 = .ok (.iconst 1, 1) := by decide +kernel
theorem dX5_truth_37 : decode cX5_truth 37 = .ok (.iand, 1) := by decide +kernel
theorem dX5_truth_38 : decode cX5_truth 38 = .ok (.iconst 1, 1) := by decide +kernel
theorem dX5_truth_39 : decode cX5_truth 39 = .ok (.if_icmp .ne 10, 3) := by decide +kernel
theorem dX5_truth_42 : decode cX5_truth 42 = .ok (.iconst 1, 1) := by decide +kernel
theorem dX5_truth_43 : decode cX5_truth 43 = .ok (.iload 4, 2) := by decide +kernel
theorem dX5_truth_45 : decode cX5_truth 45 = .ok (.isub, 1) := by decide +kernel
theorem dX5_truth_46 : decode cX5_truth 46 = .ok (.goto 4, 3) := by decide +kernel
theorem dX5_truth_49 : decode cX5_truth 49 = .ok (.iconst 2, 1) := by decide +kernel
theorem dX5_truth_50 : decode cX5_truth 50 = .ok (.ireturn, 1) := by decide +kernel
theorem dX5_isLeft_0 : decode cX5_isLeft 0 = .ok (.aload_n 0, 1) := by decide +kernel
theorem dX5_isLeft_1 : decode cX5_isLeft 1 = .ok (.getfield 7, 3) := by decide +kernel
theorem dX5_isLeft_4 : decode cX5_isLeft 4 = .ok (.sipush 143, 3) := by decide +kernel
theorem dX5_isLeft_7 : decode cX5_isLeft 7 = .ok (.iload_n 1, 1) := by decide +kernel
theorem dX5_isLeft_8 : decode cX5_isLeft 8 = .ok (.iadd, 1) := by decide +kernel
theorem dX5_isLeft_9 : decode cX5_isLeft 9 = .ok (.iaload, 1) := by decide +kernel
theorem dX5_isLeft_10 : decode cX5_isLeft 10 = .ok (.aload_n 0, 1) := by decide +kernel
theorem dX5_isLeft_11 : decode cX5_isLeft 11 = .ok (.getfield 7, 3) := by decide +kernel
theorem dX5_isLeft_14 : decode cX5_isLeft 14 = .ok (.iconst 1, 1) := by decide +kernel
theorem dX5_isLeft_15 : decode cX5_isLeft 15 = .ok (.iaload, 1) := by decide +kernel
theorem dX5_isLeft_16 : decode cX5_isLeft 16 = .ok (.if_icmp .gt 7, 3) := by decide +kernel
theorem dX5_isLeft_19 : decode cX5_isLeft 19 = .ok (.iconst 1, 1) := by decide +kernel
theorem dX5_isLeft_20 : decode cX5_isLeft 20 = .ok (.goto 4, 3) := by decide +kernel
theorem dX5_isLeft_23 : decode cX5_isLeft 23 = .ok (.iconst 0, 1) := by decide +kernel
theorem dX5_isLeft_24 : decode cX5_isLeft 24 = .ok (.ireturn, 1) := by decide +kernel
set_option maxRecDepth 20000 in
theorem ggX5_lefts_X5_cases : GoodIn wsX5_lefts wsX5_cases := goodIn_r _ [5, 6, 11, 12, 13, 14, 15, 16, 17, 18, 19, 20, 21] (by decide +kernel) (by decide +kernel)
set_option maxRecDepth 20000 in
theorem gX5_lefts_X5_cases : GoodIn wsX5_lefts (wsV RX5 38 RX5 yX5_cases wsX5_cases) := goodIn_app (goodIn_of _ (by decide +kernel)) ggX5_lefts_X5_cases
set_option maxRecDepth 20000 in
theorem ggX5_lefts_X5_isLeft : GoodIn wsX5_lefts wsX5_isLeft := goodIn_r _ [10, 6, 11, 12, 13, 14, 15, 16, 17, 18, 19, 20, 21] (by decide +kernel) (by decide +kernel)
set_option maxRecDepth 20000 in
theorem gX5_lefts_X5_isLeft : GoodIn wsX5_lefts (wsV RX5 49 RX5 yX5_isLeft wsX5_isLeft) := goodIn_app (goodIn_of _ (by decide +kernel)) ggX5_lefts_X5_isLeft
theorem dX5_lefts_0 : decode cX5_lefts 0 = .ok (.iconst 0, 1) := by decide +kernel
theorem dX5_lefts_1 : decode cX5_lefts 1 = .ok (.istore_n 1, 1) := by decide +kernel
theorem dX5_lefts_2 : decode cX5_lefts 2 = .ok (.iconst 0, 1) := by decide +kernel
theorem dX5_lefts_3 : decode cX5_lefts 3 = .ok (.istore_n 2, 1) := by decide +kernel
theorem dX5_lefts_4 : decode cX5_lefts 4 = .ok (.iload_n 2, 1) := by decide +kernel
theorem dX5_lefts_5 : decode cX5_lefts 5 = .ok (.aload_n 0, 1) := by decide +kernel
theorem dX5_lefts_6 : decode cX5_lefts 6 = .ok (.invokevirtual 38, 3) := by decide +kernel
theorem dX5_lefts_9 : decode cX5_lefts 9 = .ok (.if_icmp .ge 25, 3) := by decide +kernel
theorem dX5_lefts_12 : decode cX5_lefts 12 = .ok (.iload_n 1, 1) := by decide +kernel
theorem dX5_lefts_13 : decode cX5_lefts 13 = .ok (.aload_n 0, 1) := by decide +kernel
theorem dX5_lefts_14 : decode cX5_lefts 14 = .ok (.iload_n 2, 1) := by decide +kernel
theorem dX5_lefts_15 : decode cX5_lefts 15 = .ok (.invokevirtual 49, 3) := by decide +kernel
theorem dX5_lefts_18 : decode cX5_lefts 18 = .ok (.ifCond .eq 7, 3) := by decide +kernel
theorem dX5_lefts_21 : decode cX5_lefts 21 = .ok (.iconst 1, 1) := by decide +kernel
theorem dX5_lefts_22 : decode cX5_lefts 22 = .ok (.goto 4, 3) := by decide +kernel
theorem dX5_lefts_25 : decode cX5_lefts 25 = .ok (.iconst 0, 1) := by decide +kernel
theorem dX5_lefts_26 : decode cX5_lefts 26 = .ok (.iadd, 1) := by decide +kernel
theorem dX5_lefts_27 : decode cX5_lefts 27 = .ok (.istore_n 1, 1) := by decide +kernel
theorem dX5_lefts_28 : decode cX5_lefts 28 = .ok (.iinc 2 1, 3) := by decide +kernel
theorem dX5_lefts_31 : decode cX5_lefts 31 = .ok (.goto (-27), 3) := by decide +kernel
theorem dX5_lefts_34 : decode cX5_lefts 34 = .ok (.iload_n 1, 1) := by decide +kernel
theorem dX5_lefts_35 : decode cX5_lefts 35 = .ok (.ireturn, 1) := by decide +kernel
set_option maxRecDepth 20000 in
theorem ggX5_begin_X5_in : GoodIn wsX5_begin wsX5_in := goodIn_r _ [5] (by decide +kernel) (by decide +kernel)
set_option maxRecDepth 20000 in
theorem gX5_begin_X5_in : GoodIn wsX5_begin (va_wsS RX5 42 yX5_in wsX5_in) := goodIn_app (goodIn_of _ (by decide +kernel)) ggX5_begin_X5_in
set_option maxRecDepth 20000 in
theorem ggX5_begin_X5_fails : GoodIn wsX5_begin wsX5_fails := goodIn_r _ [9, 10, 30, 31, 32, 33, 34, 35, 36, 37, 38, 39, 40] (by decide +kernel) (by decide +kernel)
set_option maxRecDepth 20000 in
theorem gX5_begin_X5_fails : GoodIn wsX5_begin (wsV RX5 53 RX5 yX5_fails wsX5_fails) := goodIn_app (goodIn_of _ (by decide +kernel)) ggX5_begin_X5_fails
set_option maxRecDepth 20000 in
theorem ggX5_begin_X5_begins : GoodIn wsX5_begin wsX5_begins := goodIn_r _ [14, 15, 1, 30, 31, 32, 33, 34, 35, 36, 37, 38, 39, 40] (by decide +kernel) (by decide +kernel)
set_option maxRecDepth 20000 in
theorem gX5_begin_X5_begins : GoodIn wsX5_begin (wsV RX5 56 RX5 yX5_begins wsX5_begins) := goodIn_app (goodIn_of _ (by decide +kernel)) ggX5_begin_X5_begins
set_option maxRecDepth 20000 in
theorem ggX5_begin_X5_sets : GoodIn wsX5_begin wsX5_sets := goodIn_r _ [19, 1, 30, 31, 32, 33, 34, 35, 36, 37, 38, 39, 40] (by decide +kernel) (by decide +kernel)
set_option maxRecDepth 20000 in
theorem gX5_begin_X5_sets : GoodIn wsX5_begin (wsV RX5 23 RX5 yX5_sets wsX5_sets) := goodIn_app (goodIn_of _ (by decide +kernel)) ggX5_begin_X5_sets
set_option maxRecDepth 20000 in
theorem ggX5_begin_X5_saved : GoodIn wsX5_begin wsX5_saved := goodIn_r _ [23, 24, 25, 15, 26, 27, 28, 4, 29, 10, 30, 31, 32, 33, 34, 35, 36, 37, 38, 39, 40] (by decide +kernel) (by decide +kernel)
set_option maxRecDepth 20000 in
theorem gX5_begin_X5_saved : GoodIn wsX5_begin (wsV RX5 59 RX5 yX5_saved wsX5_saved) := goodIn_app (goodIn_of _ (by decide +kernel)) ggX5_begin_X5_saved
theorem dX5_begin_0 : decode cX5_begin 0 = .ok (.iload_n 1, 1) := by decide +kernel
theorem dX5_begin_1 : decode cX5_begin 1 = .ok (.iconst 2, 1) := by decide +kernel
theorem dX5_begin_2 : decode cX5_begin 2 = .ok (.bipush 16, 2) := by decide +kernel
theorem dX5_begin_4 : decode cX5_begin 4 = .ok (.invokestatic 42, 3) := by decide +kernel
theorem dX5_begin_7 : decode cX5_begin 7 = .ok (.ifCond .ne 9, 3) := by decide +kernel
theorem dX5_begin_10 : decode cX5_begin 10 = .ok (.aload_n 0, 1) := by decide +kernel
theorem dX5_begin_11 : decode cX5_begin 11 = .ok (.iconst 1, 1) := by decide +kernel
theorem dX5_begin_12 : decode cX5_begin 12 = .ok (.invokevirtual 53, 3) := by decide +kernel
theorem dX5_begin_15 : decode cX5_begin 15 = .ok (.ireturn, 1) := by decide +kernel
theorem dX5_begin_16 : decode cX5_begin 16 = .ok (.aload_n 0, 1) := by decide +kernel
theorem dX5_begin_17 : decode cX5_begin 17 = .ok (.invokevirtual 56, 3) := by decide +kernel
theorem dX5_begin_20 : decode cX5_begin 20 = .ok (.aload_n 0, 1) := by decide +kernel
theorem dX5_begin_21 : decode cX5_begin 21 = .ok (.getfield 7, 3) := by decide +kernel
theorem dX5_begin_24 : decode cX5_begin 24 = .ok (.iconst 2, 1) := by decide +kernel
theorem dX5_begin_25 : decode cX5_begin 25 = .ok (.iaload, 1) := by decide +kernel
theorem dX5_begin_26 : decode cX5_begin 26 = .ok (.istore_n 2, 1) := by decide +kernel
theorem dX5_begin_27 : decode cX5_begin 27 = .ok (.aload_n 0, 1) := by decide +kernel
theorem dX5_begin_28 : decode cX5_begin 28 = .ok (.iload_n 1, 1) := by decide +kernel
theorem dX5_begin_29 : decode cX5_begin 29 = .ok (.invokevirtual 23, 3) := by decide +kernel
theorem dX5_begin_32 : decode cX5_begin 32 = .ok (.aload_n 0, 1) := by decide +kernel
theorem dX5_begin_33 : decode cX5_begin 33 = .ok (.iload_n 2, 1) := by decide +kernel
theorem dX5_begin_34 : decode cX5_begin 34 = .ok (.invokevirtual 59, 3) := by decide +kernel
theorem dX5_begin_37 : decode cX5_begin 37 = .ok (.ireturn, 1) := by decide +kernel
set_option maxRecDepth 20000 in
theorem ggX5_setLimit_X5_in : GoodIn wsX5_setLimit wsX5_in := goodIn_r _ [5] (by decide +kernel) (by decide +kernel)
set_option maxRecDepth 20000 in
theorem gX5_setLimit_X5_in : GoodIn wsX5_setLimit (va_wsS RX5 42 yX5_in wsX5_in) := goodIn_app (goodIn_of _ (by decide +kernel)) ggX5_setLimit_X5_in
set_option maxRecDepth 20000 in
theorem ggX5_setLimit_X5_fails : GoodIn wsX5_setLimit wsX5_fails := goodIn_r _ [9, 10, 38, 39, 40, 41, 42, 43, 44, 45, 46, 47, 48] (by decide +kernel) (by decide +kernel)
set_option maxRecDepth 20000 in
theorem gX5_setLimit_X5_fails : GoodIn wsX5_setLimit (wsV RX5 53 RX5 yX5_fails wsX5_fails) := goodIn_app (goodIn_of _ (by decide +kernel)) ggX5_setLimit_X5_fails
set_option maxRecDepth 20000 in
theorem ggX5_setLimit_X5_begins : GoodIn wsX5_setLimit wsX5_begins := goodIn_r _ [14, 15, 1, 38, 39, 40, 41, 42, 43, 44, 45, 46, 47, 48] (by decide +kernel) (by decide +kernel)
set_option maxRecDepth 20000 in
theorem gX5_setLimit_X5_begins : GoodIn wsX5_setLimit (wsV RX5 56 RX5 yX5_begins wsX5_begins) := goodIn_app (goodIn_of _ (by decide +kernel)) ggX5_setLimit_X5_begins
set_option maxRecDepth 20000 in
theorem ggX5_setLimit_X5_lefts : GoodIn wsX5_setLimit wsX5_lefts := goodIn_r _ [19, 20, 21, 22, 4, 23, 1, 24, 25, 26, 27, 38, 39, 40, 41, 42, 43, 44, 45, 46, 47, 48] (by decide +kernel) (by decide +kernel)
set_option maxRecDepth 20000 in
theorem gX5_setLimit_X5_lefts : GoodIn wsX5_setLimit (wsV RX5 62 RX5 yX5_lefts wsX5_lefts) := goodIn_app (goodIn_of _ (by decide +kernel)) ggX5_setLimit_X5_lefts
set_option maxRecDepth 20000 in
theorem ggX5_setLimit_X5_saved : GoodIn wsX5_setLimit wsX5_saved := goodIn_r _ [31, 32, 33, 15, 34, 35, 36, 4, 37, 10, 38, 39, 40, 41, 42, 43, 44, 45, 46, 47, 48] (by decide +kernel) (by decide +kernel)
set_option maxRecDepth 20000 in
theorem gX5_setLimit_X5_saved : GoodIn wsX5_setLimit (wsV RX5 59 RX5 yX5_saved wsX5_saved) := goodIn_app (goodIn_of _ (by decide +kernel)) ggX5_setLimit_X5_saved
theorem dX5_setLimit_0 : decode cX5_setLimit 0 = .ok (.iload_n 1, 1) := by decide +kernel
theorem dX5_setLimit_1 : decode cX5_setLimit 1 = .ok (.iconst 0, 1) := by decide +kernel
theorem dX5_setLimit_2 : decode cX5_setLimit 2 = .ok (.iconst 2, 1) := by decide +kernel
theorem dX5_setLimit_3 : decode cX5_setLimit 3 = .ok (.invokestatic 42, 3) := by decide +kernel
theorem dX5_setLimit_6 : decode cX5_setLimit 6 = .ok (.ifCond .ne 9, 3) := by decide +kernel
theorem dX5_setLimit_9 : decode cX5_setLimit 9 = .ok (.aload_n 0, 1) := by decide +kernel
theorem dX5_setLimit_10 : decode cX5_setLimit 10 = .ok (.iconst 1, 1) := by decide +kernel
theorem dX5_setLimit_11 : decode cX5_setLimit 11 = .ok (.invokevirtual 53, 3) := by decide +kernel
theorem dX5_setLimit_14 : decode cX5_setLimit 14 = .ok (.ireturn, 1) := by decide +kernel
theorem dX5_setLimit_15 : decode cX5_setLimit 15 = .ok (.aload_n 0, 1) := by decide +kernel
theorem dX5_setLimit_16 : decode cX5_setLimit 16 = .ok (.invokevirtual 56, 3) := by decide +kernel
theorem dX5_setLimit_19 : decode cX5_setLimit 19 = .ok (.aload_n 0, 1) := by decide +kernel
theorem dX5_setLimit_20 : decode cX5_setLimit 20 = .ok (.getfield 7, 3) := by decide +kernel
theorem dX5_setLimit_23 : decode cX5_setLimit 23 = .ok (.iconst 1, 1) := by decide +kernel
theorem dX5_setLimit_24 : decode cX5_setLimit 24 = .ok (.iload_n 1, 1) := by decide +kernel
theorem dX5_setLimit_25 : decode cX5_setLimit 25 = .ok (.iastore, 1) := by decide +kernel
theorem dX5_setLimit_26 : decode cX5_setLimit 26 = .ok (.aload_n 0, 1) := by decide +kernel
theorem dX5_setLimit_27 : decode cX5_setLimit 27 = .ok (.aload_n 0, 1) := by decide +kernel
theorem dX5_setLimit_28 : decode cX5_setLimit 28 = .ok (.invokevirtual 62, 3) := by decide +kernel
theorem dX5_setLimit_31 : decode cX5_setLimit 31 = .ok (.invokevirtual 59, 3) := by decide +kernel
theorem dX5_setLimit_34 : decode cX5_setLimit 34 = .ok (.ireturn, 1) := by decide +kernel
set_option maxRecDepth 20000 in
theorem ggX5_lays_X5_cases : GoodIn wsX5_lays wsX5_cases := goodIn_r _ [6, 1, 10, 11, 12, 13, 14, 15, 16, 17, 18, 19, 20] (by decide +kernel) (by decide +kernel)
set_option maxRecDepth 20000 in
theorem gX5_lays_X5_cases : GoodIn wsX5_lays (wsV RX5 38 RX5 yX5_cases wsX5_cases) := goodIn_app (goodIn_of _ (by decide +kernel)) ggX5_lays_X5_cases
set_option maxRecDepth 20000 in
theorem ggX5_lays_X5_truth : GoodIn wsX5_lays wsX5_truth := goodIn_r _ [9] (by decide +kernel) (by decide +kernel)
set_option maxRecDepth 20000 in
theorem gX5_lays_X5_truth : GoodIn wsX5_lays (va_wsS RX5 65 yX5_truth wsX5_truth) := goodIn_app (goodIn_of _ (by decide +kernel)) ggX5_lays_X5_truth
theorem dX5_lays_0 : decode cX5_lays 0 = .ok (.bipush 7, 2) := by decide +kernel
theorem dX5_lays_2 : decode cX5_lays 2 = .ok (.iconst 3, 1) := by decide +kernel
theorem dX5_lays_3 : decode cX5_lays 3 = .ok (.aload_n 0, 1) := by decide +kernel
theorem dX5_lays_4 : decode cX5_lays 4 = .ok (.getfield 7, 3) := by decide +kernel
theorem dX5_lays_7 : decode cX5_lays 7 = .ok (.iconst 2, 1) := by decide +kernel
theorem dX5_lays_8 : decode cX5_lays 8 = .ok (.iaload, 1) := by decide +kernel
theorem dX5_lays_9 : decode cX5_lays 9 = .ok (.imul, 1) := by decide +kernel
theorem dX5_lays_10 : decode cX5_lays 10 = .ok (.iadd, 1) := by decide +kernel
theorem dX5_lays_11 : decode cX5_lays 11 = .ok (.istore 4, 2) := by decide +kernel
theorem dX5_lays_13 : decode cX5_lays 13 = .ok (.aload_n 0, 1) := by decide +kernel
theorem dX5_lays_14 : decode cX5_lays 14 = .ok (.getfield 7, 3) := by decide +kernel
theorem dX5_lays_17 : decode cX5_lays 17 = .ok (.iload 4, 2) := by decide +kernel
theorem dX5_lays_19 : decode cX5_lays 19 = .ok (.iload_n 1, 1) := by decide +kernel
theorem dX5_lays_20 : decode cX5_lays 20 = .ok (.iastore, 1) := by decide +kernel
theorem dX5_lays_21 : decode cX5_lays 21 = .ok (.aload_n 0, 1) := by decide +kernel
theorem dX5_lays_22 : decode cX5_lays 22 = .ok (.getfield 7, 3) := by decide +kernel
theorem dX5_lays_25 : decode cX5_lays 25 = .ok (.iload 4, 2) := by decide +kernel
theorem dX5_lays_27 : decode cX5_lays 27 = .ok (.iconst 1, 1) := by decide +kernel
theorem dX5_lays_28 : decode cX5_lays 28 = .ok (.iadd, 1) := by decide +kernel
theorem dX5_lays_29 : decode cX5_lays 29 = .ok (.iload_n 2, 1) := by decide +kernel
theorem dX5_lays_30 : decode cX5_lays 30 = .ok (.iastore, 1) := by decide +kernel
theorem dX5_lays_31 : decode cX5_lays 31 = .ok (.aload_n 0, 1) := by decide +kernel
theorem dX5_lays_32 : decode cX5_lays 32 = .ok (.getfield 7, 3) := by decide +kernel
theorem dX5_lays_35 : decode cX5_lays 35 = .ok (.iload 4, 2) := by decide +kernel
theorem dX5_lays_37 : decode cX5_lays 37 = .ok (.iconst 2, 1) := by decide +kernel
theorem dX5_lays_38 : decode cX5_lays 38 = .ok (.iadd, 1) := by decide +kernel
theorem dX5_lays_39 : decode cX5_lays 39 = .ok (.iload_n 3, 1) := by decide +kernel
theorem dX5_lays_40 : decode cX5_lays 40 = .ok (.iastore, 1) := by decide +kernel
theorem dX5_lays_41 : decode cX5_lays 41 = .ok (.aload_n 0, 1) := by decide +kernel
theorem dX5_lays_42 : decode cX5_lays 42 = .ok (.getfield 7, 3) := by decide +kernel
theorem dX5_lays_45 : decode cX5_lays 45 = .ok (.iconst 2, 1) := by decide +kernel
theorem dX5_lays_46 : decode cX5_lays 46 = .ok (.dup2, 1) := by decide +kernel
theorem dX5_lays_47 : decode cX5_lays 47 = .ok (.iaload, 1) := by decide +kernel
theorem dX5_lays_48 : decode cX5_lays 48 = .ok (.iconst 1, 1) := by decide +kernel
theorem dX5_lays_49 : decode cX5_lays 49 = .ok (.iadd, 1) := by decide +kernel
theorem dX5_lays_50 : decode cX5_lays 50 = .ok (.iastore, 1) := by decide +kernel
theorem dX5_lays_51 : decode cX5_lays 51 = .ok (.iconst 0, 1) := by decide +kernel
theorem dX5_lays_52 : decode cX5_lays 52 = .ok (.istore 5, 2) := by decide +kernel
theorem dX5_lays_54 : decode cX5_lays 54 = .ok (.iload 5, 2) := by decide +kernel
theorem dX5_lays_56 : decode cX5_lays 56 = .ok (.aload_n 0, 1) := by decide +kernel
theorem dX5_lays_57 : decode cX5_lays 57 = .ok (.invokevirtual 38, 3) := by decide +kernel
theorem dX5_lays_60 : decode cX5_lays 60 = .ok (.if_icmp .ge 39, 3) := by decide +kernel
theorem dX5_lays_63 : decode cX5_lays 63 = .ok (.aload_n 0, 1) := by decide +kernel
theorem dX5_lays_64 : decode cX5_lays 64 = .ok (.getfield 7, 3) := by decide +kernel
theorem dX5_lays_67 : decode cX5_lays 67 = .ok (.sipush 143, 3) := by decide +kernel
theorem dX5_lays_70 : decode cX5_lays 70 = .ok (.iload 5, 2) := by decide +kernel
theorem dX5_lays_72 : decode cX5_lays 72 = .ok (.iadd, 1) := by decide +kernel
theorem dX5_lays_73 : decode cX5_lays 73 = .ok (.dup2, 1) := by decide +kernel
theorem dX5_lays_74 : decode cX5_lays 74 = .ok (.iaload, 1) := by decide +kernel
theorem dX5_lays_75 : decode cX5_lays 75 = .ok (.iload 5, 2) := by decide +kernel
theorem dX5_lays_77 : decode cX5_lays 77 = .ok (.iload_n 1, 1) := by decide +kernel
theorem dX5_lays_78 : decode cX5_lays 78 = .ok (.iload_n 2, 1) := by decide +kernel
theorem dX5_lays_79 : decode cX5_lays 79 = .ok (.invokestatic 65, 3) := by decide +kernel
theorem dX5_lays_82 : decode cX5_lays 82 = .ok (.iload_n 3, 1) := by decide +kernel
theorem dX5_lays_83 : decode cX5_lays 83 = .ok (.if_icmp .ne 7, 3) := by decide +kernel
theorem dX5_lays_86 : decode cX5_lays 86 = .ok (.iconst 0, 1) := by decide +kernel
theorem dX5_lays_87 : decode cX5_lays 87 = .ok (.goto 4, 3) := by decide +kernel
theorem dX5_lays_90 : decode cX5_lays 90 = .ok (.iconst 1, 1) := by decide +kernel
theorem dX5_lays_91 : decode cX5_lays 91 = .ok (.iadd, 1) := by decide +kernel
theorem dX5_lays_92 : decode cX5_lays 92 = .ok (.iastore, 1) := by decide +kernel
theorem dX5_lays_93 : decode cX5_lays 93 = .ok (.iinc 5 1, 3) := by decide +kernel
theorem dX5_lays_96 : decode cX5_lays 96 = .ok (.goto (-42), 3) := by decide +kernel
theorem dX5_lays_99 : decode cX5_lays 99 = .ok (.return_, 1) := by decide +kernel
set_option maxRecDepth 20000 in
theorem ggX5_whyNotTell_X5_areSides : GoodIn wsX5_whyNotTell wsX5_areSides := goodIn_r _ [6, 1, 7, 8, 5, 9, 10, 11, 12, 13, 14, 15, 16, 17, 18, 19, 20, 21, 22, 23] (by decide +kernel) (by decide +kernel)
set_option maxRecDepth 20000 in
theorem gX5_whyNotTell_X5_areSides : GoodIn wsX5_whyNotTell (wsV RX5 69 RX5 yX5_areSides wsX5_areSides) := goodIn_app (goodIn_of _ (by decide +kernel)) ggX5_whyNotTell_X5_areSides
set_option maxRecDepth 20000 in
theorem ggX5_whyNotTell_X5_in : GoodIn wsX5_whyNotTell wsX5_in := goodIn_r _ [9] (by decide +kernel) (by decide +kernel)
set_option maxRecDepth 20000 in
theorem gX5_whyNotTell_X5_in : GoodIn wsX5_whyNotTell (va_wsS RX5 42 yX5_in wsX5_in) := goodIn_app (goodIn_of _ (by decide +kernel)) ggX5_whyNotTell_X5_in
theorem dX5_whyNotTell_0 : decode cX5_whyNotTell 0 = .ok (.aload_n 0, 1) := by decide +kernel
theorem dX5_whyNotTell_1 : decode cX5_whyNotTell 1 = .ok (.iload_n 1, 1) := by decide +kernel
theorem dX5_whyNotTell_2 : decode cX5_whyNotTell 2 = .ok (.iload_n 2, 1) := by decide +kernel
theorem dX5_whyNotTell_3 : decode cX5_whyNotTell 3 = .ok (.invokevirtual 69, 3) := by decide +kernel
theorem dX5_whyNotTell_6 : decode cX5_whyNotTell 6 = .ok (.ifCond .eq 12, 3) := by decide +kernel
theorem dX5_whyNotTell_9 : decode cX5_whyNotTell 9 = .ok (.iload_n 3, 1) := by decide +kernel
theorem dX5_whyNotTell_10 : decode cX5_whyNotTell 10 = .ok (.iconst 0, 1) := by decide +kernel
theorem dX5_whyNotTell_11 : decode cX5_whyNotTell 11 = .ok (.iconst 2, 1) := by decide +kernel
theorem dX5_whyNotTell_12 : decode cX5_whyNotTell 12 = .ok (.invokestatic 42, 3) := by decide +kernel
theorem dX5_whyNotTell_15 : decode cX5_whyNotTell 15 = .ok (.ifCond .ne 7, 3) := by decide +kernel
theorem dX5_whyNotTell_18 : decode cX5_whyNotTell 18 = .ok (.iconst 1, 1) := by decide +kernel
theorem dX5_whyNotTell_19 : decode cX5_whyNotTell 19 = .ok (.goto 19, 3) := by decide +kernel
theorem dX5_whyNotTell_22 : decode cX5_whyNotTell 22 = .ok (.aload_n 0, 1) := by decide +kernel
theorem dX5_whyNotTell_23 : decode cX5_whyNotTell 23 = .ok (.getfield 7, 3) := by decide +kernel
theorem dX5_whyNotTell_26 : decode cX5_whyNotTell 26 = .ok (.iconst 2, 1) := by decide +kernel
theorem dX5_whyNotTell_27 : decode cX5_whyNotTell 27 = .ok (.iaload, 1) := by decide +kernel
theorem dX5_whyNotTell_28 : decode cX5_whyNotTell 28 = .ok (.bipush 40, 2) := by decide +kernel
theorem dX5_whyNotTell_30 : decode cX5_whyNotTell 30 = .ok (.if_icmp .ne 7, 3) := by decide +kernel
theorem dX5_whyNotTell_33 : decode cX5_whyNotTell 33 = .ok (.iconst 2, 1) := by decide +kernel
theorem dX5_whyNotTell_34 : decode cX5_whyNotTell 34 = .ok (.goto 4, 3) := by decide +kernel
theorem dX5_whyNotTell_37 : decode cX5_whyNotTell 37 = .ok (.iconst 0, 1) := by decide +kernel
theorem dX5_whyNotTell_38 : decode cX5_whyNotTell 38 = .ok (.ireturn, 1) := by decide +kernel
set_option maxRecDepth 20000 in
theorem ggX5_tell_X5_whyNotTell : GoodIn wsX5_tell wsX5_whyNotTell := goodIn_r _ [5, 6, 7, 8, 9, 4, 10, 11, 12, 13, 14, 15, 16, 56, 57, 58, 59, 60, 61, 62, 63, 64, 65, 66] (by decide +kernel) (by decide +kernel)
set_option maxRecDepth 20000 in
theorem gX5_tell_X5_whyNotTell : GoodIn wsX5_tell (wsV RX5 73 RX5 yX5_whyNotTell wsX5_whyNotTell) := goodIn_app (goodIn_of _ (by decide +kernel)) ggX5_tell_X5_whyNotTell
set_option maxRecDepth 20000 in
theorem ggX5_tell_X5_fails : GoodIn wsX5_tell wsX5_fails := goodIn_r _ [20, 21, 56, 57, 58, 59, 60, 61, 62, 63, 64, 65, 66] (by decide +kernel) (by decide +kernel)
set_option maxRecDepth 20000 in
theorem gX5_tell_X5_fails : GoodIn wsX5_tell (wsV RX5 53 RX5 yX5_fails wsX5_fails) := goodIn_app (goodIn_of _ (by decide +kernel)) ggX5_tell_X5_fails
set_option maxRecDepth 20000 in
theorem ggX5_tell_X5_begins : GoodIn wsX5_tell wsX5_begins := goodIn_r _ [25, 26, 6, 56, 57, 58, 59, 60, 61, 62, 63, 64, 65, 66] (by decide +kernel) (by decide +kernel)
set_option maxRecDepth 20000 in
theorem gX5_tell_X5_begins : GoodIn wsX5_tell (wsV RX5 56 RX5 yX5_begins wsX5_begins) := goodIn_app (goodIn_of _ (by decide +kernel)) ggX5_tell_X5_begins
set_option maxRecDepth 20000 in
theorem ggX5_tell_X5_lays : GoodIn wsX5_tell wsX5_lays := goodIn_r _ [30, 6, 31, 32, 33, 4, 34, 35, 36, 37, 56, 57, 58, 59, 60, 61, 62, 63, 64, 65, 66] (by decide +kernel) (by decide +kernel)
set_option maxRecDepth 20000 in
theorem gX5_tell_X5_lays : GoodIn wsX5_tell (wsV RX5 76 RX5 yX5_lays wsX5_lays) := goodIn_app (goodIn_of _ (by decide +kernel)) ggX5_tell_X5_lays
set_option maxRecDepth 20000 in
theorem ggX5_tell_X5_lefts : GoodIn wsX5_tell wsX5_lefts := goodIn_r _ [41, 31, 32, 33, 4, 34, 6, 42, 43, 44, 45, 56, 57, 58, 59, 60, 61, 62, 63, 64, 65, 66] (by decide +kernel) (by decide +kernel)
set_option maxRecDepth 20000 in
theorem gX5_tell_X5_lefts : GoodIn wsX5_tell (wsV RX5 62 RX5 yX5_lefts wsX5_lefts) := goodIn_app (goodIn_of _ (by decide +kernel)) ggX5_tell_X5_lefts
set_option maxRecDepth 20000 in
theorem ggX5_tell_X5_saved : GoodIn wsX5_tell wsX5_saved := goodIn_r _ [49, 50, 51, 26, 52, 53, 54, 4, 55, 21, 56, 57, 58, 59, 60, 61, 62, 63, 64, 65, 66] (by decide +kernel) (by decide +kernel)
set_option maxRecDepth 20000 in
theorem gX5_tell_X5_saved : GoodIn wsX5_tell (wsV RX5 59 RX5 yX5_saved wsX5_saved) := goodIn_app (goodIn_of _ (by decide +kernel)) ggX5_tell_X5_saved
theorem dX5_tell_0 : decode cX5_tell 0 = .ok (.aload_n 0, 1) := by decide +kernel
theorem dX5_tell_1 : decode cX5_tell 1 = .ok (.iload_n 1, 1) := by decide +kernel
theorem dX5_tell_2 : decode cX5_tell 2 = .ok (.iload_n 2, 1) := by decide +kernel
theorem dX5_tell_3 : decode cX5_tell 3 = .ok (.iload_n 3, 1) := by decide +kernel
theorem dX5_tell_4 : decode cX5_tell 4 = .ok (.invokevirtual 73, 3) := by decide +kernel
theorem dX5_tell_7 : decode cX5_tell 7 = .ok (.istore 4, 2) := by decide +kernel
theorem dX5_tell_9 : decode cX5_tell 9 = .ok (.iload 4, 2) := by decide +kernel
theorem dX5_tell_11 : decode cX5_tell 11 = .ok (.ifCond .le 10, 3) := by decide +kernel
theorem dX5_tell_14 : decode cX5_tell 14 = .ok (.aload_n 0, 1) := by decide +kernel
theorem dX5_tell_15 : decode cX5_tell 15 = .ok (.iload 4, 2) := by decide +kernel
theorem dX5_tell_17 : decode cX5_tell 17 = .ok (.invokevirtual 53, 3) := by decide +kernel
theorem dX5_tell_20 : decode cX5_tell 20 = .ok (.ireturn, 1) := by decide +kernel
theorem dX5_tell_21 : decode cX5_tell 21 = .ok (.aload_n 0, 1) := by decide +kernel
theorem dX5_tell_22 : decode cX5_tell 22 = .ok (.invokevirtual 56, 3) := by decide +kernel
theorem dX5_tell_25 : decode cX5_tell 25 = .ok (.aload_n 0, 1) := by decide +kernel
theorem dX5_tell_26 : decode cX5_tell 26 = .ok (.iload_n 1, 1) := by decide +kernel
theorem dX5_tell_27 : decode cX5_tell 27 = .ok (.iload_n 2, 1) := by decide +kernel
theorem dX5_tell_28 : decode cX5_tell 28 = .ok (.iload_n 3, 1) := by decide +kernel
theorem dX5_tell_29 : decode cX5_tell 29 = .ok (.invokevirtual 76, 3) := by decide +kernel
theorem dX5_tell_32 : decode cX5_tell 32 = .ok (.aload_n 0, 1) := by decide +kernel
theorem dX5_tell_33 : decode cX5_tell 33 = .ok (.aload_n 0, 1) := by decide +kernel
theorem dX5_tell_34 : decode cX5_tell 34 = .ok (.invokevirtual 62, 3) := by decide +kernel
theorem dX5_tell_37 : decode cX5_tell 37 = .ok (.invokevirtual 59, 3) := by decide +kernel
theorem dX5_tell_40 : decode cX5_tell 40 = .ok (.ireturn, 1) := by decide +kernel
set_option maxRecDepth 20000 in
theorem ggX5_forget_X5_begins : GoodIn wsX5_forget wsX5_begins := goodIn_r _ [6, 7, 1, 19, 20, 21, 22, 23, 24, 25, 26, 27, 28, 29] (by decide +kernel) (by decide +kernel)
set_option maxRecDepth 20000 in
theorem gX5_forget_X5_begins : GoodIn wsX5_forget (wsV RX5 56 RX5 yX5_begins wsX5_begins) := goodIn_app (goodIn_of _ (by decide +kernel)) ggX5_forget_X5_begins
set_option maxRecDepth 20000 in
theorem ggX5_forget_X5_saved : GoodIn wsX5_forget wsX5_saved := goodIn_r _ [11, 12, 13, 7, 14, 15, 16, 5, 17, 18, 19, 20, 21, 22, 23, 24, 25, 26, 27, 28, 29] (by decide +kernel) (by decide +kernel)
set_option maxRecDepth 20000 in
theorem gX5_forget_X5_saved : GoodIn wsX5_forget (wsV RX5 59 RX5 yX5_saved wsX5_saved) := goodIn_app (goodIn_of _ (by decide +kernel)) ggX5_forget_X5_saved
theorem dX5_forget_0 : decode cX5_forget 0 = .ok (.aload_n 0, 1) := by decide +kernel
theorem dX5_forget_1 : decode cX5_forget 1 = .ok (.invokevirtual 56, 3) := by decide +kernel
theorem dX5_forget_4 : decode cX5_forget 4 = .ok (.aload_n 0, 1) := by decide +kernel
theorem dX5_forget_5 : decode cX5_forget 5 = .ok (.getfield 7, 3) := by decide +kernel
theorem dX5_forget_8 : decode cX5_forget 8 = .ok (.iconst 2, 1) := by decide +kernel
theorem dX5_forget_9 : decode cX5_forget 9 = .ok (.iaload, 1) := by decide +kernel
theorem dX5_forget_10 : decode cX5_forget 10 = .ok (.istore_n 1, 1) := by decide +kernel
theorem dX5_forget_11 : decode cX5_forget 11 = .ok (.aload_n 0, 1) := by decide +kernel
theorem dX5_forget_12 : decode cX5_forget 12 = .ok (.getfield 7, 3) := by decide +kernel
theorem dX5_forget_15 : decode cX5_forget 15 = .ok (.iconst 2, 1) := by decide +kernel
theorem dX5_forget_16 : decode cX5_forget 16 = .ok (.iconst 0, 1) := by decide +kernel
theorem dX5_forget_17 : decode cX5_forget 17 = .ok (.iastore, 1) := by decide +kernel
theorem dX5_forget_18 : decode cX5_forget 18 = .ok (.iconst 0, 1) := by decide +kernel
theorem dX5_forget_19 : decode cX5_forget 19 = .ok (.istore_n 2, 1) := by decide +kernel
theorem dX5_forget_20 : decode cX5_forget 20 = .ok (.iload_n 2, 1) := by decide +kernel
theorem dX5_forget_21 : decode cX5_forget 21 = .ok (.bipush 33, 2) := by decide +kernel
theorem dX5_forget_23 : decode cX5_forget 23 = .ok (.if_icmp .ge 20, 3) := by decide +kernel
theorem dX5_forget_26 : decode cX5_forget 26 = .ok (.aload_n 0, 1) := by decide +kernel
theorem dX5_forget_27 : decode cX5_forget 27 = .ok (.getfield 7, 3) := by decide +kernel
theorem dX5_forget_30 : decode cX5_forget 30 = .ok (.sipush 143, 3) := by decide +kernel
theorem dX5_forget_33 : decode cX5_forget 33 = .ok (.iload_n 2, 1) := by decide +kernel
theorem dX5_forget_34 : decode cX5_forget 34 = .ok (.iadd, 1) := by decide +kernel
theorem dX5_forget_35 : decode cX5_forget 35 = .ok (.iconst 0, 1) := by decide +kernel
theorem dX5_forget_36 : decode cX5_forget 36 = .ok (.iastore, 1) := by decide +kernel
theorem dX5_forget_37 : decode cX5_forget 37 = .ok (.iinc 2 1, 3) := by decide +kernel
theorem dX5_forget_40 : decode cX5_forget 40 = .ok (.goto (-20), 3) := by decide +kernel
theorem dX5_forget_43 : decode cX5_forget 43 = .ok (.aload_n 0, 1) := by decide +kernel
theorem dX5_forget_44 : decode cX5_forget 44 = .ok (.iload_n 1, 1) := by decide +kernel
theorem dX5_forget_45 : decode cX5_forget 45 = .ok (.invokevirtual 59, 3) := by decide +kernel
theorem dX5_forget_48 : decode cX5_forget 48 = .ok (.ireturn, 1) := by decide +kernel
set_option maxRecDepth 20000 in
theorem ggX5_hide_X5_isCase : GoodIn wsX5_hide wsX5_isCase := goodIn_r _ [7, 8, 9, 10, 6, 11, 2, 12, 13, 14, 35, 36, 37, 38, 39, 40, 41, 42, 43, 44, 45] (by decide +kernel) (by decide +kernel)
set_option maxRecDepth 20000 in
theorem gX5_hide_X5_isCase : GoodIn wsX5_hide (wsV RX5 80 RX5 yX5_isCase wsX5_isCase) := goodIn_app (goodIn_of _ (by decide +kernel)) ggX5_hide_X5_isCase
set_option maxRecDepth 20000 in
theorem ggX5_hide_X5_fails : GoodIn wsX5_hide wsX5_fails := goodIn_r _ [18, 19, 35, 36, 37, 38, 39, 40, 41, 42, 43, 44, 45] (by decide +kernel) (by decide +kernel)
set_option maxRecDepth 20000 in
theorem gX5_hide_X5_fails : GoodIn wsX5_hide (wsV RX5 53 RX5 yX5_fails wsX5_fails) := goodIn_app (goodIn_of _ (by decide +kernel)) ggX5_hide_X5_fails
set_option maxRecDepth 20000 in
theorem ggX5_hide_X5_in : GoodIn wsX5_hide wsX5_in := goodIn_r _ [14] (by decide +kernel) (by decide +kernel)
set_option maxRecDepth 20000 in
theorem gX5_hide_X5_in : GoodIn wsX5_hide (va_wsS RX5 42 yX5_in wsX5_in) := goodIn_app (goodIn_of _ (by decide +kernel)) ggX5_hide_X5_in
set_option maxRecDepth 20000 in
theorem ggX5_hide_X5_begins : GoodIn wsX5_hide wsX5_begins := goodIn_r _ [23, 24, 2, 35, 36, 37, 38, 39, 40, 41, 42, 43, 44, 45] (by decide +kernel) (by decide +kernel)
set_option maxRecDepth 20000 in
theorem gX5_hide_X5_begins : GoodIn wsX5_hide (wsV RX5 56 RX5 yX5_begins wsX5_begins) := goodIn_app (goodIn_of _ (by decide +kernel)) ggX5_hide_X5_begins
set_option maxRecDepth 20000 in
theorem ggX5_hide_X5_saved : GoodIn wsX5_hide wsX5_saved := goodIn_r _ [28, 29, 30, 24, 31, 32, 33, 6, 34, 19, 35, 36, 37, 38, 39, 40, 41, 42, 43, 44, 45] (by decide +kernel) (by decide +kernel)
set_option maxRecDepth 20000 in
theorem gX5_hide_X5_saved : GoodIn wsX5_hide (wsV RX5 59 RX5 yX5_saved wsX5_saved) := goodIn_app (goodIn_of _ (by decide +kernel)) ggX5_hide_X5_saved
theorem dX5_hide_0 : decode cX5_hide 0 = .ok (.aload_n 0, 1) := by decide +kernel
theorem dX5_hide_1 : decode cX5_hide 1 = .ok (.iload_n 1, 1) := by decide +kernel
theorem dX5_hide_2 : decode cX5_hide 2 = .ok (.invokevirtual 80, 3) := by decide +kernel
theorem dX5_hide_5 : decode cX5_hide 5 = .ok (.ifCond .ne 9, 3) := by decide +kernel
theorem dX5_hide_8 : decode cX5_hide 8 = .ok (.aload_n 0, 1) := by decide +kernel
theorem dX5_hide_9 : decode cX5_hide 9 = .ok (.iconst 1, 1) := by decide +kernel
theorem dX5_hide_10 : decode cX5_hide 10 = .ok (.invokevirtual 53, 3) := by decide +kernel
theorem dX5_hide_13 : decode cX5_hide 13 = .ok (.ireturn, 1) := by decide +kernel
theorem dX5_hide_14 : decode cX5_hide 14 = .ok (.iload_n 2, 1) := by decide +kernel
theorem dX5_hide_15 : decode cX5_hide 15 = .ok (.iconst 0, 1) := by decide +kernel
theorem dX5_hide_16 : decode cX5_hide 16 = .ok (.ldc 83, 2) := by decide +kernel
theorem dX5_hide_18 : decode cX5_hide 18 = .ok (.invokestatic 42, 3) := by decide +kernel
theorem dX5_hide_21 : decode cX5_hide 21 = .ok (.ifCond .ne 9, 3) := by decide +kernel
theorem dX5_hide_24 : decode cX5_hide 24 = .ok (.aload_n 0, 1) := by decide +kernel
theorem dX5_hide_25 : decode cX5_hide 25 = .ok (.iconst 2, 1) := by decide +kernel
theorem dX5_hide_26 : decode cX5_hide 26 = .ok (.invokevirtual 53, 3) := by decide +kernel
theorem dX5_hide_29 : decode cX5_hide 29 = .ok (.ireturn, 1) := by decide +kernel
theorem dX5_hide_30 : decode cX5_hide 30 = .ok (.aload_n 0, 1) := by decide +kernel
theorem dX5_hide_31 : decode cX5_hide 31 = .ok (.invokevirtual 56, 3) := by decide +kernel
theorem dX5_hide_34 : decode cX5_hide 34 = .ok (.aload_n 0, 1) := by decide +kernel
theorem dX5_hide_35 : decode cX5_hide 35 = .ok (.getfield 7, 3) := by decide +kernel
theorem dX5_hide_38 : decode cX5_hide 38 = .ok (.iconst 4, 1) := by decide +kernel
theorem dX5_hide_39 : decode cX5_hide 39 = .ok (.iaload, 1) := by decide +kernel
theorem dX5_hide_40 : decode cX5_hide 40 = .ok (.istore_n 3, 1) := by decide +kernel
theorem dX5_hide_41 : decode cX5_hide 41 = .ok (.aload_n 0, 1) := by decide +kernel
theorem dX5_hide_42 : decode cX5_hide 42 = .ok (.getfield 7, 3) := by decide +kernel
theorem dX5_hide_45 : decode cX5_hide 45 = .ok (.iconst 4, 1) := by decide +kernel
theorem dX5_hide_46 : decode cX5_hide 46 = .ok (.iload_n 1, 1) := by decide +kernel
theorem dX5_hide_47 : decode cX5_hide 47 = .ok (.iastore, 1) := by decide +kernel
theorem dX5_hide_48 : decode cX5_hide 48 = .ok (.aload_n 0, 1) := by decide +kernel
theorem dX5_hide_49 : decode cX5_hide 49 = .ok (.getfield 7, 3) := by decide +kernel
theorem dX5_hide_52 : decode cX5_hide 52 = .ok (.bipush 6, 2) := by decide +kernel
theorem dX5_hide_54 : decode cX5_hide 54 = .ok (.iload_n 2, 1) := by decide +kernel
theorem dX5_hide_55 : decode cX5_hide 55 = .ok (.iastore, 1) := by decide +kernel
theorem dX5_hide_56 : decode cX5_hide 56 = .ok (.aload_n 0, 1) := by decide +kernel
theorem dX5_hide_57 : decode cX5_hide 57 = .ok (.getfield 7, 3) := by decide +kernel
theorem dX5_hide_60 : decode cX5_hide 60 = .ok (.iconst 5, 1) := by decide +kernel
theorem dX5_hide_61 : decode cX5_hide 61 = .ok (.iconst 0, 1) := by decide +kernel
theorem dX5_hide_62 : decode cX5_hide 62 = .ok (.iastore, 1) := by decide +kernel
theorem dX5_hide_63 : decode cX5_hide 63 = .ok (.aload_n 0, 1) := by decide +kernel
theorem dX5_hide_64 : decode cX5_hide 64 = .ok (.iload_n 3, 1) := by decide +kernel
theorem dX5_hide_65 : decode cX5_hide 65 = .ok (.invokevirtual 59, 3) := by decide +kernel
theorem dX5_hide_68 : decode cX5_hide 68 = .ok (.ireturn, 1) := by decide +kernel
set_option maxRecDepth 20000 in
theorem ggX5_whyNotAsk_X5_areSides : GoodIn wsX5_whyNotAsk wsX5_areSides := goodIn_r _ [6, 1, 7, 8, 5, 9, 10, 11, 12, 13, 14, 15, 16, 17, 18, 19, 20, 21, 22, 23] (by decide +kernel) (by decide +kernel)
set_option maxRecDepth 20000 in
theorem gX5_whyNotAsk_X5_areSides : GoodIn wsX5_whyNotAsk (wsV RX5 69 RX5 yX5_areSides wsX5_areSides) := goodIn_app (goodIn_of _ (by decide +kernel)) ggX5_whyNotAsk_X5_areSides
theorem dX5_whyNotAsk_0 : decode cX5_whyNotAsk 0 = .ok (.aload_n 0, 1) := by decide +kernel
theorem dX5_whyNotAsk_1 : decode cX5_whyNotAsk 1 = .ok (.iload_n 1, 1) := by decide +kernel
theorem dX5_whyNotAsk_2 : decode cX5_whyNotAsk 2 = .ok (.iload_n 2, 1) := by decide +kernel
theorem dX5_whyNotAsk_3 : decode cX5_whyNotAsk 3 = .ok (.invokevirtual 69, 3) := by decide +kernel
theorem dX5_whyNotAsk_6 : decode cX5_whyNotAsk 6 = .ok (.ifCond .ne 7, 3) := by decide +kernel
theorem dX5_whyNotAsk_9 : decode cX5_whyNotAsk 9 = .ok (.iconst 1, 1) := by decide +kernel
theorem dX5_whyNotAsk_10 : decode cX5_whyNotAsk 10 = .ok (.goto 39, 3) := by decide +kernel
theorem dX5_whyNotAsk_13 : decode cX5_whyNotAsk 13 = .ok (.aload_n 0, 1) := by decide +kernel
theorem dX5_whyNotAsk_14 : decode cX5_whyNotAsk 14 = .ok (.getfield 7, 3) := by decide +kernel
theorem dX5_whyNotAsk_17 : decode cX5_whyNotAsk 17 = .ok (.iconst 4, 1) := by decide +kernel
theorem dX5_whyNotAsk_18 : decode cX5_whyNotAsk 18 = .ok (.iaload, 1) := by decide +kernel
theorem dX5_whyNotAsk_19 : decode cX5_whyNotAsk 19 = .ok (.ifCond .lt 25, 3) := by decide +kernel
theorem dX5_whyNotAsk_22 : decode cX5_whyNotAsk 22 = .ok (.aload_n 0, 1) := by decide +kernel
theorem dX5_whyNotAsk_23 : decode cX5_whyNotAsk 23 = .ok (.getfield 7, 3) := by decide +kernel
theorem dX5_whyNotAsk_26 : decode cX5_whyNotAsk 26 = .ok (.iconst 2, 1) := by decide +kernel
theorem dX5_whyNotAsk_27 : decode cX5_whyNotAsk 27 = .ok (.iaload, 1) := by decide +kernel
theorem dX5_whyNotAsk_28 : decode cX5_whyNotAsk 28 = .ok (.bipush 40, 2) := by decide +kernel
theorem dX5_whyNotAsk_30 : decode cX5_whyNotAsk 30 = .ok (.if_icmp .eq 14, 3) := by decide +kernel
theorem dX5_whyNotAsk_33 : decode cX5_whyNotAsk 33 = .ok (.aload_n 0, 1) := by decide +kernel
theorem dX5_whyNotAsk_34 : decode cX5_whyNotAsk 34 = .ok (.getfield 7, 3) := by decide +kernel
theorem dX5_whyNotAsk_37 : decode cX5_whyNotAsk 37 = .ok (.iconst 5, 1) := by decide +kernel
theorem dX5_whyNotAsk_38 : decode cX5_whyNotAsk 38 = .ok (.iaload, 1) := by decide +kernel
theorem dX5_whyNotAsk_39 : decode cX5_whyNotAsk 39 = .ok (.bipush 30, 2) := by decide +kernel
theorem dX5_whyNotAsk_41 : decode cX5_whyNotAsk 41 = .ok (.if_icmp .ne 7, 3) := by decide +kernel
theorem dX5_whyNotAsk_44 : decode cX5_whyNotAsk 44 = .ok (.iconst 2, 1) := by decide +kernel
theorem dX5_whyNotAsk_45 : decode cX5_whyNotAsk 45 = .ok (.goto 4, 3) := by decide +kernel
theorem dX5_whyNotAsk_48 : decode cX5_whyNotAsk 48 = .ok (.iconst 0, 1) := by decide +kernel
theorem dX5_whyNotAsk_49 : decode cX5_whyNotAsk 49 = .ok (.ireturn, 1) := by decide +kernel
set_option maxRecDepth 20000 in
theorem ggX5_asks_X5_truth : GoodIn wsX5_asks wsX5_truth := goodIn_r _ [5] (by decide +kernel) (by decide +kernel)
set_option maxRecDepth 20000 in
theorem gX5_asks_X5_truth : GoodIn wsX5_asks (va_wsS RX5 65 yX5_truth wsX5_truth) := goodIn_app (goodIn_of _ (by decide +kernel)) ggX5_asks_X5_truth
set_option maxRecDepth 20000 in
theorem ggX5_asks_X5_lays : GoodIn wsX5_asks wsX5_lays := goodIn_r _ [9, 1, 10, 11, 12, 4, 13, 2, 3, 5, 14, 15, 16, 17, 18, 19, 20, 21, 22, 23, 24] (by decide +kernel) (by decide +kernel)
set_option maxRecDepth 20000 in
theorem gX5_asks_X5_lays : GoodIn wsX5_asks (wsV RX5 76 RX5 yX5_lays wsX5_lays) := goodIn_app (goodIn_of _ (by decide +kernel)) ggX5_asks_X5_lays
theorem dX5_asks_0 : decode cX5_asks 0 = .ok (.aload_n 0, 1) := by decide +kernel
theorem dX5_asks_1 : decode cX5_asks 1 = .ok (.getfield 7, 3) := by decide +kernel
theorem dX5_asks_4 : decode cX5_asks 4 = .ok (.bipush 6, 2) := by decide +kernel
theorem dX5_asks_6 : decode cX5_asks 6 = .ok (.iaload, 1) := by decide +kernel
theorem dX5_asks_7 : decode cX5_asks 7 = .ok (.aload_n 0, 1) := by decide +kernel
theorem dX5_asks_8 : decode cX5_asks 8 = .ok (.getfield 7, 3) := by decide +kernel
theorem dX5_asks_11 : decode cX5_asks 11 = .ok (.iconst 5, 1) := by decide +kernel
theorem dX5_asks_12 : decode cX5_asks 12 = .ok (.iaload, 1) := by decide +kernel
theorem dX5_asks_13 : decode cX5_asks 13 = .ok (.ishr, 1) := by decide +kernel
theorem dX5_asks_14 : decode cX5_asks 14 = .ok (.iconst 1, 1) := by decide +kernel
theorem dX5_asks_15 : decode cX5_asks 15 = .ok (.iand, 1) := by decide +kernel
theorem dX5_asks_16 : decode cX5_asks 16 = .ok (.istore_n 3, 1) := by decide +kernel
theorem dX5_asks_17 : decode cX5_asks 17 = .ok (.aload_n 0, 1) := by decide +kernel
theorem dX5_asks_18 : decode cX5_asks 18 = .ok (.getfield 7, 3) := by decide +kernel
theorem dX5_asks_21 : decode cX5_asks 21 = .ok (.iconst 4, 1) := by decide +kernel
theorem dX5_asks_22 : decode cX5_asks 22 = .ok (.iaload, 1) := by decide +kernel
theorem dX5_asks_23 : decode cX5_asks 23 = .ok (.iload_n 1, 1) := by decide +kernel
theorem dX5_asks_24 : decode cX5_asks 24 = .ok (.iload_n 2, 1) := by decide +kernel
theorem dX5_asks_25 : decode cX5_asks 25 = .ok (.invokestatic 65, 3) := by decide +kernel
theorem dX5_asks_28 : decode cX5_asks 28 = .ok (.iload_n 3, 1) := by decide +kernel
theorem dX5_asks_29 : decode cX5_asks 29 = .ok (.iadd, 1) := by decide +kernel
theorem dX5_asks_30 : decode cX5_asks 30 = .ok (.iconst 3, 1) := by decide +kernel
theorem dX5_asks_31 : decode cX5_asks 31 = .ok (.irem, 1) := by decide +kernel
theorem dX5_asks_32 : decode cX5_asks 32 = .ok (.istore 4, 2) := by decide +kernel
theorem dX5_asks_34 : decode cX5_asks 34 = .ok (.aload_n 0, 1) := by decide +kernel
theorem dX5_asks_35 : decode cX5_asks 35 = .ok (.getfield 7, 3) := by decide +kernel
theorem dX5_asks_38 : decode cX5_asks 38 = .ok (.iconst 5, 1) := by decide +kernel
theorem dX5_asks_39 : decode cX5_asks 39 = .ok (.dup2, 1) := by decide +kernel
theorem dX5_asks_40 : decode cX5_asks 40 = .ok (.iaload, 1) := by decide +kernel
theorem dX5_asks_41 : decode cX5_asks 41 = .ok (.iconst 1, 1) := by decide +kernel
theorem dX5_asks_42 : decode cX5_asks 42 = .ok (.iadd, 1) := by decide +kernel
theorem dX5_asks_43 : decode cX5_asks 43 = .ok (.iastore, 1) := by decide +kernel
theorem dX5_asks_44 : decode cX5_asks 44 = .ok (.aload_n 0, 1) := by decide +kernel
theorem dX5_asks_45 : decode cX5_asks 45 = .ok (.iload_n 1, 1) := by decide +kernel
theorem dX5_asks_46 : decode cX5_asks 46 = .ok (.iload_n 2, 1) := by decide +kernel
theorem dX5_asks_47 : decode cX5_asks 47 = .ok (.iload 4, 2) := by decide +kernel
theorem dX5_asks_49 : decode cX5_asks 49 = .ok (.invokevirtual 76, 3) := by decide +kernel
theorem dX5_asks_52 : decode cX5_asks 52 = .ok (.iload 4, 2) := by decide +kernel
theorem dX5_asks_54 : decode cX5_asks 54 = .ok (.ireturn, 1) := by decide +kernel
set_option maxRecDepth 20000 in
theorem ggX5_ask_X5_whyNotAsk : GoodIn wsX5_ask wsX5_whyNotAsk := goodIn_r _ [5, 6, 7, 8, 9, 4, 10, 11, 12, 13, 14, 15, 16, 52, 53, 54, 55, 56, 57, 58, 59, 60, 61, 62] (by decide +kernel) (by decide +kernel)
set_option maxRecDepth 20000 in
theorem gX5_ask_X5_whyNotAsk : GoodIn wsX5_ask (wsV RX5 84 RX5 yX5_whyNotAsk wsX5_whyNotAsk) := goodIn_app (goodIn_of _ (by decide +kernel)) ggX5_ask_X5_whyNotAsk
set_option maxRecDepth 20000 in
theorem ggX5_ask_X5_fails : GoodIn wsX5_ask wsX5_fails := goodIn_r _ [20, 21, 52, 53, 54, 55, 56, 57, 58, 59, 60, 61, 62] (by decide +kernel) (by decide +kernel)
set_option maxRecDepth 20000 in
theorem gX5_ask_X5_fails : GoodIn wsX5_ask (wsV RX5 53 RX5 yX5_fails wsX5_fails) := goodIn_app (goodIn_of _ (by decide +kernel)) ggX5_ask_X5_fails
set_option maxRecDepth 20000 in
theorem ggX5_ask_X5_begins : GoodIn wsX5_ask wsX5_begins := goodIn_r _ [25, 26, 6, 52, 53, 54, 55, 56, 57, 58, 59, 60, 61, 62] (by decide +kernel) (by decide +kernel)
set_option maxRecDepth 20000 in
theorem gX5_ask_X5_begins : GoodIn wsX5_ask (wsV RX5 56 RX5 yX5_begins wsX5_begins) := goodIn_app (goodIn_of _ (by decide +kernel)) ggX5_ask_X5_begins
set_option maxRecDepth 20000 in
theorem ggX5_ask_X5_asks : GoodIn wsX5_ask wsX5_asks := goodIn_r _ [30, 6, 31, 32, 4, 33, 34, 35, 36, 37, 38, 39, 40, 41, 52, 53, 54, 55, 56, 57, 58, 59, 60, 61, 62] (by decide +kernel) (by decide +kernel)
set_option maxRecDepth 20000 in
theorem gX5_ask_X5_asks : GoodIn wsX5_ask (wsV RX5 88 RX5 yX5_asks wsX5_asks) := goodIn_app (goodIn_of _ (by decide +kernel)) ggX5_ask_X5_asks
set_option maxRecDepth 20000 in
theorem ggX5_ask_X5_saved : GoodIn wsX5_ask wsX5_saved := goodIn_r _ [45, 46, 47, 26, 48, 49, 50, 4, 51, 21, 52, 53, 54, 55, 56, 57, 58, 59, 60, 61, 62] (by decide +kernel) (by decide +kernel)
set_option maxRecDepth 20000 in
theorem gX5_ask_X5_saved : GoodIn wsX5_ask (wsV RX5 59 RX5 yX5_saved wsX5_saved) := goodIn_app (goodIn_of _ (by decide +kernel)) ggX5_ask_X5_saved
theorem dX5_ask_0 : decode cX5_ask 0 = .ok (.aload_n 0, 1) := by decide +kernel
theorem dX5_ask_1 : decode cX5_ask 1 = .ok (.iload_n 1, 1) := by decide +kernel
theorem dX5_ask_2 : decode cX5_ask 2 = .ok (.iload_n 2, 1) := by decide +kernel
theorem dX5_ask_3 : decode cX5_ask 3 = .ok (.invokevirtual 84, 3) := by decide +kernel
theorem dX5_ask_6 : decode cX5_ask 6 = .ok (.istore_n 3, 1) := by decide +kernel
theorem dX5_ask_7 : decode cX5_ask 7 = .ok (.iload_n 3, 1) := by decide +kernel
theorem dX5_ask_8 : decode cX5_ask 8 = .ok (.ifCond .le 9, 3) := by decide +kernel
theorem dX5_ask_11 : decode cX5_ask 11 = .ok (.aload_n 0, 1) := by decide +kernel
theorem dX5_ask_12 : decode cX5_ask 12 = .ok (.iload_n 3, 1) := by decide +kernel
theorem dX5_ask_13 : decode cX5_ask 13 = .ok (.invokevirtual 53, 3) := by decide +kernel
theorem dX5_ask_16 : decode cX5_ask 16 = .ok (.ireturn, 1) := by decide +kernel
theorem dX5_ask_17 : decode cX5_ask 17 = .ok (.aload_n 0, 1) := by decide +kernel
theorem dX5_ask_18 : decode cX5_ask 18 = .ok (.invokevirtual 56, 3) := by decide +kernel
theorem dX5_ask_21 : decode cX5_ask 21 = .ok (.aload_n 0, 1) := by decide +kernel
theorem dX5_ask_22 : decode cX5_ask 22 = .ok (.aload_n 0, 1) := by decide +kernel
theorem dX5_ask_23 : decode cX5_ask 23 = .ok (.iload_n 1, 1) := by decide +kernel
theorem dX5_ask_24 : decode cX5_ask 24 = .ok (.iload_n 2, 1) := by decide +kernel
theorem dX5_ask_25 : decode cX5_ask 25 = .ok (.invokevirtual 88, 3) := by decide +kernel
theorem dX5_ask_28 : decode cX5_ask 28 = .ok (.invokevirtual 59, 3) := by decide +kernel
theorem dX5_ask_31 : decode cX5_ask 31 = .ok (.ireturn, 1) := by decide +kernel
set_option maxRecDepth 20000 in
theorem ggX5_whyNotAdd_X5_areSides : GoodIn wsX5_whyNotAdd wsX5_areSides := goodIn_r _ [6, 1, 7, 8, 5, 9, 10, 11, 12, 13, 14, 15, 16, 17, 18, 19, 20, 21, 22, 23] (by decide +kernel) (by decide +kernel)
set_option maxRecDepth 20000 in
theorem gX5_whyNotAdd_X5_areSides : GoodIn wsX5_whyNotAdd (wsV RX5 69 RX5 yX5_areSides wsX5_areSides) := goodIn_app (goodIn_of _ (by decide +kernel)) ggX5_whyNotAdd_X5_areSides
theorem dX5_whyNotAdd_0 : decode cX5_whyNotAdd 0 = .ok (.aload_n 0, 1) := by decide +kernel
theorem dX5_whyNotAdd_1 : decode cX5_whyNotAdd 1 = .ok (.iload_n 1, 1) := by decide +kernel
theorem dX5_whyNotAdd_2 : decode cX5_whyNotAdd 2 = .ok (.iload_n 2, 1) := by decide +kernel
theorem dX5_whyNotAdd_3 : decode cX5_whyNotAdd 3 = .ok (.invokevirtual 69, 3) := by decide +kernel
theorem dX5_whyNotAdd_6 : decode cX5_whyNotAdd 6 = .ok (.ifCond .ne 7, 3) := by decide +kernel
theorem dX5_whyNotAdd_9 : decode cX5_whyNotAdd 9 = .ok (.iconst 1, 1) := by decide +kernel
theorem dX5_whyNotAdd_10 : decode cX5_whyNotAdd 10 = .ok (.goto 19, 3) := by decide +kernel
theorem dX5_whyNotAdd_13 : decode cX5_whyNotAdd 13 = .ok (.aload_n 0, 1) := by decide +kernel
theorem dX5_whyNotAdd_14 : decode cX5_whyNotAdd 14 = .ok (.getfield 7, 3) := by decide +kernel
theorem dX5_whyNotAdd_17 : decode cX5_whyNotAdd 17 = .ok (.iconst 3, 1) := by decide +kernel
theorem dX5_whyNotAdd_18 : decode cX5_whyNotAdd 18 = .ok (.iaload, 1) := by decide +kernel
theorem dX5_whyNotAdd_19 : decode cX5_whyNotAdd 19 = .ok (.bipush 8, 2) := by decide +kernel
theorem dX5_whyNotAdd_21 : decode cX5_whyNotAdd 21 = .ok (.if_icmp .ne 7, 3) := by decide +kernel
theorem dX5_whyNotAdd_24 : decode cX5_whyNotAdd 24 = .ok (.iconst 2, 1) := by decide +kernel
theorem dX5_whyNotAdd_25 : decode cX5_whyNotAdd 25 = .ok (.goto 4, 3) := by decide +kernel
theorem dX5_whyNotAdd_28 : decode cX5_whyNotAdd 28 = .ok (.iconst 0, 1) := by decide +kernel
theorem dX5_whyNotAdd_29 : decode cX5_whyNotAdd 29 = .ok (.ireturn, 1) := by decide +kernel
theorem dX5_adds_0 : decode cX5_adds 0 = .ok (.aload_n 0, 1) := by decide +kernel
theorem dX5_adds_1 : decode cX5_adds 1 = .ok (.getfield 7, 3) := by decide +kernel
theorem dX5_adds_4 : decode cX5_adds 4 = .ok (.bipush 127, 2) := by decide +kernel
theorem dX5_adds_6 : decode cX5_adds 6 = .ok (.iconst 2, 1) := by decide +kernel
theorem dX5_adds_7 : decode cX5_adds 7 = .ok (.aload_n 0, 1) := by decide +kernel
theorem dX5_adds_8 : decode cX5_adds 8 = .ok (.getfield 7, 3) := by decide +kernel
theorem dX5_adds_11 : decode cX5_adds 11 = .ok (.iconst 3, 1) := by decide +kernel
theorem dX5_adds_12 : decode cX5_adds 12 = .ok (.iaload, 1) := by decide +kernel
theorem dX5_adds_13 : decode cX5_adds 13 = .ok (.imul, 1) := by decide +kernel
theorem dX5_adds_14 : decode cX5_adds 14 = .ok (.iadd, 1) := by decide +kernel
theorem dX5_adds_15 : decode cX5_adds 15 = .ok (.iload_n 1, 1) := by decide +kernel
theorem dX5_adds_16 : decode cX5_adds 16 = .ok (.iastore, 1) := by decide +kernel
theorem dX5_adds_17 : decode cX5_adds 17 = .ok (.aload_n 0, 1) := by decide +kernel
theorem dX5_adds_18 : decode cX5_adds 18 = .ok (.getfield 7, 3) := by decide +kernel
theorem dX5_adds_21 : decode cX5_adds 21 = .ok (.bipush 127, 2) := by decide +kernel
theorem dX5_adds_23 : decode cX5_adds 23 = .ok (.iconst 2, 1) := by decide +kernel
theorem dX5_adds_24 : decode cX5_adds 24 = .ok (.aload_n 0, 1) := by decide +kernel
theorem dX5_adds_25 : decode cX5_adds 25 = .ok (.getfield 7, 3) := by decide +kernel
theorem dX5_adds_28 : decode cX5_adds 28 = .ok (.iconst 3, 1) := by decide +kernel
theorem dX5_adds_29 : decode cX5_adds 29 = .ok (.iaload, 1) := by decide +kernel
theorem dX5_adds_30 : decode cX5_adds 30 = .ok (.imul, 1) := by decide +kernel
theorem dX5_adds_31 : decode cX5_adds 31 = .ok (.iadd, 1) := by decide +kernel
theorem dX5_adds_32 : decode cX5_adds 32 = .ok (.iconst 1, 1) := by decide +kernel
theorem dX5_adds_33 : decode cX5_adds 33 = .ok (.iadd, 1) := by decide +kernel
theorem dX5_adds_34 : decode cX5_adds 34 = .ok (.iload_n 2, 1) := by decide +kernel
theorem dX5_adds_35 : decode cX5_adds 35 = .ok (.iastore, 1) := by decide +kernel
theorem dX5_adds_36 : decode cX5_adds 36 = .ok (.aload_n 0, 1) := by decide +kernel
theorem dX5_adds_37 : decode cX5_adds 37 = .ok (.getfield 7, 3) := by decide +kernel
theorem dX5_adds_40 : decode cX5_adds 40 = .ok (.iconst 3, 1) := by decide +kernel
theorem dX5_adds_41 : decode cX5_adds 41 = .ok (.dup2, 1) := by decide +kernel
theorem dX5_adds_42 : decode cX5_adds 42 = .ok (.iaload, 1) := by decide +kernel
theorem dX5_adds_43 : decode cX5_adds 43 = .ok (.iconst 1, 1) := by decide +kernel
theorem dX5_adds_44 : decode cX5_adds 44 = .ok (.iadd, 1) := by decide +kernel
theorem dX5_adds_45 : decode cX5_adds 45 = .ok (.iastore, 1) := by decide +kernel
theorem dX5_adds_46 : decode cX5_adds 46 = .ok (.aload_n 0, 1) := by decide +kernel
theorem dX5_adds_47 : decode cX5_adds 47 = .ok (.getfield 7, 3) := by decide +kernel
theorem dX5_adds_50 : decode cX5_adds 50 = .ok (.iconst 3, 1) := by decide +kernel
theorem dX5_adds_51 : decode cX5_adds 51 = .ok (.iaload, 1) := by decide +kernel
theorem dX5_adds_52 : decode cX5_adds 52 = .ok (.iconst 1, 1) := by decide +kernel
theorem dX5_adds_53 : decode cX5_adds 53 = .ok (.isub, 1) := by decide +kernel
theorem dX5_adds_54 : decode cX5_adds 54 = .ok (.ireturn, 1) := by decide +kernel
set_option maxRecDepth 20000 in
theorem ggX5_add_X5_whyNotAdd : GoodIn wsX5_add wsX5_whyNotAdd := goodIn_r _ [5, 6, 7, 8, 9, 4, 10, 11, 12, 13, 14, 15, 16, 41, 42, 43, 44, 45, 46, 47, 48, 49, 50, 51] (by decide +kernel) (by decide +kernel)
set_option maxRecDepth 20000 in
theorem gX5_add_X5_whyNotAdd : GoodIn wsX5_add (wsV RX5 91 RX5 yX5_whyNotAdd wsX5_whyNotAdd) := goodIn_app (goodIn_of _ (by decide +kernel)) ggX5_add_X5_whyNotAdd
set_option maxRecDepth 20000 in
theorem ggX5_add_X5_fails : GoodIn wsX5_add wsX5_fails := goodIn_r _ [20, 21, 41, 42, 43, 44, 45, 46, 47, 48, 49, 50, 51] (by decide +kernel) (by decide +kernel)
set_option maxRecDepth 20000 in
theorem gX5_add_X5_fails : GoodIn wsX5_add (wsV RX5 53 RX5 yX5_fails wsX5_fails) := goodIn_app (goodIn_of _ (by decide +kernel)) ggX5_add_X5_fails
set_option maxRecDepth 20000 in
theorem ggX5_add_X5_begins : GoodIn wsX5_add wsX5_begins := goodIn_r _ [25, 26, 6, 41, 42, 43, 44, 45, 46, 47, 48, 49, 50, 51] (by decide +kernel) (by decide +kernel)
set_option maxRecDepth 20000 in
theorem gX5_add_X5_begins : GoodIn wsX5_add (wsV RX5 56 RX5 yX5_begins wsX5_begins) := goodIn_app (goodIn_of _ (by decide +kernel)) ggX5_add_X5_begins
set_option maxRecDepth 20000 in
theorem ggX5_add_X5_adds : GoodIn wsX5_add wsX5_adds := goodIn_r _ [30, 6, 41, 42, 43, 44, 45, 46, 47, 48, 49, 50, 51] (by decide +kernel) (by decide +kernel)
set_option maxRecDepth 20000 in
theorem gX5_add_X5_adds : GoodIn wsX5_add (wsV RX5 94 RX5 yX5_adds wsX5_adds) := goodIn_app (goodIn_of _ (by decide +kernel)) ggX5_add_X5_adds
set_option maxRecDepth 20000 in
theorem ggX5_add_X5_saved : GoodIn wsX5_add wsX5_saved := goodIn_r _ [34, 35, 36, 26, 37, 38, 39, 4, 40, 21, 41, 42, 43, 44, 45, 46, 47, 48, 49, 50, 51] (by decide +kernel) (by decide +kernel)
set_option maxRecDepth 20000 in
theorem gX5_add_X5_saved : GoodIn wsX5_add (wsV RX5 59 RX5 yX5_saved wsX5_saved) := goodIn_app (goodIn_of _ (by decide +kernel)) ggX5_add_X5_saved
theorem dX5_add_0 : decode cX5_add 0 = .ok (.aload_n 0, 1) := by decide +kernel
theorem dX5_add_1 : decode cX5_add 1 = .ok (.iload_n 1, 1) := by decide +kernel
theorem dX5_add_2 : decode cX5_add 2 = .ok (.iload_n 2, 1) := by decide +kernel
theorem dX5_add_3 : decode cX5_add 3 = .ok (.invokevirtual 91, 3) := by decide +kernel
theorem dX5_add_6 : decode cX5_add 6 = .ok (.istore_n 3, 1) := by decide +kernel
theorem dX5_add_7 : decode cX5_add 7 = .ok (.iload_n 3, 1) := by decide +kernel
theorem dX5_add_8 : decode cX5_add 8 = .ok (.ifCond .le 9, 3) := by decide +kernel
theorem dX5_add_11 : decode cX5_add 11 = .ok (.aload_n 0, 1) := by decide +kernel
theorem dX5_add_12 : decode cX5_add 12 = .ok (.iload_n 3, 1) := by decide +kernel
theorem dX5_add_13 : decode cX5_add 13 = .ok (.invokevirtual 53, 3) := by decide +kernel
theorem dX5_add_16 : decode cX5_add 16 = .ok (.ireturn, 1) := by decide +kernel
theorem dX5_add_17 : decode cX5_add 17 = .ok (.aload_n 0, 1) := by decide +kernel
theorem dX5_add_18 : decode cX5_add 18 = .ok (.invokevirtual 56, 3) := by decide +kernel
theorem dX5_add_21 : decode cX5_add 21 = .ok (.aload_n 0, 1) := by decide +kernel
theorem dX5_add_22 : decode cX5_add 22 = .ok (.aload_n 0, 1) := by decide +kernel
theorem dX5_add_23 : decode cX5_add 23 = .ok (.iload_n 1, 1) := by decide +kernel
theorem dX5_add_24 : decode cX5_add 24 = .ok (.iload_n 2, 1) := by decide +kernel
theorem dX5_add_25 : decode cX5_add 25 = .ok (.invokevirtual 94, 3) := by decide +kernel
theorem dX5_add_28 : decode cX5_add 28 = .ok (.invokevirtual 59, 3) := by decide +kernel
theorem dX5_add_31 : decode cX5_add 31 = .ok (.ireturn, 1) := by decide +kernel
set_option maxRecDepth 20000 in
theorem ggX5_removeLast_X5_fails : GoodIn wsX5_removeLast wsX5_fails := goodIn_r _ [6, 7, 23, 24, 25, 26, 27, 28, 29, 30, 31, 32, 33] (by decide +kernel) (by decide +kernel)
set_option maxRecDepth 20000 in
theorem gX5_removeLast_X5_fails : GoodIn wsX5_removeLast (wsV RX5 53 RX5 yX5_fails wsX5_fails) := goodIn_app (goodIn_of _ (by decide +kernel)) ggX5_removeLast_X5_fails
set_option maxRecDepth 20000 in
theorem ggX5_removeLast_X5_begins : GoodIn wsX5_removeLast wsX5_begins := goodIn_r _ [11, 12, 1, 23, 24, 25, 26, 27, 28, 29, 30, 31, 32, 33] (by decide +kernel) (by decide +kernel)
set_option maxRecDepth 20000 in
theorem gX5_removeLast_X5_begins : GoodIn wsX5_removeLast (wsV RX5 56 RX5 yX5_begins wsX5_begins) := goodIn_app (goodIn_of _ (by decide +kernel)) ggX5_removeLast_X5_begins
set_option maxRecDepth 20000 in
theorem ggX5_removeLast_X5_saved : GoodIn wsX5_removeLast wsX5_saved := goodIn_r _ [16, 17, 18, 12, 19, 20, 21, 5, 22, 7, 23, 24, 25, 26, 27, 28, 29, 30, 31, 32, 33] (by decide +kernel) (by decide +kernel)
set_option maxRecDepth 20000 in
theorem gX5_removeLast_X5_saved : GoodIn wsX5_removeLast (wsV RX5 59 RX5 yX5_saved wsX5_saved) := goodIn_app (goodIn_of _ (by decide +kernel)) ggX5_removeLast_X5_saved
theorem dX5_removeLast_0 : decode cX5_removeLast 0 = .ok (.aload_n 0, 1) := by decide +kernel
theorem dX5_removeLast_1 : decode cX5_removeLast 1 = .ok (.getfield 7, 3) := by decide +kernel
theorem dX5_removeLast_4 : decode cX5_removeLast 4 = .ok (.iconst 3, 1) := by decide +kernel
theorem dX5_removeLast_5 : decode cX5_removeLast 5 = .ok (.iaload, 1) := by decide +kernel
theorem dX5_removeLast_6 : decode cX5_removeLast 6 = .ok (.ifCond .ne 9, 3) := by decide +kernel
theorem dX5_removeLast_9 : decode cX5_removeLast 9 = .ok (.aload_n 0, 1) := by decide +kernel
theorem dX5_removeLast_10 : decode cX5_removeLast 10 = .ok (.iconst 1, 1) := by decide +kernel
theorem dX5_removeLast_11 : decode cX5_removeLast 11 = .ok (.invokevirtual 53, 3) := by decide +kernel
theorem dX5_removeLast_14 : decode cX5_removeLast 14 = .ok (.ireturn, 1) := by decide +kernel
theorem dX5_removeLast_15 : decode cX5_removeLast 15 = .ok (.aload_n 0, 1) := by decide +kernel
theorem dX5_removeLast_16 : decode cX5_removeLast 16 = .ok (.invokevirtual 56, 3) := by decide +kernel
theorem dX5_removeLast_19 : decode cX5_removeLast 19 = .ok (.aload_n 0, 1) := by decide +kernel
theorem dX5_removeLast_20 : decode cX5_removeLast 20 = .ok (.getfield 7, 3) := by decide +kernel
theorem dX5_removeLast_23 : decode cX5_removeLast 23 = .ok (.iconst 3, 1) := by decide +kernel
theorem dX5_removeLast_24 : decode cX5_removeLast 24 = .ok (.dup2, 1) := by decide +kernel
theorem dX5_removeLast_25 : decode cX5_removeLast 25 = .ok (.iaload, 1) := by decide +kernel
theorem dX5_removeLast_26 : decode cX5_removeLast 26 = .ok (.iconst 1, 1) := by decide +kernel
theorem dX5_removeLast_27 : decode cX5_removeLast 27 = .ok (.isub, 1) := by decide +kernel
theorem dX5_removeLast_28 : decode cX5_removeLast 28 = .ok (.iastore, 1) := by decide +kernel
theorem dX5_removeLast_29 : decode cX5_removeLast 29 = .ok (.aload_n 0, 1) := by decide +kernel
theorem dX5_removeLast_30 : decode cX5_removeLast 30 = .ok (.aload_n 0, 1) := by decide +kernel
theorem dX5_removeLast_31 : decode cX5_removeLast 31 = .ok (.getfield 7, 3) := by decide +kernel
theorem dX5_removeLast_34 : decode cX5_removeLast 34 = .ok (.iconst 3, 1) := by decide +kernel
theorem dX5_removeLast_35 : decode cX5_removeLast 35 = .ok (.iaload, 1) := by decide +kernel
theorem dX5_removeLast_36 : decode cX5_removeLast 36 = .ok (.invokevirtual 59, 3) := by decide +kernel
theorem dX5_removeLast_39 : decode cX5_removeLast 39 = .ok (.ireturn, 1) := by decide +kernel
set_option maxRecDepth 20000 in
theorem ggX5_lies_X5_isCase : GoodIn wsX5_lies wsX5_isCase := goodIn_r _ [6, 7, 8, 9, 5, 10, 1, 11, 12, 13, 23, 24, 25, 26, 27, 28, 29, 30, 31, 32, 33] (by decide +kernel) (by decide +kernel)
set_option maxRecDepth 20000 in
theorem gX5_lies_X5_isCase : GoodIn wsX5_lies (wsV RX5 80 RX5 yX5_isCase wsX5_isCase) := goodIn_app (goodIn_of _ (by decide +kernel)) ggX5_lies_X5_isCase
set_option maxRecDepth 20000 in
theorem ggX5_lies_X5_tells : GoodIn wsX5_lies wsX5_tells := goodIn_r _ [17, 18, 23, 24, 25, 26, 27, 28, 29, 30, 31, 32, 33] (by decide +kernel) (by decide +kernel)
set_option maxRecDepth 20000 in
theorem gX5_lies_X5_tells : GoodIn wsX5_lies (wsV RX5 34 RX5 yX5_tells wsX5_tells) := goodIn_app (goodIn_of _ (by decide +kernel)) ggX5_lies_X5_tells
set_option maxRecDepth 20000 in
theorem ggX5_lies_X5_fails : GoodIn wsX5_lies wsX5_fails := goodIn_r _ [22, 18, 23, 24, 25, 26, 27, 28, 29, 30, 31, 32, 33] (by decide +kernel) (by decide +kernel)
set_option maxRecDepth 20000 in
theorem gX5_lies_X5_fails : GoodIn wsX5_lies (wsV RX5 53 RX5 yX5_fails wsX5_fails) := goodIn_app (goodIn_of _ (by decide +kernel)) ggX5_lies_X5_fails
theorem dX5_lies_0 : decode cX5_lies 0 = .ok (.aload_n 0, 1) := by decide +kernel
theorem dX5_lies_1 : decode cX5_lies 1 = .ok (.iload_n 1, 1) := by decide +kernel
theorem dX5_lies_2 : decode cX5_lies 2 = .ok (.invokevirtual 80, 3) := by decide +kernel
theorem dX5_lies_5 : decode cX5_lies 5 = .ok (.ifCond .eq 20, 3) := by decide +kernel
theorem dX5_lies_8 : decode cX5_lies 8 = .ok (.aload_n 0, 1) := by decide +kernel
theorem dX5_lies_9 : decode cX5_lies 9 = .ok (.aload_n 0, 1) := by decide +kernel
theorem dX5_lies_10 : decode cX5_lies 10 = .ok (.getfield 7, 3) := by decide +kernel
theorem dX5_lies_13 : decode cX5_lies 13 = .ok (.sipush 143, 3) := by decide +kernel
theorem dX5_lies_16 : decode cX5_lies 16 = .ok (.iload_n 1, 1) := by decide +kernel
theorem dX5_lies_17 : decode cX5_lies 17 = .ok (.iadd, 1) := by decide +kernel
theorem dX5_lies_18 : decode cX5_lies 18 = .ok (.iaload, 1) := by decide +kernel
theorem dX5_lies_19 : decode cX5_lies 19 = .ok (.invokevirtual 34, 3) := by decide +kernel
theorem dX5_lies_22 : decode cX5_lies 22 = .ok (.goto 8, 3) := by decide +kernel
theorem dX5_lies_25 : decode cX5_lies 25 = .ok (.aload_n 0, 1) := by decide +kernel
theorem dX5_lies_26 : decode cX5_lies 26 = .ok (.iconst 1, 1) := by decide +kernel
theorem dX5_lies_27 : decode cX5_lies 27 = .ok (.invokevirtual 53, 3) := by decide +kernel
theorem dX5_lies_30 : decode cX5_lies 30 = .ok (.ireturn, 1) := by decide +kernel
set_option maxRecDepth 20000 in
theorem ggX5_answer_X5_isCase : GoodIn wsX5_answer wsX5_isCase := goodIn_r _ [5, 6, 7, 8, 4, 9, 10, 11, 12, 13, 33, 34, 35, 36, 37, 38, 39, 40, 41, 42, 43] (by decide +kernel) (by decide +kernel)
set_option maxRecDepth 20000 in
theorem gX5_answer_X5_isCase : GoodIn wsX5_answer (wsV RX5 80 RX5 yX5_isCase wsX5_isCase) := goodIn_app (goodIn_of _ (by decide +kernel)) ggX5_answer_X5_isCase
set_option maxRecDepth 20000 in
theorem ggX5_answer_X5_fails : GoodIn wsX5_answer wsX5_fails := goodIn_r _ [17, 18, 33, 34, 35, 36, 37, 38, 39, 40, 41, 42, 43] (by decide +kernel) (by decide +kernel)
set_option maxRecDepth 20000 in
theorem gX5_answer_X5_fails : GoodIn wsX5_answer (wsV RX5 53 RX5 yX5_fails wsX5_fails) := goodIn_app (goodIn_of _ (by decide +kernel)) ggX5_answer_X5_fails
set_option maxRecDepth 20000 in
theorem ggX5_answer_X5_areSides : GoodIn wsX5_answer wsX5_areSides := goodIn_r _ [22, 10, 11, 12, 4, 13, 23, 24, 25, 33, 34, 35, 36, 37, 38, 39, 40, 41, 42, 43] (by decide +kernel) (by decide +kernel)
set_option maxRecDepth 20000 in
theorem gX5_answer_X5_areSides : GoodIn wsX5_answer (wsV RX5 69 RX5 yX5_areSides wsX5_areSides) := goodIn_app (goodIn_of _ (by decide +kernel)) ggX5_answer_X5_areSides
set_option maxRecDepth 20000 in
theorem ggX5_answer_X5_truth : GoodIn wsX5_answer wsX5_truth := goodIn_r _ [28] (by decide +kernel) (by decide +kernel)
set_option maxRecDepth 20000 in
theorem gX5_answer_X5_truth : GoodIn wsX5_answer (va_wsS RX5 65 yX5_truth wsX5_truth) := goodIn_app (goodIn_of _ (by decide +kernel)) ggX5_answer_X5_truth
set_option maxRecDepth 20000 in
theorem ggX5_answer_X5_tells : GoodIn wsX5_answer wsX5_tells := goodIn_r _ [32, 18, 33, 34, 35, 36, 37, 38, 39, 40, 41, 42, 43] (by decide +kernel) (by decide +kernel)
set_option maxRecDepth 20000 in
theorem gX5_answer_X5_tells : GoodIn wsX5_answer (wsV RX5 34 RX5 yX5_tells wsX5_tells) := goodIn_app (goodIn_of _ (by decide +kernel)) ggX5_answer_X5_tells
theorem dX5_answer_0 : decode cX5_answer 0 = .ok (.aload_n 0, 1) := by decide +kernel
theorem dX5_answer_1 : decode cX5_answer 1 = .ok (.iload_n 1, 1) := by decide +kernel
theorem dX5_answer_2 : decode cX5_answer 2 = .ok (.invokevirtual 80, 3) := by decide +kernel
theorem dX5_answer_5 : decode cX5_answer 5 = .ok (.ifCond .ne 9, 3) := by decide +kernel
theorem dX5_answer_8 : decode cX5_answer 8 = .ok (.aload_n 0, 1) := by decide +kernel
theorem dX5_answer_9 : decode cX5_answer 9 = .ok (.iconst 1, 1) := by decide +kernel
theorem dX5_answer_10 : decode cX5_answer 10 = .ok (.invokevirtual 53, 3) := by decide +kernel
theorem dX5_answer_13 : decode cX5_answer 13 = .ok (.ireturn, 1) := by decide +kernel
theorem dX5_answer_14 : decode cX5_answer 14 = .ok (.aload_n 0, 1) := by decide +kernel
theorem dX5_answer_15 : decode cX5_answer 15 = .ok (.iload_n 2, 1) := by decide +kernel
theorem dX5_answer_16 : decode cX5_answer 16 = .ok (.iload_n 3, 1) := by decide +kernel
theorem dX5_answer_17 : decode cX5_answer 17 = .ok (.invokevirtual 69, 3) := by decide +kernel
theorem dX5_answer_20 : decode cX5_answer 20 = .ok (.ifCond .eq 16, 3) := by decide +kernel
theorem dX5_answer_23 : decode cX5_answer 23 = .ok (.aload_n 0, 1) := by decide +kernel
theorem dX5_answer_24 : decode cX5_answer 24 = .ok (.iload_n 1, 1) := by decide +kernel
theorem dX5_answer_25 : decode cX5_answer 25 = .ok (.iload_n 2, 1) := by decide +kernel
theorem dX5_answer_26 : decode cX5_answer 26 = .ok (.iload_n 3, 1) := by decide +kernel
theorem dX5_answer_27 : decode cX5_answer 27 = .ok (.invokestatic 65, 3) := by decide +kernel
theorem dX5_answer_30 : decode cX5_answer 30 = .ok (.invokevirtual 34, 3) := by decide +kernel
theorem dX5_answer_33 : decode cX5_answer 33 = .ok (.goto 8, 3) := by decide +kernel
theorem dX5_answer_36 : decode cX5_answer 36 = .ok (.aload_n 0, 1) := by decide +kernel
theorem dX5_answer_37 : decode cX5_answer 37 = .ok (.iconst 2, 1) := by decide +kernel
theorem dX5_answer_38 : decode cX5_answer 38 = .ok (.invokevirtual 53, 3) := by decide +kernel
theorem dX5_answer_41 : decode cX5_answer 41 = .ok (.ireturn, 1) := by decide +kernel
set_option maxRecDepth 20000 in
theorem ggX5_leftCase_X5_cases : GoodIn wsX5_leftCase wsX5_cases := goodIn_r _ [5, 6, 20, 21, 22, 23, 24, 25, 26, 27, 28, 29, 30] (by decide +kernel) (by decide +kernel)
set_option maxRecDepth 20000 in
theorem gX5_leftCase_X5_cases : GoodIn wsX5_leftCase (wsV RX5 38 RX5 yX5_cases wsX5_cases) := goodIn_app (goodIn_of _ (by decide +kernel)) ggX5_leftCase_X5_cases
set_option maxRecDepth 20000 in
theorem ggX5_leftCase_X5_isLeft : GoodIn wsX5_leftCase wsX5_isLeft := goodIn_r _ [10, 6, 20, 21, 22, 23, 24, 25, 26, 27, 28, 29, 30] (by decide +kernel) (by decide +kernel)
set_option maxRecDepth 20000 in
theorem gX5_leftCase_X5_isLeft : GoodIn wsX5_leftCase (wsV RX5 49 RX5 yX5_isLeft wsX5_isLeft) := goodIn_app (goodIn_of _ (by decide +kernel)) ggX5_leftCase_X5_isLeft
set_option maxRecDepth 20000 in
theorem ggX5_leftCase_X5_tells : GoodIn wsX5_leftCase wsX5_tells := goodIn_r _ [14, 15, 20, 21, 22, 23, 24, 25, 26, 27, 28, 29, 30] (by decide +kernel) (by decide +kernel)
set_option maxRecDepth 20000 in
theorem gX5_leftCase_X5_tells : GoodIn wsX5_leftCase (wsV RX5 34 RX5 yX5_tells wsX5_tells) := goodIn_app (goodIn_of _ (by decide +kernel)) ggX5_leftCase_X5_tells
set_option maxRecDepth 20000 in
theorem ggX5_leftCase_X5_fails : GoodIn wsX5_leftCase wsX5_fails := goodIn_r _ [19, 15, 20, 21, 22, 23, 24, 25, 26, 27, 28, 29, 30] (by decide +kernel) (by decide +kernel)
set_option maxRecDepth 20000 in
theorem gX5_leftCase_X5_fails : GoodIn wsX5_leftCase (wsV RX5 53 RX5 yX5_fails wsX5_fails) := goodIn_app (goodIn_of _ (by decide +kernel)) ggX5_leftCase_X5_fails
theorem dX5_leftCase_0 : decode cX5_leftCase 0 = .ok (.iload_n 1, 1) := by decide +kernel
theorem dX5_leftCase_1 : decode cX5_leftCase 1 = .ok (.istore_n 2, 1) := by decide +kernel
theorem dX5_leftCase_2 : decode cX5_leftCase 2 = .ok (.iconst 0, 1) := by decide +kernel
theorem dX5_leftCase_3 : decode cX5_leftCase 3 = .ok (.istore_n 3, 1) := by decide +kernel
theorem dX5_leftCase_4 : decode cX5_leftCase 4 = .ok (.iload_n 3, 1) := by decide +kernel
theorem dX5_leftCase_5 : decode cX5_leftCase 5 = .ok (.aload_n 0, 1) := by decide +kernel
theorem dX5_leftCase_6 : decode cX5_leftCase 6 = .ok (.invokevirtual 38, 3) := by decide +kernel
theorem dX5_leftCase_9 : decode cX5_leftCase 9 = .ok (.if_icmp .ge 34, 3) := by decide +kernel
theorem dX5_leftCase_12 : decode cX5_leftCase 12 = .ok (.iload_n 1, 1) := by decide +kernel
theorem dX5_leftCase_13 : decode cX5_leftCase 13 = .ok (.ifCond .lt 30, 3) := by decide +kernel
theorem dX5_leftCase_16 : decode cX5_leftCase 16 = .ok (.aload_n 0, 1) := by decide +kernel
theorem dX5_leftCase_17 : decode cX5_leftCase 17 = .ok (.iload_n 3, 1) := by decide +kernel
theorem dX5_leftCase_18 : decode cX5_leftCase 18 = .ok (.invokevirtual 49, 3) := by decide +kernel
theorem dX5_leftCase_21 : decode cX5_leftCase 21 = .ok (.ifCond .eq 16, 3) := by decide +kernel
theorem dX5_leftCase_24 : decode cX5_leftCase 24 = .ok (.iload_n 2, 1) := by decide +kernel
theorem dX5_leftCase_25 : decode cX5_leftCase 25 = .ok (.ifCond .ne 9, 3) := by decide +kernel
theorem dX5_leftCase_28 : decode cX5_leftCase 28 = .ok (.aload_n 0, 1) := by decide +kernel
theorem dX5_leftCase_29 : decode cX5_leftCase 29 = .ok (.iload_n 3, 1) := by decide +kernel
theorem dX5_leftCase_30 : decode cX5_leftCase 30 = .ok (.invokevirtual 34, 3) := by decide +kernel
theorem dX5_leftCase_33 : decode cX5_leftCase 33 = .ok (.ireturn, 1) := by decide +kernel
theorem dX5_leftCase_34 : decode cX5_leftCase 34 = .ok (.iinc 2 (-1), 3) := by decide +kernel
theorem dX5_leftCase_37 : decode cX5_leftCase 37 = .ok (.iinc 3 1, 3) := by decide +kernel
theorem dX5_leftCase_40 : decode cX5_leftCase 40 = .ok (.goto (-36), 3) := by decide +kernel
theorem dX5_leftCase_43 : decode cX5_leftCase 43 = .ok (.aload_n 0, 1) := by decide +kernel
theorem dX5_leftCase_44 : decode cX5_leftCase 44 = .ok (.iconst 1, 1) := by decide +kernel
theorem dX5_leftCase_45 : decode cX5_leftCase 45 = .ok (.invokevirtual 53, 3) := by decide +kernel
theorem dX5_leftCase_48 : decode cX5_leftCase 48 = .ok (.ireturn, 1) := by decide +kernel
set_option maxRecDepth 20000 in
theorem ggX5_weighing_X5_in : GoodIn wsX5_weighing wsX5_in := goodIn_r _ [5] (by decide +kernel) (by decide +kernel)
set_option maxRecDepth 20000 in
theorem gX5_weighing_X5_in : GoodIn wsX5_weighing (va_wsS RX5 42 yX5_in wsX5_in) := goodIn_app (goodIn_of _ (by decide +kernel)) ggX5_weighing_X5_in
set_option maxRecDepth 20000 in
theorem ggX5_weighing_X5_fails : GoodIn wsX5_weighing wsX5_fails := goodIn_r _ [9, 10, 15, 16, 17, 18, 19, 20, 21, 22, 23, 24, 25] (by decide +kernel) (by decide +kernel)
set_option maxRecDepth 20000 in
theorem gX5_weighing_X5_fails : GoodIn wsX5_weighing (wsV RX5 53 RX5 yX5_fails wsX5_fails) := goodIn_app (goodIn_of _ (by decide +kernel)) ggX5_weighing_X5_fails
set_option maxRecDepth 20000 in
theorem ggX5_weighing_X5_tells : GoodIn wsX5_weighing wsX5_tells := goodIn_r _ [14, 10, 15, 16, 17, 18, 19, 20, 21, 22, 23, 24, 25] (by decide +kernel) (by decide +kernel)
set_option maxRecDepth 20000 in
theorem gX5_weighing_X5_tells : GoodIn wsX5_weighing (wsV RX5 34 RX5 yX5_tells wsX5_tells) := goodIn_app (goodIn_of _ (by decide +kernel)) ggX5_weighing_X5_tells
theorem dX5_weighing_0 : decode cX5_weighing 0 = .ok (.iload_n 1, 1) := by decide +kernel
theorem dX5_weighing_1 : decode cX5_weighing 1 = .ok (.iconst 0, 1) := by decide +kernel
theorem dX5_weighing_2 : decode cX5_weighing 2 = .ok (.aload_n 0, 1) := by decide +kernel
theorem dX5_weighing_3 : decode cX5_weighing 3 = .ok (.getfield 7, 3) := by decide +kernel
theorem dX5_weighing_6 : decode cX5_weighing 6 = .ok (.iconst 2, 1) := by decide +kernel
theorem dX5_weighing_7 : decode cX5_weighing 7 = .ok (.iaload, 1) := by decide +kernel
theorem dX5_weighing_8 : decode cX5_weighing 8 = .ok (.iconst 1, 1) := by decide +kernel
theorem dX5_weighing_9 : decode cX5_weighing 9 = .ok (.isub, 1) := by decide +kernel
theorem dX5_weighing_10 : decode cX5_weighing 10 = .ok (.invokestatic 42, 3) := by decide +kernel
theorem dX5_weighing_13 : decode cX5_weighing 13 = .ok (.ifCond .ne 9, 3) := by decide +kernel
theorem dX5_weighing_16 : decode cX5_weighing 16 = .ok (.aload_n 0, 1) := by decide +kernel
theorem dX5_weighing_17 : decode cX5_weighing 17 = .ok (.iconst 1, 1) := by decide +kernel
theorem dX5_weighing_18 : decode cX5_weighing 18 = .ok (.invokevirtual 53, 3) := by decide +kernel
theorem dX5_weighing_21 : decode cX5_weighing 21 = .ok (.ireturn, 1) := by decide +kernel
theorem dX5_weighing_22 : decode cX5_weighing 22 = .ok (.iload_n 2, 1) := by decide +kernel
theorem dX5_weighing_23 : decode cX5_weighing 23 = .ok (.iconst 0, 1) := by decide +kernel
theorem dX5_weighing_24 : decode cX5_weighing 24 = .ok (.iconst 2, 1) := by decide +kernel
theorem dX5_weighing_25 : decode cX5_weighing 25 = .ok (.invokestatic 42, 3) := by decide +kernel
theorem dX5_weighing_28 : decode cX5_weighing 28 = .ok (.ifCond .eq 23, 3) := by decide +kernel
theorem dX5_weighing_31 : decode cX5_weighing 31 = .ok (.aload_n 0, 1) := by decide +kernel
theorem dX5_weighing_32 : decode cX5_weighing 32 = .ok (.aload_n 0, 1) := by decide +kernel
theorem dX5_weighing_33 : decode cX5_weighing 33 = .ok (.getfield 7, 3) := by decide +kernel
theorem dX5_weighing_36 : decode cX5_weighing 36 = .ok (.bipush 7, 2) := by decide +kernel
theorem dX5_weighing_38 : decode cX5_weighing 38 = .ok (.iconst 3, 1) := by decide +kernel
theorem dX5_weighing_39 : decode cX5_weighing 39 = .ok (.iload_n 1, 1) := by decide +kernel
theorem dX5_weighing_40 : decode cX5_weighing 40 = .ok (.imul, 1) := by decide +kernel
theorem dX5_weighing_41 : decode cX5_weighing 41 = .ok (.iadd, 1) := by decide +kernel
theorem dX5_weighing_42 : decode cX5_weighing 42 = .ok (.iload_n 2, 1) := by decide +kernel
theorem dX5_weighing_43 : decode cX5_weighing 43 = .ok (.iadd, 1) := by decide +kernel
theorem dX5_weighing_44 : decode cX5_weighing 44 = .ok (.iaload, 1) := by decide +kernel
theorem dX5_weighing_45 : decode cX5_weighing 45 = .ok (.invokevirtual 34, 3) := by decide +kernel
theorem dX5_weighing_48 : decode cX5_weighing 48 = .ok (.goto 8, 3) := by decide +kernel
theorem dX5_weighing_51 : decode cX5_weighing 51 = .ok (.aload_n 0, 1) := by decide +kernel
theorem dX5_weighing_52 : decode cX5_weighing 52 = .ok (.iconst 2, 1) := by decide +kernel
theorem dX5_weighing_53 : decode cX5_weighing 53 = .ok (.invokevirtual 53, 3) := by decide +kernel
theorem dX5_weighing_56 : decode cX5_weighing 56 = .ok (.ireturn, 1) := by decide +kernel
set_option maxRecDepth 20000 in
theorem ggX5_falseOnes_X5_cases : GoodIn wsX5_falseOnes wsX5_cases := goodIn_r _ [5, 6, 11, 12, 13, 14, 15, 16, 17, 18, 19, 20, 21] (by decide +kernel) (by decide +kernel)
set_option maxRecDepth 20000 in
theorem gX5_falseOnes_X5_cases : GoodIn wsX5_falseOnes (wsV RX5 38 RX5 yX5_cases wsX5_cases) := goodIn_app (goodIn_of _ (by decide +kernel)) ggX5_falseOnes_X5_cases
set_option maxRecDepth 20000 in
theorem ggX5_falseOnes_X5_isLeft : GoodIn wsX5_falseOnes wsX5_isLeft := goodIn_r _ [10, 6, 11, 12, 13, 14, 15, 16, 17, 18, 19, 20, 21] (by decide +kernel) (by decide +kernel)
set_option maxRecDepth 20000 in
theorem gX5_falseOnes_X5_isLeft : GoodIn wsX5_falseOnes (wsV RX5 49 RX5 yX5_isLeft wsX5_isLeft) := goodIn_app (goodIn_of _ (by decide +kernel)) ggX5_falseOnes_X5_isLeft
theorem dX5_falseOnes_0 : decode cX5_falseOnes 0 = .ok (.iconst 0, 1) := by decide +kernel
theorem dX5_falseOnes_1 : decode cX5_falseOnes 1 = .ok (.istore_n 1, 1) := by decide +kernel
theorem dX5_falseOnes_2 : decode cX5_falseOnes 2 = .ok (.iconst 1, 1) := by decide +kernel
theorem dX5_falseOnes_3 : decode cX5_falseOnes 3 = .ok (.istore_n 2, 1) := by decide +kernel
theorem dX5_falseOnes_4 : decode cX5_falseOnes 4 = .ok (.iload_n 2, 1) := by decide +kernel
theorem dX5_falseOnes_5 : decode cX5_falseOnes 5 = .ok (.aload_n 0, 1) := by decide +kernel
theorem dX5_falseOnes_6 : decode cX5_falseOnes 6 = .ok (.invokevirtual 38, 3) := by decide +kernel
theorem dX5_falseOnes_9 : decode cX5_falseOnes 9 = .ok (.if_icmp .ge 31, 3) := by decide +kernel
theorem dX5_falseOnes_12 : decode cX5_falseOnes 12 = .ok (.iload_n 1, 1) := by decide +kernel
theorem dX5_falseOnes_13 : decode cX5_falseOnes 13 = .ok (.aload_n 0, 1) := by decide +kernel
theorem dX5_falseOnes_14 : decode cX5_falseOnes 14 = .ok (.iload_n 2, 1) := by decide +kernel
theorem dX5_falseOnes_15 : decode cX5_falseOnes 15 = .ok (.invokevirtual 49, 3) := by decide +kernel
theorem dX5_falseOnes_18 : decode cX5_falseOnes 18 = .ok (.ifCond .eq 13, 3) := by decide +kernel
theorem dX5_falseOnes_21 : decode cX5_falseOnes 21 = .ok (.iconst 1, 1) := by decide +kernel
theorem dX5_falseOnes_22 : decode cX5_falseOnes 22 = .ok (.iload_n 2, 1) := by decide +kernel
theorem dX5_falseOnes_23 : decode cX5_falseOnes 23 = .ok (.iconst 1, 1) := by decide +kernel
theorem dX5_falseOnes_24 : decode cX5_falseOnes 24 = .ok (.isub, 1) := by decide +kernel
theorem dX5_falseOnes_25 : decode cX5_falseOnes 25 = .ok (.iconst 2, 1) := by decide +kernel
theorem dX5_falseOnes_26 : decode cX5_falseOnes 26 = .ok (.idiv, 1) := by decide +kernel
theorem dX5_falseOnes_27 : decode cX5_falseOnes 27 = .ok (.ishl, 1) := by decide +kernel
theorem dX5_falseOnes_28 : decode cX5_falseOnes 28 = .ok (.goto 4, 3) := by decide +kernel
theorem dX5_falseOnes_31 : decode cX5_falseOnes 31 = .ok (.iconst 0, 1) := by decide +kernel
theorem dX5_falseOnes_32 : decode cX5_falseOnes 32 = .ok (.ior, 1) := by decide +kernel
theorem dX5_falseOnes_33 : decode cX5_falseOnes 33 = .ok (.istore_n 1, 1) := by decide +kernel
theorem dX5_falseOnes_34 : decode cX5_falseOnes 34 = .ok (.iinc 2 1, 3) := by decide +kernel
theorem dX5_falseOnes_37 : decode cX5_falseOnes 37 = .ok (.goto (-33), 3) := by decide +kernel
theorem dX5_falseOnes_40 : decode cX5_falseOnes 40 = .ok (.iload_n 1, 1) := by decide +kernel
theorem dX5_falseOnes_41 : decode cX5_falseOnes 41 = .ok (.ireturn, 1) := by decide +kernel
set_option maxRecDepth 20000 in
theorem ggX5_number_X5_lefts : GoodIn wsX5_number wsX5_lefts := goodIn_r _ [6, 7, 8, 9, 5, 10, 1, 11, 12, 13, 14, 19, 20, 21, 22, 23, 24, 25, 26, 27, 28, 29] (by decide +kernel) (by decide +kernel)
set_option maxRecDepth 20000 in
theorem gX5_number_X5_lefts : GoodIn wsX5_number (wsV RX5 62 RX5 yX5_lefts wsX5_lefts) := goodIn_app (goodIn_of _ (by decide +kernel)) ggX5_number_X5_lefts
set_option maxRecDepth 20000 in
theorem ggX5_number_X5_falseOnes : GoodIn wsX5_number wsX5_falseOnes := goodIn_r _ [18, 7, 8, 9, 5, 10, 1, 11, 12, 13, 14, 19, 20, 21, 22, 23, 24, 25, 26, 27, 28, 29] (by decide +kernel) (by decide +kernel)
set_option maxRecDepth 20000 in
theorem gX5_number_X5_falseOnes : GoodIn wsX5_number (wsV RX5 97 RX5 yX5_falseOnes wsX5_falseOnes) := goodIn_app (goodIn_of _ (by decide +kernel)) ggX5_number_X5_falseOnes
set_option maxRecDepth 20000 in
theorem ggX5_number_X5_isLeft : GoodIn wsX5_number wsX5_isLeft := goodIn_r _ [14, 1, 19, 20, 21, 22, 23, 24, 25, 26, 27, 28, 29] (by decide +kernel) (by decide +kernel)
set_option maxRecDepth 20000 in
theorem gX5_number_X5_isLeft : GoodIn wsX5_number (wsV RX5 49 RX5 yX5_isLeft wsX5_isLeft) := goodIn_app (goodIn_of _ (by decide +kernel)) ggX5_number_X5_isLeft
theorem dX5_number_0 : decode cX5_number 0 = .ok (.iload_n 1, 1) := by decide +kernel
theorem dX5_number_1 : decode cX5_number 1 = .ok (.tableswitch 85 0 7 #[47, 47, 47, 54, 59, 66, 73, 80], 47) := by decide +kernel
theorem dX5_number_48 : decode cX5_number 48 = .ok (.aload_n 0, 1) := by decide +kernel
theorem dX5_number_49 : decode cX5_number 49 = .ok (.getfield 7, 3) := by decide +kernel
theorem dX5_number_52 : decode cX5_number 52 = .ok (.iload_n 1, 1) := by decide +kernel
theorem dX5_number_53 : decode cX5_number 53 = .ok (.iaload, 1) := by decide +kernel
theorem dX5_number_54 : decode cX5_number 54 = .ok (.ireturn, 1) := by decide +kernel
theorem dX5_number_55 : decode cX5_number 55 = .ok (.aload_n 0, 1) := by decide +kernel
theorem dX5_number_56 : decode cX5_number 56 = .ok (.invokevirtual 62, 3) := by decide +kernel
theorem dX5_number_59 : decode cX5_number 59 = .ok (.ireturn, 1) := by decide +kernel
theorem dX5_number_60 : decode cX5_number 60 = .ok (.aload_n 0, 1) := by decide +kernel
theorem dX5_number_61 : decode cX5_number 61 = .ok (.getfield 7, 3) := by decide +kernel
theorem dX5_number_64 : decode cX5_number 64 = .ok (.iconst 3, 1) := by decide +kernel
theorem dX5_number_65 : decode cX5_number 65 = .ok (.iaload, 1) := by decide +kernel
theorem dX5_number_66 : decode cX5_number 66 = .ok (.ireturn, 1) := by decide +kernel
theorem dX5_number_67 : decode cX5_number 67 = .ok (.aload_n 0, 1) := by decide +kernel
theorem dX5_number_68 : decode cX5_number 68 = .ok (.getfield 7, 3) := by decide +kernel
theorem dX5_number_71 : decode cX5_number 71 = .ok (.iconst 4, 1) := by decide +kernel
theorem dX5_number_72 : decode cX5_number 72 = .ok (.iaload, 1) := by decide +kernel
theorem dX5_number_73 : decode cX5_number 73 = .ok (.ireturn, 1) := by decide +kernel
theorem dX5_number_74 : decode cX5_number 74 = .ok (.aload_n 0, 1) := by decide +kernel
theorem dX5_number_75 : decode cX5_number 75 = .ok (.getfield 7, 3) := by decide +kernel
theorem dX5_number_78 : decode cX5_number 78 = .ok (.iconst 5, 1) := by decide +kernel
theorem dX5_number_79 : decode cX5_number 79 = .ok (.iaload, 1) := by decide +kernel
theorem dX5_number_80 : decode cX5_number 80 = .ok (.ireturn, 1) := by decide +kernel
theorem dX5_number_81 : decode cX5_number 81 = .ok (.aload_n 0, 1) := by decide +kernel
theorem dX5_number_82 : decode cX5_number 82 = .ok (.invokevirtual 97, 3) := by decide +kernel
theorem dX5_number_85 : decode cX5_number 85 = .ok (.ireturn, 1) := by decide +kernel
theorem dX5_number_86 : decode cX5_number 86 = .ok (.aload_n 0, 1) := by decide +kernel
theorem dX5_number_87 : decode cX5_number 87 = .ok (.iconst 0, 1) := by decide +kernel
theorem dX5_number_88 : decode cX5_number 88 = .ok (.invokevirtual 49, 3) := by decide +kernel
theorem dX5_number_91 : decode cX5_number 91 = .ok (.ifCond .eq 7, 3) := by decide +kernel
theorem dX5_number_94 : decode cX5_number 94 = .ok (.iconst 1, 1) := by decide +kernel
theorem dX5_number_95 : decode cX5_number 95 = .ok (.goto 4, 3) := by decide +kernel
theorem dX5_number_98 : decode cX5_number 98 = .ok (.iconst 0, 1) := by decide +kernel
theorem dX5_number_99 : decode cX5_number 99 = .ok (.ireturn, 1) := by decide +kernel
set_option maxRecDepth 20000 in
theorem ggX5_value_X5_in : GoodIn wsX5_value wsX5_in := goodIn_r _ [4] (by decide +kernel) (by decide +kernel)
set_option maxRecDepth 20000 in
theorem gX5_value_X5_in : GoodIn wsX5_value (va_wsS RX5 42 yX5_in wsX5_in) := goodIn_app (goodIn_of _ (by decide +kernel)) ggX5_value_X5_in
set_option maxRecDepth 20000 in
theorem ggX5_value_X5_number : GoodIn wsX5_value wsX5_number := goodIn_r _ [8, 9, 10, 11, 12, 3, 13, 14, 15, 16, 17, 18, 19, 20, 21, 22, 23, 24, 25, 35, 36, 37, 38, 39, 40, 41, 42, 43, 44, 45] (by decide +kernel) (by decide +kernel)
set_option maxRecDepth 20000 in
theorem gX5_value_X5_number : GoodIn wsX5_value (wsV RX5 100 RX5 yX5_number wsX5_number) := goodIn_app (goodIn_of _ (by decide +kernel)) ggX5_value_X5_number
set_option maxRecDepth 20000 in
theorem ggX5_value_X5_tells : GoodIn wsX5_value wsX5_tells := goodIn_r _ [29, 30, 35, 36, 37, 38, 39, 40, 41, 42, 43, 44, 45] (by decide +kernel) (by decide +kernel)
set_option maxRecDepth 20000 in
theorem gX5_value_X5_tells : GoodIn wsX5_value (wsV RX5 34 RX5 yX5_tells wsX5_tells) := goodIn_app (goodIn_of _ (by decide +kernel)) ggX5_value_X5_tells
set_option maxRecDepth 20000 in
theorem ggX5_value_X5_fails : GoodIn wsX5_value wsX5_fails := goodIn_r _ [34, 30, 35, 36, 37, 38, 39, 40, 41, 42, 43, 44, 45] (by decide +kernel) (by decide +kernel)
set_option maxRecDepth 20000 in
theorem gX5_value_X5_fails : GoodIn wsX5_value (wsV RX5 53 RX5 yX5_fails wsX5_fails) := goodIn_app (goodIn_of _ (by decide +kernel)) ggX5_value_X5_fails
theorem dX5_value_0 : decode cX5_value 0 = .ok (.iload_n 1, 1) := by decide +kernel
theorem dX5_value_1 : decode cX5_value 1 = .ok (.iconst 0, 1) := by decide +kernel
theorem dX5_value_2 : decode cX5_value 2 = .ok (.bipush 8, 2) := by decide +kernel
theorem dX5_value_4 : decode cX5_value 4 = .ok (.invokestatic 42, 3) := by decide +kernel
theorem dX5_value_7 : decode cX5_value 7 = .ok (.ifCond .eq 15, 3) := by decide +kernel
theorem dX5_value_10 : decode cX5_value 10 = .ok (.aload_n 0, 1) := by decide +kernel
theorem dX5_value_11 : decode cX5_value 11 = .ok (.aload_n 0, 1) := by decide +kernel
theorem dX5_value_12 : decode cX5_value 12 = .ok (.iload_n 1, 1) := by decide +kernel
theorem dX5_value_13 : decode cX5_value 13 = .ok (.invokevirtual 100, 3) := by decide +kernel
theorem dX5_value_16 : decode cX5_value 16 = .ok (.invokevirtual 34, 3) := by decide +kernel
theorem dX5_value_19 : decode cX5_value 19 = .ok (.goto 8, 3) := by decide +kernel
theorem dX5_value_22 : decode cX5_value 22 = .ok (.aload_n 0, 1) := by decide +kernel
theorem dX5_value_23 : decode cX5_value 23 = .ok (.iconst 1, 1) := by decide +kernel
theorem dX5_value_24 : decode cX5_value 24 = .ok (.invokevirtual 53, 3) := by decide +kernel
theorem dX5_value_27 : decode cX5_value 27 = .ok (.ireturn, 1) := by decide +kernel
theorem dX5_volume_0 : decode cX5_volume 0 = .ok (.lconst 1, 1) := by decide +kernel
theorem dX5_volume_1 : decode cX5_volume 1 = .ok (.lstore_n 2, 1) := by decide +kernel
theorem dX5_volume_2 : decode cX5_volume 2 = .ok (.lload_n 2, 1) := by decide +kernel
theorem dX5_volume_3 : decode cX5_volume 3 = .ok (.iload_n 1, 1) := by decide +kernel
theorem dX5_volume_4 : decode cX5_volume 4 = .ok (.ifCond .le 16, 3) := by decide +kernel
theorem dX5_volume_7 : decode cX5_volume 7 = .ok (.iload_n 0, 1) := by decide +kernel
theorem dX5_volume_8 : decode cX5_volume 8 = .ok (.ifCond .le 12, 3) := by decide +kernel
theorem dX5_volume_11 : decode cX5_volume 11 = .ok (.ldc2_w 103, 3) := by decide +kernel
theorem dX5_volume_14 : decode cX5_volume 14 = .ok (.iload_n 0, 1) := by decide +kernel
theorem dX5_volume_15 : decode cX5_volume 15 = .ok (.i2l, 1) := by decide +kernel
theorem dX5_volume_16 : decode cX5_volume 16 = .ok (.lmul, 1) := by decide +kernel
theorem dX5_volume_17 : decode cX5_volume 17 = .ok (.goto 4, 3) := by decide +kernel
theorem dX5_volume_20 : decode cX5_volume 20 = .ok (.lconst 0, 1) := by decide +kernel
theorem dX5_volume_21 : decode cX5_volume 21 = .ok (.ladd, 1) := by decide +kernel
theorem dX5_volume_22 : decode cX5_volume 22 = .ok (.lstore_n 2, 1) := by decide +kernel
theorem dX5_volume_23 : decode cX5_volume 23 = .ok (.lload_n 2, 1) := by decide +kernel
theorem dX5_volume_24 : decode cX5_volume 24 = .ok (.iload_n 1, 1) := by decide +kernel
theorem dX5_volume_25 : decode cX5_volume 25 = .ok (.iconst 1, 1) := by decide +kernel
theorem dX5_volume_26 : decode cX5_volume 26 = .ok (.if_icmp .le 22, 3) := by decide +kernel
theorem dX5_volume_29 : decode cX5_volume 29 = .ok (.iload_n 0, 1) := by decide +kernel
theorem dX5_volume_30 : decode cX5_volume 30 = .ok (.iconst 1, 1) := by decide +kernel
theorem dX5_volume_31 : decode cX5_volume 31 = .ok (.if_icmp .le 17, 3) := by decide +kernel
theorem dX5_volume_34 : decode cX5_volume 34 = .ok (.ldc2_w 103, 3) := by decide +kernel
theorem dX5_volume_37 : decode cX5_volume 37 = .ok (.iload_n 0, 1) := by decide +kernel
theorem dX5_volume_38 : decode cX5_volume 38 = .ok (.i2l, 1) := by decide +kernel
theorem dX5_volume_39 : decode cX5_volume 39 = .ok (.lmul, 1) := by decide +kernel
theorem dX5_volume_40 : decode cX5_volume 40 = .ok (.iload_n 0, 1) := by decide +kernel
theorem dX5_volume_41 : decode cX5_volume 41 = .ok (.iconst 1, 1) := by decide +kernel
theorem dX5_volume_42 : decode cX5_volume 42 = .ok (.isub, 1) := by decide +kernel
theorem dX5_volume_43 : decode cX5_volume 43 = .ok (.i2l, 1) := by decide +kernel
theorem dX5_volume_44 : decode cX5_volume 44 = .ok (.lmul, 1) := by decide +kernel
theorem dX5_volume_45 : decode cX5_volume 45 = .ok (.goto 4, 3) := by decide +kernel
theorem dX5_volume_48 : decode cX5_volume 48 = .ok (.lconst 0, 1) := by decide +kernel
theorem dX5_volume_49 : decode cX5_volume 49 = .ok (.ladd, 1) := by decide +kernel
theorem dX5_volume_50 : decode cX5_volume 50 = .ok (.lstore_n 2, 1) := by decide +kernel
theorem dX5_volume_51 : decode cX5_volume 51 = .ok (.lload_n 2, 1) := by decide +kernel
theorem dX5_volume_52 : decode cX5_volume 52 = .ok (.lreturn, 1) := by decide +kernel
set_option maxRecDepth 20000 in
theorem ggX5_weighs_X5_cases : GoodIn wsX5_weighs wsX5_cases := goodIn_r _ [6, 1, 14, 15, 16, 17, 18, 19, 20, 21, 22, 23, 24] (by decide +kernel) (by decide +kernel)
set_option maxRecDepth 20000 in
theorem gX5_weighs_X5_cases : GoodIn wsX5_weighs (wsV RX5 38 RX5 yX5_cases wsX5_cases) := goodIn_app (goodIn_of _ (by decide +kernel)) ggX5_weighs_X5_cases
set_option maxRecDepth 20000 in
theorem ggX5_weighs_X5_truth : GoodIn wsX5_weighs wsX5_truth := goodIn_r _ [9] (by decide +kernel) (by decide +kernel)
set_option maxRecDepth 20000 in
theorem gX5_weighs_X5_truth : GoodIn wsX5_weighs (va_wsS RX5 65 yX5_truth wsX5_truth) := goodIn_app (goodIn_of _ (by decide +kernel)) ggX5_weighs_X5_truth
set_option maxRecDepth 20000 in
theorem ggX5_weighs_X5_volume : GoodIn wsX5_weighs wsX5_volume := goodIn_r _ [12, 13] (by decide +kernel) (by decide +kernel)
set_option maxRecDepth 20000 in
theorem gX5_weighs_X5_volume : GoodIn wsX5_weighs (va_wsS RX5 105 yX5_volume wsX5_volume) := goodIn_app (goodIn_of _ (by decide +kernel)) ggX5_weighs_X5_volume
theorem dX5_weighs_0 : decode cX5_weighs 0 = .ok (.lconst 0, 1) := by decide +kernel
theorem dX5_weighs_1 : decode cX5_weighs 1 = .ok (.lstore 5, 2) := by decide +kernel
theorem dX5_weighs_3 : decode cX5_weighs 3 = .ok (.iconst 0, 1) := by decide +kernel
theorem dX5_weighs_4 : decode cX5_weighs 4 = .ok (.istore 7, 2) := by decide +kernel
theorem dX5_weighs_6 : decode cX5_weighs 6 = .ok (.iload 7, 2) := by decide +kernel
theorem dX5_weighs_8 : decode cX5_weighs 8 = .ok (.aload_n 0, 1) := by decide +kernel
theorem dX5_weighs_9 : decode cX5_weighs 9 = .ok (.invokevirtual 38, 3) := by decide +kernel
theorem dX5_weighs_12 : decode cX5_weighs 12 = .ok (.if_icmp .ge 77, 3) := by decide +kernel
theorem dX5_weighs_15 : decode cX5_weighs 15 = .ok (.aload_n 0, 1) := by decide +kernel
theorem dX5_weighs_16 : decode cX5_weighs 16 = .ok (.getfield 7, 3) := by decide +kernel
theorem dX5_weighs_19 : decode cX5_weighs 19 = .ok (.sipush 143, 3) := by decide +kernel
theorem dX5_weighs_22 : decode cX5_weighs 22 = .ok (.iload 7, 2) := by decide +kernel
theorem dX5_weighs_24 : decode cX5_weighs 24 = .ok (.iadd, 1) := by decide +kernel
theorem dX5_weighs_25 : decode cX5_weighs 25 = .ok (.iaload, 1) := by decide +kernel
theorem dX5_weighs_26 : decode cX5_weighs 26 = .ok (.iload_n 1, 1) := by decide +kernel
theorem dX5_weighs_27 : decode cX5_weighs 27 = .ok (.ifCond .le 18, 3) := by decide +kernel
theorem dX5_weighs_30 : decode cX5_weighs 30 = .ok (.iload 7, 2) := by decide +kernel
theorem dX5_weighs_32 : decode cX5_weighs 32 = .ok (.iload_n 1, 1) := by decide +kernel
theorem dX5_weighs_33 : decode cX5_weighs 33 = .ok (.iload_n 2, 1) := by decide +kernel
theorem dX5_weighs_34 : decode cX5_weighs 34 = .ok (.invokestatic 65, 3) := by decide +kernel
theorem dX5_weighs_37 : decode cX5_weighs 37 = .ok (.iload_n 3, 1) := by decide +kernel
theorem dX5_weighs_38 : decode cX5_weighs 38 = .ok (.if_icmp .eq 7, 3) := by decide +kernel
theorem dX5_weighs_41 : decode cX5_weighs 41 = .ok (.iconst 1, 1) := by decide +kernel
theorem dX5_weighs_42 : decode cX5_weighs 42 = .ok (.goto 4, 3) := by decide +kernel
theorem dX5_weighs_45 : decode cX5_weighs 45 = .ok (.iconst 0, 1) := by decide +kernel
theorem dX5_weighs_46 : decode cX5_weighs 46 = .ok (.iadd, 1) := by decide +kernel
theorem dX5_weighs_47 : decode cX5_weighs 47 = .ok (.istore 8, 2) := by decide +kernel
theorem dX5_weighs_49 : decode cX5_weighs 49 = .ok (.lload 5, 2) := by decide +kernel
theorem dX5_weighs_51 : decode cX5_weighs 51 = .ok (.iload 8, 2) := by decide +kernel
theorem dX5_weighs_53 : decode cX5_weighs 53 = .ok (.aload_n 0, 1) := by decide +kernel
theorem dX5_weighs_54 : decode cX5_weighs 54 = .ok (.getfield 7, 3) := by decide +kernel
theorem dX5_weighs_57 : decode cX5_weighs 57 = .ok (.iconst 1, 1) := by decide +kernel
theorem dX5_weighs_58 : decode cX5_weighs 58 = .ok (.iaload, 1) := by decide +kernel
theorem dX5_weighs_59 : decode cX5_weighs 59 = .ok (.if_icmp .gt 20, 3) := by decide +kernel
theorem dX5_weighs_62 : decode cX5_weighs 62 = .ok (.iload 4, 2) := by decide +kernel
theorem dX5_weighs_64 : decode cX5_weighs 64 = .ok (.aload_n 0, 1) := by decide +kernel
theorem dX5_weighs_65 : decode cX5_weighs 65 = .ok (.getfield 7, 3) := by decide +kernel
theorem dX5_weighs_68 : decode cX5_weighs 68 = .ok (.iconst 1, 1) := by decide +kernel
theorem dX5_weighs_69 : decode cX5_weighs 69 = .ok (.iaload, 1) := by decide +kernel
theorem dX5_weighs_70 : decode cX5_weighs 70 = .ok (.iload 8, 2) := by decide +kernel
theorem dX5_weighs_72 : decode cX5_weighs 72 = .ok (.isub, 1) := by decide +kernel
theorem dX5_weighs_73 : decode cX5_weighs 73 = .ok (.invokestatic 105, 3) := by decide +kernel
theorem dX5_weighs_76 : decode cX5_weighs 76 = .ok (.goto 4, 3) := by decide +kernel
theorem dX5_weighs_79 : decode cX5_weighs 79 = .ok (.lconst 0, 1) := by decide +kernel
theorem dX5_weighs_80 : decode cX5_weighs 80 = .ok (.ladd, 1) := by decide +kernel
theorem dX5_weighs_81 : decode cX5_weighs 81 = .ok (.lstore 5, 2) := by decide +kernel
theorem dX5_weighs_83 : decode cX5_weighs 83 = .ok (.iinc 7 1, 3) := by decide +kernel
theorem dX5_weighs_86 : decode cX5_weighs 86 = .ok (.goto (-80), 3) := by decide +kernel
theorem dX5_weighs_89 : decode cX5_weighs 89 = .ok (.lload 5, 2) := by decide +kernel
theorem dX5_weighs_91 : decode cX5_weighs 91 = .ok (.lreturn, 1) := by decide +kernel
set_option maxRecDepth 20000 in
theorem ggX5_weight_X5_in : GoodIn wsX5_weight wsX5_in := goodIn_r _ [5] (by decide +kernel) (by decide +kernel)
set_option maxRecDepth 20000 in
theorem gX5_weight_X5_in : GoodIn wsX5_weight (va_wsS RX5 42 yX5_in wsX5_in) := goodIn_app (goodIn_of _ (by decide +kernel)) ggX5_weight_X5_in
set_option maxRecDepth 20000 in
theorem ggX5_weight_X5_fails : GoodIn wsX5_weight wsX5_fails := goodIn_r _ [9, 1, 26, 27, 28, 29, 30, 31, 32, 33, 34, 35, 36] (by decide +kernel) (by decide +kernel)
set_option maxRecDepth 20000 in
theorem gX5_weight_X5_fails : GoodIn wsX5_weight (wsV RX5 53 RX5 yX5_fails wsX5_fails) := goodIn_app (goodIn_of _ (by decide +kernel)) ggX5_weight_X5_fails
set_option maxRecDepth 20000 in
theorem ggX5_weight_X5_weighs : GoodIn wsX5_weight wsX5_weighs := goodIn_r _ [13, 14, 15, 16, 17, 4, 18, 19, 20, 21, 22, 23, 24, 25, 26, 27, 28, 29, 30, 31, 32, 33, 34, 35, 36] (by decide +kernel) (by decide +kernel)
set_option maxRecDepth 20000 in
theorem gX5_weight_X5_weighs : GoodIn wsX5_weight (wsV RX5 109 RX5 yX5_weighs wsX5_weighs) := goodIn_app (goodIn_of _ (by decide +kernel)) ggX5_weight_X5_weighs
theorem dX5_weight_0 : decode cX5_weight 0 = .ok (.iload_n 1, 1) := by decide +kernel
theorem dX5_weight_1 : decode cX5_weight 1 = .ok (.iconst 0, 1) := by decide +kernel
theorem dX5_weight_2 : decode cX5_weight 2 = .ok (.bipush 20, 2) := by decide +kernel
theorem dX5_weight_4 : decode cX5_weight 4 = .ok (.invokestatic 42, 3) := by decide +kernel
theorem dX5_weight_7 : decode cX5_weight 7 = .ok (.ifCond .ne 10, 3) := by decide +kernel
theorem dX5_weight_10 : decode cX5_weight 10 = .ok (.aload_n 0, 1) := by decide +kernel
theorem dX5_weight_11 : decode cX5_weight 11 = .ok (.iconst 1, 1) := by decide +kernel
theorem dX5_weight_12 : decode cX5_weight 12 = .ok (.invokevirtual 53, 3) := by decide +kernel
theorem dX5_weight_15 : decode cX5_weight 15 = .ok (.i2l, 1) := by decide +kernel
theorem dX5_weight_16 : decode cX5_weight 16 = .ok (.lreturn, 1) := by decide +kernel
theorem dX5_weight_17 : decode cX5_weight 17 = .ok (.aload_n 0, 1) := by decide +kernel
theorem dX5_weight_18 : decode cX5_weight 18 = .ok (.iconst 0, 1) := by decide +kernel
theorem dX5_weight_19 : decode cX5_weight 19 = .ok (.putfield 27, 3) := by decide +kernel
theorem dX5_weight_22 : decode cX5_weight 22 = .ok (.aload_n 0, 1) := by decide +kernel
theorem dX5_weight_23 : decode cX5_weight 23 = .ok (.iconst 0, 1) := by decide +kernel
theorem dX5_weight_24 : decode cX5_weight 24 = .ok (.iconst 0, 1) := by decide +kernel
theorem dX5_weight_25 : decode cX5_weight 25 = .ok (.iconst 0, 1) := by decide +kernel
theorem dX5_weight_26 : decode cX5_weight 26 = .ok (.iload_n 1, 1) := by decide +kernel
theorem dX5_weight_27 : decode cX5_weight 27 = .ok (.invokevirtual 109, 3) := by decide +kernel
theorem dX5_weight_30 : decode cX5_weight 30 = .ok (.lreturn, 1) := by decide +kernel
set_option maxRecDepth 20000 in
theorem ggX5_least_X5_weighs : GoodIn wsX5_least wsX5_weighs := goodIn_r _ [6, 7, 8, 9, 10, 5, 11, 12, 13, 14, 15, 16, 17, 18, 19, 20, 21, 22, 23, 24, 25, 26, 27, 28, 29] (by decide +kernel) (by decide +kernel)
set_option maxRecDepth 20000 in
theorem gX5_least_X5_weighs : GoodIn wsX5_least (wsV RX5 109 RX5 yX5_weighs wsX5_weighs) := goodIn_app (goodIn_of _ (by decide +kernel)) ggX5_least_X5_weighs
theorem dX5_least_0 : decode cX5_least 0 = .ok (.lconst 1, 1) := by decide +kernel
theorem dX5_least_1 : decode cX5_least 1 = .ok (.lstore_n 1, 1) := by decide +kernel
theorem dX5_least_2 : decode cX5_least 2 = .ok (.iconst 0, 1) := by decide +kernel
theorem dX5_least_3 : decode cX5_least 3 = .ok (.istore_n 3, 1) := by decide +kernel
theorem dX5_least_4 : decode cX5_least 4 = .ok (.iload_n 3, 1) := by decide +kernel
theorem dX5_least_5 : decode cX5_least 5 = .ok (.bipush 20, 2) := by decide +kernel
theorem dX5_least_7 : decode cX5_least 7 = .ok (.if_icmp .gt 30, 3) := by decide +kernel
theorem dX5_least_10 : decode cX5_least 10 = .ok (.aload_n 0, 1) := by decide +kernel
theorem dX5_least_11 : decode cX5_least 11 = .ok (.iconst 0, 1) := by decide +kernel
theorem dX5_least_12 : decode cX5_least 12 = .ok (.iconst 0, 1) := by decide +kernel
theorem dX5_least_13 : decode cX5_least 13 = .ok (.iconst 0, 1) := by decide +kernel
theorem dX5_least_14 : decode cX5_least 14 = .ok (.iload_n 3, 1) := by decide +kernel
theorem dX5_least_15 : decode cX5_least 15 = .ok (.invokevirtual 109, 3) := by decide +kernel
theorem dX5_least_18 : decode cX5_least 18 = .ok (.lload_n 1, 1) := by decide +kernel
theorem dX5_least_19 : decode cX5_least 19 = .ok (.lcmp, 1) := by decide +kernel
theorem dX5_least_20 : decode cX5_least 20 = .ok (.ifCond .gt 5, 3) := by decide +kernel
theorem dX5_least_23 : decode cX5_least 23 = .ok (.iload_n 3, 1) := by decide +kernel
theorem dX5_least_24 : decode cX5_least 24 = .ok (.ireturn, 1) := by decide +kernel
theorem dX5_least_25 : decode cX5_least 25 = .ok (.lload_n 1, 1) := by decide +kernel
theorem dX5_least_26 : decode cX5_least 26 = .ok (.ldc2_w 113, 3) := by decide +kernel
theorem dX5_least_29 : decode cX5_least 29 = .ok (.lmul, 1) := by decide +kernel
theorem dX5_least_30 : decode cX5_least 30 = .ok (.lstore_n 1, 1) := by decide +kernel
theorem dX5_least_31 : decode cX5_least 31 = .ok (.iinc 3 1, 3) := by decide +kernel
theorem dX5_least_34 : decode cX5_least 34 = .ok (.goto (-30), 3) := by decide +kernel
theorem dX5_least_37 : decode cX5_least 37 = .ok (.iconst (-1), 1) := by decide +kernel
theorem dX5_least_38 : decode cX5_least 38 = .ok (.ireturn, 1) := by decide +kernel
set_option maxRecDepth 20000 in
theorem ggX5_bound_X5_least : GoodIn wsX5_bound wsX5_least := goodIn_r _ [5, 6, 7, 8, 9, 4, 10, 11, 12, 13, 14, 15, 16, 17, 18, 19, 20, 21, 22, 28, 29, 30, 31, 32, 33, 34, 35, 36, 37, 38] (by decide +kernel) (by decide +kernel)
set_option maxRecDepth 20000 in
theorem gX5_bound_X5_least : GoodIn wsX5_bound (wsV RX5 115 RX5 yX5_least wsX5_least) := goodIn_app (goodIn_of _ (by decide +kernel)) ggX5_bound_X5_least
set_option maxRecDepth 20000 in
theorem ggX5_bound_X5_tells : GoodIn wsX5_bound wsX5_tells := goodIn_r _ [26, 27, 28, 29, 30, 31, 32, 33, 34, 35, 36, 37, 38] (by decide +kernel) (by decide +kernel)
set_option maxRecDepth 20000 in
theorem gX5_bound_X5_tells : GoodIn wsX5_bound (wsV RX5 34 RX5 yX5_tells wsX5_tells) := goodIn_app (goodIn_of _ (by decide +kernel)) ggX5_bound_X5_tells
theorem dX5_bound_0 : decode cX5_bound 0 = .ok (.aload_n 0, 1) := by decide +kernel
theorem dX5_bound_1 : decode cX5_bound 1 = .ok (.aload_n 0, 1) := by decide +kernel
theorem dX5_bound_2 : decode cX5_bound 2 = .ok (.invokevirtual 115, 3) := by decide +kernel
theorem dX5_bound_5 : decode cX5_bound 5 = .ok (.invokevirtual 34, 3) := by decide +kernel
theorem dX5_bound_8 : decode cX5_bound 8 = .ok (.ireturn, 1) := by decide +kernel
set_option maxRecDepth 20000 in
theorem ggX5_weightBehind_X5_areSides : GoodIn wsX5_weightBehind wsX5_areSides := goodIn_r _ [6, 7, 8, 9, 5, 10, 11, 12, 13, 33, 34, 35, 36, 37, 38, 39, 40, 41, 42, 43] (by decide +kernel) (by decide +kernel)
set_option maxRecDepth 20000 in
theorem gX5_weightBehind_X5_areSides : GoodIn wsX5_weightBehind (wsV RX5 69 RX5 yX5_areSides wsX5_areSides) := goodIn_app (goodIn_of _ (by decide +kernel)) ggX5_weightBehind_X5_areSides
set_option maxRecDepth 20000 in
theorem ggX5_weightBehind_X5_in : GoodIn wsX5_weightBehind wsX5_in := goodIn_r _ [10] (by decide +kernel) (by decide +kernel)
set_option maxRecDepth 20000 in
theorem gX5_weightBehind_X5_in : GoodIn wsX5_weightBehind (va_wsS RX5 42 yX5_in wsX5_in) := goodIn_app (goodIn_of _ (by decide +kernel)) ggX5_weightBehind_X5_in
set_option maxRecDepth 20000 in
theorem ggX5_weightBehind_X5_fails : GoodIn wsX5_weightBehind wsX5_fails := goodIn_r _ [17, 1, 33, 34, 35, 36, 37, 38, 39, 40, 41, 42, 43] (by decide +kernel) (by decide +kernel)
set_option maxRecDepth 20000 in
theorem gX5_weightBehind_X5_fails : GoodIn wsX5_weightBehind (wsV RX5 53 RX5 yX5_fails wsX5_fails) := goodIn_app (goodIn_of _ (by decide +kernel)) ggX5_weightBehind_X5_fails
set_option maxRecDepth 20000 in
theorem ggX5_weightBehind_X5_weighs : GoodIn wsX5_weightBehind wsX5_weighs := goodIn_r _ [21, 7, 22, 23, 24, 5, 25, 26, 27, 28, 29, 30, 31, 32, 33, 34, 35, 36, 37, 38, 39, 40, 41, 42, 43] (by decide +kernel) (by decide +kernel)
set_option maxRecDepth 20000 in
theorem gX5_weightBehind_X5_weighs : GoodIn wsX5_weightBehind (wsV RX5 109 RX5 yX5_weighs wsX5_weighs) := goodIn_app (goodIn_of _ (by decide +kernel)) ggX5_weightBehind_X5_weighs
theorem dX5_weightBehind_0 : decode cX5_weightBehind 0 = .ok (.aload_n 0, 1) := by decide +kernel
theorem dX5_weightBehind_1 : decode cX5_weightBehind 1 = .ok (.iload_n 1, 1) := by decide +kernel
theorem dX5_weightBehind_2 : decode cX5_weightBehind 2 = .ok (.iload_n 2, 1) := by decide +kernel
theorem dX5_weightBehind_3 : decode cX5_weightBehind 3 = .ok (.invokevirtual 69, 3) := by decide +kernel
theorem dX5_weightBehind_6 : decode cX5_weightBehind 6 = .ok (.ifCond .eq 23, 3) := by decide +kernel
theorem dX5_weightBehind_9 : decode cX5_weightBehind 9 = .ok (.iload_n 3, 1) := by decide +kernel
theorem dX5_weightBehind_10 : decode cX5_weightBehind 10 = .ok (.iconst 0, 1) := by decide +kernel
theorem dX5_weightBehind_11 : decode cX5_weightBehind 11 = .ok (.iconst 2, 1) := by decide +kernel
theorem dX5_weightBehind_12 : decode cX5_weightBehind 12 = .ok (.invokestatic 42, 3) := by decide +kernel
theorem dX5_weightBehind_15 : decode cX5_weightBehind 15 = .ok (.ifCond .eq 14, 3) := by decide +kernel
theorem dX5_weightBehind_18 : decode cX5_weightBehind 18 = .ok (.iload 4, 2) := by decide +kernel
theorem dX5_weightBehind_20 : decode cX5_weightBehind 20 = .ok (.iconst 0, 1) := by decide +kernel
theorem dX5_weightBehind_21 : decode cX5_weightBehind 21 = .ok (.bipush 20, 2) := by decide +kernel
theorem dX5_weightBehind_23 : decode cX5_weightBehind 23 = .ok (.invokestatic 42, 3) := by decide +kernel
theorem dX5_weightBehind_26 : decode cX5_weightBehind 26 = .ok (.ifCond .ne 10, 3) := by decide +kernel
theorem dX5_weightBehind_29 : decode cX5_weightBehind 29 = .ok (.aload_n 0, 1) := by decide +kernel
theorem dX5_weightBehind_30 : decode cX5_weightBehind 30 = .ok (.iconst 1, 1) := by decide +kernel
theorem dX5_weightBehind_31 : decode cX5_weightBehind 31 = .ok (.invokevirtual 53, 3) := by decide +kernel
theorem dX5_weightBehind_34 : decode cX5_weightBehind 34 = .ok (.i2l, 1) := by decide +kernel
theorem dX5_weightBehind_35 : decode cX5_weightBehind 35 = .ok (.lreturn, 1) := by decide +kernel
theorem dX5_weightBehind_36 : decode cX5_weightBehind 36 = .ok (.aload_n 0, 1) := by decide +kernel
theorem dX5_weightBehind_37 : decode cX5_weightBehind 37 = .ok (.iconst 0, 1) := by decide +kernel
theorem dX5_weightBehind_38 : decode cX5_weightBehind 38 = .ok (.putfield 27, 3) := by decide +kernel
theorem dX5_weightBehind_41 : decode cX5_weightBehind 41 = .ok (.aload_n 0, 1) := by decide +kernel
theorem dX5_weightBehind_42 : decode cX5_weightBehind 42 = .ok (.iload_n 1, 1) := by decide +kernel
theorem dX5_weightBehind_43 : decode cX5_weightBehind 43 = .ok (.iload_n 2, 1) := by decide +kernel
theorem dX5_weightBehind_44 : decode cX5_weightBehind 44 = .ok (.iload_n 3, 1) := by decide +kernel
theorem dX5_weightBehind_45 : decode cX5_weightBehind 45 = .ok (.iload 4, 2) := by decide +kernel
theorem dX5_weightBehind_47 : decode cX5_weightBehind 47 = .ok (.invokevirtual 109, 3) := by decide +kernel
theorem dX5_weightBehind_50 : decode cX5_weightBehind 50 = .ok (.lreturn, 1) := by decide +kernel
set_option maxRecDepth 20000 in
theorem ggX5_best_X5_weighs : GoodIn wsX5_best wsX5_weighs := goodIn_r _ [6, 1, 7, 8, 9, 5, 10, 11, 12, 13, 14, 15, 16, 17, 18, 19, 20, 21, 22, 23, 24, 25, 26, 27, 28] (by decide +kernel) (by decide +kernel)
set_option maxRecDepth 20000 in
theorem gX5_best_X5_weighs : GoodIn wsX5_best (wsV RX5 109 RX5 yX5_weighs wsX5_weighs) := goodIn_app (goodIn_of _ (by decide +kernel)) ggX5_best_X5_weighs
theorem dX5_best_0 : decode cX5_best 0 = .ok (.iconst 0, 1) := by decide +kernel
theorem dX5_best_1 : decode cX5_best 1 = .ok (.istore_n 2, 1) := by decide +kernel
theorem dX5_best_2 : decode cX5_best 2 = .ok (.lconst 0, 1) := by decide +kernel
theorem dX5_best_3 : decode cX5_best 3 = .ok (.lstore_n 3, 1) := by decide +kernel
theorem dX5_best_4 : decode cX5_best 4 = .ok (.iconst 1, 1) := by decide +kernel
theorem dX5_best_5 : decode cX5_best 5 = .ok (.istore 5, 2) := by decide +kernel
theorem dX5_best_7 : decode cX5_best 7 = .ok (.iload 5, 2) := by decide +kernel
theorem dX5_best_9 : decode cX5_best 9 = .ok (.aload_n 0, 1) := by decide +kernel
theorem dX5_best_10 : decode cX5_best 10 = .ok (.getfield 7, 3) := by decide +kernel
theorem dX5_best_13 : decode cX5_best 13 = .ok (.iconst 0, 1) := by decide +kernel
theorem dX5_best_14 : decode cX5_best 14 = .ok (.iaload, 1) := by decide +kernel
theorem dX5_best_15 : decode cX5_best 15 = .ok (.iconst 2, 1) := by decide +kernel
theorem dX5_best_16 : decode cX5_best 16 = .ok (.idiv, 1) := by decide +kernel
theorem dX5_best_17 : decode cX5_best 17 = .ok (.if_icmp .gt 99, 3) := by decide +kernel
theorem dX5_best_20 : decode cX5_best 20 = .ok (.iconst 1, 1) := by decide +kernel
theorem dX5_best_21 : decode cX5_best 21 = .ok (.iload 5, 2) := by decide +kernel
theorem dX5_best_23 : decode cX5_best 23 = .ok (.ishl, 1) := by decide +kernel
theorem dX5_best_24 : decode cX5_best 24 = .ok (.iconst 1, 1) := by decide +kernel
theorem dX5_best_25 : decode cX5_best 25 = .ok (.isub, 1) := by decide +kernel
theorem dX5_best_26 : decode cX5_best 26 = .ok (.istore 6, 2) := by decide +kernel
theorem dX5_best_28 : decode cX5_best 28 = .ok (.lconst 0, 1) := by decide +kernel
theorem dX5_best_29 : decode cX5_best 29 = .ok (.lstore 7, 2) := by decide +kernel
theorem dX5_best_31 : decode cX5_best 31 = .ok (.iconst 0, 1) := by decide +kernel
theorem dX5_best_32 : decode cX5_best 32 = .ok (.istore 9, 2) := by decide +kernel
theorem dX5_best_34 : decode cX5_best 34 = .ok (.iload 9, 2) := by decide +kernel
theorem dX5_best_36 : decode cX5_best 36 = .ok (.iconst 3, 1) := by decide +kernel
theorem dX5_best_37 : decode cX5_best 37 = .ok (.if_icmp .ge 42, 3) := by decide +kernel
theorem dX5_best_40 : decode cX5_best 40 = .ok (.aload_n 0, 1) := by decide +kernel
theorem dX5_best_41 : decode cX5_best 41 = .ok (.iload 6, 2) := by decide +kernel
theorem dX5_best_43 : decode cX5_best 43 = .ok (.iload 6, 2) := by decide +kernel
theorem dX5_best_45 : decode cX5_best 45 = .ok (.iload 5, 2) := by decide +kernel
theorem dX5_best_47 : decode cX5_best 47 = .ok (.ishl, 1) := by decide +kernel
theorem dX5_best_48 : decode cX5_best 48 = .ok (.iload 9, 2) := by decide +kernel
theorem dX5_best_50 : decode cX5_best 50 = .ok (.iload_n 1, 1) := by decide +kernel
theorem dX5_best_51 : decode cX5_best 51 = .ok (.invokevirtual 109, 3) := by decide +kernel
theorem dX5_best_54 : decode cX5_best 54 = .ok (.lstore 10, 2) := by decide +kernel
theorem dX5_best_56 : decode cX5_best 56 = .ok (.lload 10, 2) := by decide +kernel
theorem dX5_best_58 : decode cX5_best 58 = .ok (.lload 7, 2) := by decide +kernel
theorem dX5_best_60 : decode cX5_best 60 = .ok (.lcmp, 1) := by decide +kernel
theorem dX5_best_61 : decode cX5_best 61 = .ok (.ifCond .le 8, 3) := by decide +kernel
theorem dX5_best_64 : decode cX5_best 64 = .ok (.lload 10, 2) := by decide +kernel
theorem dX5_best_66 : decode cX5_best 66 = .ok (.goto 5, 3) := by decide +kernel
theorem dX5_best_69 : decode cX5_best 69 = .ok (.lload 7, 2) := by decide +kernel
theorem dX5_best_71 : decode cX5_best 71 = .ok (.lstore 7, 2) := by decide +kernel
theorem dX5_best_73 : decode cX5_best 73 = .ok (.iinc 9 1, 3) := by decide +kernel
theorem dX5_best_76 : decode cX5_best 76 = .ok (.goto (-42), 3) := by decide +kernel
theorem dX5_best_79 : decode cX5_best 79 = .ok (.iload_n 2, 1) := by decide +kernel
theorem dX5_best_80 : decode cX5_best 80 = .ok (.ifCond .eq 10, 3) := by decide +kernel
theorem dX5_best_83 : decode cX5_best 83 = .ok (.lload 7, 2) := by decide +kernel
theorem dX5_best_85 : decode cX5_best 85 = .ok (.lload_n 3, 1) := by decide +kernel
theorem dX5_best_86 : decode cX5_best 86 = .ok (.lcmp, 1) := by decide +kernel
theorem dX5_best_87 : decode cX5_best 87 = .ok (.ifCond .ge 8, 3) := by decide +kernel
theorem dX5_best_90 : decode cX5_best 90 = .ok (.iload 5, 2) := by decide +kernel
theorem dX5_best_92 : decode cX5_best 92 = .ok (.goto 4, 3) := by decide +kernel
theorem dX5_best_95 : decode cX5_best 95 = .ok (.iload_n 2, 1) := by decide +kernel
theorem dX5_best_96 : decode cX5_best 96 = .ok (.istore_n 2, 1) := by decide +kernel
theorem dX5_best_97 : decode cX5_best 97 = .ok (.iload_n 2, 1) := by decide +kernel
theorem dX5_best_98 : decode cX5_best 98 = .ok (.iload 5, 2) := by decide +kernel
theorem dX5_best_100 : decode cX5_best 100 = .ok (.if_icmp .ne 8, 3) := by decide +kernel
theorem dX5_best_103 : decode cX5_best 103 = .ok (.lload 7, 2) := by decide +kernel
theorem dX5_best_105 : decode cX5_best 105 = .ok (.goto 4, 3) := by decide +kernel
theorem dX5_best_108 : decode cX5_best 108 = .ok (.lload_n 3, 1) := by decide +kernel
theorem dX5_best_109 : decode cX5_best 109 = .ok (.lstore_n 3, 1) := by decide +kernel
theorem dX5_best_110 : decode cX5_best 110 = .ok (.iinc 5 1, 3) := by decide +kernel
theorem dX5_best_113 : decode cX5_best 113 = .ok (.goto (-106), 3) := by decide +kernel
theorem dX5_best_116 : decode cX5_best 116 = .ok (.iload_n 2, 1) := by decide +kernel
theorem dX5_best_117 : decode cX5_best 117 = .ok (.ireturn, 1) := by decide +kernel
set_option maxRecDepth 20000 in
theorem ggX5_bestGroup_X5_in : GoodIn wsX5_bestGroup wsX5_in := goodIn_r _ [4] (by decide +kernel) (by decide +kernel)
set_option maxRecDepth 20000 in
theorem gX5_bestGroup_X5_in : GoodIn wsX5_bestGroup (va_wsS RX5 42 yX5_in wsX5_in) := goodIn_app (goodIn_of _ (by decide +kernel)) ggX5_bestGroup_X5_in
set_option maxRecDepth 20000 in
theorem ggX5_bestGroup_X5_best : GoodIn wsX5_bestGroup wsX5_best := goodIn_r _ [8, 9, 10, 11, 12, 3, 13, 14, 15, 16, 17, 18, 19, 20, 21, 22, 23, 24, 34, 35, 36, 37, 38, 39, 40, 41, 42, 43, 44] (by decide +kernel) (by decide +kernel)
set_option maxRecDepth 20000 in
theorem gX5_bestGroup_X5_best : GoodIn wsX5_bestGroup (wsV RX5 118 RX5 yX5_best wsX5_best) := goodIn_app (goodIn_of _ (by decide +kernel)) ggX5_bestGroup_X5_best
set_option maxRecDepth 20000 in
theorem ggX5_bestGroup_X5_tells : GoodIn wsX5_bestGroup wsX5_tells := goodIn_r _ [28, 29, 34, 35, 36, 37, 38, 39, 40, 41, 42, 43, 44] (by decide +kernel) (by decide +kernel)
set_option maxRecDepth 20000 in
theorem gX5_bestGroup_X5_tells : GoodIn wsX5_bestGroup (wsV RX5 34 RX5 yX5_tells wsX5_tells) := goodIn_app (goodIn_of _ (by decide +kernel)) ggX5_bestGroup_X5_tells
set_option maxRecDepth 20000 in
theorem ggX5_bestGroup_X5_fails : GoodIn wsX5_bestGroup wsX5_fails := goodIn_r _ [33, 29, 34, 35, 36, 37, 38, 39, 40, 41, 42, 43, 44] (by decide +kernel) (by decide +kernel)
set_option maxRecDepth 20000 in
theorem gX5_bestGroup_X5_fails : GoodIn wsX5_bestGroup (wsV RX5 53 RX5 yX5_fails wsX5_fails) := goodIn_app (goodIn_of _ (by decide +kernel)) ggX5_bestGroup_X5_fails
theorem dX5_bestGroup_0 : decode cX5_bestGroup 0 = .ok (.iload_n 1, 1) := by decide +kernel
theorem dX5_bestGroup_1 : decode cX5_bestGroup 1 = .ok (.iconst 0, 1) := by decide +kernel
theorem dX5_bestGroup_2 : decode cX5_bestGroup 2 = .ok (.bipush 20, 2) := by decide +kernel
theorem dX5_bestGroup_4 : decode cX5_bestGroup 4 = .ok (.invokestatic 42, 3) := by decide +kernel
theorem dX5_bestGroup_7 : decode cX5_bestGroup 7 = .ok (.ifCond .eq 15, 3) := by decide +kernel
theorem dX5_bestGroup_10 : decode cX5_bestGroup 10 = .ok (.aload_n 0, 1) := by decide +kernel
theorem dX5_bestGroup_11 : decode cX5_bestGroup 11 = .ok (.aload_n 0, 1) := by decide +kernel
theorem dX5_bestGroup_12 : decode cX5_bestGroup 12 = .ok (.iload_n 1, 1) := by decide +kernel
theorem dX5_bestGroup_13 : decode cX5_bestGroup 13 = .ok (.invokevirtual 118, 3) := by decide +kernel
theorem dX5_bestGroup_16 : decode cX5_bestGroup 16 = .ok (.invokevirtual 34, 3) := by decide +kernel
theorem dX5_bestGroup_19 : decode cX5_bestGroup 19 = .ok (.goto 8, 3) := by decide +kernel
theorem dX5_bestGroup_22 : decode cX5_bestGroup 22 = .ok (.aload_n 0, 1) := by decide +kernel
theorem dX5_bestGroup_23 : decode cX5_bestGroup 23 = .ok (.iconst 1, 1) := by decide +kernel
theorem dX5_bestGroup_24 : decode cX5_bestGroup 24 = .ok (.invokevirtual 53, 3) := by decide +kernel
theorem dX5_bestGroup_27 : decode cX5_bestGroup 27 = .ok (.ireturn, 1) := by decide +kernel
set_option maxRecDepth 20000 in
theorem ggX5_teaches_X5_areSides : GoodIn wsX5_teaches wsX5_areSides := goodIn_r _ [6, 7, 8, 9, 5, 10, 11, 12, 13, 25, 26, 27, 28, 29, 30, 31, 32, 33, 34, 35] (by decide +kernel) (by decide +kernel)
set_option maxRecDepth 20000 in
theorem gX5_teaches_X5_areSides : GoodIn wsX5_teaches (wsV RX5 69 RX5 yX5_areSides wsX5_areSides) := goodIn_app (goodIn_of _ (by decide +kernel)) ggX5_teaches_X5_areSides
set_option maxRecDepth 20000 in
theorem ggX5_teaches_X5_cases : GoodIn wsX5_teaches wsX5_cases := goodIn_r _ [17, 7, 25, 26, 27, 28, 29, 30, 31, 32, 33, 34, 35] (by decide +kernel) (by decide +kernel)
set_option maxRecDepth 20000 in
theorem gX5_teaches_X5_cases : GoodIn wsX5_teaches (wsV RX5 38 RX5 yX5_cases wsX5_cases) := goodIn_app (goodIn_of _ (by decide +kernel)) ggX5_teaches_X5_cases
set_option maxRecDepth 20000 in
theorem ggX5_teaches_X5_isLeft : GoodIn wsX5_teaches wsX5_isLeft := goodIn_r _ [21, 7, 25, 26, 27, 28, 29, 30, 31, 32, 33, 34, 35] (by decide +kernel) (by decide +kernel)
set_option maxRecDepth 20000 in
theorem gX5_teaches_X5_isLeft : GoodIn wsX5_teaches (wsV RX5 49 RX5 yX5_isLeft wsX5_isLeft) := goodIn_app (goodIn_of _ (by decide +kernel)) ggX5_teaches_X5_isLeft
set_option maxRecDepth 20000 in
theorem ggX5_teaches_X5_truth : GoodIn wsX5_teaches wsX5_truth := goodIn_r _ [24] (by decide +kernel) (by decide +kernel)
set_option maxRecDepth 20000 in
theorem gX5_teaches_X5_truth : GoodIn wsX5_teaches (va_wsS RX5 65 yX5_truth wsX5_truth) := goodIn_app (goodIn_of _ (by decide +kernel)) ggX5_teaches_X5_truth
theorem dX5_teaches_0 : decode cX5_teaches 0 = .ok (.aload_n 0, 1) := by decide +kernel
theorem dX5_teaches_1 : decode cX5_teaches 1 = .ok (.aload_n 0, 1) := by decide +kernel
theorem dX5_teaches_2 : decode cX5_teaches 2 = .ok (.iload_n 1, 1) := by decide +kernel
theorem dX5_teaches_3 : decode cX5_teaches 3 = .ok (.iload_n 2, 1) := by decide +kernel
theorem dX5_teaches_4 : decode cX5_teaches 4 = .ok (.invokevirtual 69, 3) := by decide +kernel
theorem dX5_teaches_7 : decode cX5_teaches 7 = .ok (.ifCond .eq 7, 3) := by decide +kernel
theorem dX5_teaches_10 : decode cX5_teaches 10 = .ok (.iconst 0, 1) := by decide +kernel
theorem dX5_teaches_11 : decode cX5_teaches 11 = .ok (.goto 4, 3) := by decide +kernel
theorem dX5_teaches_14 : decode cX5_teaches 14 = .ok (.iconst 1, 1) := by decide +kernel
theorem dX5_teaches_15 : decode cX5_teaches 15 = .ok (.putfield 27, 3) := by decide +kernel
theorem dX5_teaches_18 : decode cX5_teaches 18 = .ok (.iconst 0, 1) := by decide +kernel
theorem dX5_teaches_19 : decode cX5_teaches 19 = .ok (.istore_n 3, 1) := by decide +kernel
theorem dX5_teaches_20 : decode cX5_teaches 20 = .ok (.iconst 0, 1) := by decide +kernel
theorem dX5_teaches_21 : decode cX5_teaches 21 = .ok (.istore 4, 2) := by decide +kernel
theorem dX5_teaches_23 : decode cX5_teaches 23 = .ok (.iload 4, 2) := by decide +kernel
theorem dX5_teaches_25 : decode cX5_teaches 25 = .ok (.aload_n 0, 1) := by decide +kernel
theorem dX5_teaches_26 : decode cX5_teaches 26 = .ok (.invokevirtual 38, 3) := by decide +kernel
theorem dX5_teaches_29 : decode cX5_teaches 29 = .ok (.if_icmp .ge 34, 3) := by decide +kernel
theorem dX5_teaches_32 : decode cX5_teaches 32 = .ok (.iload_n 3, 1) := by decide +kernel
theorem dX5_teaches_33 : decode cX5_teaches 33 = .ok (.aload_n 0, 1) := by decide +kernel
theorem dX5_teaches_34 : decode cX5_teaches 34 = .ok (.iload 4, 2) := by decide +kernel
theorem dX5_teaches_36 : decode cX5_teaches 36 = .ok (.invokevirtual 49, 3) := by decide +kernel
theorem dX5_teaches_39 : decode cX5_teaches 39 = .ok (.ifCond .eq 15, 3) := by decide +kernel
theorem dX5_teaches_42 : decode cX5_teaches 42 = .ok (.iconst 1, 1) := by decide +kernel
theorem dX5_teaches_43 : decode cX5_teaches 43 = .ok (.iload 4, 2) := by decide +kernel
theorem dX5_teaches_45 : decode cX5_teaches 45 = .ok (.iload_n 1, 1) := by decide +kernel
theorem dX5_teaches_46 : decode cX5_teaches 46 = .ok (.iload_n 2, 1) := by decide +kernel
theorem dX5_teaches_47 : decode cX5_teaches 47 = .ok (.invokestatic 65, 3) := by decide +kernel
theorem dX5_teaches_50 : decode cX5_teaches 50 = .ok (.ishl, 1) := by decide +kernel
theorem dX5_teaches_51 : decode cX5_teaches 51 = .ok (.goto 4, 3) := by decide +kernel
theorem dX5_teaches_54 : decode cX5_teaches 54 = .ok (.iconst 0, 1) := by decide +kernel
theorem dX5_teaches_55 : decode cX5_teaches 55 = .ok (.ior, 1) := by decide +kernel
theorem dX5_teaches_56 : decode cX5_teaches 56 = .ok (.istore_n 3, 1) := by decide +kernel
theorem dX5_teaches_57 : decode cX5_teaches 57 = .ok (.iinc 4 1, 3) := by decide +kernel
theorem dX5_teaches_60 : decode cX5_teaches 60 = .ok (.goto (-37), 3) := by decide +kernel
theorem dX5_teaches_63 : decode cX5_teaches 63 = .ok (.aload_n 0, 1) := by decide +kernel
theorem dX5_teaches_64 : decode cX5_teaches 64 = .ok (.getfield 27, 3) := by decide +kernel
theorem dX5_teaches_67 : decode cX5_teaches 67 = .ok (.ifCond .ne 15, 3) := by decide +kernel
theorem dX5_teaches_70 : decode cX5_teaches 70 = .ok (.iload_n 3, 1) := by decide +kernel
theorem dX5_teaches_71 : decode cX5_teaches 71 = .ok (.iload_n 3, 1) := by decide +kernel
theorem dX5_teaches_72 : decode cX5_teaches 72 = .ok (.iconst 1, 1) := by decide +kernel
theorem dX5_teaches_73 : decode cX5_teaches 73 = .ok (.isub, 1) := by decide +kernel
theorem dX5_teaches_74 : decode cX5_teaches 74 = .ok (.iand, 1) := by decide +kernel
theorem dX5_teaches_75 : decode cX5_teaches 75 = .ok (.ifCond .eq 7, 3) := by decide +kernel
theorem dX5_teaches_78 : decode cX5_teaches 78 = .ok (.iconst 1, 1) := by decide +kernel
theorem dX5_teaches_79 : decode cX5_teaches 79 = .ok (.goto 4, 3) := by decide +kernel
theorem dX5_teaches_82 : decode cX5_teaches 82 = .ok (.iconst 0, 1) := by decide +kernel
theorem dX5_teaches_83 : decode cX5_teaches 83 = .ok (.ireturn, 1) := by decide +kernel
set_option maxRecDepth 20000 in
theorem ggX5_apart_X5_truth : GoodIn wsX5_apart wsX5_truth := goodIn_r _ [5] (by decide +kernel) (by decide +kernel)
set_option maxRecDepth 20000 in
theorem gX5_apart_X5_truth : GoodIn wsX5_apart (va_wsS RX5 65 yX5_truth wsX5_truth) := goodIn_app (goodIn_of _ (by decide +kernel)) ggX5_apart_X5_truth
theorem dX5_apart_0 : decode cX5_apart 0 = .ok (.iconst 0, 1) := by decide +kernel
theorem dX5_apart_1 : decode cX5_apart 1 = .ok (.istore_n 3, 1) := by decide +kernel
theorem dX5_apart_2 : decode cX5_apart 2 = .ok (.iconst 0, 1) := by decide +kernel
theorem dX5_apart_3 : decode cX5_apart 3 = .ok (.istore 4, 2) := by decide +kernel
theorem dX5_apart_5 : decode cX5_apart 5 = .ok (.iload 4, 2) := by decide +kernel
theorem dX5_apart_7 : decode cX5_apart 7 = .ok (.aload_n 0, 1) := by decide +kernel
theorem dX5_apart_8 : decode cX5_apart 8 = .ok (.getfield 7, 3) := by decide +kernel
theorem dX5_apart_11 : decode cX5_apart 11 = .ok (.iconst 3, 1) := by decide +kernel
theorem dX5_apart_12 : decode cX5_apart 12 = .ok (.iaload, 1) := by decide +kernel
theorem dX5_apart_13 : decode cX5_apart 13 = .ok (.if_icmp .ge 66, 3) := by decide +kernel
theorem dX5_apart_16 : decode cX5_apart 16 = .ok (.aload_n 0, 1) := by decide +kernel
theorem dX5_apart_17 : decode cX5_apart 17 = .ok (.getfield 7, 3) := by decide +kernel
theorem dX5_apart_20 : decode cX5_apart 20 = .ok (.bipush 127, 2) := by decide +kernel
theorem dX5_apart_22 : decode cX5_apart 22 = .ok (.iconst 2, 1) := by decide +kernel
theorem dX5_apart_23 : decode cX5_apart 23 = .ok (.iload 4, 2) := by decide +kernel
theorem dX5_apart_25 : decode cX5_apart 25 = .ok (.imul, 1) := by decide +kernel
theorem dX5_apart_26 : decode cX5_apart 26 = .ok (.iadd, 1) := by decide +kernel
theorem dX5_apart_27 : decode cX5_apart 27 = .ok (.iaload, 1) := by decide +kernel
theorem dX5_apart_28 : decode cX5_apart 28 = .ok (.istore 5, 2) := by decide +kernel
theorem dX5_apart_30 : decode cX5_apart 30 = .ok (.aload_n 0, 1) := by decide +kernel
theorem dX5_apart_31 : decode cX5_apart 31 = .ok (.getfield 7, 3) := by decide +kernel
theorem dX5_apart_34 : decode cX5_apart 34 = .ok (.bipush 127, 2) := by decide +kernel
theorem dX5_apart_36 : decode cX5_apart 36 = .ok (.iconst 2, 1) := by decide +kernel
theorem dX5_apart_37 : decode cX5_apart 37 = .ok (.iload 4, 2) := by decide +kernel
theorem dX5_apart_39 : decode cX5_apart 39 = .ok (.imul, 1) := by decide +kernel
theorem dX5_apart_40 : decode cX5_apart 40 = .ok (.iadd, 1) := by decide +kernel
theorem dX5_apart_41 : decode cX5_apart 41 = .ok (.iconst 1, 1) := by decide +kernel
theorem dX5_apart_42 : decode cX5_apart 42 = .ok (.iadd, 1) := by decide +kernel
theorem dX5_apart_43 : decode cX5_apart 43 = .ok (.iaload, 1) := by decide +kernel
theorem dX5_apart_44 : decode cX5_apart 44 = .ok (.istore 6, 2) := by decide +kernel
theorem dX5_apart_46 : decode cX5_apart 46 = .ok (.iload_n 3, 1) := by decide +kernel
theorem dX5_apart_47 : decode cX5_apart 47 = .ok (.iload_n 1, 1) := by decide +kernel
theorem dX5_apart_48 : decode cX5_apart 48 = .ok (.iload 5, 2) := by decide +kernel
theorem dX5_apart_50 : decode cX5_apart 50 = .ok (.iload 6, 2) := by decide +kernel
theorem dX5_apart_52 : decode cX5_apart 52 = .ok (.invokestatic 65, 3) := by decide +kernel
theorem dX5_apart_55 : decode cX5_apart 55 = .ok (.iload_n 2, 1) := by decide +kernel
theorem dX5_apart_56 : decode cX5_apart 56 = .ok (.iload 5, 2) := by decide +kernel
theorem dX5_apart_58 : decode cX5_apart 58 = .ok (.iload 6, 2) := by decide +kernel
theorem dX5_apart_60 : decode cX5_apart 60 = .ok (.invokestatic 65, 3) := by decide +kernel
theorem dX5_apart_63 : decode cX5_apart 63 = .ok (.if_icmp .ne 7, 3) := by decide +kernel
theorem dX5_apart_66 : decode cX5_apart 66 = .ok (.iconst 0, 1) := by decide +kernel
theorem dX5_apart_67 : decode cX5_apart 67 = .ok (.goto 4, 3) := by decide +kernel
theorem dX5_apart_70 : decode cX5_apart 70 = .ok (.iconst 1, 1) := by decide +kernel
theorem dX5_apart_71 : decode cX5_apart 71 = .ok (.iadd, 1) := by decide +kernel
theorem dX5_apart_72 : decode cX5_apart 72 = .ok (.istore_n 3, 1) := by decide +kernel
theorem dX5_apart_73 : decode cX5_apart 73 = .ok (.iinc 4 1, 3) := by decide +kernel
theorem dX5_apart_76 : decode cX5_apart 76 = .ok (.goto (-71), 3) := by decide +kernel
theorem dX5_apart_79 : decode cX5_apart 79 = .ok (.iload_n 3, 1) := by decide +kernel
theorem dX5_apart_80 : decode cX5_apart 80 = .ok (.ireturn, 1) := by decide +kernel
set_option maxRecDepth 20000 in
theorem ggX5_distance_X5_isCase : GoodIn wsX5_distance wsX5_isCase := goodIn_r _ [5, 6, 7, 8, 4, 9, 10, 11, 12, 13, 30, 31, 32, 33, 34, 35, 36, 37, 38, 39, 40] (by decide +kernel) (by decide +kernel)
set_option maxRecDepth 20000 in
theorem gX5_distance_X5_isCase : GoodIn wsX5_distance (wsV RX5 80 RX5 yX5_isCase wsX5_isCase) := goodIn_app (goodIn_of _ (by decide +kernel)) ggX5_distance_X5_isCase
set_option maxRecDepth 20000 in
theorem ggX5_distance_X5_apart : GoodIn wsX5_distance wsX5_apart := goodIn_r _ [17, 10, 18, 19, 4, 20, 30, 31, 32, 33, 34, 35, 36, 37, 38, 39, 40] (by decide +kernel) (by decide +kernel)
set_option maxRecDepth 20000 in
theorem gX5_distance_X5_apart : GoodIn wsX5_distance (wsV RX5 121 RX5 yX5_apart wsX5_apart) := goodIn_app (goodIn_of _ (by decide +kernel)) ggX5_distance_X5_apart
set_option maxRecDepth 20000 in
theorem ggX5_distance_X5_tells : GoodIn wsX5_distance wsX5_tells := goodIn_r _ [24, 25, 30, 31, 32, 33, 34, 35, 36, 37, 38, 39, 40] (by decide +kernel) (by decide +kernel)
set_option maxRecDepth 20000 in
theorem gX5_distance_X5_tells : GoodIn wsX5_distance (wsV RX5 34 RX5 yX5_tells wsX5_tells) := goodIn_app (goodIn_of _ (by decide +kernel)) ggX5_distance_X5_tells
set_option maxRecDepth 20000 in
theorem ggX5_distance_X5_fails : GoodIn wsX5_distance wsX5_fails := goodIn_r _ [29, 25, 30, 31, 32, 33, 34, 35, 36, 37, 38, 39, 40] (by decide +kernel) (by decide +kernel)
set_option maxRecDepth 20000 in
theorem gX5_distance_X5_fails : GoodIn wsX5_distance (wsV RX5 53 RX5 yX5_fails wsX5_fails) := goodIn_app (goodIn_of _ (by decide +kernel)) ggX5_distance_X5_fails
theorem dX5_distance_0 : decode cX5_distance 0 = .ok (.aload_n 0, 1) := by decide +kernel
theorem dX5_distance_1 : decode cX5_distance 1 = .ok (.iload_n 1, 1) := by decide +kernel
theorem dX5_distance_2 : decode cX5_distance 2 = .ok (.invokevirtual 80, 3) := by decide +kernel
theorem dX5_distance_5 : decode cX5_distance 5 = .ok (.ifCond .eq 24, 3) := by decide +kernel
theorem dX5_distance_8 : decode cX5_distance 8 = .ok (.aload_n 0, 1) := by decide +kernel
theorem dX5_distance_9 : decode cX5_distance 9 = .ok (.iload_n 2, 1) := by decide +kernel
theorem dX5_distance_10 : decode cX5_distance 10 = .ok (.invokevirtual 80, 3) := by decide +kernel
theorem dX5_distance_13 : decode cX5_distance 13 = .ok (.ifCond .eq 16, 3) := by decide +kernel
theorem dX5_distance_16 : decode cX5_distance 16 = .ok (.aload_n 0, 1) := by decide +kernel
theorem dX5_distance_17 : decode cX5_distance 17 = .ok (.aload_n 0, 1) := by decide +kernel
theorem dX5_distance_18 : decode cX5_distance 18 = .ok (.iload_n 1, 1) := by decide +kernel
theorem dX5_distance_19 : decode cX5_distance 19 = .ok (.iload_n 2, 1) := by decide +kernel
theorem dX5_distance_20 : decode cX5_distance 20 = .ok (.invokevirtual 121, 3) := by decide +kernel
theorem dX5_distance_23 : decode cX5_distance 23 = .ok (.invokevirtual 34, 3) := by decide +kernel
theorem dX5_distance_26 : decode cX5_distance 26 = .ok (.goto 8, 3) := by decide +kernel
theorem dX5_distance_29 : decode cX5_distance 29 = .ok (.aload_n 0, 1) := by decide +kernel
theorem dX5_distance_30 : decode cX5_distance 30 = .ok (.iconst 1, 1) := by decide +kernel
theorem dX5_distance_31 : decode cX5_distance 31 = .ok (.invokevirtual 53, 3) := by decide +kernel
theorem dX5_distance_34 : decode cX5_distance 34 = .ok (.ireturn, 1) := by decide +kernel
set_option maxRecDepth 20000 in
theorem ggX5_nearest_X5_cases : GoodIn wsX5_nearest wsX5_cases := goodIn_r _ [5, 6, 14, 15, 16, 17, 18, 19, 20, 21, 22, 23, 24] (by decide +kernel) (by decide +kernel)
set_option maxRecDepth 20000 in
theorem gX5_nearest_X5_cases : GoodIn wsX5_nearest (wsV RX5 38 RX5 yX5_cases wsX5_cases) := goodIn_app (goodIn_of _ (by decide +kernel)) ggX5_nearest_X5_cases
set_option maxRecDepth 20000 in
theorem ggX5_nearest_X5_apart : GoodIn wsX5_nearest wsX5_apart := goodIn_r _ [10, 6, 11, 12, 4, 13, 14, 15, 16, 17, 18, 19, 20, 21, 22, 23, 24] (by decide +kernel) (by decide +kernel)
set_option maxRecDepth 20000 in
theorem gX5_nearest_X5_apart : GoodIn wsX5_nearest (wsV RX5 121 RX5 yX5_apart wsX5_apart) := goodIn_app (goodIn_of _ (by decide +kernel)) ggX5_nearest_X5_apart
theorem dX5_nearest_0 : decode cX5_nearest 0 = .ok (.bipush 8, 2) := by decide +kernel
theorem dX5_nearest_2 : decode cX5_nearest 2 = .ok (.istore_n 1, 1) := by decide +kernel
theorem dX5_nearest_3 : decode cX5_nearest 3 = .ok (.iconst 0, 1) := by decide +kernel
theorem dX5_nearest_4 : decode cX5_nearest 4 = .ok (.istore_n 2, 1) := by decide +kernel
theorem dX5_nearest_5 : decode cX5_nearest 5 = .ok (.iload_n 2, 1) := by decide +kernel
theorem dX5_nearest_6 : decode cX5_nearest 6 = .ok (.aload_n 0, 1) := by decide +kernel
theorem dX5_nearest_7 : decode cX5_nearest 7 = .ok (.invokevirtual 38, 3) := by decide +kernel
theorem dX5_nearest_10 : decode cX5_nearest 10 = .ok (.if_icmp .ge 43, 3) := by decide +kernel
theorem dX5_nearest_13 : decode cX5_nearest 13 = .ok (.iconst 0, 1) := by decide +kernel
theorem dX5_nearest_14 : decode cX5_nearest 14 = .ok (.istore_n 3, 1) := by decide +kernel
theorem dX5_nearest_15 : decode cX5_nearest 15 = .ok (.iload_n 3, 1) := by decide +kernel
theorem dX5_nearest_16 : decode cX5_nearest 16 = .ok (.iload_n 2, 1) := by decide +kernel
theorem dX5_nearest_17 : decode cX5_nearest 17 = .ok (.if_icmp .ge 30, 3) := by decide +kernel
theorem dX5_nearest_20 : decode cX5_nearest 20 = .ok (.aload_n 0, 1) := by decide +kernel
theorem dX5_nearest_21 : decode cX5_nearest 21 = .ok (.iload_n 2, 1) := by decide +kernel
theorem dX5_nearest_22 : decode cX5_nearest 22 = .ok (.iload_n 3, 1) := by decide +kernel
theorem dX5_nearest_23 : decode cX5_nearest 23 = .ok (.invokevirtual 121, 3) := by decide +kernel
theorem dX5_nearest_26 : decode cX5_nearest 26 = .ok (.istore 4, 2) := by decide +kernel
theorem dX5_nearest_28 : decode cX5_nearest 28 = .ok (.iload 4, 2) := by decide +kernel
theorem dX5_nearest_30 : decode cX5_nearest 30 = .ok (.iload_n 1, 1) := by decide +kernel
theorem dX5_nearest_31 : decode cX5_nearest 31 = .ok (.if_icmp .ge 8, 3) := by decide +kernel
theorem dX5_nearest_34 : decode cX5_nearest 34 = .ok (.iload 4, 2) := by decide +kernel
theorem dX5_nearest_36 : decode cX5_nearest 36 = .ok (.goto 4, 3) := by decide +kernel
theorem dX5_nearest_39 : decode cX5_nearest 39 = .ok (.iload_n 1, 1) := by decide +kernel
theorem dX5_nearest_40 : decode cX5_nearest 40 = .ok (.istore_n 1, 1) := by decide +kernel
theorem dX5_nearest_41 : decode cX5_nearest 41 = .ok (.iinc 3 1, 3) := by decide +kernel
theorem dX5_nearest_44 : decode cX5_nearest 44 = .ok (.goto (-29), 3) := by decide +kernel
theorem dX5_nearest_47 : decode cX5_nearest 47 = .ok (.iinc 2 1, 3) := by decide +kernel
theorem dX5_nearest_50 : decode cX5_nearest 50 = .ok (.goto (-45), 3) := by decide +kernel
theorem dX5_nearest_53 : decode cX5_nearest 53 = .ok (.iload_n 1, 1) := by decide +kernel
theorem dX5_nearest_54 : decode cX5_nearest 54 = .ok (.ireturn, 1) := by decide +kernel
set_option maxRecDepth 20000 in
theorem ggX5_leastDistance_X5_nearest : GoodIn wsX5_leastDistance wsX5_nearest := goodIn_r _ [5, 6, 7, 8, 4, 9, 10, 11, 12, 13, 14, 15, 16, 17, 23, 24, 25, 26, 27, 28, 29, 30, 31, 32, 33] (by decide +kernel) (by decide +kernel)
set_option maxRecDepth 20000 in
theorem gX5_leastDistance_X5_nearest : GoodIn wsX5_leastDistance (wsV RX5 124 RX5 yX5_nearest wsX5_nearest) := goodIn_app (goodIn_of _ (by decide +kernel)) ggX5_leastDistance_X5_nearest
set_option maxRecDepth 20000 in
theorem ggX5_leastDistance_X5_tells : GoodIn wsX5_leastDistance wsX5_tells := goodIn_r _ [21, 22, 23, 24, 25, 26, 27, 28, 29, 30, 31, 32, 33] (by decide +kernel) (by decide +kernel)
set_option maxRecDepth 20000 in
theorem gX5_leastDistance_X5_tells : GoodIn wsX5_leastDistance (wsV RX5 34 RX5 yX5_tells wsX5_tells) := goodIn_app (goodIn_of _ (by decide +kernel)) ggX5_leastDistance_X5_tells
theorem dX5_leastDistance_0 : decode cX5_leastDistance 0 = .ok (.aload_n 0, 1) := by decide +kernel
theorem dX5_leastDistance_1 : decode cX5_leastDistance 1 = .ok (.aload_n 0, 1) := by decide +kernel
theorem dX5_leastDistance_2 : decode cX5_leastDistance 2 = .ok (.invokevirtual 124, 3) := by decide +kernel
theorem dX5_leastDistance_5 : decode cX5_leastDistance 5 = .ok (.invokevirtual 34, 3) := by decide +kernel
theorem dX5_leastDistance_8 : decode cX5_leastDistance 8 = .ok (.ireturn, 1) := by decide +kernel
set_option maxRecDepth 20000 in
theorem ggX5_bears_X5_nearest : GoodIn wsX5_bears wsX5_nearest := goodIn_r _ [5, 6, 7, 8, 4, 9, 10, 11, 12, 13, 14, 15, 16, 17, 23, 24, 25, 26, 27, 28, 29, 30, 31, 32, 33] (by decide +kernel) (by decide +kernel)
set_option maxRecDepth 20000 in
theorem gX5_bears_X5_nearest : GoodIn wsX5_bears (wsV RX5 124 RX5 yX5_nearest wsX5_nearest) := goodIn_app (goodIn_of _ (by decide +kernel)) ggX5_bears_X5_nearest
set_option maxRecDepth 20000 in
theorem ggX5_bears_X5_tells : GoodIn wsX5_bears wsX5_tells := goodIn_r _ [21, 22, 23, 24, 25, 26, 27, 28, 29, 30, 31, 32, 33] (by decide +kernel) (by decide +kernel)
set_option maxRecDepth 20000 in
theorem gX5_bears_X5_tells : GoodIn wsX5_bears (wsV RX5 34 RX5 yX5_tells wsX5_tells) := goodIn_app (goodIn_of _ (by decide +kernel)) ggX5_bears_X5_tells
theorem dX5_bears_0 : decode cX5_bears 0 = .ok (.aload_n 0, 1) := by decide +kernel
theorem dX5_bears_1 : decode cX5_bears 1 = .ok (.invokevirtual 124, 3) := by decide +kernel
theorem dX5_bears_4 : decode cX5_bears 4 = .ok (.istore_n 1, 1) := by decide +kernel
theorem dX5_bears_5 : decode cX5_bears 5 = .ok (.aload_n 0, 1) := by decide +kernel
theorem dX5_bears_6 : decode cX5_bears 6 = .ok (.iload_n 1, 1) := by decide +kernel
theorem dX5_bears_7 : decode cX5_bears 7 = .ok (.ifCond .ne 7, 3) := by decide +kernel
theorem dX5_bears_10 : decode cX5_bears 10 = .ok (.iconst (-1), 1) := by decide +kernel
theorem dX5_bears_11 : decode cX5_bears 11 = .ok (.goto 8, 3) := by decide +kernel
theorem dX5_bears_14 : decode cX5_bears 14 = .ok (.iload_n 1, 1) := by decide +kernel
theorem dX5_bears_15 : decode cX5_bears 15 = .ok (.iconst 1, 1) := by decide +kernel
theorem dX5_bears_16 : decode cX5_bears 16 = .ok (.isub, 1) := by decide +kernel
theorem dX5_bears_17 : decode cX5_bears 17 = .ok (.iconst 2, 1) := by decide +kernel
theorem dX5_bears_18 : decode cX5_bears 18 = .ok (.idiv, 1) := by decide +kernel
theorem dX5_bears_19 : decode cX5_bears 19 = .ok (.invokevirtual 34, 3) := by decide +kernel
theorem dX5_bears_22 : decode cX5_bears 22 = .ok (.ireturn, 1) := by decide +kernel
set_option maxRecDepth 20000 in
theorem ggX5_differs_X5_truth : GoodIn wsX5_differs wsX5_truth := goodIn_r _ [5] (by decide +kernel) (by decide +kernel)
set_option maxRecDepth 20000 in
theorem gX5_differs_X5_truth : GoodIn wsX5_differs (va_wsS RX5 65 yX5_truth wsX5_truth) := goodIn_app (goodIn_of _ (by decide +kernel)) ggX5_differs_X5_truth
theorem dX5_differs_0 : decode cX5_differs 0 = .ok (.iconst 0, 1) := by decide +kernel
theorem dX5_differs_1 : decode cX5_differs 1 = .ok (.istore_n 3, 1) := by decide +kernel
theorem dX5_differs_2 : decode cX5_differs 2 = .ok (.iload_n 2, 1) := by decide +kernel
theorem dX5_differs_3 : decode cX5_differs 3 = .ok (.istore 4, 2) := by decide +kernel
theorem dX5_differs_5 : decode cX5_differs 5 = .ok (.iconst 0, 1) := by decide +kernel
theorem dX5_differs_6 : decode cX5_differs 6 = .ok (.istore 5, 2) := by decide +kernel
theorem dX5_differs_8 : decode cX5_differs 8 = .ok (.iload 5, 2) := by decide +kernel
theorem dX5_differs_10 : decode cX5_differs 10 = .ok (.aload_n 0, 1) := by decide +kernel
theorem dX5_differs_11 : decode cX5_differs 11 = .ok (.getfield 7, 3) := by decide +kernel
theorem dX5_differs_14 : decode cX5_differs 14 = .ok (.iconst 3, 1) := by decide +kernel
theorem dX5_differs_15 : decode cX5_differs 15 = .ok (.iaload, 1) := by decide +kernel
theorem dX5_differs_16 : decode cX5_differs 16 = .ok (.if_icmp .ge 60, 3) := by decide +kernel
theorem dX5_differs_19 : decode cX5_differs 19 = .ok (.iload_n 3, 1) := by decide +kernel
theorem dX5_differs_20 : decode cX5_differs 20 = .ok (.iload_n 1, 1) := by decide +kernel
theorem dX5_differs_21 : decode cX5_differs 21 = .ok (.aload_n 0, 1) := by decide +kernel
theorem dX5_differs_22 : decode cX5_differs 22 = .ok (.getfield 7, 3) := by decide +kernel
theorem dX5_differs_25 : decode cX5_differs 25 = .ok (.bipush 127, 2) := by decide +kernel
theorem dX5_differs_27 : decode cX5_differs 27 = .ok (.iconst 2, 1) := by decide +kernel
theorem dX5_differs_28 : decode cX5_differs 28 = .ok (.iload 5, 2) := by decide +kernel
theorem dX5_differs_30 : decode cX5_differs 30 = .ok (.imul, 1) := by decide +kernel
theorem dX5_differs_31 : decode cX5_differs 31 = .ok (.iadd, 1) := by decide +kernel
theorem dX5_differs_32 : decode cX5_differs 32 = .ok (.iaload, 1) := by decide +kernel
theorem dX5_differs_33 : decode cX5_differs 33 = .ok (.aload_n 0, 1) := by decide +kernel
theorem dX5_differs_34 : decode cX5_differs 34 = .ok (.getfield 7, 3) := by decide +kernel
theorem dX5_differs_37 : decode cX5_differs 37 = .ok (.bipush 127, 2) := by decide +kernel
theorem dX5_differs_39 : decode cX5_differs 39 = .ok (.iconst 2, 1) := by decide +kernel
theorem dX5_differs_40 : decode cX5_differs 40 = .ok (.iload 5, 2) := by decide +kernel
theorem dX5_differs_42 : decode cX5_differs 42 = .ok (.imul, 1) := by decide +kernel
theorem dX5_differs_43 : decode cX5_differs 43 = .ok (.iadd, 1) := by decide +kernel
theorem dX5_differs_44 : decode cX5_differs 44 = .ok (.iconst 1, 1) := by decide +kernel
theorem dX5_differs_45 : decode cX5_differs 45 = .ok (.iadd, 1) := by decide +kernel
theorem dX5_differs_46 : decode cX5_differs 46 = .ok (.iaload, 1) := by decide +kernel
theorem dX5_differs_47 : decode cX5_differs 47 = .ok (.invokestatic 65, 3) := by decide +kernel
theorem dX5_differs_50 : decode cX5_differs 50 = .ok (.iload 4, 2) := by decide +kernel
theorem dX5_differs_52 : decode cX5_differs 52 = .ok (.iconst 3, 1) := by decide +kernel
theorem dX5_differs_53 : decode cX5_differs 53 = .ok (.irem, 1) := by decide +kernel
theorem dX5_differs_54 : decode cX5_differs 54 = .ok (.if_icmp .ne 7, 3) := by decide +kernel
theorem dX5_differs_57 : decode cX5_differs 57 = .ok (.iconst 0, 1) := by decide +kernel
theorem dX5_differs_58 : decode cX5_differs 58 = .ok (.goto 4, 3) := by decide +kernel
theorem dX5_differs_61 : decode cX5_differs 61 = .ok (.iconst 1, 1) := by decide +kernel
theorem dX5_differs_62 : decode cX5_differs 62 = .ok (.iadd, 1) := by decide +kernel
theorem dX5_differs_63 : decode cX5_differs 63 = .ok (.istore_n 3, 1) := by decide +kernel
theorem dX5_differs_64 : decode cX5_differs 64 = .ok (.iload 4, 2) := by decide +kernel
theorem dX5_differs_66 : decode cX5_differs 66 = .ok (.iconst 3, 1) := by decide +kernel
theorem dX5_differs_67 : decode cX5_differs 67 = .ok (.idiv, 1) := by decide +kernel
theorem dX5_differs_68 : decode cX5_differs 68 = .ok (.istore 4, 2) := by decide +kernel
theorem dX5_differs_70 : decode cX5_differs 70 = .ok (.iinc 5 1, 3) := by decide +kernel
theorem dX5_differs_73 : decode cX5_differs 73 = .ok (.goto (-65), 3) := by decide +kernel
theorem dX5_differs_76 : decode cX5_differs 76 = .ok (.iload_n 3, 1) := by decide +kernel
theorem dX5_differs_77 : decode cX5_differs 77 = .ok (.ireturn, 1) := by decide +kernel
set_option maxRecDepth 20000 in
theorem ggX5_decode_X5_in : GoodIn wsX5_decode wsX5_in := goodIn_r _ [5] (by decide +kernel) (by decide +kernel)
set_option maxRecDepth 20000 in
theorem gX5_decode_X5_in : GoodIn wsX5_decode (va_wsS RX5 42 yX5_in wsX5_in) := goodIn_app (goodIn_of _ (by decide +kernel)) ggX5_decode_X5_in
set_option maxRecDepth 20000 in
theorem ggX5_decode_X5_fails : GoodIn wsX5_decode wsX5_fails := goodIn_r _ [9, 10, 26, 27, 28, 29, 30, 31, 32, 33, 34, 35, 36] (by decide +kernel) (by decide +kernel)
set_option maxRecDepth 20000 in
theorem gX5_decode_X5_fails : GoodIn wsX5_decode (wsV RX5 53 RX5 yX5_fails wsX5_fails) := goodIn_app (goodIn_of _ (by decide +kernel)) ggX5_decode_X5_fails
set_option maxRecDepth 20000 in
theorem ggX5_decode_X5_cases : GoodIn wsX5_decode wsX5_cases := goodIn_r _ [14, 1, 26, 27, 28, 29, 30, 31, 32, 33, 34, 35, 36] (by decide +kernel) (by decide +kernel)
set_option maxRecDepth 20000 in
theorem gX5_decode_X5_cases : GoodIn wsX5_decode (wsV RX5 38 RX5 yX5_cases wsX5_cases) := goodIn_app (goodIn_of _ (by decide +kernel)) ggX5_decode_X5_cases
set_option maxRecDepth 20000 in
theorem ggX5_decode_X5_differs : GoodIn wsX5_decode wsX5_differs := goodIn_r _ [18, 1, 19, 20, 4, 21, 26, 27, 28, 29, 30, 31, 32, 33, 34, 35, 36] (by decide +kernel) (by decide +kernel)
set_option maxRecDepth 20000 in
theorem gX5_decode_X5_differs : GoodIn wsX5_decode (wsV RX5 127 RX5 yX5_differs wsX5_differs) := goodIn_app (goodIn_of _ (by decide +kernel)) ggX5_decode_X5_differs
set_option maxRecDepth 20000 in
theorem ggX5_decode_X5_tells : GoodIn wsX5_decode wsX5_tells := goodIn_r _ [25, 10, 26, 27, 28, 29, 30, 31, 32, 33, 34, 35, 36] (by decide +kernel) (by decide +kernel)
set_option maxRecDepth 20000 in
theorem gX5_decode_X5_tells : GoodIn wsX5_decode (wsV RX5 34 RX5 yX5_tells wsX5_tells) := goodIn_app (goodIn_of _ (by decide +kernel)) ggX5_decode_X5_tells
theorem dX5_decode_0 : decode cX5_decode 0 = .ok (.iconst 1, 1) := by decide +kernel
theorem dX5_decode_1 : decode cX5_decode 1 = .ok (.istore_n 2, 1) := by decide +kernel
theorem dX5_decode_2 : decode cX5_decode 2 = .ok (.iconst 0, 1) := by decide +kernel
theorem dX5_decode_3 : decode cX5_decode 3 = .ok (.istore_n 3, 1) := by decide +kernel
theorem dX5_decode_4 : decode cX5_decode 4 = .ok (.iload_n 3, 1) := by decide +kernel
theorem dX5_decode_5 : decode cX5_decode 5 = .ok (.aload_n 0, 1) := by decide +kernel
theorem dX5_decode_6 : decode cX5_decode 6 = .ok (.getfield 7, 3) := by decide +kernel
theorem dX5_decode_9 : decode cX5_decode 9 = .ok (.iconst 3, 1) := by decide +kernel
theorem dX5_decode_10 : decode cX5_decode 10 = .ok (.iaload, 1) := by decide +kernel
theorem dX5_decode_11 : decode cX5_decode 11 = .ok (.if_icmp .ge 13, 3) := by decide +kernel
theorem dX5_decode_14 : decode cX5_decode 14 = .ok (.iload_n 2, 1) := by decide +kernel
theorem dX5_decode_15 : decode cX5_decode 15 = .ok (.iconst 3, 1) := by decide +kernel
theorem dX5_decode_16 : decode cX5_decode 16 = .ok (.imul, 1) := by decide +kernel
theorem dX5_decode_17 : decode cX5_decode 17 = .ok (.istore_n 2, 1) := by decide +kernel
theorem dX5_decode_18 : decode cX5_decode 18 = .ok (.iinc 3 1, 3) := by decide +kernel
theorem dX5_decode_21 : decode cX5_decode 21 = .ok (.goto (-17), 3) := by decide +kernel
theorem dX5_decode_24 : decode cX5_decode 24 = .ok (.iload_n 1, 1) := by decide +kernel
theorem dX5_decode_25 : decode cX5_decode 25 = .ok (.iconst 0, 1) := by decide +kernel
theorem dX5_decode_26 : decode cX5_decode 26 = .ok (.iload_n 2, 1) := by decide +kernel
theorem dX5_decode_27 : decode cX5_decode 27 = .ok (.iconst 1, 1) := by decide +kernel
theorem dX5_decode_28 : decode cX5_decode 28 = .ok (.isub, 1) := by decide +kernel
theorem dX5_decode_29 : decode cX5_decode 29 = .ok (.invokestatic 42, 3) := by decide +kernel
theorem dX5_decode_32 : decode cX5_decode 32 = .ok (.ifCond .ne 9, 3) := by decide +kernel
theorem dX5_decode_35 : decode cX5_decode 35 = .ok (.aload_n 0, 1) := by decide +kernel
theorem dX5_decode_36 : decode cX5_decode 36 = .ok (.iconst 1, 1) := by decide +kernel
theorem dX5_decode_37 : decode cX5_decode 37 = .ok (.invokevirtual 53, 3) := by decide +kernel
theorem dX5_decode_40 : decode cX5_decode 40 = .ok (.ireturn, 1) := by decide +kernel
theorem dX5_decode_41 : decode cX5_decode 41 = .ok (.iconst (-1), 1) := by decide +kernel
theorem dX5_decode_42 : decode cX5_decode 42 = .ok (.istore_n 3, 1) := by decide +kernel
theorem dX5_decode_43 : decode cX5_decode 43 = .ok (.bipush 9, 2) := by decide +kernel
theorem dX5_decode_45 : decode cX5_decode 45 = .ok (.istore 4, 2) := by decide +kernel
theorem dX5_decode_47 : decode cX5_decode 47 = .ok (.iconst 0, 1) := by decide +kernel
theorem dX5_decode_48 : decode cX5_decode 48 = .ok (.istore 5, 2) := by decide +kernel
theorem dX5_decode_50 : decode cX5_decode 50 = .ok (.iload 5, 2) := by decide +kernel
theorem dX5_decode_52 : decode cX5_decode 52 = .ok (.aload_n 0, 1) := by decide +kernel
theorem dX5_decode_53 : decode cX5_decode 53 = .ok (.invokevirtual 38, 3) := by decide +kernel
theorem dX5_decode_56 : decode cX5_decode 56 = .ok (.if_icmp .ge 59, 3) := by decide +kernel
theorem dX5_decode_59 : decode cX5_decode 59 = .ok (.aload_n 0, 1) := by decide +kernel
theorem dX5_decode_60 : decode cX5_decode 60 = .ok (.iload 5, 2) := by decide +kernel
theorem dX5_decode_62 : decode cX5_decode 62 = .ok (.iload_n 1, 1) := by decide +kernel
theorem dX5_decode_63 : decode cX5_decode 63 = .ok (.invokevirtual 127, 3) := by decide +kernel
theorem dX5_decode_66 : decode cX5_decode 66 = .ok (.istore 6, 2) := by decide +kernel
theorem dX5_decode_68 : decode cX5_decode 68 = .ok (.iload 6, 2) := by decide +kernel
theorem dX5_decode_70 : decode cX5_decode 70 = .ok (.iload 4, 2) := by decide +kernel
theorem dX5_decode_72 : decode cX5_decode 72 = .ok (.if_icmp .ge 8, 3) := by decide +kernel
theorem dX5_decode_75 : decode cX5_decode 75 = .ok (.iload 5, 2) := by decide +kernel
theorem dX5_decode_77 : decode cX5_decode 77 = .ok (.goto 15, 3) := by decide +kernel
theorem dX5_decode_80 : decode cX5_decode 80 = .ok (.iload 6, 2) := by decide +kernel
theorem dX5_decode_82 : decode cX5_decode 82 = .ok (.iload 4, 2) := by decide +kernel
theorem dX5_decode_84 : decode cX5_decode 84 = .ok (.if_icmp .ne 7, 3) := by decide +kernel
theorem dX5_decode_87 : decode cX5_decode 87 = .ok (.iconst (-1), 1) := by decide +kernel
theorem dX5_decode_88 : decode cX5_decode 88 = .ok (.goto 4, 3) := by decide +kernel
theorem dX5_decode_91 : decode cX5_decode 91 = .ok (.iload_n 3, 1) := by decide +kernel
theorem dX5_decode_92 : decode cX5_decode 92 = .ok (.istore_n 3, 1) := by decide +kernel
theorem dX5_decode_93 : decode cX5_decode 93 = .ok (.iload 6, 2) := by decide +kernel
theorem dX5_decode_95 : decode cX5_decode 95 = .ok (.iload 4, 2) := by decide +kernel
theorem dX5_decode_97 : decode cX5_decode 97 = .ok (.if_icmp .ge 8, 3) := by decide +kernel
theorem dX5_decode_100 : decode cX5_decode 100 = .ok (.iload 6, 2) := by decide +kernel
theorem dX5_decode_102 : decode cX5_decode 102 = .ok (.goto 5, 3) := by decide +kernel
theorem dX5_decode_105 : decode cX5_decode 105 = .ok (.iload 4, 2) := by decide +kernel
theorem dX5_decode_107 : decode cX5_decode 107 = .ok (.istore 4, 2) := by decide +kernel
theorem dX5_decode_109 : decode cX5_decode 109 = .ok (.iinc 5 1, 3) := by decide +kernel
theorem dX5_decode_112 : decode cX5_decode 112 = .ok (.goto (-62), 3) := by decide +kernel
theorem dX5_decode_115 : decode cX5_decode 115 = .ok (.aload_n 0, 1) := by decide +kernel
theorem dX5_decode_116 : decode cX5_decode 116 = .ok (.iload_n 3, 1) := by decide +kernel
theorem dX5_decode_117 : decode cX5_decode 117 = .ok (.invokevirtual 34, 3) := by decide +kernel
theorem dX5_decode_120 : decode cX5_decode 120 = .ok (.ireturn, 1) := by decide +kernel
set_option maxRecDepth 20000 in
theorem ggX5_share_X5_lefts : GoodIn wsX5_share wsX5_lefts := goodIn_r _ [6, 7, 8, 9, 5, 10, 11, 12, 13, 14, 15, 16, 17, 18, 19, 20, 21, 22, 23, 24, 25, 26] (by decide +kernel) (by decide +kernel)
set_option maxRecDepth 20000 in
theorem gX5_share_X5_lefts : GoodIn wsX5_share (wsV RX5 62 RX5 yX5_lefts wsX5_lefts) := goodIn_app (goodIn_of _ (by decide +kernel)) ggX5_share_X5_lefts
set_option maxRecDepth 20000 in
theorem ggX5_share_X5_cases : GoodIn wsX5_share wsX5_cases := goodIn_r _ [10, 11, 16, 17, 18, 19, 20, 21, 22, 23, 24, 25, 26] (by decide +kernel) (by decide +kernel)
set_option maxRecDepth 20000 in
theorem gX5_share_X5_cases : GoodIn wsX5_share (wsV RX5 38 RX5 yX5_cases wsX5_cases) := goodIn_app (goodIn_of _ (by decide +kernel)) ggX5_share_X5_cases
theorem dX5_share_0 : decode cX5_share 0 = .ok (.aload_n 0, 1) := by decide +kernel
theorem dX5_share_1 : decode cX5_share 1 = .ok (.iconst 0, 1) := by decide +kernel
theorem dX5_share_2 : decode cX5_share 2 = .ok (.putfield 27, 3) := by decide +kernel
theorem dX5_share_5 : decode cX5_share 5 = .ok (.aload_n 0, 1) := by decide +kernel
theorem dX5_share_6 : decode cX5_share 6 = .ok (.invokevirtual 62, 3) := by decide +kernel
theorem dX5_share_9 : decode cX5_share 9 = .ok (.i2d, 1) := by decide +kernel
theorem dX5_share_10 : decode cX5_share 10 = .ok (.aload_n 0, 1) := by decide +kernel
theorem dX5_share_11 : decode cX5_share 11 = .ok (.invokevirtual 38, 3) := by decide +kernel
theorem dX5_share_14 : decode cX5_share 14 = .ok (.i2d, 1) := by decide +kernel
theorem dX5_share_15 : decode cX5_share 15 = .ok (.ddiv, 1) := by decide +kernel
theorem dX5_share_16 : decode cX5_share 16 = .ok (.dreturn, 1) := by decide +kernel
set_option maxRecDepth 20000 in
theorem ggX5_append_X5_in : GoodIn wsX5_append wsX5_in := goodIn_r _ [6] (by decide +kernel) (by decide +kernel)
set_option maxRecDepth 20000 in
theorem gX5_append_X5_in : GoodIn wsX5_append (va_wsS RX5 42 yX5_in wsX5_in) := goodIn_app (goodIn_of _ (by decide +kernel)) ggX5_append_X5_in
set_option maxRecDepth 20000 in
theorem ggX5_append_X5_fails : GoodIn wsX5_append wsX5_fails := goodIn_r _ [10, 11, 16, 17, 18, 19, 20, 21, 22, 23, 24, 25, 26] (by decide +kernel) (by decide +kernel)
set_option maxRecDepth 20000 in
theorem gX5_append_X5_fails : GoodIn wsX5_append (wsV RX5 53 RX5 yX5_fails wsX5_fails) := goodIn_app (goodIn_of _ (by decide +kernel)) ggX5_append_X5_fails
set_option maxRecDepth 20000 in
theorem ggX5_append_X5_tells : GoodIn wsX5_append wsX5_tells := goodIn_r _ [15, 11, 16, 17, 18, 19, 20, 21, 22, 23, 24, 25, 26] (by decide +kernel) (by decide +kernel)
set_option maxRecDepth 20000 in
theorem gX5_append_X5_tells : GoodIn wsX5_append (wsV RX5 34 RX5 yX5_tells wsX5_tells) := goodIn_app (goodIn_of _ (by decide +kernel)) ggX5_append_X5_tells
theorem dX5_append_0 : decode cX5_append 0 = .ok (.iload_n 1, 1) := by decide +kernel
theorem dX5_append_1 : decode cX5_append 1 = .ok (.iconst 0, 1) := by decide +kernel
theorem dX5_append_2 : decode cX5_append 2 = .ok (.bipush 127, 2) := by decide +kernel
theorem dX5_append_4 : decode cX5_append 4 = .ok (.invokestatic 42, 3) := by decide +kernel
theorem dX5_append_7 : decode cX5_append 7 = .ok (.ifCond .ne 9, 3) := by decide +kernel
theorem dX5_append_10 : decode cX5_append 10 = .ok (.aload_n 0, 1) := by decide +kernel
theorem dX5_append_11 : decode cX5_append 11 = .ok (.iconst 1, 1) := by decide +kernel
theorem dX5_append_12 : decode cX5_append 12 = .ok (.invokevirtual 53, 3) := by decide +kernel
theorem dX5_append_15 : decode cX5_append 15 = .ok (.ireturn, 1) := by decide +kernel
theorem dX5_append_16 : decode cX5_append 16 = .ok (.aload_n 0, 1) := by decide +kernel
theorem dX5_append_17 : decode cX5_append 17 = .ok (.getfield 130, 3) := by decide +kernel
theorem dX5_append_20 : decode cX5_append 20 = .ok (.bipush 100, 2) := by decide +kernel
theorem dX5_append_22 : decode cX5_append 22 = .ok (.if_icmp .ne 9, 3) := by decide +kernel
theorem dX5_append_25 : decode cX5_append 25 = .ok (.aload_n 0, 1) := by decide +kernel
theorem dX5_append_26 : decode cX5_append 26 = .ok (.iconst 2, 1) := by decide +kernel
theorem dX5_append_27 : decode cX5_append 27 = .ok (.invokevirtual 53, 3) := by decide +kernel
theorem dX5_append_30 : decode cX5_append 30 = .ok (.ireturn, 1) := by decide +kernel
theorem dX5_append_31 : decode cX5_append 31 = .ok (.aload_n 0, 1) := by decide +kernel
theorem dX5_append_32 : decode cX5_append 32 = .ok (.getfield 19, 3) := by decide +kernel
theorem dX5_append_35 : decode cX5_append 35 = .ok (.aload_n 0, 1) := by decide +kernel
theorem dX5_append_36 : decode cX5_append 36 = .ok (.getfield 130, 3) := by decide +kernel
theorem dX5_append_39 : decode cX5_append 39 = .ok (.iload_n 1, 1) := by decide +kernel
theorem dX5_append_40 : decode cX5_append 40 = .ok (.i2b, 1) := by decide +kernel
theorem dX5_append_41 : decode cX5_append 41 = .ok (.bastore, 1) := by decide +kernel
theorem dX5_append_42 : decode cX5_append 42 = .ok (.aload_n 0, 1) := by decide +kernel
theorem dX5_append_43 : decode cX5_append 43 = .ok (.dup, 1) := by decide +kernel
theorem dX5_append_44 : decode cX5_append 44 = .ok (.getfield 130, 3) := by decide +kernel
theorem dX5_append_47 : decode cX5_append 47 = .ok (.iconst 1, 1) := by decide +kernel
theorem dX5_append_48 : decode cX5_append 48 = .ok (.iadd, 1) := by decide +kernel
theorem dX5_append_49 : decode cX5_append 49 = .ok (.putfield 130, 3) := by decide +kernel
theorem dX5_append_52 : decode cX5_append 52 = .ok (.aload_n 0, 1) := by decide +kernel
theorem dX5_append_53 : decode cX5_append 53 = .ok (.aload_n 0, 1) := by decide +kernel
theorem dX5_append_54 : decode cX5_append 54 = .ok (.getfield 130, 3) := by decide +kernel
theorem dX5_append_57 : decode cX5_append 57 = .ok (.invokevirtual 34, 3) := by decide +kernel
theorem dX5_append_60 : decode cX5_append 60 = .ok (.ireturn, 1) := by decide +kernel
set_option maxRecDepth 20000 in
theorem ggX5_clearText_X5_tells : GoodIn wsX5_clearText wsX5_tells := goodIn_r _ [6, 7, 8, 9, 10, 11, 12, 13, 14, 15, 16, 17, 18] (by decide +kernel) (by decide +kernel)
set_option maxRecDepth 20000 in
theorem gX5_clearText_X5_tells : GoodIn wsX5_clearText (wsV RX5 34 RX5 yX5_tells wsX5_tells) := goodIn_app (goodIn_of _ (by decide +kernel)) ggX5_clearText_X5_tells
theorem dX5_clearText_0 : decode cX5_clearText 0 = .ok (.aload_n 0, 1) := by decide +kernel
theorem dX5_clearText_1 : decode cX5_clearText 1 = .ok (.getfield 130, 3) := by decide +kernel
theorem dX5_clearText_4 : decode cX5_clearText 4 = .ok (.istore_n 1, 1) := by decide +kernel
theorem dX5_clearText_5 : decode cX5_clearText 5 = .ok (.aload_n 0, 1) := by decide +kernel
theorem dX5_clearText_6 : decode cX5_clearText 6 = .ok (.iconst 0, 1) := by decide +kernel
theorem dX5_clearText_7 : decode cX5_clearText 7 = .ok (.putfield 130, 3) := by decide +kernel
theorem dX5_clearText_10 : decode cX5_clearText 10 = .ok (.aload_n 0, 1) := by decide +kernel
theorem dX5_clearText_11 : decode cX5_clearText 11 = .ok (.iload_n 1, 1) := by decide +kernel
theorem dX5_clearText_12 : decode cX5_clearText 12 = .ok (.invokevirtual 34, 3) := by decide +kernel
theorem dX5_clearText_15 : decode cX5_clearText 15 = .ok (.ireturn, 1) := by decide +kernel
theorem dX5_sign_0 : decode cX5_sign 0 = .ok (.aload_n 0, 1) := by decide +kernel
theorem dX5_sign_1 : decode cX5_sign 1 = .ok (.getfield 133, 3) := by decide +kernel
theorem dX5_sign_4 : decode cX5_sign 4 = .ok (.aload_n 0, 1) := by decide +kernel
theorem dX5_sign_5 : decode cX5_sign 5 = .ok (.getfield 130, 3) := by decide +kernel
theorem dX5_sign_8 : decode cX5_sign 8 = .ok (.if_icmp .ge 15, 3) := by decide +kernel
theorem dX5_sign_11 : decode cX5_sign 11 = .ok (.aload_n 0, 1) := by decide +kernel
theorem dX5_sign_12 : decode cX5_sign 12 = .ok (.getfield 19, 3) := by decide +kernel
theorem dX5_sign_15 : decode cX5_sign 15 = .ok (.aload_n 0, 1) := by decide +kernel
theorem dX5_sign_16 : decode cX5_sign 16 = .ok (.getfield 133, 3) := by decide +kernel
theorem dX5_sign_19 : decode cX5_sign 19 = .ok (.baload, 1) := by decide +kernel
theorem dX5_sign_20 : decode cX5_sign 20 = .ok (.goto 4, 3) := by decide +kernel
theorem dX5_sign_23 : decode cX5_sign 23 = .ok (.iconst (-1), 1) := by decide +kernel
theorem dX5_sign_24 : decode cX5_sign 24 = .ok (.ireturn, 1) := by decide +kernel
set_option maxRecDepth 20000 in
theorem ggX5_side_X5_sign : GoodIn wsX5_side wsX5_sign := goodIn_r _ [6, 1, 7, 8, 12, 13, 14, 15, 16, 17, 18, 19, 20, 21, 22] (by decide +kernel) (by decide +kernel)
set_option maxRecDepth 20000 in
theorem gX5_side_X5_sign : GoodIn wsX5_side (wsV RX5 136 RX5 yX5_sign wsX5_sign) := goodIn_app (goodIn_of _ (by decide +kernel)) ggX5_side_X5_sign
set_option maxRecDepth 20000 in
theorem ggX5_side_X5_in : GoodIn wsX5_side wsX5_in := goodIn_r _ [11] (by decide +kernel) (by decide +kernel)
set_option maxRecDepth 20000 in
theorem gX5_side_X5_in : GoodIn wsX5_side (va_wsS RX5 42 yX5_in wsX5_in) := goodIn_app (goodIn_of _ (by decide +kernel)) ggX5_side_X5_in
theorem dX5_side_0 : decode cX5_side 0 = .ok (.iconst 0, 1) := by decide +kernel
theorem dX5_side_1 : decode cX5_side 1 = .ok (.istore_n 2, 1) := by decide +kernel
theorem dX5_side_2 : decode cX5_side 2 = .ok (.aload_n 0, 1) := by decide +kernel
theorem dX5_side_3 : decode cX5_side 3 = .ok (.invokevirtual 136, 3) := by decide +kernel
theorem dX5_side_6 : decode cX5_side 6 = .ok (.bipush 97, 2) := by decide +kernel
theorem dX5_side_8 : decode cX5_side 8 = .ok (.bipush 112, 2) := by decide +kernel
theorem dX5_side_10 : decode cX5_side 10 = .ok (.invokestatic 42, 3) := by decide +kernel
theorem dX5_side_13 : decode cX5_side 13 = .ok (.ifCond .eq 44, 3) := by decide +kernel
theorem dX5_side_16 : decode cX5_side 16 = .ok (.iconst 1, 1) := by decide +kernel
theorem dX5_side_17 : decode cX5_side 17 = .ok (.aload_n 0, 1) := by decide +kernel
theorem dX5_side_18 : decode cX5_side 18 = .ok (.invokevirtual 136, 3) := by decide +kernel
theorem dX5_side_21 : decode cX5_side 21 = .ok (.bipush 97, 2) := by decide +kernel
theorem dX5_side_23 : decode cX5_side 23 = .ok (.isub, 1) := by decide +kernel
theorem dX5_side_24 : decode cX5_side 24 = .ok (.ishl, 1) := by decide +kernel
theorem dX5_side_25 : decode cX5_side 25 = .ok (.iload_n 1, 1) := by decide +kernel
theorem dX5_side_26 : decode cX5_side 26 = .ok (.iload_n 2, 1) := by decide +kernel
theorem dX5_side_27 : decode cX5_side 27 = .ok (.ior, 1) := by decide +kernel
theorem dX5_side_28 : decode cX5_side 28 = .ok (.iand, 1) := by decide +kernel
theorem dX5_side_29 : decode cX5_side 29 = .ok (.ifCond .ne 28, 3) := by decide +kernel
theorem dX5_side_32 : decode cX5_side 32 = .ok (.iload_n 2, 1) := by decide +kernel
theorem dX5_side_33 : decode cX5_side 33 = .ok (.iconst 1, 1) := by decide +kernel
theorem dX5_side_34 : decode cX5_side 34 = .ok (.aload_n 0, 1) := by decide +kernel
theorem dX5_side_35 : decode cX5_side 35 = .ok (.invokevirtual 136, 3) := by decide +kernel
theorem dX5_side_38 : decode cX5_side 38 = .ok (.bipush 97, 2) := by decide +kernel
theorem dX5_side_40 : decode cX5_side 40 = .ok (.isub, 1) := by decide +kernel
theorem dX5_side_41 : decode cX5_side 41 = .ok (.ishl, 1) := by decide +kernel
theorem dX5_side_42 : decode cX5_side 42 = .ok (.ior, 1) := by decide +kernel
theorem dX5_side_43 : decode cX5_side 43 = .ok (.istore_n 2, 1) := by decide +kernel
theorem dX5_side_44 : decode cX5_side 44 = .ok (.aload_n 0, 1) := by decide +kernel
theorem dX5_side_45 : decode cX5_side 45 = .ok (.dup, 1) := by decide +kernel
theorem dX5_side_46 : decode cX5_side 46 = .ok (.getfield 133, 3) := by decide +kernel
theorem dX5_side_49 : decode cX5_side 49 = .ok (.iconst 1, 1) := by decide +kernel
theorem dX5_side_50 : decode cX5_side 50 = .ok (.iadd, 1) := by decide +kernel
theorem dX5_side_51 : decode cX5_side 51 = .ok (.putfield 133, 3) := by decide +kernel
theorem dX5_side_54 : decode cX5_side 54 = .ok (.goto (-52), 3) := by decide +kernel
theorem dX5_side_57 : decode cX5_side 57 = .ok (.iload_n 2, 1) := by decide +kernel
theorem dX5_side_58 : decode cX5_side 58 = .ok (.ireturn, 1) := by decide +kernel
set_option maxRecDepth 20000 in
theorem ggX5_takes_X5_sign : GoodIn wsX5_takes wsX5_sign := goodIn_r _ [6, 1, 7, 8, 9, 10, 11, 12, 13, 14, 15, 16, 17, 18, 19] (by decide +kernel) (by decide +kernel)
set_option maxRecDepth 20000 in
theorem gX5_takes_X5_sign : GoodIn wsX5_takes (wsV RX5 136 RX5 yX5_sign wsX5_sign) := goodIn_app (goodIn_of _ (by decide +kernel)) ggX5_takes_X5_sign
theorem dX5_takes_0 : decode cX5_takes 0 = .ok (.aload_n 0, 1) := by decide +kernel
theorem dX5_takes_1 : decode cX5_takes 1 = .ok (.invokevirtual 136, 3) := by decide +kernel
theorem dX5_takes_4 : decode cX5_takes 4 = .ok (.iload_n 1, 1) := by decide +kernel
theorem dX5_takes_5 : decode cX5_takes 5 = .ok (.if_icmp .ne 7, 3) := by decide +kernel
theorem dX5_takes_8 : decode cX5_takes 8 = .ok (.iconst 1, 1) := by decide +kernel
theorem dX5_takes_9 : decode cX5_takes 9 = .ok (.goto 4, 3) := by decide +kernel
theorem dX5_takes_12 : decode cX5_takes 12 = .ok (.iconst 0, 1) := by decide +kernel
theorem dX5_takes_13 : decode cX5_takes 13 = .ok (.istore_n 2, 1) := by decide +kernel
theorem dX5_takes_14 : decode cX5_takes 14 = .ok (.aload_n 0, 1) := by decide +kernel
theorem dX5_takes_15 : decode cX5_takes 15 = .ok (.dup, 1) := by decide +kernel
theorem dX5_takes_16 : decode cX5_takes 16 = .ok (.getfield 133, 3) := by decide +kernel
theorem dX5_takes_19 : decode cX5_takes 19 = .ok (.iload_n 2, 1) := by decide +kernel
theorem dX5_takes_20 : decode cX5_takes 20 = .ok (.ifCond .eq 7, 3) := by decide +kernel
theorem dX5_takes_23 : decode cX5_takes 23 = .ok (.iconst 1, 1) := by decide +kernel
theorem dX5_takes_24 : decode cX5_takes 24 = .ok (.goto 4, 3) := by decide +kernel
theorem dX5_takes_27 : decode cX5_takes 27 = .ok (.iconst 0, 1) := by decide +kernel
theorem dX5_takes_28 : decode cX5_takes 28 = .ok (.iadd, 1) := by decide +kernel
theorem dX5_takes_29 : decode cX5_takes 29 = .ok (.putfield 133, 3) := by decide +kernel
theorem dX5_takes_32 : decode cX5_takes 32 = .ok (.iload_n 2, 1) := by decide +kernel
theorem dX5_takes_33 : decode cX5_takes 33 = .ok (.ireturn, 1) := by decide +kernel
set_option maxRecDepth 20000 in
theorem ggX5_kind_X5_takes : GoodIn wsX5_kind wsX5_takes := goodIn_r _ [5, 6, 7, 8, 9, 4, 10, 11, 12, 13, 14, 15, 16, 17, 18, 19, 20, 21, 22, 23] (by decide +kernel) (by decide +kernel)
set_option maxRecDepth 20000 in
theorem gX5_kind_X5_takes : GoodIn wsX5_kind (wsV RX5 139 RX5 yX5_takes wsX5_takes) := goodIn_app (goodIn_of _ (by decide +kernel)) ggX5_kind_X5_takes
theorem dX5_kind_0 : decode cX5_kind 0 = .ok (.aload_n 0, 1) := by decide +kernel
theorem dX5_kind_1 : decode cX5_kind 1 = .ok (.bipush 63, 2) := by decide +kernel
theorem dX5_kind_3 : decode cX5_kind 3 = .ok (.invokevirtual 139, 3) := by decide +kernel
theorem dX5_kind_6 : decode cX5_kind 6 = .ok (.ifCond .eq 5, 3) := by decide +kernel
theorem dX5_kind_9 : decode cX5_kind 9 = .ok (.iconst 3, 1) := by decide +kernel
theorem dX5_kind_10 : decode cX5_kind 10 = .ok (.ireturn, 1) := by decide +kernel
theorem dX5_kind_11 : decode cX5_kind 11 = .ok (.aload_n 0, 1) := by decide +kernel
theorem dX5_kind_12 : decode cX5_kind 12 = .ok (.bipush 43, 2) := by decide +kernel
theorem dX5_kind_14 : decode cX5_kind 14 = .ok (.invokevirtual 139, 3) := by decide +kernel
theorem dX5_kind_17 : decode cX5_kind 17 = .ok (.ifCond .eq 5, 3) := by decide +kernel
theorem dX5_kind_20 : decode cX5_kind 20 = .ok (.iconst 4, 1) := by decide +kernel
theorem dX5_kind_21 : decode cX5_kind 21 = .ok (.ireturn, 1) := by decide +kernel
theorem dX5_kind_22 : decode cX5_kind 22 = .ok (.aload_n 0, 1) := by decide +kernel
theorem dX5_kind_23 : decode cX5_kind 23 = .ok (.bipush 61, 2) := by decide +kernel
theorem dX5_kind_25 : decode cX5_kind 25 = .ok (.invokevirtual 139, 3) := by decide +kernel
theorem dX5_kind_28 : decode cX5_kind 28 = .ok (.ifCond .ne 5, 3) := by decide +kernel
theorem dX5_kind_31 : decode cX5_kind 31 = .ok (.iconst (-1), 1) := by decide +kernel
theorem dX5_kind_32 : decode cX5_kind 32 = .ok (.ireturn, 1) := by decide +kernel
theorem dX5_kind_33 : decode cX5_kind 33 = .ok (.aload_n 0, 1) := by decide +kernel
theorem dX5_kind_34 : decode cX5_kind 34 = .ok (.bipush 108, 2) := by decide +kernel
theorem dX5_kind_36 : decode cX5_kind 36 = .ok (.invokevirtual 139, 3) := by decide +kernel
theorem dX5_kind_39 : decode cX5_kind 39 = .ok (.ifCond .eq 7, 3) := by decide +kernel
theorem dX5_kind_42 : decode cX5_kind 42 = .ok (.iconst 0, 1) := by decide +kernel
theorem dX5_kind_43 : decode cX5_kind 43 = .ok (.goto 30, 3) := by decide +kernel
theorem dX5_kind_46 : decode cX5_kind 46 = .ok (.aload_n 0, 1) := by decide +kernel
theorem dX5_kind_47 : decode cX5_kind 47 = .ok (.bipush 114, 2) := by decide +kernel
theorem dX5_kind_49 : decode cX5_kind 49 = .ok (.invokevirtual 139, 3) := by decide +kernel
theorem dX5_kind_52 : decode cX5_kind 52 = .ok (.ifCond .eq 7, 3) := by decide +kernel
theorem dX5_kind_55 : decode cX5_kind 55 = .ok (.iconst 1, 1) := by decide +kernel
theorem dX5_kind_56 : decode cX5_kind 56 = .ok (.goto 17, 3) := by decide +kernel
theorem dX5_kind_59 : decode cX5_kind 59 = .ok (.aload_n 0, 1) := by decide +kernel
theorem dX5_kind_60 : decode cX5_kind 60 = .ok (.bipush 101, 2) := by decide +kernel
theorem dX5_kind_62 : decode cX5_kind 62 = .ok (.invokevirtual 139, 3) := by decide +kernel
theorem dX5_kind_65 : decode cX5_kind 65 = .ok (.ifCond .eq 7, 3) := by decide +kernel
theorem dX5_kind_68 : decode cX5_kind 68 = .ok (.iconst 2, 1) := by decide +kernel
theorem dX5_kind_69 : decode cX5_kind 69 = .ok (.goto 4, 3) := by decide +kernel
theorem dX5_kind_72 : decode cX5_kind 72 = .ok (.iconst (-1), 1) := by decide +kernel
theorem dX5_kind_73 : decode cX5_kind 73 = .ok (.ireturn, 1) := by decide +kernel
set_option maxRecDepth 20000 in
theorem ggX5_reads_X5_side : GoodIn wsX5_reads wsX5_side := goodIn_r _ [8, 9, 10, 11, 12, 7, 13, 14, 15, 16, 17, 18, 27, 28, 29, 30, 31, 32, 33, 34, 35, 36, 37] (by decide +kernel) (by decide +kernel)
set_option maxRecDepth 20000 in
theorem gX5_reads_X5_side : GoodIn wsX5_reads (wsV RX5 142 RX5 yX5_side wsX5_side) := goodIn_app (goodIn_of _ (by decide +kernel)) ggX5_reads_X5_side
set_option maxRecDepth 20000 in
theorem ggX5_reads_X5_takes : GoodIn wsX5_reads wsX5_takes := goodIn_r _ [22, 9, 10, 11, 12, 7, 13, 14, 15, 27, 28, 29, 30, 31, 32, 33, 34, 35, 36, 37] (by decide +kernel) (by decide +kernel)
set_option maxRecDepth 20000 in
theorem gX5_reads_X5_takes : GoodIn wsX5_reads (wsV RX5 139 RX5 yX5_takes wsX5_takes) := goodIn_app (goodIn_of _ (by decide +kernel)) ggX5_reads_X5_takes
set_option maxRecDepth 20000 in
theorem ggX5_reads_X5_kind : GoodIn wsX5_reads wsX5_kind := goodIn_r _ [26, 19, 20, 21, 7, 22, 9, 10, 11, 12, 13, 14, 15, 27, 28, 29, 30, 31, 32, 33, 34, 35, 36, 37] (by decide +kernel) (by decide +kernel)
set_option maxRecDepth 20000 in
theorem gX5_reads_X5_kind : GoodIn wsX5_reads (wsV RX5 151 RX5 yX5_kind wsX5_kind) := goodIn_app (goodIn_of _ (by decide +kernel)) ggX5_reads_X5_kind
theorem dX5_reads_0 : decode cX5_reads 0 = .ok (.aload_n 0, 1) := by decide +kernel
theorem dX5_reads_1 : decode cX5_reads 1 = .ok (.aload_n 0, 1) := by decide +kernel
theorem dX5_reads_2 : decode cX5_reads 2 = .ok (.iconst 0, 1) := by decide +kernel
theorem dX5_reads_3 : decode cX5_reads 3 = .ok (.invokevirtual 142, 3) := by decide +kernel
theorem dX5_reads_6 : decode cX5_reads 6 = .ok (.putfield 145, 3) := by decide +kernel
theorem dX5_reads_9 : decode cX5_reads 9 = .ok (.aload_n 0, 1) := by decide +kernel
theorem dX5_reads_10 : decode cX5_reads 10 = .ok (.getfield 145, 3) := by decide +kernel
theorem dX5_reads_13 : decode cX5_reads 13 = .ok (.ifCond .eq 12, 3) := by decide +kernel
theorem dX5_reads_16 : decode cX5_reads 16 = .ok (.aload_n 0, 1) := by decide +kernel
theorem dX5_reads_17 : decode cX5_reads 17 = .ok (.bipush 47, 2) := by decide +kernel
theorem dX5_reads_19 : decode cX5_reads 19 = .ok (.invokevirtual 139, 3) := by decide +kernel
theorem dX5_reads_22 : decode cX5_reads 22 = .ok (.ifCond .ne 5, 3) := by decide +kernel
theorem dX5_reads_25 : decode cX5_reads 25 = .ok (.iconst 0, 1) := by decide +kernel
theorem dX5_reads_26 : decode cX5_reads 26 = .ok (.ireturn, 1) := by decide +kernel
theorem dX5_reads_27 : decode cX5_reads 27 = .ok (.aload_n 0, 1) := by decide +kernel
theorem dX5_reads_28 : decode cX5_reads 28 = .ok (.aload_n 0, 1) := by decide +kernel
theorem dX5_reads_29 : decode cX5_reads 29 = .ok (.aload_n 0, 1) := by decide +kernel
theorem dX5_reads_30 : decode cX5_reads 30 = .ok (.getfield 145, 3) := by decide +kernel
theorem dX5_reads_33 : decode cX5_reads 33 = .ok (.invokevirtual 142, 3) := by decide +kernel
theorem dX5_reads_36 : decode cX5_reads 36 = .ok (.putfield 148, 3) := by decide +kernel
theorem dX5_reads_39 : decode cX5_reads 39 = .ok (.aload_n 0, 1) := by decide +kernel
theorem dX5_reads_40 : decode cX5_reads 40 = .ok (.getfield 148, 3) := by decide +kernel
theorem dX5_reads_43 : decode cX5_reads 43 = .ok (.ifCond .ne 5, 3) := by decide +kernel
theorem dX5_reads_46 : decode cX5_reads 46 = .ok (.iconst 0, 1) := by decide +kernel
theorem dX5_reads_47 : decode cX5_reads 47 = .ok (.ireturn, 1) := by decide +kernel
theorem dX5_reads_48 : decode cX5_reads 48 = .ok (.aload_n 0, 1) := by decide +kernel
theorem dX5_reads_49 : decode cX5_reads 49 = .ok (.aload_n 0, 1) := by decide +kernel
theorem dX5_reads_50 : decode cX5_reads 50 = .ok (.invokevirtual 151, 3) := by decide +kernel
theorem dX5_reads_53 : decode cX5_reads 53 = .ok (.putfield 154, 3) := by decide +kernel
theorem dX5_reads_56 : decode cX5_reads 56 = .ok (.aload_n 0, 1) := by decide +kernel
theorem dX5_reads_57 : decode cX5_reads 57 = .ok (.getfield 154, 3) := by decide +kernel
theorem dX5_reads_60 : decode cX5_reads 60 = .ok (.ifCond .lt 16, 3) := by decide +kernel
theorem dX5_reads_63 : decode cX5_reads 63 = .ok (.aload_n 0, 1) := by decide +kernel
theorem dX5_reads_64 : decode cX5_reads 64 = .ok (.bipush 59, 2) := by decide +kernel
theorem dX5_reads_66 : decode cX5_reads 66 = .ok (.invokevirtual 139, 3) := by decide +kernel
theorem dX5_reads_69 : decode cX5_reads 69 = .ok (.ifCond .eq 7, 3) := by decide +kernel
theorem dX5_reads_72 : decode cX5_reads 72 = .ok (.iconst 1, 1) := by decide +kernel
theorem dX5_reads_73 : decode cX5_reads 73 = .ok (.goto 4, 3) := by decide +kernel
theorem dX5_reads_76 : decode cX5_reads 76 = .ok (.iconst 0, 1) := by decide +kernel
theorem dX5_reads_77 : decode cX5_reads 77 = .ok (.ireturn, 1) := by decide +kernel
set_option maxRecDepth 20000 in
theorem ggX5_wrong_X5_reads : GoodIn wsX5_wrong wsX5_reads := goodIn_r _ [7, 8, 9, 10, 11, 12, 13, 6, 14, 1, 15, 16, 17, 18, 2, 19, 20, 21, 22, 23, 24, 25, 26, 27, 28, 29, 30, 31, 32, 33, 34, 35, 36, 37, 38, 39, 40, 41] (by decide +kernel) (by decide +kernel)
set_option maxRecDepth 20000 in
theorem gX5_wrong_X5_reads : GoodIn wsX5_wrong (wsV RX5 157 RX5 yX5_reads wsX5_reads) := goodIn_app (goodIn_of _ (by decide +kernel)) ggX5_wrong_X5_reads
theorem dX5_wrong_0 : decode cX5_wrong 0 = .ok (.aload_n 0, 1) := by decide +kernel
theorem dX5_wrong_1 : decode cX5_wrong 1 = .ok (.iconst 0, 1) := by decide +kernel
theorem dX5_wrong_2 : decode cX5_wrong 2 = .ok (.putfield 133, 3) := by decide +kernel
theorem dX5_wrong_5 : decode cX5_wrong 5 = .ok (.aload_n 0, 1) := by decide +kernel
theorem dX5_wrong_6 : decode cX5_wrong 6 = .ok (.getfield 133, 3) := by decide +kernel
theorem dX5_wrong_9 : decode cX5_wrong 9 = .ok (.aload_n 0, 1) := by decide +kernel
theorem dX5_wrong_10 : decode cX5_wrong 10 = .ok (.getfield 130, 3) := by decide +kernel
theorem dX5_wrong_13 : decode cX5_wrong 13 = .ok (.if_icmp .ge 15, 3) := by decide +kernel
theorem dX5_wrong_16 : decode cX5_wrong 16 = .ok (.aload_n 0, 1) := by decide +kernel
theorem dX5_wrong_17 : decode cX5_wrong 17 = .ok (.invokevirtual 157, 3) := by decide +kernel
theorem dX5_wrong_20 : decode cX5_wrong 20 = .ok (.ifCond .ne (-15), 3) := by decide +kernel
theorem dX5_wrong_23 : decode cX5_wrong 23 = .ok (.aload_n 0, 1) := by decide +kernel
theorem dX5_wrong_24 : decode cX5_wrong 24 = .ok (.getfield 133, 3) := by decide +kernel
theorem dX5_wrong_27 : decode cX5_wrong 27 = .ok (.ireturn, 1) := by decide +kernel
theorem dX5_wrong_28 : decode cX5_wrong 28 = .ok (.iconst (-1), 1) := by decide +kernel
theorem dX5_wrong_29 : decode cX5_wrong 29 = .ok (.ireturn, 1) := by decide +kernel
set_option maxRecDepth 20000 in
theorem ggX5_does_X5_whyNotTell : GoodIn wsX5_does wsX5_whyNotTell := goodIn_r _ [8, 9, 10, 11, 12, 7, 13, 14, 15, 16, 17, 18, 19, 47, 48, 49, 50, 51, 52, 53, 54, 55, 56, 57] (by decide +kernel) (by decide +kernel)
set_option maxRecDepth 20000 in
theorem gX5_does_X5_whyNotTell : GoodIn wsX5_does (wsV RX5 73 RX5 yX5_whyNotTell wsX5_whyNotTell) := goodIn_app (goodIn_of _ (by decide +kernel)) ggX5_does_X5_whyNotTell
set_option maxRecDepth 20000 in
theorem ggX5_does_X5_whyNotAsk : GoodIn wsX5_does wsX5_whyNotAsk := goodIn_r _ [23, 9, 10, 11, 12, 7, 13, 14, 15, 16, 17, 18, 19, 47, 48, 49, 50, 51, 52, 53, 54, 55, 56, 57] (by decide +kernel) (by decide +kernel)
set_option maxRecDepth 20000 in
theorem gX5_does_X5_whyNotAsk : GoodIn wsX5_does (wsV RX5 84 RX5 yX5_whyNotAsk wsX5_whyNotAsk) := goodIn_app (goodIn_of _ (by decide +kernel)) ggX5_does_X5_whyNotAsk
set_option maxRecDepth 20000 in
theorem ggX5_does_X5_whyNotAdd : GoodIn wsX5_does wsX5_whyNotAdd := goodIn_r _ [27, 9, 10, 11, 12, 7, 13, 14, 15, 16, 17, 18, 19, 47, 48, 49, 50, 51, 52, 53, 54, 55, 56, 57] (by decide +kernel) (by decide +kernel)
set_option maxRecDepth 20000 in
theorem gX5_does_X5_whyNotAdd : GoodIn wsX5_does (wsV RX5 91 RX5 yX5_whyNotAdd wsX5_whyNotAdd) := goodIn_app (goodIn_of _ (by decide +kernel)) ggX5_does_X5_whyNotAdd
set_option maxRecDepth 20000 in
theorem ggX5_does_X5_lays : GoodIn wsX5_does wsX5_lays := goodIn_r _ [31, 9, 32, 33, 34, 7, 35, 36, 37, 38, 47, 48, 49, 50, 51, 52, 53, 54, 55, 56, 57] (by decide +kernel) (by decide +kernel)
set_option maxRecDepth 20000 in
theorem gX5_does_X5_lays : GoodIn wsX5_does (wsV RX5 76 RX5 yX5_lays wsX5_lays) := goodIn_app (goodIn_of _ (by decide +kernel)) ggX5_does_X5_lays
set_option maxRecDepth 20000 in
theorem ggX5_does_X5_asks : GoodIn wsX5_does wsX5_asks := goodIn_r _ [42, 9, 36, 37, 7, 38, 28, 29, 30, 31, 32, 33, 34, 35, 47, 48, 49, 50, 51, 52, 53, 54, 55, 56, 57] (by decide +kernel) (by decide +kernel)
set_option maxRecDepth 20000 in
theorem gX5_does_X5_asks : GoodIn wsX5_does (wsV RX5 88 RX5 yX5_asks wsX5_asks) := goodIn_app (goodIn_of _ (by decide +kernel)) ggX5_does_X5_asks
set_option maxRecDepth 20000 in
theorem ggX5_does_X5_adds : GoodIn wsX5_does wsX5_adds := goodIn_r _ [46, 9, 47, 48, 49, 50, 51, 52, 53, 54, 55, 56, 57] (by decide +kernel) (by decide +kernel)
set_option maxRecDepth 20000 in
theorem gX5_does_X5_adds : GoodIn wsX5_does (wsV RX5 94 RX5 yX5_adds wsX5_adds) := goodIn_app (goodIn_of _ (by decide +kernel)) ggX5_does_X5_adds
theorem dX5_does_0 : decode cX5_does 0 = .ok (.aload_n 0, 1) := by decide +kernel
theorem dX5_does_1 : decode cX5_does 1 = .ok (.getfield 154, 3) := by decide +kernel
theorem dX5_does_4 : decode cX5_does 4 = .ok (.iconst 3, 1) := by decide +kernel
theorem dX5_does_5 : decode cX5_does 5 = .ok (.if_icmp .ge 22, 3) := by decide +kernel
theorem dX5_does_8 : decode cX5_does 8 = .ok (.aload_n 0, 1) := by decide +kernel
theorem dX5_does_9 : decode cX5_does 9 = .ok (.aload_n 0, 1) := by decide +kernel
theorem dX5_does_10 : decode cX5_does 10 = .ok (.getfield 145, 3) := by decide +kernel
theorem dX5_does_13 : decode cX5_does 13 = .ok (.aload_n 0, 1) := by decide +kernel
theorem dX5_does_14 : decode cX5_does 14 = .ok (.getfield 148, 3) := by decide +kernel
theorem dX5_does_17 : decode cX5_does 17 = .ok (.aload_n 0, 1) := by decide +kernel
theorem dX5_does_18 : decode cX5_does 18 = .ok (.getfield 154, 3) := by decide +kernel
theorem dX5_does_21 : decode cX5_does 21 = .ok (.invokevirtual 73, 3) := by decide +kernel
theorem dX5_does_24 : decode cX5_does 24 = .ok (.goto 38, 3) := by decide +kernel
theorem dX5_does_27 : decode cX5_does 27 = .ok (.aload_n 0, 1) := by decide +kernel
theorem dX5_does_28 : decode cX5_does 28 = .ok (.getfield 154, 3) := by decide +kernel
theorem dX5_does_31 : decode cX5_does 31 = .ok (.iconst 3, 1) := by decide +kernel
theorem dX5_does_32 : decode cX5_does 32 = .ok (.if_icmp .ne 18, 3) := by decide +kernel
theorem dX5_does_35 : decode cX5_does 35 = .ok (.aload_n 0, 1) := by decide +kernel
theorem dX5_does_36 : decode cX5_does 36 = .ok (.aload_n 0, 1) := by decide +kernel
theorem dX5_does_37 : decode cX5_does 37 = .ok (.getfield 145, 3) := by decide +kernel
theorem dX5_does_40 : decode cX5_does 40 = .ok (.aload_n 0, 1) := by decide +kernel
theorem dX5_does_41 : decode cX5_does 41 = .ok (.getfield 148, 3) := by decide +kernel
theorem dX5_does_44 : decode cX5_does 44 = .ok (.invokevirtual 84, 3) := by decide +kernel
theorem dX5_does_47 : decode cX5_does 47 = .ok (.goto 15, 3) := by decide +kernel
theorem dX5_does_50 : decode cX5_does 50 = .ok (.aload_n 0, 1) := by decide +kernel
theorem dX5_does_51 : decode cX5_does 51 = .ok (.aload_n 0, 1) := by decide +kernel
theorem dX5_does_52 : decode cX5_does 52 = .ok (.getfield 145, 3) := by decide +kernel
theorem dX5_does_55 : decode cX5_does 55 = .ok (.aload_n 0, 1) := by decide +kernel
theorem dX5_does_56 : decode cX5_does 56 = .ok (.getfield 148, 3) := by decide +kernel
theorem dX5_does_59 : decode cX5_does 59 = .ok (.invokevirtual 91, 3) := by decide +kernel
theorem dX5_does_62 : decode cX5_does 62 = .ok (.istore_n 1, 1) := by decide +kernel
theorem dX5_does_63 : decode cX5_does 63 = .ok (.iload_n 1, 1) := by decide +kernel
theorem dX5_does_64 : decode cX5_does 64 = .ok (.ifCond .le 5, 3) := by decide +kernel
theorem dX5_does_67 : decode cX5_does 67 = .ok (.iconst 0, 1) := by decide +kernel
theorem dX5_does_68 : decode cX5_does 68 = .ok (.ireturn, 1) := by decide +kernel
theorem dX5_does_69 : decode cX5_does 69 = .ok (.aload_n 0, 1) := by decide +kernel
theorem dX5_does_70 : decode cX5_does 70 = .ok (.getfield 154, 3) := by decide +kernel
theorem dX5_does_73 : decode cX5_does 73 = .ok (.iconst 3, 1) := by decide +kernel
theorem dX5_does_74 : decode cX5_does 74 = .ok (.if_icmp .ge 22, 3) := by decide +kernel
theorem dX5_does_77 : decode cX5_does 77 = .ok (.aload_n 0, 1) := by decide +kernel
theorem dX5_does_78 : decode cX5_does 78 = .ok (.aload_n 0, 1) := by decide +kernel
theorem dX5_does_79 : decode cX5_does 79 = .ok (.getfield 145, 3) := by decide +kernel
theorem dX5_does_82 : decode cX5_does 82 = .ok (.aload_n 0, 1) := by decide +kernel
theorem dX5_does_83 : decode cX5_does 83 = .ok (.getfield 148, 3) := by decide +kernel
theorem dX5_does_86 : decode cX5_does 86 = .ok (.aload_n 0, 1) := by decide +kernel
theorem dX5_does_87 : decode cX5_does 87 = .ok (.getfield 154, 3) := by decide +kernel
theorem dX5_does_90 : decode cX5_does 90 = .ok (.invokevirtual 76, 3) := by decide +kernel
theorem dX5_does_93 : decode cX5_does 93 = .ok (.goto 40, 3) := by decide +kernel
theorem dX5_does_96 : decode cX5_does 96 = .ok (.aload_n 0, 1) := by decide +kernel
theorem dX5_does_97 : decode cX5_does 97 = .ok (.getfield 154, 3) := by decide +kernel
theorem dX5_does_100 : decode cX5_does 100 = .ok (.iconst 3, 1) := by decide +kernel
theorem dX5_does_101 : decode cX5_does 101 = .ok (.if_icmp .ne 19, 3) := by decide +kernel
theorem dX5_does_104 : decode cX5_does 104 = .ok (.aload_n 0, 1) := by decide +kernel
theorem dX5_does_105 : decode cX5_does 105 = .ok (.aload_n 0, 1) := by decide +kernel
theorem dX5_does_106 : decode cX5_does 106 = .ok (.getfield 145, 3) := by decide +kernel
theorem dX5_does_109 : decode cX5_does 109 = .ok (.aload_n 0, 1) := by decide +kernel
theorem dX5_does_110 : decode cX5_does 110 = .ok (.getfield 148, 3) := by decide +kernel
theorem dX5_does_113 : decode cX5_does 113 = .ok (.invokevirtual 88, 3) := by decide +kernel
theorem dX5_does_116 : decode cX5_does 116 = .ok (.pop, 1) := by decide +kernel
theorem dX5_does_117 : decode cX5_does 117 = .ok (.goto 16, 3) := by decide +kernel
theorem dX5_does_120 : decode cX5_does 120 = .ok (.aload_n 0, 1) := by decide +kernel
theorem dX5_does_121 : decode cX5_does 121 = .ok (.aload_n 0, 1) := by decide +kernel
theorem dX5_does_122 : decode cX5_does 122 = .ok (.getfield 145, 3) := by decide +kernel
theorem dX5_does_125 : decode cX5_does 125 = .ok (.aload_n 0, 1) := by decide +kernel
theorem dX5_does_126 : decode cX5_does 126 = .ok (.getfield 148, 3) := by decide +kernel
theorem dX5_does_129 : decode cX5_does 129 = .ok (.invokevirtual 94, 3) := by decide +kernel
theorem dX5_does_132 : decode cX5_does 132 = .ok (.pop, 1) := by decide +kernel
theorem dX5_does_133 : decode cX5_does 133 = .ok (.iconst 1, 1) := by decide +kernel
theorem dX5_does_134 : decode cX5_does 134 = .ok (.ireturn, 1) := by decide +kernel
set_option maxRecDepth 20000 in
theorem ggX5_carryOut_X5_wrong : GoodIn wsX5_carryOut wsX5_wrong := goodIn_r _ [7, 1, 2, 8, 9, 10, 6, 11, 12, 13, 14, 15, 16, 17, 18, 19, 20, 21, 22, 23, 24, 25, 26, 27, 28, 29, 30, 31, 32, 33, 34, 94, 95, 96, 97, 98, 99, 100, 101, 102, 103, 104] (by decide +kernel) (by decide +kernel)
set_option maxRecDepth 20000 in
theorem gX5_carryOut_X5_wrong : GoodIn wsX5_carryOut (wsV RX5 161 RX5 yX5_wrong wsX5_wrong) := goodIn_app (goodIn_of _ (by decide +kernel)) ggX5_carryOut_X5_wrong
set_option maxRecDepth 20000 in
theorem ggX5_carryOut_X5_tells : GoodIn wsX5_carryOut wsX5_tells := goodIn_r _ [38, 39, 94, 95, 96, 97, 98, 99, 100, 101, 102, 103, 104] (by decide +kernel) (by decide +kernel)
set_option maxRecDepth 20000 in
theorem gX5_carryOut_X5_tells : GoodIn wsX5_carryOut (wsV RX5 34 RX5 yX5_tells wsX5_tells) := goodIn_app (goodIn_of _ (by decide +kernel)) ggX5_carryOut_X5_tells
set_option maxRecDepth 20000 in
theorem ggX5_carryOut_X5_begins : GoodIn wsX5_carryOut wsX5_begins := goodIn_r _ [43, 44, 45, 94, 95, 96, 97, 98, 99, 100, 101, 102, 103, 104] (by decide +kernel) (by decide +kernel)
set_option maxRecDepth 20000 in
theorem gX5_carryOut_X5_begins : GoodIn wsX5_carryOut (wsV RX5 56 RX5 yX5_begins wsX5_begins) := goodIn_app (goodIn_of _ (by decide +kernel)) ggX5_carryOut_X5_begins
set_option maxRecDepth 20000 in
theorem ggX5_carryOut_X5_reads : GoodIn wsX5_carryOut wsX5_reads := goodIn_r _ [11, 12, 13, 14, 15, 16, 17, 6, 18, 1, 19, 20, 21, 22, 2, 23, 24, 25, 26, 27, 28, 29, 30, 31, 32, 33, 34, 94, 95, 96, 97, 98, 99, 100, 101, 102, 103, 104] (by decide +kernel) (by decide +kernel)
set_option maxRecDepth 20000 in
theorem gX5_carryOut_X5_reads : GoodIn wsX5_carryOut (wsV RX5 157 RX5 yX5_reads wsX5_reads) := goodIn_app (goodIn_of _ (by decide +kernel)) ggX5_carryOut_X5_reads
set_option maxRecDepth 20000 in
theorem ggX5_carryOut_X5_does : GoodIn wsX5_carryOut wsX5_does := goodIn_r _ [49, 14, 12, 13, 50, 51, 52, 6, 53, 45, 54, 55, 56, 57, 24, 25, 26, 58, 59, 60, 61, 62, 63, 64, 65, 66, 67, 68, 69, 70, 71, 72, 73, 74, 75, 76, 77, 78, 79, 80, 81, 82, 83, 84, 85, 86, 87, 94, 95, 96, 97, 98, 99, 100, 101, 102, 103, 104] (by decide +kernel) (by decide +kernel)
set_option maxRecDepth 20000 in
theorem gX5_carryOut_X5_does : GoodIn wsX5_carryOut (wsV RX5 164 RX5 yX5_does wsX5_does) := goodIn_app (goodIn_of _ (by decide +kernel)) ggX5_carryOut_X5_does
set_option maxRecDepth 20000 in
theorem ggX5_carryOut_X5_saved : GoodIn wsX5_carryOut wsX5_saved := goodIn_r _ [91, 92, 93, 44, 35, 36, 37, 6, 38, 39, 94, 95, 96, 97, 98, 99, 100, 101, 102, 103, 104] (by decide +kernel) (by decide +kernel)
set_option maxRecDepth 20000 in
theorem gX5_carryOut_X5_saved : GoodIn wsX5_carryOut (wsV RX5 59 RX5 yX5_saved wsX5_saved) := goodIn_app (goodIn_of _ (by decide +kernel)) ggX5_carryOut_X5_saved
theorem dX5_carryOut_0 : decode cX5_carryOut 0 = .ok (.aload_n 0, 1) := by decide +kernel
theorem dX5_carryOut_1 : decode cX5_carryOut 1 = .ok (.invokevirtual 161, 3) := by decide +kernel
theorem dX5_carryOut_4 : decode cX5_carryOut 4 = .ok (.istore_n 1, 1) := by decide +kernel
theorem dX5_carryOut_5 : decode cX5_carryOut 5 = .ok (.iload_n 1, 1) := by decide +kernel
theorem dX5_carryOut_6 : decode cX5_carryOut 6 = .ok (.ifCond .lt 12, 3) := by decide +kernel
theorem dX5_carryOut_9 : decode cX5_carryOut 9 = .ok (.aload_n 0, 1) := by decide +kernel
theorem dX5_carryOut_10 : decode cX5_carryOut 10 = .ok (.bipush (-10), 2) := by decide +kernel
theorem dX5_carryOut_12 : decode cX5_carryOut 12 = .ok (.iload_n 1, 1) := by decide +kernel
theorem dX5_carryOut_13 : decode cX5_carryOut 13 = .ok (.isub, 1) := by decide +kernel
theorem dX5_carryOut_14 : decode cX5_carryOut 14 = .ok (.invokevirtual 34, 3) := by decide +kernel
theorem dX5_carryOut_17 : decode cX5_carryOut 17 = .ok (.ireturn, 1) := by decide +kernel
theorem dX5_carryOut_18 : decode cX5_carryOut 18 = .ok (.aload_n 0, 1) := by decide +kernel
theorem dX5_carryOut_19 : decode cX5_carryOut 19 = .ok (.invokevirtual 56, 3) := by decide +kernel
theorem dX5_carryOut_22 : decode cX5_carryOut 22 = .ok (.aload_n 0, 1) := by decide +kernel
theorem dX5_carryOut_23 : decode cX5_carryOut 23 = .ok (.iconst 0, 1) := by decide +kernel
theorem dX5_carryOut_24 : decode cX5_carryOut 24 = .ok (.putfield 133, 3) := by decide +kernel
theorem dX5_carryOut_27 : decode cX5_carryOut 27 = .ok (.iconst 0, 1) := by decide +kernel
theorem dX5_carryOut_28 : decode cX5_carryOut 28 = .ok (.istore_n 2, 1) := by decide +kernel
theorem dX5_carryOut_29 : decode cX5_carryOut 29 = .ok (.iconst 1, 1) := by decide +kernel
theorem dX5_carryOut_30 : decode cX5_carryOut 30 = .ok (.istore_n 3, 1) := by decide +kernel
theorem dX5_carryOut_31 : decode cX5_carryOut 31 = .ok (.aload_n 0, 1) := by decide +kernel
theorem dX5_carryOut_32 : decode cX5_carryOut 32 = .ok (.getfield 133, 3) := by decide +kernel
theorem dX5_carryOut_35 : decode cX5_carryOut 35 = .ok (.aload_n 0, 1) := by decide +kernel
theorem dX5_carryOut_36 : decode cX5_carryOut 36 = .ok (.getfield 130, 3) := by decide +kernel
theorem dX5_carryOut_39 : decode cX5_carryOut 39 = .ok (.if_icmp .ge 32, 3) := by decide +kernel
theorem dX5_carryOut_42 : decode cX5_carryOut 42 = .ok (.iload_n 3, 1) := by decide +kernel
theorem dX5_carryOut_43 : decode cX5_carryOut 43 = .ok (.ifCond .eq 28, 3) := by decide +kernel
theorem dX5_carryOut_46 : decode cX5_carryOut 46 = .ok (.aload_n 0, 1) := by decide +kernel
theorem dX5_carryOut_47 : decode cX5_carryOut 47 = .ok (.invokevirtual 157, 3) := by decide +kernel
theorem dX5_carryOut_50 : decode cX5_carryOut 50 = .ok (.pop, 1) := by decide +kernel
theorem dX5_carryOut_51 : decode cX5_carryOut 51 = .ok (.aload_n 0, 1) := by decide +kernel
theorem dX5_carryOut_52 : decode cX5_carryOut 52 = .ok (.invokevirtual 164, 3) := by decide +kernel
theorem dX5_carryOut_55 : decode cX5_carryOut 55 = .ok (.istore_n 3, 1) := by decide +kernel
theorem dX5_carryOut_56 : decode cX5_carryOut 56 = .ok (.iload_n 2, 1) := by decide +kernel
theorem dX5_carryOut_57 : decode cX5_carryOut 57 = .ok (.iload_n 3, 1) := by decide +kernel
theorem dX5_carryOut_58 : decode cX5_carryOut 58 = .ok (.ifCond .eq 7, 3) := by decide +kernel
theorem dX5_carryOut_61 : decode cX5_carryOut 61 = .ok (.iconst 1, 1) := by decide +kernel
theorem dX5_carryOut_62 : decode cX5_carryOut 62 = .ok (.goto 4, 3) := by decide +kernel
theorem dX5_carryOut_65 : decode cX5_carryOut 65 = .ok (.iconst 0, 1) := by decide +kernel
theorem dX5_carryOut_66 : decode cX5_carryOut 66 = .ok (.iadd, 1) := by decide +kernel
theorem dX5_carryOut_67 : decode cX5_carryOut 67 = .ok (.istore_n 2, 1) := by decide +kernel
theorem dX5_carryOut_68 : decode cX5_carryOut 68 = .ok (.goto (-37), 3) := by decide +kernel
theorem dX5_carryOut_71 : decode cX5_carryOut 71 = .ok (.aload_n 0, 1) := by decide +kernel
theorem dX5_carryOut_72 : decode cX5_carryOut 72 = .ok (.iload_n 2, 1) := by decide +kernel
theorem dX5_carryOut_73 : decode cX5_carryOut 73 = .ok (.invokevirtual 59, 3) := by decide +kernel
theorem dX5_carryOut_76 : decode cX5_carryOut 76 = .ok (.ireturn, 1) := by decide +kernel
set_option maxRecDepth 20000 in
theorem ggX5_undo_X5_fails : GoodIn wsX5_undo wsX5_fails := goodIn_r _ [8, 9, 14, 15, 16, 17, 18, 19, 20, 21, 22, 23, 24] (by decide +kernel) (by decide +kernel)
set_option maxRecDepth 20000 in
theorem gX5_undo_X5_fails : GoodIn wsX5_undo (wsV RX5 53 RX5 yX5_fails wsX5_fails) := goodIn_app (goodIn_of _ (by decide +kernel)) ggX5_undo_X5_fails
set_option maxRecDepth 20000 in
theorem ggX5_undo_X5_tells : GoodIn wsX5_undo wsX5_tells := goodIn_r _ [13, 9, 14, 15, 16, 17, 18, 19, 20, 21, 22, 23, 24] (by decide +kernel) (by decide +kernel)
set_option maxRecDepth 20000 in
theorem gX5_undo_X5_tells : GoodIn wsX5_undo (wsV RX5 34 RX5 yX5_tells wsX5_tells) := goodIn_app (goodIn_of _ (by decide +kernel)) ggX5_undo_X5_tells
theorem dX5_undo_0 : decode cX5_undo 0 = .ok (.aload_n 0, 1) := by decide +kernel
theorem dX5_undo_1 : decode cX5_undo 1 = .ok (.getfield 31, 3) := by decide +kernel
theorem dX5_undo_4 : decode cX5_undo 4 = .ok (.ifCond .ne 9, 3) := by decide +kernel
theorem dX5_undo_7 : decode cX5_undo 7 = .ok (.aload_n 0, 1) := by decide +kernel
theorem dX5_undo_8 : decode cX5_undo 8 = .ok (.iconst 1, 1) := by decide +kernel
theorem dX5_undo_9 : decode cX5_undo 9 = .ok (.invokevirtual 53, 3) := by decide +kernel
theorem dX5_undo_12 : decode cX5_undo 12 = .ok (.ireturn, 1) := by decide +kernel
theorem dX5_undo_13 : decode cX5_undo 13 = .ok (.aload_n 0, 1) := by decide +kernel
theorem dX5_undo_14 : decode cX5_undo 14 = .ok (.dup, 1) := by decide +kernel
theorem dX5_undo_15 : decode cX5_undo 15 = .ok (.getfield 31, 3) := by decide +kernel
theorem dX5_undo_18 : decode cX5_undo 18 = .ok (.iconst 1, 1) := by decide +kernel
theorem dX5_undo_19 : decode cX5_undo 19 = .ok (.isub, 1) := by decide +kernel
theorem dX5_undo_20 : decode cX5_undo 20 = .ok (.putfield 31, 3) := by decide +kernel
theorem dX5_undo_23 : decode cX5_undo 23 = .ok (.iconst 0, 1) := by decide +kernel
theorem dX5_undo_24 : decode cX5_undo 24 = .ok (.istore_n 1, 1) := by decide +kernel
theorem dX5_undo_25 : decode cX5_undo 25 = .ok (.iload_n 1, 1) := by decide +kernel
theorem dX5_undo_26 : decode cX5_undo 26 = .ok (.sipush 176, 3) := by decide +kernel
theorem dX5_undo_29 : decode cX5_undo 29 = .ok (.if_icmp .ge 30, 3) := by decide +kernel
theorem dX5_undo_32 : decode cX5_undo 32 = .ok (.aload_n 0, 1) := by decide +kernel
theorem dX5_undo_33 : decode cX5_undo 33 = .ok (.getfield 7, 3) := by decide +kernel
theorem dX5_undo_36 : decode cX5_undo 36 = .ok (.iload_n 1, 1) := by decide +kernel
theorem dX5_undo_37 : decode cX5_undo 37 = .ok (.aload_n 0, 1) := by decide +kernel
theorem dX5_undo_38 : decode cX5_undo 38 = .ok (.getfield 13, 3) := by decide +kernel
theorem dX5_undo_41 : decode cX5_undo 41 = .ok (.sipush 176, 3) := by decide +kernel
theorem dX5_undo_44 : decode cX5_undo 44 = .ok (.aload_n 0, 1) := by decide +kernel
theorem dX5_undo_45 : decode cX5_undo 45 = .ok (.getfield 31, 3) := by decide +kernel
theorem dX5_undo_48 : decode cX5_undo 48 = .ok (.imul, 1) := by decide +kernel
theorem dX5_undo_49 : decode cX5_undo 49 = .ok (.iload_n 1, 1) := by decide +kernel
theorem dX5_undo_50 : decode cX5_undo 50 = .ok (.iadd, 1) := by decide +kernel
theorem dX5_undo_51 : decode cX5_undo 51 = .ok (.iaload, 1) := by decide +kernel
theorem dX5_undo_52 : decode cX5_undo 52 = .ok (.iastore, 1) := by decide +kernel
theorem dX5_undo_53 : decode cX5_undo 53 = .ok (.iinc 1 1, 3) := by decide +kernel
theorem dX5_undo_56 : decode cX5_undo 56 = .ok (.goto (-31), 3) := by decide +kernel
theorem dX5_undo_59 : decode cX5_undo 59 = .ok (.aload_n 0, 1) := by decide +kernel
theorem dX5_undo_60 : decode cX5_undo 60 = .ok (.aload_n 0, 1) := by decide +kernel
theorem dX5_undo_61 : decode cX5_undo 61 = .ok (.getfield 31, 3) := by decide +kernel
theorem dX5_undo_64 : decode cX5_undo 64 = .ok (.invokevirtual 34, 3) := by decide +kernel
theorem dX5_undo_67 : decode cX5_undo 67 = .ok (.ireturn, 1) := by decide +kernel
set_option maxRecDepth 20000 in
theorem ggX5_digest_X5_number : GoodIn wsX5_digest wsX5_number := goodIn_r _ [11, 5, 12, 13, 14, 10, 15, 16, 17, 18, 19, 20, 21, 22, 23, 24, 25, 26, 27, 56, 57, 58, 59, 60, 61, 62, 63, 64, 65, 66] (by decide +kernel) (by decide +kernel)
set_option maxRecDepth 20000 in
theorem gX5_digest_X5_number : GoodIn wsX5_digest (wsV RX5 100 RX5 yX5_number wsX5_number) := goodIn_app (goodIn_of _ (by decide +kernel)) ggX5_digest_X5_number
set_option maxRecDepth 20000 in
theorem ggX5_digest_X5_cases : GoodIn wsX5_digest wsX5_cases := goodIn_r _ [19, 5, 56, 57, 58, 59, 60, 61, 62, 63, 64, 65, 66] (by decide +kernel) (by decide +kernel)
set_option maxRecDepth 20000 in
theorem gX5_digest_X5_cases : GoodIn wsX5_digest (wsV RX5 38 RX5 yX5_cases wsX5_cases) := goodIn_app (goodIn_of _ (by decide +kernel)) ggX5_digest_X5_cases
set_option maxRecDepth 20000 in
theorem ggX5_digest_X5_nearest : GoodIn wsX5_digest wsX5_nearest := goodIn_r _ [31, 16, 17, 18, 10, 19, 5, 32, 33, 34, 35, 36, 37, 38, 56, 57, 58, 59, 60, 61, 62, 63, 64, 65, 66] (by decide +kernel) (by decide +kernel)
set_option maxRecDepth 20000 in
theorem gX5_digest_X5_nearest : GoodIn wsX5_digest (wsV RX5 124 RX5 yX5_nearest wsX5_nearest) := goodIn_app (goodIn_of _ (by decide +kernel)) ggX5_digest_X5_nearest
set_option maxRecDepth 20000 in
theorem ggX5_digest_X5_least : GoodIn wsX5_digest wsX5_least := goodIn_r _ [42, 43, 44, 45, 46, 10, 47, 5, 16, 17, 18, 19, 36, 37, 38, 48, 49, 50, 51, 56, 57, 58, 59, 60, 61, 62, 63, 64, 65, 66] (by decide +kernel) (by decide +kernel)
set_option maxRecDepth 20000 in
theorem gX5_digest_X5_least : GoodIn wsX5_digest (wsV RX5 115 RX5 yX5_least wsX5_least) := goodIn_app (goodIn_of _ (by decide +kernel)) ggX5_digest_X5_least
set_option maxRecDepth 20000 in
theorem ggX5_digest_X5_weighs : GoodIn wsX5_digest wsX5_weighs := goodIn_r _ [47, 5, 16, 17, 18, 10, 19, 36, 37, 38, 48, 49, 50, 51, 56, 57, 58, 59, 60, 61, 62, 63, 64, 65, 66] (by decide +kernel) (by decide +kernel)
set_option maxRecDepth 20000 in
theorem gX5_digest_X5_weighs : GoodIn wsX5_digest (wsV RX5 109 RX5 yX5_weighs wsX5_weighs) := goodIn_app (goodIn_of _ (by decide +kernel)) ggX5_digest_X5_weighs
set_option maxRecDepth 20000 in
theorem ggX5_digest_X5_best : GoodIn wsX5_digest wsX5_best := goodIn_r _ [55, 5, 44, 45, 46, 10, 47, 16, 17, 18, 19, 36, 37, 38, 48, 49, 50, 51, 56, 57, 58, 59, 60, 61, 62, 63, 64, 65, 66] (by decide +kernel) (by decide +kernel)
set_option maxRecDepth 20000 in
theorem gX5_digest_X5_best : GoodIn wsX5_digest (wsV RX5 118 RX5 yX5_best wsX5_best) := goodIn_app (goodIn_of _ (by decide +kernel)) ggX5_digest_X5_best
theorem dX5_digest_0 : decode cX5_digest 0 = .ok (.aload_n 0, 1) := by decide +kernel
theorem dX5_digest_1 : decode cX5_digest 1 = .ok (.iconst 0, 1) := by decide +kernel
theorem dX5_digest_2 : decode cX5_digest 2 = .ok (.putfield 27, 3) := by decide +kernel
theorem dX5_digest_5 : decode cX5_digest 5 = .ok (.ldc2_w 167, 3) := by decide +kernel
theorem dX5_digest_8 : decode cX5_digest 8 = .ok (.aload_n 0, 1) := by decide +kernel
theorem dX5_digest_9 : decode cX5_digest 9 = .ok (.getfield 130, 3) := by decide +kernel
theorem dX5_digest_12 : decode cX5_digest 12 = .ok (.i2l, 1) := by decide +kernel
theorem dX5_digest_13 : decode cX5_digest 13 = .ok (.ladd, 1) := by decide +kernel
theorem dX5_digest_14 : decode cX5_digest 14 = .ok (.lstore_n 1, 1) := by decide +kernel
theorem dX5_digest_15 : decode cX5_digest 15 = .ok (.iconst 0, 1) := by decide +kernel
theorem dX5_digest_16 : decode cX5_digest 16 = .ok (.istore_n 3, 1) := by decide +kernel
theorem dX5_digest_17 : decode cX5_digest 17 = .ok (.iload_n 3, 1) := by decide +kernel
theorem dX5_digest_18 : decode cX5_digest 18 = .ok (.bipush 9, 2) := by decide +kernel
theorem dX5_digest_20 : decode cX5_digest 20 = .ok (.if_icmp .ge 22, 3) := by decide +kernel
theorem dX5_digest_23 : decode cX5_digest 23 = .ok (.ldc2_w 169, 3) := by decide +kernel
theorem dX5_digest_26 : decode cX5_digest 26 = .ok (.lload_n 1, 1) := by decide +kernel
theorem dX5_digest_27 : decode cX5_digest 27 = .ok (.lmul, 1) := by decide +kernel
theorem dX5_digest_28 : decode cX5_digest 28 = .ok (.aload_n 0, 1) := by decide +kernel
theorem dX5_digest_29 : decode cX5_digest 29 = .ok (.iload_n 3, 1) := by decide +kernel
theorem dX5_digest_30 : decode cX5_digest 30 = .ok (.invokevirtual 100, 3) := by decide +kernel
theorem dX5_digest_33 : decode cX5_digest 33 = .ok (.i2l, 1) := by decide +kernel
theorem dX5_digest_34 : decode cX5_digest 34 = .ok (.ladd, 1) := by decide +kernel
theorem dX5_digest_35 : decode cX5_digest 35 = .ok (.lstore_n 1, 1) := by decide +kernel
theorem dX5_digest_36 : decode cX5_digest 36 = .ok (.iinc 3 1, 3) := by decide +kernel
theorem dX5_digest_39 : decode cX5_digest 39 = .ok (.goto (-22), 3) := by decide +kernel
theorem dX5_digest_42 : decode cX5_digest 42 = .ok (.iconst 0, 1) := by decide +kernel
theorem dX5_digest_43 : decode cX5_digest 43 = .ok (.istore_n 3, 1) := by decide +kernel
theorem dX5_digest_44 : decode cX5_digest 44 = .ok (.iload_n 3, 1) := by decide +kernel
theorem dX5_digest_45 : decode cX5_digest 45 = .ok (.iconst 3, 1) := by decide +kernel
theorem dX5_digest_46 : decode cX5_digest 46 = .ok (.aload_n 0, 1) := by decide +kernel
theorem dX5_digest_47 : decode cX5_digest 47 = .ok (.getfield 7, 3) := by decide +kernel
theorem dX5_digest_50 : decode cX5_digest 50 = .ok (.iconst 2, 1) := by decide +kernel
theorem dX5_digest_51 : decode cX5_digest 51 = .ok (.iaload, 1) := by decide +kernel
theorem dX5_digest_52 : decode cX5_digest 52 = .ok (.imul, 1) := by decide +kernel
theorem dX5_digest_53 : decode cX5_digest 53 = .ok (.if_icmp .ge 26, 3) := by decide +kernel
theorem dX5_digest_56 : decode cX5_digest 56 = .ok (.ldc2_w 169, 3) := by decide +kernel
theorem dX5_digest_59 : decode cX5_digest 59 = .ok (.lload_n 1, 1) := by decide +kernel
theorem dX5_digest_60 : decode cX5_digest 60 = .ok (.lmul, 1) := by decide +kernel
theorem dX5_digest_61 : decode cX5_digest 61 = .ok (.aload_n 0, 1) := by decide +kernel
theorem dX5_digest_62 : decode cX5_digest 62 = .ok (.getfield 7, 3) := by decide +kernel
theorem dX5_digest_65 : decode cX5_digest 65 = .ok (.bipush 7, 2) := by decide +kernel
theorem dX5_digest_67 : decode cX5_digest 67 = .ok (.iload_n 3, 1) := by decide +kernel
theorem dX5_digest_68 : decode cX5_digest 68 = .ok (.iadd, 1) := by decide +kernel
theorem dX5_digest_69 : decode cX5_digest 69 = .ok (.iaload, 1) := by decide +kernel
theorem dX5_digest_70 : decode cX5_digest 70 = .ok (.i2l, 1) := by decide +kernel
theorem dX5_digest_71 : decode cX5_digest 71 = .ok (.ladd, 1) := by decide +kernel
theorem dX5_digest_72 : decode cX5_digest 72 = .ok (.lstore_n 1, 1) := by decide +kernel
theorem dX5_digest_73 : decode cX5_digest 73 = .ok (.iinc 3 1, 3) := by decide +kernel
theorem dX5_digest_76 : decode cX5_digest 76 = .ok (.goto (-32), 3) := by decide +kernel
theorem dX5_digest_79 : decode cX5_digest 79 = .ok (.iconst 0, 1) := by decide +kernel
theorem dX5_digest_80 : decode cX5_digest 80 = .ok (.istore_n 3, 1) := by decide +kernel
theorem dX5_digest_81 : decode cX5_digest 81 = .ok (.iload_n 3, 1) := by decide +kernel
theorem dX5_digest_82 : decode cX5_digest 82 = .ok (.aload_n 0, 1) := by decide +kernel
theorem dX5_digest_83 : decode cX5_digest 83 = .ok (.invokevirtual 38, 3) := by decide +kernel
theorem dX5_digest_86 : decode cX5_digest 86 = .ok (.if_icmp .ge 27, 3) := by decide +kernel
theorem dX5_digest_89 : decode cX5_digest 89 = .ok (.ldc2_w 169, 3) := by decide +kernel
theorem dX5_digest_92 : decode cX5_digest 92 = .ok (.lload_n 1, 1) := by decide +kernel
theorem dX5_digest_93 : decode cX5_digest 93 = .ok (.lmul, 1) := by decide +kernel
theorem dX5_digest_94 : decode cX5_digest 94 = .ok (.aload_n 0, 1) := by decide +kernel
theorem dX5_digest_95 : decode cX5_digest 95 = .ok (.getfield 7, 3) := by decide +kernel
theorem dX5_digest_98 : decode cX5_digest 98 = .ok (.sipush 143, 3) := by decide +kernel
theorem dX5_digest_101 : decode cX5_digest 101 = .ok (.iload_n 3, 1) := by decide +kernel
theorem dX5_digest_102 : decode cX5_digest 102 = .ok (.iadd, 1) := by decide +kernel
theorem dX5_digest_103 : decode cX5_digest 103 = .ok (.iaload, 1) := by decide +kernel
theorem dX5_digest_104 : decode cX5_digest 104 = .ok (.i2l, 1) := by decide +kernel
theorem dX5_digest_105 : decode cX5_digest 105 = .ok (.ladd, 1) := by decide +kernel
theorem dX5_digest_106 : decode cX5_digest 106 = .ok (.lstore_n 1, 1) := by decide +kernel
theorem dX5_digest_107 : decode cX5_digest 107 = .ok (.iinc 3 1, 3) := by decide +kernel
theorem dX5_digest_110 : decode cX5_digest 110 = .ok (.goto (-29), 3) := by decide +kernel
theorem dX5_digest_113 : decode cX5_digest 113 = .ok (.iconst 0, 1) := by decide +kernel
theorem dX5_digest_114 : decode cX5_digest 114 = .ok (.istore_n 3, 1) := by decide +kernel
theorem dX5_digest_115 : decode cX5_digest 115 = .ok (.iload_n 3, 1) := by decide +kernel
theorem dX5_digest_116 : decode cX5_digest 116 = .ok (.iconst 2, 1) := by decide +kernel
theorem dX5_digest_117 : decode cX5_digest 117 = .ok (.aload_n 0, 1) := by decide +kernel
theorem dX5_digest_118 : decode cX5_digest 118 = .ok (.getfield 7, 3) := by decide +kernel
theorem dX5_digest_121 : decode cX5_digest 121 = .ok (.iconst 3, 1) := by decide +kernel
theorem dX5_digest_122 : decode cX5_digest 122 = .ok (.iaload, 1) := by decide +kernel
theorem dX5_digest_123 : decode cX5_digest 123 = .ok (.imul, 1) := by decide +kernel
theorem dX5_digest_124 : decode cX5_digest 124 = .ok (.if_icmp .ge 26, 3) := by decide +kernel
theorem dX5_digest_127 : decode cX5_digest 127 = .ok (.ldc2_w 169, 3) := by decide +kernel
theorem dX5_digest_130 : decode cX5_digest 130 = .ok (.lload_n 1, 1) := by decide +kernel
theorem dX5_digest_131 : decode cX5_digest 131 = .ok (.lmul, 1) := by decide +kernel
theorem dX5_digest_132 : decode cX5_digest 132 = .ok (.aload_n 0, 1) := by decide +kernel
theorem dX5_digest_133 : decode cX5_digest 133 = .ok (.getfield 7, 3) := by decide +kernel
theorem dX5_digest_136 : decode cX5_digest 136 = .ok (.bipush 127, 2) := by decide +kernel
theorem dX5_digest_138 : decode cX5_digest 138 = .ok (.iload_n 3, 1) := by decide +kernel
theorem dX5_digest_139 : decode cX5_digest 139 = .ok (.iadd, 1) := by decide +kernel
theorem dX5_digest_140 : decode cX5_digest 140 = .ok (.iaload, 1) := by decide +kernel
theorem dX5_digest_141 : decode cX5_digest 141 = .ok (.i2l, 1) := by decide +kernel
theorem dX5_digest_142 : decode cX5_digest 142 = .ok (.ladd, 1) := by decide +kernel
theorem dX5_digest_143 : decode cX5_digest 143 = .ok (.lstore_n 1, 1) := by decide +kernel
theorem dX5_digest_144 : decode cX5_digest 144 = .ok (.iinc 3 1, 3) := by decide +kernel
theorem dX5_digest_147 : decode cX5_digest 147 = .ok (.goto (-32), 3) := by decide +kernel
theorem dX5_digest_150 : decode cX5_digest 150 = .ok (.ldc2_w 169, 3) := by decide +kernel
theorem dX5_digest_153 : decode cX5_digest 153 = .ok (.lload_n 1, 1) := by decide +kernel
theorem dX5_digest_154 : decode cX5_digest 154 = .ok (.lmul, 1) := by decide +kernel
theorem dX5_digest_155 : decode cX5_digest 155 = .ok (.aload_n 0, 1) := by decide +kernel
theorem dX5_digest_156 : decode cX5_digest 156 = .ok (.invokevirtual 124, 3) := by decide +kernel
theorem dX5_digest_159 : decode cX5_digest 159 = .ok (.i2l, 1) := by decide +kernel
theorem dX5_digest_160 : decode cX5_digest 160 = .ok (.ladd, 1) := by decide +kernel
theorem dX5_digest_161 : decode cX5_digest 161 = .ok (.lstore_n 1, 1) := by decide +kernel
theorem dX5_digest_162 : decode cX5_digest 162 = .ok (.ldc2_w 169, 3) := by decide +kernel
theorem dX5_digest_165 : decode cX5_digest 165 = .ok (.lload_n 1, 1) := by decide +kernel
theorem dX5_digest_166 : decode cX5_digest 166 = .ok (.lmul, 1) := by decide +kernel
theorem dX5_digest_167 : decode cX5_digest 167 = .ok (.aload_n 0, 1) := by decide +kernel
theorem dX5_digest_168 : decode cX5_digest 168 = .ok (.invokevirtual 115, 3) := by decide +kernel
theorem dX5_digest_171 : decode cX5_digest 171 = .ok (.i2l, 1) := by decide +kernel
theorem dX5_digest_172 : decode cX5_digest 172 = .ok (.ladd, 1) := by decide +kernel
theorem dX5_digest_173 : decode cX5_digest 173 = .ok (.lstore_n 1, 1) := by decide +kernel
theorem dX5_digest_174 : decode cX5_digest 174 = .ok (.ldc2_w 169, 3) := by decide +kernel
theorem dX5_digest_177 : decode cX5_digest 177 = .ok (.lload_n 1, 1) := by decide +kernel
theorem dX5_digest_178 : decode cX5_digest 178 = .ok (.lmul, 1) := by decide +kernel
theorem dX5_digest_179 : decode cX5_digest 179 = .ok (.aload_n 0, 1) := by decide +kernel
theorem dX5_digest_180 : decode cX5_digest 180 = .ok (.iconst 0, 1) := by decide +kernel
theorem dX5_digest_181 : decode cX5_digest 181 = .ok (.iconst 0, 1) := by decide +kernel
theorem dX5_digest_182 : decode cX5_digest 182 = .ok (.iconst 0, 1) := by decide +kernel
theorem dX5_digest_183 : decode cX5_digest 183 = .ok (.iconst 5, 1) := by decide +kernel
theorem dX5_digest_184 : decode cX5_digest 184 = .ok (.invokevirtual 109, 3) := by decide +kernel
theorem dX5_digest_187 : decode cX5_digest 187 = .ok (.ladd, 1) := by decide +kernel
theorem dX5_digest_188 : decode cX5_digest 188 = .ok (.lstore_n 1, 1) := by decide +kernel
theorem dX5_digest_189 : decode cX5_digest 189 = .ok (.ldc2_w 169, 3) := by decide +kernel
theorem dX5_digest_192 : decode cX5_digest 192 = .ok (.lload_n 1, 1) := by decide +kernel
theorem dX5_digest_193 : decode cX5_digest 193 = .ok (.lmul, 1) := by decide +kernel
theorem dX5_digest_194 : decode cX5_digest 194 = .ok (.aload_n 0, 1) := by decide +kernel
theorem dX5_digest_195 : decode cX5_digest 195 = .ok (.iconst 3, 1) := by decide +kernel
theorem dX5_digest_196 : decode cX5_digest 196 = .ok (.invokevirtual 118, 3) := by decide +kernel
theorem dX5_digest_199 : decode cX5_digest 199 = .ok (.i2l, 1) := by decide +kernel
theorem dX5_digest_200 : decode cX5_digest 200 = .ok (.ladd, 1) := by decide +kernel
theorem dX5_digest_201 : decode cX5_digest 201 = .ok (.lstore_n 1, 1) := by decide +kernel
theorem dX5_digest_202 : decode cX5_digest 202 = .ok (.ldc2_w 169, 3) := by decide +kernel
theorem dX5_digest_205 : decode cX5_digest 205 = .ok (.lload_n 1, 1) := by decide +kernel
theorem dX5_digest_206 : decode cX5_digest 206 = .ok (.lmul, 1) := by decide +kernel
theorem dX5_digest_207 : decode cX5_digest 207 = .ok (.aload_n 0, 1) := by decide +kernel
theorem dX5_digest_208 : decode cX5_digest 208 = .ok (.getfield 31, 3) := by decide +kernel
theorem dX5_digest_211 : decode cX5_digest 211 = .ok (.i2l, 1) := by decide +kernel
theorem dX5_digest_212 : decode cX5_digest 212 = .ok (.ladd, 1) := by decide +kernel
theorem dX5_digest_213 : decode cX5_digest 213 = .ok (.lreturn, 1) := by decide +kernel
theorem dJ6_bitCount_0f7a4_0 : decode cJ6_bitCount_0f7a4 0 = .ok (.iload_n 0, 1) := by decide +kernel
theorem dJ6_bitCount_0f7a4_1 : decode cJ6_bitCount_0f7a4 1 = .ok (.iload_n 0, 1) := by decide +kernel
theorem dJ6_bitCount_0f7a4_2 : decode cJ6_bitCount_0f7a4 2 = .ok (.iconst 1, 1) := by decide +kernel
theorem dJ6_bitCount_0f7a4_3 : decode cJ6_bitCount_0f7a4 3 = .ok (.iushr, 1) := by decide +kernel
theorem dJ6_bitCount_0f7a4_4 : decode cJ6_bitCount_0f7a4 4 = .ok (.ldc_w 265, 3) := by decide +kernel
theorem dJ6_bitCount_0f7a4_7 : decode cJ6_bitCount_0f7a4 7 = .ok (.iand, 1) := by decide +kernel
theorem dJ6_bitCount_0f7a4_8 : decode cJ6_bitCount_0f7a4 8 = .ok (.isub, 1) := by decide +kernel
theorem dJ6_bitCount_0f7a4_9 : decode cJ6_bitCount_0f7a4 9 = .ok (.istore_n 0, 1) := by decide +kernel
theorem dJ6_bitCount_0f7a4_10 : decode cJ6_bitCount_0f7a4 10 = .ok (.iload_n 0, 1) := by decide +kernel
theorem dJ6_bitCount_0f7a4_11 : decode cJ6_bitCount_0f7a4 11 = .ok (.ldc_w 266, 3) := by decide +kernel
theorem dJ6_bitCount_0f7a4_14 : decode cJ6_bitCount_0f7a4 14 = .ok (.iand, 1) := by decide +kernel
theorem dJ6_bitCount_0f7a4_15 : decode cJ6_bitCount_0f7a4 15 = .ok (.iload_n 0, 1) := by decide +kernel
theorem dJ6_bitCount_0f7a4_16 : decode cJ6_bitCount_0f7a4 16 = .ok (.iconst 2, 1) := by decide +kernel
theorem dJ6_bitCount_0f7a4_17 : decode cJ6_bitCount_0f7a4 17 = .ok (.iushr, 1) := by decide +kernel
theorem dJ6_bitCount_0f7a4_18 : decode cJ6_bitCount_0f7a4 18 = .ok (.ldc_w 266, 3) := by decide +kernel
theorem dJ6_bitCount_0f7a4_21 : decode cJ6_bitCount_0f7a4 21 = .ok (.iand, 1) := by decide +kernel
theorem dJ6_bitCount_0f7a4_22 : decode cJ6_bitCount_0f7a4 22 = .ok (.iadd, 1) := by decide +kernel
theorem dJ6_bitCount_0f7a4_23 : decode cJ6_bitCount_0f7a4 23 = .ok (.istore_n 0, 1) := by decide +kernel
theorem dJ6_bitCount_0f7a4_24 : decode cJ6_bitCount_0f7a4 24 = .ok (.iload_n 0, 1) := by decide +kernel
theorem dJ6_bitCount_0f7a4_25 : decode cJ6_bitCount_0f7a4 25 = .ok (.iload_n 0, 1) := by decide +kernel
theorem dJ6_bitCount_0f7a4_26 : decode cJ6_bitCount_0f7a4 26 = .ok (.iconst 4, 1) := by decide +kernel
theorem dJ6_bitCount_0f7a4_27 : decode cJ6_bitCount_0f7a4 27 = .ok (.iushr, 1) := by decide +kernel
theorem dJ6_bitCount_0f7a4_28 : decode cJ6_bitCount_0f7a4 28 = .ok (.iadd, 1) := by decide +kernel
theorem dJ6_bitCount_0f7a4_29 : decode cJ6_bitCount_0f7a4 29 = .ok (.ldc_w 267, 3) := by decide +kernel
theorem dJ6_bitCount_0f7a4_32 : decode cJ6_bitCount_0f7a4 32 = .ok (.iand, 1) := by decide +kernel
theorem dJ6_bitCount_0f7a4_33 : decode cJ6_bitCount_0f7a4 33 = .ok (.istore_n 0, 1) := by decide +kernel
theorem dJ6_bitCount_0f7a4_34 : decode cJ6_bitCount_0f7a4 34 = .ok (.iload_n 0, 1) := by decide +kernel
theorem dJ6_bitCount_0f7a4_35 : decode cJ6_bitCount_0f7a4 35 = .ok (.iload_n 0, 1) := by decide +kernel
theorem dJ6_bitCount_0f7a4_36 : decode cJ6_bitCount_0f7a4 36 = .ok (.bipush 8, 2) := by decide +kernel
theorem dJ6_bitCount_0f7a4_38 : decode cJ6_bitCount_0f7a4 38 = .ok (.iushr, 1) := by decide +kernel
theorem dJ6_bitCount_0f7a4_39 : decode cJ6_bitCount_0f7a4 39 = .ok (.iadd, 1) := by decide +kernel
theorem dJ6_bitCount_0f7a4_40 : decode cJ6_bitCount_0f7a4 40 = .ok (.istore_n 0, 1) := by decide +kernel
theorem dJ6_bitCount_0f7a4_41 : decode cJ6_bitCount_0f7a4 41 = .ok (.iload_n 0, 1) := by decide +kernel
theorem dJ6_bitCount_0f7a4_42 : decode cJ6_bitCount_0f7a4 42 = .ok (.iload_n 0, 1) := by decide +kernel
theorem dJ6_bitCount_0f7a4_43 : decode cJ6_bitCount_0f7a4 43 = .ok (.bipush 16, 2) := by decide +kernel
theorem dJ6_bitCount_0f7a4_45 : decode cJ6_bitCount_0f7a4 45 = .ok (.iushr, 1) := by decide +kernel
theorem dJ6_bitCount_0f7a4_46 : decode cJ6_bitCount_0f7a4 46 = .ok (.iadd, 1) := by decide +kernel
theorem dJ6_bitCount_0f7a4_47 : decode cJ6_bitCount_0f7a4 47 = .ok (.istore_n 0, 1) := by decide +kernel
theorem dJ6_bitCount_0f7a4_48 : decode cJ6_bitCount_0f7a4 48 = .ok (.iload_n 0, 1) := by decide +kernel
theorem dJ6_bitCount_0f7a4_49 : decode cJ6_bitCount_0f7a4 49 = .ok (.bipush 63, 2) := by decide +kernel
theorem dJ6_bitCount_0f7a4_51 : decode cJ6_bitCount_0f7a4 51 = .ok (.iand, 1) := by decide +kernel
theorem dJ6_bitCount_0f7a4_52 : decode cJ6_bitCount_0f7a4 52 = .ok (.ireturn, 1) := by decide +kernel
theorem dJ9_max_7cf53_0 : decode cJ9_max_7cf53 0 = .ok (.iload_n 0, 1) := by decide +kernel
theorem dJ9_max_7cf53_1 : decode cJ9_max_7cf53 1 = .ok (.iload_n 1, 1) := by decide +kernel
theorem dJ9_max_7cf53_2 : decode cJ9_max_7cf53 2 = .ok (.if_icmp .lt 7, 3) := by decide +kernel
theorem dJ9_max_7cf53_5 : decode cJ9_max_7cf53 5 = .ok (.iload_n 0, 1) := by decide +kernel
theorem dJ9_max_7cf53_6 : decode cJ9_max_7cf53 6 = .ok (.goto 4, 3) := by decide +kernel
theorem dJ9_max_7cf53_9 : decode cJ9_max_7cf53 9 = .ok (.iload_n 1, 1) := by decide +kernel
theorem dJ9_max_7cf53_10 : decode cJ9_max_7cf53 10 = .ok (.ireturn, 1) := by decide +kernel
theorem dJ9_max_f86c9_0 : decode cJ9_max_f86c9 0 = .ok (.lload_n 0, 1) := by decide +kernel
theorem dJ9_max_f86c9_1 : decode cJ9_max_f86c9 1 = .ok (.lload_n 2, 1) := by decide +kernel
theorem dJ9_max_f86c9_2 : decode cJ9_max_f86c9 2 = .ok (.lcmp, 1) := by decide +kernel
theorem dJ9_max_f86c9_3 : decode cJ9_max_f86c9 3 = .ok (.ifCond .lt 7, 3) := by decide +kernel
theorem dJ9_max_f86c9_6 : decode cJ9_max_f86c9 6 = .ok (.lload_n 0, 1) := by decide +kernel
theorem dJ9_max_f86c9_7 : decode cJ9_max_f86c9 7 = .ok (.goto 4, 3) := by decide +kernel
theorem dJ9_max_f86c9_10 : decode cJ9_max_f86c9 10 = .ok (.lload_n 2, 1) := by decide +kernel
theorem dJ9_max_f86c9_11 : decode cJ9_max_f86c9 11 = .ok (.lreturn, 1) := by decide +kernel
theorem dJ9_min_7cf53_0 : decode cJ9_min_7cf53 0 = .ok (.iload_n 0, 1) := by decide +kernel
theorem dJ9_min_7cf53_1 : decode cJ9_min_7cf53 1 = .ok (.iload_n 1, 1) := by decide +kernel
theorem dJ9_min_7cf53_2 : decode cJ9_min_7cf53 2 = .ok (.if_icmp .gt 7, 3) := by decide +kernel
theorem dJ9_min_7cf53_5 : decode cJ9_min_7cf53 5 = .ok (.iload_n 0, 1) := by decide +kernel
theorem dJ9_min_7cf53_6 : decode cJ9_min_7cf53 6 = .ok (.goto 4, 3) := by decide +kernel
theorem dJ9_min_7cf53_9 : decode cJ9_min_7cf53 9 = .ok (.iload_n 1, 1) := by decide +kernel
theorem dJ9_min_7cf53_10 : decode cJ9_min_7cf53 10 = .ok (.ireturn, 1) := by decide +kernel
end
section
/-! base: my own words for worlds, contracts and calls -/
abbrev St : Type := (Nat → Int32) × (Nat → Nat → Int32)
def sI (x : St) (k : Nat) (v : Int32) : St := (fun j => if j = k then v else x.1 j, x.2)
def sA (x : St) (k : Nat) (f : Nat → Int32) : St := (x.1, fun j => if j = k then f else x.2 j)
abbrev TY (T : Nat → ClassId) : List (ClassId × FieldType) := [(T 0, .int), (T 1, .byte), (T 2, .long), (T 3, .object RX2)]
def nestW : List Cond := [
  .fieldLinkNest RX4 122 "LyingScale$State" "plan" "LLyingScale$Weighings;" "LyingScale",
  .fieldLinkNest RX4 133 "LyingScale$State" "liesOf" "[I" "LyingScale",
  .fieldLinkNest RX4 209 "LyingScale$Orders" "length" "I" "LyingScale",
  .fieldLinkNest RX4 220 "LyingScale$Orders" "count" "I" "LyingScale",
  .fieldLinkNest RX4 221 "LyingScale$Orders" "lefts" "[I" "LyingScale",
  .fieldLinkNest RX4 224 "LyingScale$Orders" "rights" "[I" "LyingScale",
  .fieldLinkNest RX4 227 "LyingScale$Orders" "deeds" "[I" "LyingScale",
  .fieldLinkNest RX4 234 "LyingScale$History" "count" "I" "LyingScale",
  .fieldLinkNest RX4 246 "LyingScale$Weighings" "lefts" "[I" "LyingScale",
  .fieldLinkNest RX4 247 "LyingScale$Weighings" "rights" "[I" "LyingScale",
  .fieldLinkNest RX4 41 "LyingScale$State" "told" "LLyingScale$Weighings;" "LyingScale",
  .fieldLinkNest RX4 45 "LyingScale$Weighings" "count" "I" "LyingScale",
  .fieldLinkNest RX4 57 "LyingScale$State" "limit" "I" "LyingScale",
  .fieldLinkNest RX4 99 "LyingScale$State" "hidden" "I" "LyingScale",
  .fieldLinkNest RX2 40 "LyingScale$Weighings" "count" "I" "LyingScale",
  .methodLinkNest RX1 28 yX4_put "LyingScale",
  .methodLinkNest RX1 38 yX4_at "LyingScale",
  .methodLinkNest RX2 128 yX4_coinBit "LyingScale",
  .methodLinkNest RX2 141 yX4_volume "LyingScale",
  .methodLinkNest RX2 160 yX4_differences "LyingScale",
  .methodLinkNest RX2 54 yX4_copyRow "LyingScale",
  .methodLinkNest RX2 85 yX4_put "LyingScale",
  .methodLinkNest RX2 89 yX4_at "LyingScale",
  .methodLinkNest RX2 93 yX4_trueAnswer "LyingScale",
  .methodLinkNest RX3 27 yX4_copyRow "LyingScale",
  .methodLinkNest RX3 35 yX4_put "LyingScale",
  .methodLinkNest RX3 39 yX4_at "LyingScale",
  .methodLinkNest RX3 43 yX4_trueAnswer "LyingScale"]
def NN (U : State) : Prop := ∀ w ∈ nestW, va_Nw w U
theorem NN_tabs : ∀ w ∈ nestW, w.onTables = true := by decide +kernel
theorem NN.same {u U : State} (h : u.vm = U.vm) (hN : NN u) : NN U := fun w hw => va_Nw.same (NN_tabs w hw) h (hN w hw)
def nestOk : Cond → Bool
  | .fieldLinkNest _ _ _ _ _ _ => true
  | .methodLinkNest _ _ _ _ => true
  | _ => false
theorem nest_all : nestW.all nestOk = true := by decide +kernel
theorem NN.warm {s U : State} (hW : s.WarmedH U.vm) (hN : NN s) : NN U := by
  intro w hw
  have h1 := hN w hw
  have h2 := List.all_eq_true.mp nest_all w hw
  cases w <;> first | (exact absurd h2 (by simp [nestOk])) | exact va_Nw.warmF hW h1 | exact va_Nw.warmM hW h1
def KK (D : va_G) (T : Nat → ClassId) (U : State) : Prop := va_K D vwCl (TY T) U ∧ NN U
theorem KK.warm {D : va_G} {T : Nat → ClassId} {s U : State} (hW : s.WarmedH U.vm) (h : KK D T s) : KK D T U := ⟨va_K.moved hW.alike h.1, h.2.warm hW⟩
theorem KK.calling {D : va_G} {T : Nat → ClassId} {U : State} {g : JFrame} {mk : MethodId} {a : Array Value} (h : KK D T U) : KK D T (U.calling g mk a) := ⟨va_K.moved (u := U) (U := U.calling g mk a) (Vm.Alike.refl U.vm) h.1, h.2.same rfl⟩
/-- the method's frame at its start -/
def CX (p : Program) (s : State) (m : MethodId) (args : Array Value) (meth : Method) (c : Code) (cc : ByteArray) (maxL : Nat) (ret : Option FieldType) (ws : List Cond) (y : MethodName) : Prop :=
  p.tables.exec = Jvm.exec ∧ c.code = cc ∧ meth.sig.returnType = ret ∧ c.maxLocals = maxL ∧ s.vm.findClass y.cls = some m.cls ∧ (∀ w ∈ ws, w.before args s = true) ∧ meth.locks = false ∧ meth.name = y.name
theorem met_of {l : Launch} {y : MethodName} {ws ws' : List Cond} {rm : Room} {av : List Value} {B : State → Prop} {Qc : Array Value → State → Outcome → State → Prop} {mc ms : Nat} {free : Addr → Prop} {cc : ByteArray} {maxL : Nat} {ret : Option FieldType} {lv : List (Nat × Value)}
    (hy : plainName y.cls = true) (hw : ws = Cond.code y cc maxL ret :: ws') (hn : (lg_sl av).length ≤ maxL) (hlv : lv_args 0 av = lv)
    (body : ∀ (p : Program) (e : Env) (s : State) (m : MethodId) (args : Array Value) (below : List Frame) (meth : Method) (c : Code) (ls : Array Slot), CX p s m args meth c cc maxL ret ws y → lv_has ls maxL lv → B s →
      W p l e rm s m args below meth c s.heap [] 0 0 (MQ below Qc args s mc ms free) (F0 m 0 ls [])) : Met l y ws rm (va_Pc av B) Qc mc ms free := by
  refine Met.ofW (cc := cc) (maxL := maxL) (ret := ret) hy hw ?_
  intro p e s m args below meth c s₁ C0 hml hv
  obtain ⟨rfl, hB⟩ := hv
  have hl := lv_entry av (n := maxL) hn
  rw [lg_entry_eq]
  rw [hlv] at hl
  exact body p e s m _ below meth c _ ⟨C0.exec, C0.bytes, C0.returns, hml, findClass_of_methodNamed C0.named, atoms_spec (ws := ws) C0.pre, C0.notSynchronized, (name_of_methodNamed C0.named C0.method).1⟩ hl hB
/-- a start that reads a world -/
def PB (D : va_G) (T : Nat → ClassId) (wc : va_W) (U : State) : Prop := va_P D vwCl wc U.heap ∧ KK D T U
/-- a start that may write a world -/
def PM (D : va_G) (T : Nat → ClassId) (wc : va_W) (sz : Nat) (U : State) : Prop := U.heap.size = sz ∧ va_P D vwCl wc U.heap ∧ KK D T U ∧ va_D (fun _ => True) wc
theorem PB_blind {D : va_G} {T : Nat → ClassId} {wc : va_W} {av : List Value} : FrameBlind (va_Pc av (PB D T wc)) := fun _ _ _ _ q => ⟨q.1, q.2.1, q.2.2.calling⟩
theorem PM_blind {D : va_G} {T : Nat → ClassId} {wc : va_W} {sz : Nat} {av : List Value} : FrameBlind (va_Pc av (PM D T wc sz)) := fun _ _ _ _ q => ⟨q.1, q.2.1, q.2.2.1, q.2.2.2.1.calling, q.2.2.2.2⟩
theorem PB_at {D : va_G} {T : Nat → ClassId} {wc : va_W} {av : List Value} {s : State} {H : Heap} (hP : va_P D vwCl wc H) (hK : KK D T s) : ∀ U : State, U.heap = H → s.WarmedH U.vm → va_Pc av (PB D T wc) av.toArray U := fun U hU hW => ⟨rfl, by rw [hU]; exact hP, hK.warm hW⟩
theorem PM_at {D : va_G} {T : Nat → ClassId} {wc : va_W} {av : List Value} {s : State} {H : Heap} {A : Nat → Prop} (hP : va_P D vwCl wc H) (hD : va_D A wc) (hK : KK D T s) : ∀ U : State, U.heap = H → s.WarmedH U.vm → va_Pc av (PM D T wc H.size) av.toArray U := fun U hU hW => ⟨rfl, by rw [hU], by rw [hU]; exact hP, hK.warm hW, hD.weaken (fun _ _ _ _ => trivial)⟩
/-- ends of a method that writes: the answer v, the world w1 -/
def QMi (D : va_G) (w1 : va_W) (v : Int32) (A : Nat → Prop) : Array Value → State → Outcome → State → Prop := va_Qi (fun (r : Int32) (_ : Unit) => r = v) (fun _ t => va_P D vwCl w1 t.heap ∧ va_D A w1) A
def QMl (D : va_G) (w1 : va_W) (v : Int64) (A : Nat → Prop) : Array Value → State → Outcome → State → Prop := va_Ql (fun (r : Int64) (_ : Unit) => r = v) (fun _ t => va_P D vwCl w1 t.heap ∧ va_D A w1) A
def QMv (D : va_G) (w1 : va_W) (A : Nat → Prop) : Array Value → State → Outcome → State → Prop := va_Qv (fun (_ : Unit) => True) (fun _ t => va_P D vwCl w1 t.heap ∧ va_D A w1) A
theorem reord {D : va_G} {A0 : Nat → Prop} {ws wc wr w1 ws' : va_W} {H H1 : Heap} (hP : va_P D vwCl ws H) (hD : va_D A0 ws) (isC isR : List Nat) (hC : isC.map (fun i => ws[i]?) = wc.map some) (hR : isR.map (fun i => ws[i]?) = wr.map some) (hn : va_nd isR = true) (hdis : ∀ i ∈ isR, i ∉ isC)
    (hk : ∀ q : Nat, q < H.size → ¬ va_A wc H.size q → H1[q]? = H[q]?) (hF : ∀ q, va_A wc H.size q → A0 q) (hP1 : va_P D vwCl w1 H1) (hD1 : va_D (va_A wc H.size) w1) (pi : List Nat) (hp : va_nd pi = true) (hpi : pi.map (fun i => (wr ++ w1)[i]?) = ws'.map some) : va_P D vwCl ws' H1 ∧ va_D A0 ws' := by
  obtain ⟨h1, h2⟩ := va_join hP hD isC isR hC hR hn hdis hk hF hP1 hD1
  refine ⟨fun k q hq => ?_, h2.sub pi hp hpi⟩
  have h3 : (pi.map (fun i => (wr ++ w1)[i]?))[k]? = some (some q) := by rw [hpi, List.getElem?_map, hq]; rfl
  rw [List.getElem?_map] at h3
  cases hi : pi[k]? with
  | none => rw [hi] at h3; cases h3
  | some i => rw [hi] at h3; exact h1 i q (Option.some.inj h3)
section BC
variable {p : Program} {l : Launch} {e : Env} {R : Room} {s : State} {m : MethodId} {args : Array Value} {below : List Frame} {meth : Method} {c : Code} {H : Heap} {locs : List Loc} {cells slots : Nat} {Q : State → Prop}
variable {pc : Nat} {ls : Array Slot} {rest st0 : List Value} {a : Array Value} {A0 : Nat → Prop} {H0 : Heap} {mc ms : Nat} {D : va_G} {wc wr w1 ws ws' : va_W}
theorem callMi {v : Int32} (hr : va_Run p l e R s m args below meth c H locs cells slots mc ms (F0 m pc ls st0) rest (QMi D w1 v (va_A wc H.size) a) (va_A wc H.size)) (hS : va_S A0 H0 H locs) (hA : ∀ q, H0.size ≤ q → A0 q) (hP : va_P D vwCl ws H) (hD : va_D A0 ws)
    (isC isR : List Nat) (hC : isC.map (fun i => ws[i]?) = wc.map some) (hR : isR.map (fun i => ws[i]?) = wr.map some) (hn : va_nd isR = true) (hdis : ∀ i ∈ isR, i ∉ isC) (pi : List Nat) (hp : va_nd pi = true) (hpi : pi.map (fun i => (wr ++ w1)[i]?) = ws'.map some)
    (kk : ∀ (H1 : Heap) (locs1 : List Loc), va_P D vwCl ws' H1 → va_D A0 ws' → va_S A0 H0 H1 locs1 → W p l e R s m args below meth c H1 locs1 (cells + mc) (slots + ms) Q (F0 m (pc + 3) ls (.int v :: rest))) : W p l e R s m args below meth c H locs cells slots Q (F0 m pc ls st0) := by
  have hF := va_free hD hS hA isC hC
  refine va_calli hr hS (fun q _ h => hF q h) hF (fun r u t H1 locs ht hvm hw hB hz1 hk1 hS => ?_)
  subst hw
  obtain ⟨hP1, hD1⟩ := hB
  rw [ht] at hP1
  obtain ⟨g1, g2⟩ := reord hP hD isC isR hC hR hn hdis hk1 hF hP1 hD1 pi hp hpi
  exact kk H1 locs g1 g2 hS
theorem callMl {v : Int64} (hr : va_Run p l e R s m args below meth c H locs cells slots mc ms (F0 m pc ls st0) rest (QMl D w1 v (va_A wc H.size) a) (va_A wc H.size)) (hS : va_S A0 H0 H locs) (hA : ∀ q, H0.size ≤ q → A0 q) (hP : va_P D vwCl ws H) (hD : va_D A0 ws)
    (isC isR : List Nat) (hC : isC.map (fun i => ws[i]?) = wc.map some) (hR : isR.map (fun i => ws[i]?) = wr.map some) (hn : va_nd isR = true) (hdis : ∀ i ∈ isR, i ∉ isC) (pi : List Nat) (hp : va_nd pi = true) (hpi : pi.map (fun i => (wr ++ w1)[i]?) = ws'.map some)
    (kk : ∀ (H1 : Heap) (locs1 : List Loc), va_P D vwCl ws' H1 → va_D A0 ws' → va_S A0 H0 H1 locs1 → W p l e R s m args below meth c H1 locs1 (cells + mc) (slots + ms) Q (F0 m (pc + 3) ls (.long v :: rest))) : W p l e R s m args below meth c H locs cells slots Q (F0 m pc ls st0) := by
  have hF := va_free hD hS hA isC hC
  refine va_calll hr hS (fun q _ h => hF q h) hF (fun r u t H1 locs ht hvm hw hB hz1 hk1 hS => ?_)
  subst hw
  obtain ⟨hP1, hD1⟩ := hB
  rw [ht] at hP1
  obtain ⟨g1, g2⟩ := reord hP hD isC isR hC hR hn hdis hk1 hF hP1 hD1 pi hp hpi
  exact kk H1 locs g1 g2 hS
theorem callMv (hr : va_Run p l e R s m args below meth c H locs cells slots mc ms (F0 m pc ls st0) rest (QMv D w1 (va_A wc H.size) a) (va_A wc H.size)) (hS : va_S A0 H0 H locs) (hA : ∀ q, H0.size ≤ q → A0 q) (hP : va_P D vwCl ws H) (hD : va_D A0 ws)
    (isC isR : List Nat) (hC : isC.map (fun i => ws[i]?) = wc.map some) (hR : isR.map (fun i => ws[i]?) = wr.map some) (hn : va_nd isR = true) (hdis : ∀ i ∈ isR, i ∉ isC) (pi : List Nat) (hp : va_nd pi = true) (hpi : pi.map (fun i => (wr ++ w1)[i]?) = ws'.map some)
    (kk : ∀ (H1 : Heap) (locs1 : List Loc), va_P D vwCl ws' H1 → va_D A0 ws' → va_S A0 H0 H1 locs1 → W p l e R s m args below meth c H1 locs1 (cells + mc) (slots + ms) Q (F0 m (pc + 3) ls rest)) : W p l e R s m args below meth c H locs cells slots Q (F0 m pc ls st0) := by
  have hF := va_free hD hS hA isC hC
  refine va_callv hr hS (fun q _ h => hF q h) hF (fun u t H1 locs ht hvm hw hB hz1 hk1 hS => ?_)
  obtain ⟨hP1, hD1⟩ := hB
  rw [ht] at hP1
  obtain ⟨g1, g2⟩ := reord hP hD isC isR hC hR hn hdis hk1 hF hP1 hD1 pi hp hpi
  exact kk H1 locs g1 g2 hS
/-- calls that write nothing, by any way of calling -/
theorem callRi {post : Int32 → Prop} (hr : va_Run p l e R s m args below meth c H locs cells slots 0 0 (F0 m pc ls st0) rest (vp_Si post a) (fun _ => False))
    (kk : ∀ r : Int32, post r → W p l e R s m args below meth c H locs cells slots Q (F0 m (pc + 3) ls (.int r :: rest))) : W p l e R s m args below meth c H locs cells slots Q (F0 m pc ls st0) := by
  intro T hT X
  obtain ⟨v, st₀, t, T', L, h0, X', hL, e1, -, ⟨r, hv, hp, hh⟩, st⟩ := hr T hT X
  cases hv
  obtain ⟨t2, a1, b1⟩ := kk r hp T' (by rw [e1, hh, h0]) (Stand.forget X' (fun q h => (hL q h).elim))
  exact ⟨t2, st t2 a1, b1⟩
theorem callRl {post : Int64 → Prop} (hr : va_Run p l e R s m args below meth c H locs cells slots 0 0 (F0 m pc ls st0) rest (vp_Sl post a) (fun _ => False))
    (kk : ∀ r : Int64, post r → W p l e R s m args below meth c H locs cells slots Q (F0 m (pc + 3) ls (.long r :: rest))) : W p l e R s m args below meth c H locs cells slots Q (F0 m pc ls st0) := by
  intro T hT X
  obtain ⟨v, st₀, t, T', L, h0, X', hL, e1, -, ⟨r, hv, hp, hh⟩, st⟩ := hr T hT X
  cases hv
  obtain ⟨t2, a1, b1⟩ := kk r hp T' (by rw [e1, hh, h0]) (Stand.forget X' (fun q h => (hL q h).elim))
  exact ⟨t2, st t2 a1, b1⟩
/-- a named answer in the place of what it is -/
theorem eqi {x y : Int32} (h : x = y) (kk : W p l e R s m args below meth c H locs cells slots Q (F0 m pc ls (.int y :: rest))) : W p l e R s m args below meth c H locs cells slots Q (F0 m pc ls (.int x :: rest)) := h ▸ kk
theorem eql {x y : Int64} (h : x = y) (kk : W p l e R s m args below meth c H locs cells slots Q (F0 m pc ls (.long y :: rest))) : W p l e R s m args below meth c H locs cells slots Q (F0 m pc ls (.long x :: rest)) := h ▸ kk
/-- a table switch by cases -/
end BC
/-- pure steps along a picture -/
theorem bd {α β : Type} {o : Option α} {f : α → Option β} {r : β} (h : o.bind f = some r) : ∃ t, o = some t ∧ f t = some r := by
  cases o with
  | none => cases h
  | some t => exact ⟨t, rfl, h⟩
theorem ip {c : Prop} [Decidable c] {α : Type} {a b r : α} (hc : c) (h : (if c then a else b) = r) : a = r := by rw [if_pos hc] at h; exact h
theorem im {c : Prop} [Decidable c] {α : Type} {a b r : α} (hc : ¬ c) (h : (if c then a else b) = r) : b = r := by rw [if_neg hc] at h; exact h
theorem gd {c : Prop} [Decidable c] {α : Type} {a : Option α} {r : α} (h : (if c then none else a) = some r) : ¬ c ∧ a = some r := by
  by_cases hc : c
  · rw [if_pos hc] at h; cases h
  · rw [if_neg hc] at h; exact ⟨hc, h⟩
theorem vin {i : Int32} {n : Nat} (hn : n < 2147483648) (h1 : ¬ i < 0) (h2 : ¬ nI n ≤ i) : vp_in i n := by
  obtain ⟨j, hj, rfl⟩ := nI_of h1
  exact vp_in_nI (Nat.lt_of_not_le fun q => h2 (nI_le q (by omega))) (by omega)
theorem swOut {x : Int32} {lo hi : Int} (h : ¬ (lo ≤ x.toInt ∧ x.toInt ≤ hi)) : x.toInt < lo ∨ hi < x.toInt := by omega
theorem int_ne {x k : Int32} (h : ¬ x = k) : ¬ x.toInt = k.toInt := fun q => h (Int32.toInt_inj.mp q)
def fx0 {ρ : Type} (b : Option ρ → Option ρ) : Nat → Option ρ
  | 0 => none
  | n + 1 => b (fx0 b n)
def fx1 {α ρ : Type} (b : (α → Option ρ) → α → Option ρ) : Nat → α → Option ρ
  | 0 => fun _ => none
  | n + 1 => b (fx1 b n)
def fx2 {α β ρ : Type} (b : (α → β → Option ρ) → α → β → Option ρ) : Nat → α → β → Option ρ
  | 0 => fun _ _ => none
  | n + 1 => b (fx2 b n)
def fx3 {α β γ ρ : Type} (b : (α → β → γ → Option ρ) → α → β → γ → Option ρ) : Nat → α → β → γ → Option ρ
  | 0 => fun _ _ _ => none
  | n + 1 => b (fx3 b n)
def fx4 {α β γ δ ρ : Type} (b : (α → β → γ → δ → Option ρ) → α → β → γ → δ → Option ρ) : Nat → α → β → γ → δ → Option ρ
  | 0 => fun _ _ _ _ => none
  | n + 1 => b (fx4 b n)
def fx5 {α β γ δ ε ρ : Type} (b : (α → β → γ → δ → ε → Option ρ) → α → β → γ → δ → ε → Option ρ) : Nat → α → β → γ → δ → ε → Option ρ
  | 0 => fun _ _ _ _ _ => none
  | n + 1 => b (fx5 b n)
end
