section
-- ===== PART A: goes FIRST, ahead of the names: the tables' words, and 'selects' of the private methods out of them =====
/-- a private method of a class that the tables say can be made, by its rows of tables_1 -/
def lw_okq (q : MethodName × Nat) : Prop := (q.1.cls ≠ "java/lang/invoke/MethodHandle" ∧ q.1.cls ≠ "java/lang/invoke/VarHandle") ∧ Cond.instantiable q.1.cls q.2 ∈ tables_1 ∧ Cond.privateMethod q.1 ∈ tables_1 ∧ Cond.instanceMethod q.1 ∈ tables_1
theorem lw_p0 : lw_okq (⟨"UphillOnly", "startAnew", "()V"⟩, 14) := ⟨⟨by decide +kernel, by decide +kernel⟩, List.mem_of_getElem? (i := 13) (by decide +kernel), List.mem_of_getElem? (i := 145) (by decide +kernel), List.mem_of_getElem? (i := 146) (by decide +kernel)⟩
theorem lw_p1 : lw_okq (⟨"UphillOnly$Script", "advance", "()V"⟩, 7) := ⟨⟨by decide +kernel, by decide +kernel⟩, List.mem_of_getElem? (i := 21) (by decide +kernel), List.mem_of_getElem? (i := 217) (by decide +kernel), List.mem_of_getElem? (i := 218) (by decide +kernel)⟩
theorem lw_p2 : lw_okq (⟨"UphillOnly$Script", "sortAt", "(I)I"⟩, 7) := ⟨⟨by decide +kernel, by decide +kernel⟩, List.mem_of_getElem? (i := 21) (by decide +kernel), List.mem_of_getElem? (i := 221) (by decide +kernel), List.mem_of_getElem? (i := 222) (by decide +kernel)⟩
theorem lw_p3 : lw_okq (⟨"UphillOnly$Script", "takeLine", "(LUphillOnly$Town;)Z"⟩, 7) := ⟨⟨by decide +kernel, by decide +kernel⟩, List.mem_of_getElem? (i := 21) (by decide +kernel), List.mem_of_getElem? (i := 228) (by decide +kernel), List.mem_of_getElem? (i := 229) (by decide +kernel)⟩
theorem lw_p4 : lw_okq (⟨"UphillOnly$Script", "streetKindTold", "()I"⟩, 7) := ⟨⟨by decide +kernel, by decide +kernel⟩, List.mem_of_getElem? (i := 21) (by decide +kernel), List.mem_of_getElem? (i := 232) (by decide +kernel), List.mem_of_getElem? (i := 233) (by decide +kernel)⟩
theorem lw_p5 : lw_okq (⟨"UphillOnly$Script", "isWord", "(Ljava/lang/String;)Z"⟩, 7) := ⟨⟨by decide +kernel, by decide +kernel⟩, List.mem_of_getElem? (i := 21) (by decide +kernel), List.mem_of_getElem? (i := 237) (by decide +kernel), List.mem_of_getElem? (i := 238) (by decide +kernel)⟩
theorem lw_p6 : lw_okq (⟨"UphillOnly$Script", "takeStreet", "(LUphillOnly$Town;I)Z"⟩, 7) := ⟨⟨by decide +kernel, by decide +kernel⟩, List.mem_of_getElem? (i := 21) (by decide +kernel), List.mem_of_getElem? (i := 292) (by decide +kernel), List.mem_of_getElem? (i := 293) (by decide +kernel)⟩
theorem lw_p7 : lw_okq (⟨"UphillOnly$Script", "takeNumber", "(II)Z"⟩, 7) := ⟨⟨by decide +kernel, by decide +kernel⟩, List.mem_of_getElem? (i := 21) (by decide +kernel), List.mem_of_getElem? (i := 296) (by decide +kernel), List.mem_of_getElem? (i := 297) (by decide +kernel)⟩
theorem lw_p8 : lw_okq (⟨"UphillOnly$Script", "lawTold", "()I"⟩, 7) := ⟨⟨by decide +kernel, by decide +kernel⟩, List.mem_of_getElem? (i := 21) (by decide +kernel), List.mem_of_getElem? (i := 304) (by decide +kernel), List.mem_of_getElem? (i := 305) (by decide +kernel)⟩
theorem lw_p9 : lw_okq (⟨"UphillOnly$Script", "takeErrand", "(LUphillOnly$Town;)Z"⟩, 7) := ⟨⟨by decide +kernel, by decide +kernel⟩, List.mem_of_getElem? (i := 21) (by decide +kernel), List.mem_of_getElem? (i := 312) (by decide +kernel), List.mem_of_getElem? (i := 313) (by decide +kernel)⟩
theorem lw_p10 : lw_okq (⟨"UphillOnly$Script", "takeScrew", "(LUphillOnly$Town;Z)Z"⟩, 7) := ⟨⟨by decide +kernel, by decide +kernel⟩, List.mem_of_getElem? (i := 21) (by decide +kernel), List.mem_of_getElem? (i := 323) (by decide +kernel), List.mem_of_getElem? (i := 324) (by decide +kernel)⟩
theorem lw_p11 : lw_okq (⟨"UphillOnly$Script", "takeHeights", "(LUphillOnly$Town;)Z"⟩, 7) := ⟨⟨by decide +kernel, by decide +kernel⟩, List.mem_of_getElem? (i := 21) (by decide +kernel), List.mem_of_getElem? (i := 328) (by decide +kernel), List.mem_of_getElem? (i := 329) (by decide +kernel)⟩
theorem lw_p12 : lw_okq (⟨"UphillOnly$Script", "takeTown", "(LUphillOnly$Town;)Z"⟩, 7) := ⟨⟨by decide +kernel, by decide +kernel⟩, List.mem_of_getElem? (i := 21) (by decide +kernel), List.mem_of_getElem? (i := 341) (by decide +kernel), List.mem_of_getElem? (i := 342) (by decide +kernel)⟩
theorem lw_p13 : lw_okq (⟨"UphillOnly$Script", "takeHalf", "(LUphillOnly$Town;)Z"⟩, 7) := ⟨⟨by decide +kernel, by decide +kernel⟩, List.mem_of_getElem? (i := 21) (by decide +kernel), List.mem_of_getElem? (i := 347) (by decide +kernel), List.mem_of_getElem? (i := 348) (by decide +kernel)⟩
theorem lw_p14 : lw_okq (⟨"UphillOnly$Ways", "beginOf", "(LUphillOnly$Town;III)I"⟩, 2) := ⟨⟨by decide +kernel, by decide +kernel⟩, List.mem_of_getElem? (i := 52) (by decide +kernel), List.mem_of_getElem? (i := 414) (by decide +kernel), List.mem_of_getElem? (i := 415) (by decide +kernel)⟩
theorem lw_p15 : lw_okq (⟨"UphillOnly$Ways", "earliestBeside", "(LUphillOnly$Town;I)I"⟩, 2) := ⟨⟨by decide +kernel, by decide +kernel⟩, List.mem_of_getElem? (i := 52) (by decide +kernel), List.mem_of_getElem? (i := 458) (by decide +kernel), List.mem_of_getElem? (i := 459) (by decide +kernel)⟩
def lw_privs_1 : List (MethodName × Nat) := [(⟨"UphillOnly", "startAnew", "()V"⟩, 14), (⟨"UphillOnly$Script", "advance", "()V"⟩, 7), (⟨"UphillOnly$Script", "sortAt", "(I)I"⟩, 7), (⟨"UphillOnly$Script", "takeLine", "(LUphillOnly$Town;)Z"⟩, 7), (⟨"UphillOnly$Script", "streetKindTold", "()I"⟩, 7), (⟨"UphillOnly$Script", "isWord", "(Ljava/lang/String;)Z"⟩, 7), (⟨"UphillOnly$Script", "takeStreet", "(LUphillOnly$Town;I)Z"⟩, 7), (⟨"UphillOnly$Script", "takeNumber", "(II)Z"⟩, 7), (⟨"UphillOnly$Script", "lawTold", "()I"⟩, 7), (⟨"UphillOnly$Script", "takeErrand", "(LUphillOnly$Town;)Z"⟩, 7), (⟨"UphillOnly$Script", "takeScrew", "(LUphillOnly$Town;Z)Z"⟩, 7), (⟨"UphillOnly$Script", "takeHeights", "(LUphillOnly$Town;)Z"⟩, 7), (⟨"UphillOnly$Script", "takeTown", "(LUphillOnly$Town;)Z"⟩, 7), (⟨"UphillOnly$Script", "takeHalf", "(LUphillOnly$Town;)Z"⟩, 7), (⟨"UphillOnly$Ways", "beginOf", "(LUphillOnly$Town;III)I"⟩, 2), (⟨"UphillOnly$Ways", "earliestBeside", "(LUphillOnly$Town;I)I"⟩, 2)]
theorem lw_r1 : ∀ q ∈ lw_privs_1, lw_okq q := List.forall_mem_cons.mpr ⟨lw_p0, List.forall_mem_cons.mpr ⟨lw_p1, List.forall_mem_cons.mpr ⟨lw_p2, List.forall_mem_cons.mpr ⟨lw_p3, List.forall_mem_cons.mpr ⟨lw_p4, List.forall_mem_cons.mpr ⟨lw_p5, List.forall_mem_cons.mpr ⟨lw_p6, List.forall_mem_cons.mpr ⟨lw_p7, List.forall_mem_cons.mpr ⟨lw_p8, List.forall_mem_cons.mpr ⟨lw_p9, List.forall_mem_cons.mpr ⟨lw_p10, List.forall_mem_cons.mpr ⟨lw_p11, List.forall_mem_cons.mpr ⟨lw_p12, List.forall_mem_cons.mpr ⟨lw_p13, List.forall_mem_cons.mpr ⟨lw_p14, List.forall_mem_cons.mpr ⟨lw_p15, fun _ h => absurd h List.not_mem_nil⟩⟩⟩⟩⟩⟩⟩⟩⟩⟩⟩⟩⟩⟩⟩⟩
theorem lw_p16 : lw_okq (⟨"UphillOnly$Ways", "goOnFrom", "(LUphillOnly$Town;I)V"⟩, 2) := ⟨⟨by decide +kernel, by decide +kernel⟩, List.mem_of_getElem? (i := 52) (by decide +kernel), List.mem_of_getElem? (i := 462) (by decide +kernel), List.mem_of_getElem? (i := 463) (by decide +kernel)⟩
theorem lw_p17 : lw_okq (⟨"UphillOnly", "cornersReached", "(II)I"⟩, 14) := ⟨⟨by decide +kernel, by decide +kernel⟩, List.mem_of_getElem? (i := 13) (by decide +kernel), List.mem_of_getElem? (i := 492) (by decide +kernel), List.mem_of_getElem? (i := 493) (by decide +kernel)⟩
theorem lw_p18 : lw_okq (⟨"UphillOnly$Ways", "serves", "(LUphillOnly$Town;I)Z"⟩, 2) := ⟨⟨by decide +kernel, by decide +kernel⟩, List.mem_of_getElem? (i := 52) (by decide +kernel), List.mem_of_getElem? (i := 512) (by decide +kernel), List.mem_of_getElem? (i := 513) (by decide +kernel)⟩
theorem lw_p19 : lw_okq (⟨"UphillOnly", "canAllBe", "(I)Z"⟩, 14) := ⟨⟨by decide +kernel, by decide +kernel⟩, List.mem_of_getElem? (i := 13) (by decide +kernel), List.mem_of_getElem? (i := 562) (by decide +kernel), List.mem_of_getElem? (i := 563) (by decide +kernel)⟩
theorem lw_p20 : lw_okq (⟨"UphillOnly", "higherThan", "(II)I"⟩, 14) := ⟨⟨by decide +kernel, by decide +kernel⟩, List.mem_of_getElem? (i := 13) (by decide +kernel), List.mem_of_getElem? (i := 566) (by decide +kernel), List.mem_of_getElem? (i := 567) (by decide +kernel)⟩
theorem lw_p21 : lw_okq (⟨"UphillOnlyModel", "isRead", "()Z"⟩, 32) := ⟨⟨by decide +kernel, by decide +kernel⟩, List.mem_of_getElem? (i := 574) (by decide +kernel), List.mem_of_getElem? (i := 694) (by decide +kernel), List.mem_of_getElem? (i := 695) (by decide +kernel)⟩
theorem lw_p22 : lw_okq (⟨"UphillOnlyModel", "isLine", "(I)Z"⟩, 32) := ⟨⟨by decide +kernel, by decide +kernel⟩, List.mem_of_getElem? (i := 574) (by decide +kernel), List.mem_of_getElem? (i := 698) (by decide +kernel), List.mem_of_getElem? (i := 699) (by decide +kernel)⟩
theorem lw_p23 : lw_okq (⟨"UphillOnlyModel", "nextToken", "()V"⟩, 32) := ⟨⟨by decide +kernel, by decide +kernel⟩, List.mem_of_getElem? (i := 574) (by decide +kernel), List.mem_of_getElem? (i := 702) (by decide +kernel), List.mem_of_getElem? (i := 703) (by decide +kernel)⟩
theorem lw_p24 : lw_okq (⟨"UphillOnlyModel", "isStreetLine", "(I)Z"⟩, 32) := ⟨⟨by decide +kernel, by decide +kernel⟩, List.mem_of_getElem? (i := 574) (by decide +kernel), List.mem_of_getElem? (i := 726) (by decide +kernel), List.mem_of_getElem? (i := 727) (by decide +kernel)⟩
theorem lw_p25 : lw_okq (⟨"UphillOnlyModel", "fails", "()Z"⟩, 32) := ⟨⟨by decide +kernel, by decide +kernel⟩, List.mem_of_getElem? (i := 574) (by decide +kernel), List.mem_of_getElem? (i := 730) (by decide +kernel), List.mem_of_getElem? (i := 731) (by decide +kernel)⟩
theorem lw_p26 : lw_okq (⟨"UphillOnlyModel", "arePlaces", "(I)Z"⟩, 32) := ⟨⟨by decide +kernel, by decide +kernel⟩, List.mem_of_getElem? (i := 574) (by decide +kernel), List.mem_of_getElem? (i := 734) (by decide +kernel), List.mem_of_getElem? (i := 735) (by decide +kernel)⟩
theorem lw_p27 : lw_okq (⟨"UphillOnlyModel", "isPlace", "(I)Z"⟩, 32) := ⟨⟨by decide +kernel, by decide +kernel⟩, List.mem_of_getElem? (i := 574) (by decide +kernel), List.mem_of_getElem? (i := 738) (by decide +kernel), List.mem_of_getElem? (i := 739) (by decide +kernel)⟩
theorem lw_p28 : lw_okq (⟨"UphillOnlyModel", "isNumber", "(III)Z"⟩, 32) := ⟨⟨by decide +kernel, by decide +kernel⟩, List.mem_of_getElem? (i := 574) (by decide +kernel), List.mem_of_getElem? (i := 742) (by decide +kernel), List.mem_of_getElem? (i := 743) (by decide +kernel)⟩
theorem lw_p29 : lw_okq (⟨"UphillOnlyModel", "isTown", "(I)Z"⟩, 32) := ⟨⟨by decide +kernel, by decide +kernel⟩, List.mem_of_getElem? (i := 574) (by decide +kernel), List.mem_of_getElem? (i := 746) (by decide +kernel), List.mem_of_getElem? (i := 747) (by decide +kernel)⟩
theorem lw_p30 : lw_okq (⟨"UphillOnlyModel", "isErrand", "(I)Z"⟩, 32) := ⟨⟨by decide +kernel, by decide +kernel⟩, List.mem_of_getElem? (i := 574) (by decide +kernel), List.mem_of_getElem? (i := 750) (by decide +kernel), List.mem_of_getElem? (i := 751) (by decide +kernel)⟩
theorem lw_p31 : lw_okq (⟨"UphillOnlyModel", "doLine", "(I)V"⟩, 32) := ⟨⟨by decide +kernel, by decide +kernel⟩, List.mem_of_getElem? (i := 574) (by decide +kernel), List.mem_of_getElem? (i := 758) (by decide +kernel), List.mem_of_getElem? (i := 759) (by decide +kernel)⟩
def lw_privs_2 : List (MethodName × Nat) := [(⟨"UphillOnly$Ways", "goOnFrom", "(LUphillOnly$Town;I)V"⟩, 2), (⟨"UphillOnly", "cornersReached", "(II)I"⟩, 14), (⟨"UphillOnly$Ways", "serves", "(LUphillOnly$Town;I)Z"⟩, 2), (⟨"UphillOnly", "canAllBe", "(I)Z"⟩, 14), (⟨"UphillOnly", "higherThan", "(II)I"⟩, 14), (⟨"UphillOnlyModel", "isRead", "()Z"⟩, 32), (⟨"UphillOnlyModel", "isLine", "(I)Z"⟩, 32), (⟨"UphillOnlyModel", "nextToken", "()V"⟩, 32), (⟨"UphillOnlyModel", "isStreetLine", "(I)Z"⟩, 32), (⟨"UphillOnlyModel", "fails", "()Z"⟩, 32), (⟨"UphillOnlyModel", "arePlaces", "(I)Z"⟩, 32), (⟨"UphillOnlyModel", "isPlace", "(I)Z"⟩, 32), (⟨"UphillOnlyModel", "isNumber", "(III)Z"⟩, 32), (⟨"UphillOnlyModel", "isTown", "(I)Z"⟩, 32), (⟨"UphillOnlyModel", "isErrand", "(I)Z"⟩, 32), (⟨"UphillOnlyModel", "doLine", "(I)V"⟩, 32)]
theorem lw_r2 : ∀ q ∈ lw_privs_2, lw_okq q := List.forall_mem_cons.mpr ⟨lw_p16, List.forall_mem_cons.mpr ⟨lw_p17, List.forall_mem_cons.mpr ⟨lw_p18, List.forall_mem_cons.mpr ⟨lw_p19, List.forall_mem_cons.mpr ⟨lw_p20, List.forall_mem_cons.mpr ⟨lw_p21, List.forall_mem_cons.mpr ⟨lw_p22, List.forall_mem_cons.mpr ⟨lw_p23, List.forall_mem_cons.mpr ⟨lw_p24, List.forall_mem_cons.mpr ⟨lw_p25, List.forall_mem_cons.mpr ⟨lw_p26, List.forall_mem_cons.mpr ⟨lw_p27, List.forall_mem_cons.mpr ⟨lw_p28, List.forall_mem_cons.mpr ⟨lw_p29, List.forall_mem_cons.mpr ⟨lw_p30, List.forall_mem_cons.mpr ⟨lw_p31, fun _ h => absurd h List.not_mem_nil⟩⟩⟩⟩⟩⟩⟩⟩⟩⟩⟩⟩⟩⟩⟩⟩
theorem lw_p32 : lw_okq (⟨"UphillOnlyModel", "plain", "()V"⟩, 32) := ⟨⟨by decide +kernel, by decide +kernel⟩, List.mem_of_getElem? (i := 574) (by decide +kernel), List.mem_of_getElem? (i := 762) (by decide +kernel), List.mem_of_getElem? (i := 763) (by decide +kernel)⟩
theorem lw_p33 : lw_okq (⟨"UphillOnlyModel", "isCorner", "(I)Z"⟩, 32) := ⟨⟨by decide +kernel, by decide +kernel⟩, List.mem_of_getElem? (i := 574) (by decide +kernel), List.mem_of_getElem? (i := 770) (by decide +kernel), List.mem_of_getElem? (i := 771) (by decide +kernel)⟩
theorem lw_p34 : lw_okq (⟨"UphillOnlyModel", "heightOf", "(II)I"⟩, 32) := ⟨⟨by decide +kernel, by decide +kernel⟩, List.mem_of_getElem? (i := 574) (by decide +kernel), List.mem_of_getElem? (i := 774) (by decide +kernel), List.mem_of_getElem? (i := 775) (by decide +kernel)⟩
theorem lw_p35 : lw_okq (⟨"UphillOnlyModel", "isStreet", "(I)Z"⟩, 32) := ⟨⟨by decide +kernel, by decide +kernel⟩, List.mem_of_getElem? (i := 574) (by decide +kernel), List.mem_of_getElem? (i := 785) (by decide +kernel), List.mem_of_getElem? (i := 786) (by decide +kernel)⟩
theorem lw_p36 : lw_okq (⟨"UphillOnlyModel", "may", "(III)Z"⟩, 32) := ⟨⟨by decide +kernel, by decide +kernel⟩, List.mem_of_getElem? (i := 574) (by decide +kernel), List.mem_of_getElem? (i := 793) (by decide +kernel), List.mem_of_getElem? (i := 794) (by decide +kernel)⟩
theorem lw_p37 : lw_okq (⟨"UphillOnlyModel", "canGo", "(III)Z"⟩, 32) := ⟨⟨by decide +kernel, by decide +kernel⟩, List.mem_of_getElem? (i := 574) (by decide +kernel), List.mem_of_getElem? (i := 801) (by decide +kernel), List.mem_of_getElem? (i := 802) (by decide +kernel)⟩
theorem lw_p38 : lw_okq (⟨"UphillOnlyModel", "sideOf", "(II)I"⟩, 32) := ⟨⟨by decide +kernel, by decide +kernel⟩, List.mem_of_getElem? (i := 574) (by decide +kernel), List.mem_of_getElem? (i := 805) (by decide +kernel), List.mem_of_getElem? (i := 806) (by decide +kernel)⟩
theorem lw_p39 : lw_okq (⟨"UphillOnlyModel", "soonestOf", "(III)I"⟩, 32) := ⟨⟨by decide +kernel, by decide +kernel⟩, List.mem_of_getElem? (i := 574) (by decide +kernel), List.mem_of_getElem? (i := 835) (by decide +kernel), List.mem_of_getElem? (i := 836) (by decide +kernel)⟩
theorem lw_p40 : lw_okq (⟨"UphillOnlyModel", "endOf", "(III)I"⟩, 32) := ⟨⟨by decide +kernel, by decide +kernel⟩, List.mem_of_getElem? (i := 574) (by decide +kernel), List.mem_of_getElem? (i := 839) (by decide +kernel), List.mem_of_getElem? (i := 840) (by decide +kernel)⟩
theorem lw_p41 : lw_okq (⟨"UphillOnlyModel", "servedNow", "()I"⟩, 32) := ⟨⟨by decide +kernel, by decide +kernel⟩, List.mem_of_getElem? (i := 574) (by decide +kernel), List.mem_of_getElem? (i := 855) (by decide +kernel), List.mem_of_getElem? (i := 856) (by decide +kernel)⟩
theorem lw_p42 : lw_okq (⟨"UphillOnlyModel", "above", "(II)I"⟩, 32) := ⟨⟨by decide +kernel, by decide +kernel⟩, List.mem_of_getElem? (i := 574) (by decide +kernel), List.mem_of_getElem? (i := 898) (by decide +kernel), List.mem_of_getElem? (i := 899) (by decide +kernel)⟩
def lw_privs_3 : List (MethodName × Nat) := [(⟨"UphillOnlyModel", "plain", "()V"⟩, 32), (⟨"UphillOnlyModel", "isCorner", "(I)Z"⟩, 32), (⟨"UphillOnlyModel", "heightOf", "(II)I"⟩, 32), (⟨"UphillOnlyModel", "isStreet", "(I)Z"⟩, 32), (⟨"UphillOnlyModel", "may", "(III)Z"⟩, 32), (⟨"UphillOnlyModel", "canGo", "(III)Z"⟩, 32), (⟨"UphillOnlyModel", "sideOf", "(II)I"⟩, 32), (⟨"UphillOnlyModel", "soonestOf", "(III)I"⟩, 32), (⟨"UphillOnlyModel", "endOf", "(III)I"⟩, 32), (⟨"UphillOnlyModel", "servedNow", "()I"⟩, 32), (⟨"UphillOnlyModel", "above", "(II)I"⟩, 32)]
theorem lw_r3 : ∀ q ∈ lw_privs_3, lw_okq q := List.forall_mem_cons.mpr ⟨lw_p32, List.forall_mem_cons.mpr ⟨lw_p33, List.forall_mem_cons.mpr ⟨lw_p34, List.forall_mem_cons.mpr ⟨lw_p35, List.forall_mem_cons.mpr ⟨lw_p36, List.forall_mem_cons.mpr ⟨lw_p37, List.forall_mem_cons.mpr ⟨lw_p38, List.forall_mem_cons.mpr ⟨lw_p39, List.forall_mem_cons.mpr ⟨lw_p40, List.forall_mem_cons.mpr ⟨lw_p41, List.forall_mem_cons.mpr ⟨lw_p42, fun _ h => absurd h List.not_mem_nil⟩⟩⟩⟩⟩⟩⟩⟩⟩⟩⟩
def lw_privs : List (MethodName × Nat) := lw_privs_1 ++ (lw_privs_2 ++ (lw_privs_3))
def lw_tbl : List Cond := k2_sels lw_privs ++ tables_1
theorem lw_privs_ok : ∀ q ∈ lw_privs, lw_okq q := by
  show ∀ q ∈ lw_privs_1 ++ (lw_privs_2 ++ (lw_privs_3)), lw_okq q
  exact List.forall_mem_append.mpr ⟨lw_r1, List.forall_mem_append.mpr ⟨lw_r2, lw_r3⟩⟩
end
section
def RX0 : String := "UphillOnly$Script"
def TX0 : u_T := fun k => match k with
  | 0 => ("UphillOnly$Script", "row", "[I", true)
  | 1 => ("UphillOnly$Script", "length", "I", false)
  | 2 => ("UphillOnly$Script", "lines", "I", false)
  | 3 => ("UphillOnly$Script", "tokenPlace", "I", false)
  | 4 => ("UphillOnly$Script", "tokenBehind", "I", false)
  | 5 => ("UphillOnly$Script", "tokenSort", "I", false)
  | _ => ("UphillOnly$Script", "number", "I", false)
def tyX0 : Nat → FieldType := fun k => match k with
  | 0 => .array .int
  | 1 => .int
  | 2 => .int
  | 3 => .int
  | 4 => .int
  | 5 => .int
  | _ => .int
theorem nmX0 : ∀ a, a < 7 → ∀ b, b < 7 → a ≠ b → (TX0 a).2.1 ≠ (TX0 b).2.1 := by decide +kernel
theorem tyX0_ok : ∀ k, k < 7 → parseFieldDescriptor (TX0 k).2.2.1 = some (tyX0 k) := by decide +kernel
def RX1 : String := "UphillOnly$Town"
def TX1 : u_T := fun k => match k with
  | 0 => ("UphillOnly$Town", "corners", "I", false)
  | 1 => ("UphillOnly$Town", "byDay", "[I", true)
  | 2 => ("UphillOnly$Town", "byNight", "[I", true)
  | 3 => ("UphillOnly$Town", "stuck", "I", false)
  | 4 => ("UphillOnly$Town", "streets", "I", false)
  | 5 => ("UphillOnly$Town", "first", "[I", true)
  | 6 => ("UphillOnly$Town", "second", "[I", true)
  | 7 => ("UphillOnly$Town", "kind", "[I", true)
  | 8 => ("UphillOnly$Town", "minutes", "[I", true)
  | 9 => ("UphillOnly$Town", "half", "I", false)
  | 10 => ("UphillOnly$Town", "law", "I", false)
  | 11 => ("UphillOnly$Town", "errands", "I", false)
  | 12 => ("UphillOnly$Town", "errandFrom", "[I", true)
  | _ => ("UphillOnly$Town", "errandTo", "[I", true)
def tyX1 : Nat → FieldType := fun k => match k with
  | 0 => .int
  | 1 => .array .int
  | 2 => .array .int
  | 3 => .int
  | 4 => .int
  | 5 => .array .int
  | 6 => .array .int
  | 7 => .array .int
  | 8 => .array .int
  | 9 => .int
  | 10 => .int
  | 11 => .int
  | 12 => .array .int
  | _ => .array .int
theorem nmX1 : ∀ a, a < 14 → ∀ b, b < 14 → a ≠ b → (TX1 a).2.1 ≠ (TX1 b).2.1 := by decide +kernel
theorem tyX1_ok : ∀ k, k < 14 → parseFieldDescriptor (TX1 k).2.2.1 = some (tyX1 k) := by decide +kernel
def RX2 : String := "UphillOnly$Ways"
def TX2 : u_T := fun k => match k with
  | 0 => ("UphillOnly$Ways", "open", "[I", true)
  | _ => ("UphillOnly$Ways", "there", "[I", true)
def tyX2 : Nat → FieldType := fun k => match k with
  | 0 => .array .int
  | _ => .array .int
theorem nmX2 : ∀ a, a < 2 → ∀ b, b < 2 → a ≠ b → (TX2 a).2.1 ≠ (TX2 b).2.1 := by decide +kernel
theorem tyX2_ok : ∀ k, k < 2 → parseFieldDescriptor (TX2 k).2.2.1 = some (tyX2 k) := by decide +kernel
def RX3 : String := "UphillOnly"
def TX3 : u_T := fun k => match k with
  | 0 => ("UphillOnly", "script", "LUphillOnly$Script;", true)
  | 1 => ("UphillOnly", "ways", "LUphillOnly$Ways;", true)
  | 2 => ("UphillOnly", "current", "LUphillOnly$Town;", false)
  | 3 => ("UphillOnly", "draft", "LUphillOnly$Town;", false)
  | 4 => ("UphillOnly", "stand", "I", false)
  | 5 => ("UphillOnly", "minute", "I", false)
  | 6 => ("UphillOnly", "keptStand", "[I", true)
  | 7 => ("UphillOnly", "keptMinute", "[I", true)
  | 8 => ("UphillOnly", "walked", "[I", true)
  | 9 => ("UphillOnly", "walkedCount", "I", false)
  | 10 => ("UphillOnly", "stepFrom", "[I", true)
  | 11 => ("UphillOnly", "stepTo", "[I", true)
  | 12 => ("UphillOnly", "stepHalf", "[I", true)
  | _ => ("UphillOnly", "stepCount", "I", false)
def tyX3 : Nat → FieldType := fun k => match k with
  | 0 => .object "UphillOnly$Script"
  | 1 => .object "UphillOnly$Ways"
  | 2 => .object "UphillOnly$Town"
  | 3 => .object "UphillOnly$Town"
  | 4 => .int
  | 5 => .int
  | 6 => .array .int
  | 7 => .array .int
  | 8 => .array .int
  | 9 => .int
  | 10 => .array .int
  | 11 => .array .int
  | 12 => .array .int
  | _ => .int
theorem nmX3 : ∀ a, a < 14 → ∀ b, b < 14 → a ≠ b → (TX3 a).2.1 ≠ (TX3 b).2.1 := by decide +kernel
theorem tyX3_ok : ∀ k, k < 14 → parseFieldDescriptor (TX3 k).2.2.1 = some (tyX3 k) := by decide +kernel
def RX4 : String := "UphillOnlyModel"
def TX4 : u_T := fun k => match k with
  | 0 => ("UphillOnlyModel", "corners", "I", false)
  | 1 => ("UphillOnlyModel", "height", "[I", true)
  | 2 => ("UphillOnlyModel", "stuck", "I", false)
  | 3 => ("UphillOnlyModel", "streets", "I", false)
  | 4 => ("UphillOnlyModel", "street", "[I", true)
  | 5 => ("UphillOnlyModel", "law", "I", false)
  | 6 => ("UphillOnlyModel", "half", "I", false)
  | 7 => ("UphillOnlyModel", "errands", "I", false)
  | 8 => ("UphillOnlyModel", "errand", "[I", true)
  | 9 => ("UphillOnlyModel", "bytes", "I", false)
  | 10 => ("UphillOnlyModel", "text", "[I", true)
  | 11 => ("UphillOnlyModel", "position", "I", false)
  | 12 => ("UphillOnlyModel", "tokenAt", "I", false)
  | 13 => ("UphillOnlyModel", "token", "J", false)
  | 14 => ("UphillOnlyModel", "digits", "I", false)
  | 15 => ("UphillOnlyModel", "number", "I", false)
  | 16 => ("UphillOnlyModel", "faultAt", "I", false)
  | 17 => ("UphillOnlyModel", "readMany", "I", false)
  | 18 => ("UphillOnlyModel", "readCorners", "I", false)
  | 19 => ("UphillOnlyModel", "readStreets", "I", false)
  | 20 => ("UphillOnlyModel", "readErrands", "I", false)
  | 21 => ("UphillOnlyModel", "read", "[I", true)
  | 22 => ("UphillOnlyModel", "stands", "I", false)
  | 23 => ("UphillOnlyModel", "time", "I", false)
  | 24 => ("UphillOnlyModel", "image", "[I", true)
  | 25 => ("UphillOnlyModel", "isKept", "[Z", true)
  | 26 => ("UphillOnlyModel", "walked", "I", false)
  | 27 => ("UphillOnlyModel", "path", "[I", true)
  | 28 => ("UphillOnlyModel", "steps", "I", false)
  | 29 => ("UphillOnlyModel", "step", "[I", true)
  | 30 => ("UphillOnlyModel", "rope", "I", false)
  | _ => ("UphillOnlyModel", "at", "[I", true)
def tyX4 : Nat → FieldType := fun k => match k with
  | 0 => .int
  | 1 => .array .int
  | 2 => .int
  | 3 => .int
  | 4 => .array .int
  | 5 => .int
  | 6 => .int
  | 7 => .int
  | 8 => .array .int
  | 9 => .int
  | 10 => .array .int
  | 11 => .int
  | 12 => .int
  | 13 => .long
  | 14 => .int
  | 15 => .int
  | 16 => .int
  | 17 => .int
  | 18 => .int
  | 19 => .int
  | 20 => .int
  | 21 => .array .int
  | 22 => .int
  | 23 => .int
  | 24 => .array .int
  | 25 => .array .boolean
  | 26 => .int
  | 27 => .array .int
  | 28 => .int
  | 29 => .array .int
  | 30 => .int
  | _ => .array .int
theorem nmX4 : ∀ a, a < 32 → ∀ b, b < 32 → a ≠ b → (TX4 a).2.1 ≠ (TX4 b).2.1 := by decide +kernel
theorem tyX4_ok : ∀ k, k < 32 → parseFieldDescriptor (TX4 k).2.2.1 = some (tyX4 k) := by decide +kernel
def RJ0 : String := "java/lang/String"
def RJ1 : String := "java/lang/StringLatin1"
def RJ3 : String := "jdk/internal/util/Preconditions"
def RJ6 : String := "java/lang/Integer"
def RL : String := "UphillOnlyLaw"
abbrev cX0_init : ByteArray := prog_2_method_1_code
def yX0_init : MethodName := ⟨RX0, "<init>", "()V"⟩
abbrev cX0_append : ByteArray := prog_2_method_2_code
def yX0_append : MethodName := ⟨RX0, "append", "(I)V"⟩
abbrev cX0_firstFault : ByteArray := prog_2_method_3_code
def yX0_firstFault : MethodName := ⟨RX0, "firstFault", "(LUphillOnly$Town;)I"⟩
abbrev cX0_advance : ByteArray := prog_2_method_4_code
def yX0_advance : MethodName := ⟨RX0, "advance", "()V"⟩
abbrev cX0_sortAt : ByteArray := prog_2_method_5_code
def yX0_sortAt : MethodName := ⟨RX0, "sortAt", "(I)I"⟩
abbrev cX0_isWord : ByteArray := prog_2_method_6_code
def yX0_isWord : MethodName := ⟨RX0, "isWord", "(Ljava/lang/String;)Z"⟩
abbrev cX0_takeLine : ByteArray := prog_2_method_7_code
def yX0_takeLine : MethodName := ⟨RX0, "takeLine", "(LUphillOnly$Town;)Z"⟩
abbrev cX0_streetKindTold : ByteArray := prog_2_method_8_code
def yX0_streetKindTold : MethodName := ⟨RX0, "streetKindTold", "()I"⟩
abbrev cX0_lawTold : ByteArray := prog_2_method_9_code
def yX0_lawTold : MethodName := ⟨RX0, "lawTold", "()I"⟩
abbrev cX0_takeStreet : ByteArray := prog_2_method_10_code
def yX0_takeStreet : MethodName := ⟨RX0, "takeStreet", "(LUphillOnly$Town;I)Z"⟩
abbrev cX0_takeErrand : ByteArray := prog_2_method_11_code
def yX0_takeErrand : MethodName := ⟨RX0, "takeErrand", "(LUphillOnly$Town;)Z"⟩
abbrev cX0_takeScrew : ByteArray := prog_2_method_12_code
def yX0_takeScrew : MethodName := ⟨RX0, "takeScrew", "(LUphillOnly$Town;Z)Z"⟩
abbrev cX0_takeHeights : ByteArray := prog_2_method_13_code
def yX0_takeHeights : MethodName := ⟨RX0, "takeHeights", "(LUphillOnly$Town;)Z"⟩
abbrev cX0_takeTown : ByteArray := prog_2_method_14_code
def yX0_takeTown : MethodName := ⟨RX0, "takeTown", "(LUphillOnly$Town;)Z"⟩
abbrev cX0_takeHalf : ByteArray := prog_2_method_15_code
def yX0_takeHalf : MethodName := ⟨RX0, "takeHalf", "(LUphillOnly$Town;)Z"⟩
abbrev cX0_takeNumber : ByteArray := prog_2_method_16_code
def yX0_takeNumber : MethodName := ⟨RX0, "takeNumber", "(II)Z"⟩
abbrev cX1_init : ByteArray := prog_3_method_1_code
def yX1_init : MethodName := ⟨RX1, "<init>", "()V"⟩
abbrev cX1_beginWith : ByteArray := prog_3_method_2_code
def yX1_beginWith : MethodName := ⟨RX1, "beginWith", "(I)V"⟩
abbrev cX1_copyFrom : ByteArray := prog_3_method_3_code
def yX1_copyFrom : MethodName := ⟨RX1, "copyFrom", "(LUphillOnly$Town;)V"⟩
abbrev cX1_hasCorner : ByteArray := prog_3_method_4_code
def yX1_hasCorner : MethodName := ⟨RX1, "hasCorner", "(I)Z"⟩
abbrev cX1_hasStreet : ByteArray := prog_3_method_5_code
def yX1_hasStreet : MethodName := ⟨RX1, "hasStreet", "(I)Z"⟩
abbrev cX1_setHeights : ByteArray := prog_3_method_6_code
def yX1_setHeights : MethodName := ⟨RX1, "setHeights", "(III)V"⟩
abbrev cX1_addStreet : ByteArray := prog_3_method_7_code
def yX1_addStreet : MethodName := ⟨RX1, "addStreet", "(IIII)V"⟩
abbrev cX1_addErrand : ByteArray := prog_3_method_8_code
def yX1_addErrand : MethodName := ⟨RX1, "addErrand", "(II)V"⟩
abbrev cX1_heightOf : ByteArray := prog_3_method_9_code
def yX1_heightOf : MethodName := ⟨RX1, "heightOf", "(III)I"⟩
abbrev cX1_halvesBefore : ByteArray := prog_3_method_10_code
def yX1_halvesBefore : MethodName := ⟨RX1, "halvesBefore", "(I)I"⟩
abbrev cX1_leadsFrom : ByteArray := prog_3_method_11_code
def yX1_leadsFrom : MethodName := ⟨RX1, "leadsFrom", "(II)Z"⟩
abbrev cX1_otherEnd : ByteArray := prog_3_method_12_code
def yX1_otherEnd : MethodName := ⟨RX1, "otherEnd", "(II)I"⟩
abbrev cX1_openings : ByteArray := prog_3_method_13_code
def yX1_openings : MethodName := ⟨RX1, "openings", "(III)I"⟩
abbrev cX1_mayBeTaken : ByteArray := prog_3_method_14_code
def yX1_mayBeTaken : MethodName := ⟨RX1, "mayBeTaken", "(IIII)Z"⟩
abbrev cX2_init : ByteArray := prog_4_method_1_code
def yX2_init : MethodName := ⟨RX2, "<init>", "()V"⟩
abbrev cX2_layAsItIs : ByteArray := prog_4_method_2_code
def yX2_layAsItIs : MethodName := ⟨RX2, "layAsItIs", "(LUphillOnly$Town;)V"⟩
abbrev cX2_lay : ByteArray := prog_4_method_3_code
def yX2_lay : MethodName := ⟨RX2, "lay", "(LUphillOnly$Town;II)V"⟩
abbrev cX2_spread : ByteArray := prog_4_method_4_code
def yX2_spread : MethodName := ⟨RX2, "spread", "(LUphillOnly$Town;II)V"⟩
abbrev cX2_earliestBeside : ByteArray := prog_4_method_5_code
def yX2_earliestBeside : MethodName := ⟨RX2, "earliestBeside", "(LUphillOnly$Town;I)I"⟩
abbrev cX2_goOnFrom : ByteArray := prog_4_method_6_code
def yX2_goOnFrom : MethodName := ⟨RX2, "goOnFrom", "(LUphillOnly$Town;I)V"⟩
abbrev cX2_beginOf : ByteArray := prog_4_method_7_code
def yX2_beginOf : MethodName := ⟨RX2, "beginOf", "(LUphillOnly$Town;III)I"⟩
abbrev cX2_canBeginAt : ByteArray := prog_4_method_8_code
def yX2_canBeginAt : MethodName := ⟨RX2, "canBeginAt", "(LUphillOnly$Town;III)Z"⟩
abbrev cX2_streetAtOnce : ByteArray := prog_4_method_9_code
def yX2_streetAtOnce : MethodName := ⟨RX2, "streetAtOnce", "(LUphillOnly$Town;III)I"⟩
abbrev cX2_arrival : ByteArray := prog_4_method_10_code
def yX2_arrival : MethodName := ⟨RX2, "arrival", "(LUphillOnly$Town;III)I"⟩
abbrev cX2_thereBy : ByteArray := prog_4_method_11_code
def yX2_thereBy : MethodName := ⟨RX2, "thereBy", "(LUphillOnly$Town;I)I"⟩
abbrev cX2_servedErrands : ByteArray := prog_4_method_12_code
def yX2_servedErrands : MethodName := ⟨RX2, "servedErrands", "(LUphillOnly$Town;)I"⟩
abbrev cX2_servesAll : ByteArray := prog_4_method_13_code
def yX2_servesAll : MethodName := ⟨RX2, "servesAll", "(LUphillOnly$Town;)Z"⟩
abbrev cX2_serves : ByteArray := prog_4_method_14_code
def yX2_serves : MethodName := ⟨RX2, "serves", "(LUphillOnly$Town;I)Z"⟩
abbrev cX3_init : ByteArray := prog_1_method_1_code
def yX3_init : MethodName := ⟨RX3, "<init>", "()V"⟩
abbrev cX3_write : ByteArray := prog_1_method_2_code
def yX3_write : MethodName := ⟨RX3, "write", "(JI)I"⟩
abbrev cX3_erase : ByteArray := prog_1_method_3_code
def yX3_erase : MethodName := ⟨RX3, "erase", "()I"⟩
abbrev cX3_fault : ByteArray := prog_1_method_4_code
def yX3_fault : MethodName := ⟨RX3, "fault", "()I"⟩
abbrev cX3_town : ByteArray := prog_1_method_5_code
def yX3_town : MethodName := ⟨RX3, "town", "()I"⟩
abbrev cX3_corner : ByteArray := prog_1_method_6_code
def yX3_corner : MethodName := ⟨RX3, "corner", "(II)I"⟩
abbrev cX3_street : ByteArray := prog_1_method_7_code
def yX3_street : MethodName := ⟨RX3, "street", "(II)I"⟩
abbrev cX3_as : ByteArray := prog_1_method_8_code
def yX3_as : MethodName := ⟨RX3, "as", "(II)I"⟩
abbrev cX3_go : ByteArray := prog_1_method_9_code
def yX3_go : MethodName := ⟨RX3, "go", "(I)I"⟩
abbrev cX3_rest : ByteArray := prog_1_method_10_code
def yX3_rest : MethodName := ⟨RX3, "rest", "(I)I"⟩
abbrev cX3_here : ByteArray := prog_1_method_11_code
def yX3_here : MethodName := ⟨RX3, "here", "(I)I"⟩
abbrev cX3_keep : ByteArray := prog_1_method_12_code
def yX3_keep : MethodName := ⟨RX3, "keep", "(I)I"⟩
abbrev cX3_back : ByteArray := prog_1_method_13_code
def yX3_back : MethodName := ⟨RX3, "back", "(I)I"⟩
abbrev cX3_reach : ByteArray := prog_1_method_14_code
def yX3_reach : MethodName := ⟨RX3, "reach", "(II)I"⟩
abbrev cX3_soonest : ByteArray := prog_1_method_15_code
def yX3_soonest : MethodName := ⟨RX3, "soonest", "(III)I"⟩
abbrev cX3_home : ByteArray := prog_1_method_16_code
def yX3_home : MethodName := ⟨RX3, "home", "(II)I"⟩
abbrev cX3_cut : ByteArray := prog_1_method_17_code
def yX3_cut : MethodName := ⟨RX3, "cut", "(I)I"⟩
abbrev cX3_served : ByteArray := prog_1_method_18_code
def yX3_served : MethodName := ⟨RX3, "served", "()I"⟩
abbrev cX3_law : ByteArray := prog_1_method_19_code
def yX3_law : MethodName := ⟨RX3, "law", "(I)I"⟩
abbrev cX3_rope : ByteArray := prog_1_method_20_code
def yX3_rope : MethodName := ⟨RX3, "rope", "(I)I"⟩
abbrev cX3_mended : ByteArray := prog_1_method_21_code
def yX3_mended : MethodName := ⟨RX3, "mended", "(I)I"⟩
abbrev cX3_walk : ByteArray := prog_1_method_22_code
def yX3_walk : MethodName := ⟨RX3, "walk", "(I)I"⟩
abbrev cX3_burn : ByteArray := prog_1_method_23_code
def yX3_burn : MethodName := ⟨RX3, "burn", "()I"⟩
abbrev cX3_judge : ByteArray := prog_1_method_24_code
def yX3_judge : MethodName := ⟨RX3, "judge", "(II)I"⟩
abbrev cX3_seen : ByteArray := prog_1_method_25_code
def yX3_seen : MethodName := ⟨RX3, "seen", "(III)I"⟩
abbrev cX3_forget : ByteArray := prog_1_method_26_code
def yX3_forget : MethodName := ⟨RX3, "forget", "()I"⟩
abbrev cX3_sure : ByteArray := prog_1_method_27_code
def yX3_sure : MethodName := ⟨RX3, "sure", "(III)I"⟩
abbrev cX3_count : ByteArray := prog_1_method_28_code
def yX3_count : MethodName := ⟨RX3, "count", "(I)I"⟩
abbrev cX3_startAnew : ByteArray := prog_1_method_29_code
def yX3_startAnew : MethodName := ⟨RX3, "startAnew", "()V"⟩
abbrev cX3_isHalf : ByteArray := prog_1_method_30_code
def yX3_isHalf : MethodName := ⟨RX3, "isHalf", "(I)Z"⟩
abbrev cX3_isBegin : ByteArray := prog_1_method_31_code
def yX3_isBegin : MethodName := ⟨RX3, "isBegin", "(I)Z"⟩
abbrev cX3_isUnder : ByteArray := prog_1_method_32_code
def yX3_isUnder : MethodName := ⟨RX3, "isUnder", "(II)Z"⟩
abbrev cX3_cornersReached : ByteArray := prog_1_method_33_code
def yX3_cornersReached : MethodName := ⟨RX3, "cornersReached", "(II)I"⟩
abbrev cX3_higherThan : ByteArray := prog_1_method_34_code
def yX3_higherThan : MethodName := ⟨RX3, "higherThan", "(II)I"⟩
abbrev cX3_canAllBe : ByteArray := prog_1_method_35_code
def yX3_canAllBe : MethodName := ⟨RX3, "canAllBe", "(I)Z"⟩
abbrev cX4_init : ByteArray := prog_6_method_1_code
def yX4_init : MethodName := ⟨RX4, "<init>", "()V"⟩
abbrev cX4_in : ByteArray := prog_6_method_2_code
def yX4_in : MethodName := ⟨RX4, "in", "(III)Z"⟩
abbrev cX4_has : ByteArray := prog_6_method_3_code
def yX4_has : MethodName := ⟨RX4, "has", "(II)Z"⟩
abbrev cX4_isCorner : ByteArray := prog_6_method_4_code
def yX4_isCorner : MethodName := ⟨RX4, "isCorner", "(I)Z"⟩
abbrev cX4_isStreet : ByteArray := prog_6_method_5_code
def yX4_isStreet : MethodName := ⟨RX4, "isStreet", "(I)Z"⟩
abbrev cX4_plain : ByteArray := prog_6_method_6_code
def yX4_plain : MethodName := ⟨RX4, "plain", "()V"⟩
abbrev cX4_write : ByteArray := prog_6_method_7_code
def yX4_write : MethodName := ⟨RX4, "write", "(JI)I"⟩
abbrev cX4_erase : ByteArray := prog_6_method_8_code
def yX4_erase : MethodName := ⟨RX4, "erase", "()I"⟩
abbrev cX4_nextToken : ByteArray := prog_6_method_9_code
def yX4_nextToken : MethodName := ⟨RX4, "nextToken", "()V"⟩
abbrev cX4_fails : ByteArray := prog_6_method_10_code
def yX4_fails : MethodName := ⟨RX4, "fails", "()Z"⟩
abbrev cX4_isNumber : ByteArray := prog_6_method_11_code
def yX4_isNumber : MethodName := ⟨RX4, "isNumber", "(III)Z"⟩
abbrev cX4_isPlace : ByteArray := prog_6_method_12_code
def yX4_isPlace : MethodName := ⟨RX4, "isPlace", "(I)Z"⟩
abbrev cX4_arePlaces : ByteArray := prog_6_method_13_code
def yX4_arePlaces : MethodName := ⟨RX4, "arePlaces", "(I)Z"⟩
abbrev cX4_isTown : ByteArray := prog_6_method_14_code
def yX4_isTown : MethodName := ⟨RX4, "isTown", "(I)Z"⟩
abbrev cX4_isStreetLine : ByteArray := prog_6_method_15_code
def yX4_isStreetLine : MethodName := ⟨RX4, "isStreetLine", "(I)Z"⟩
abbrev cX4_isErrand : ByteArray := prog_6_method_16_code
def yX4_isErrand : MethodName := ⟨RX4, "isErrand", "(I)Z"⟩
abbrev cX4_isLine : ByteArray := prog_6_method_17_code
def yX4_isLine : MethodName := ⟨RX4, "isLine", "(I)Z"⟩
abbrev cX4_isRead : ByteArray := prog_6_method_18_code
def yX4_isRead : MethodName := ⟨RX4, "isRead", "()Z"⟩
abbrev cX4_fault : ByteArray := prog_6_method_19_code
def yX4_fault : MethodName := ⟨RX4, "fault", "()I"⟩
abbrev cX4_doLine : ByteArray := prog_6_method_20_code
def yX4_doLine : MethodName := ⟨RX4, "doLine", "(I)V"⟩
abbrev cX4_town : ByteArray := prog_6_method_21_code
def yX4_town : MethodName := ⟨RX4, "town", "()I"⟩
abbrev cX4_heightOf : ByteArray := prog_6_method_22_code
def yX4_heightOf : MethodName := ⟨RX4, "heightOf", "(II)I"⟩
abbrev cX4_corner : ByteArray := prog_6_method_23_code
def yX4_corner : MethodName := ⟨RX4, "corner", "(II)I"⟩
abbrev cX4_street : ByteArray := prog_6_method_24_code
def yX4_street : MethodName := ⟨RX4, "street", "(II)I"⟩
abbrev cX4_may : ByteArray := prog_6_method_25_code
def yX4_may : MethodName := ⟨RX4, "may", "(III)Z"⟩
abbrev cX4_as : ByteArray := prog_6_method_26_code
def yX4_as : MethodName := ⟨RX4, "as", "(II)I"⟩
abbrev cX4_sideOf : ByteArray := prog_6_method_27_code
def yX4_sideOf : MethodName := ⟨RX4, "sideOf", "(II)I"⟩
abbrev cX4_canGo : ByteArray := prog_6_method_28_code
def yX4_canGo : MethodName := ⟨RX4, "canGo", "(III)Z"⟩
abbrev cX4_go : ByteArray := prog_6_method_29_code
def yX4_go : MethodName := ⟨RX4, "go", "(I)I"⟩
abbrev cX4_rest : ByteArray := prog_6_method_30_code
def yX4_rest : MethodName := ⟨RX4, "rest", "(I)I"⟩
abbrev cX4_here : ByteArray := prog_6_method_31_code
def yX4_here : MethodName := ⟨RX4, "here", "(I)I"⟩
abbrev cX4_keep : ByteArray := prog_6_method_32_code
def yX4_keep : MethodName := ⟨RX4, "keep", "(I)I"⟩
abbrev cX4_back : ByteArray := prog_6_method_33_code
def yX4_back : MethodName := ⟨RX4, "back", "(I)I"⟩
abbrev cX4_reach : ByteArray := prog_6_method_34_code
def yX4_reach : MethodName := ⟨RX4, "reach", "(II)I"⟩
abbrev cX4_endOf : ByteArray := prog_6_method_35_code
def yX4_endOf : MethodName := ⟨RX4, "endOf", "(III)I"⟩
abbrev cX4_soonestOf : ByteArray := prog_6_method_36_code
def yX4_soonestOf : MethodName := ⟨RX4, "soonestOf", "(III)I"⟩
abbrev cX4_soonest : ByteArray := prog_6_method_37_code
def yX4_soonest : MethodName := ⟨RX4, "soonest", "(III)I"⟩
abbrev cX4_home : ByteArray := prog_6_method_38_code
def yX4_home : MethodName := ⟨RX4, "home", "(II)I"⟩
abbrev cX4_cut : ByteArray := prog_6_method_39_code
def yX4_cut : MethodName := ⟨RX4, "cut", "(I)I"⟩
abbrev cX4_servedNow : ByteArray := prog_6_method_40_code
def yX4_servedNow : MethodName := ⟨RX4, "servedNow", "()I"⟩
abbrev cX4_bits : ByteArray := prog_6_method_41_code
def yX4_bits : MethodName := ⟨RX4, "bits", "(I)I"⟩
abbrev cX4_served : ByteArray := prog_6_method_42_code
def yX4_served : MethodName := ⟨RX4, "served", "()I"⟩
abbrev cX4_law : ByteArray := prog_6_method_43_code
def yX4_law : MethodName := ⟨RX4, "law", "(I)I"⟩
abbrev cX4_rope : ByteArray := prog_6_method_44_code
def yX4_rope : MethodName := ⟨RX4, "rope", "(I)I"⟩
abbrev cX4_mended : ByteArray := prog_6_method_45_code
def yX4_mended : MethodName := ⟨RX4, "mended", "(I)I"⟩
abbrev cX4_walk : ByteArray := prog_6_method_46_code
def yX4_walk : MethodName := ⟨RX4, "walk", "(I)I"⟩
abbrev cX4_burn : ByteArray := prog_6_method_47_code
def yX4_burn : MethodName := ⟨RX4, "burn", "()I"⟩
abbrev cX4_judge : ByteArray := prog_6_method_48_code
def yX4_judge : MethodName := ⟨RX4, "judge", "(II)I"⟩
abbrev cX4_seen : ByteArray := prog_6_method_49_code
def yX4_seen : MethodName := ⟨RX4, "seen", "(III)I"⟩
abbrev cX4_forget : ByteArray := prog_6_method_50_code
def yX4_forget : MethodName := ⟨RX4, "forget", "()I"⟩
abbrev cX4_above : ByteArray := prog_6_method_51_code
def yX4_above : MethodName := ⟨RX4, "above", "(II)I"⟩
abbrev cX4_sure : ByteArray := prog_6_method_52_code
def yX4_sure : MethodName := ⟨RX4, "sure", "(III)I"⟩
abbrev cX4_count : ByteArray := prog_6_method_53_code
def yX4_count : MethodName := ⟨RX4, "count", "(I)I"⟩
abbrev cJ6_bitCount_0f7a4 : ByteArray := prog_7_method_49_code
def yJ6_bitCount_0f7a4 : MethodName := ⟨RJ6, "bitCount", "(I)I"⟩
abbrev cJ0_length_8abf5 : ByteArray := prog_9_method_54_code
def yJ0_length_8abf5 : MethodName := ⟨RJ0, "length", "()I"⟩
abbrev cJ0_charAt_5068e : ByteArray := prog_9_method_56_code
def yJ0_charAt_5068e : MethodName := ⟨RJ0, "charAt", "(I)C"⟩
abbrev cJ0_coder_7d493 : ByteArray := prog_9_method_152_code
def yJ0_coder_7d493 : MethodName := ⟨RJ0, "coder", "()B"⟩
abbrev cJ0_isLatin1_aae02 : ByteArray := prog_9_method_154_code
def yJ0_isLatin1_aae02 : MethodName := ⟨RJ0, "isLatin1", "()Z"⟩
abbrev cJ0_checkIndex_df160 : ByteArray := prog_9_method_155_code
def yJ0_checkIndex_df160 : MethodName := ⟨RJ0, "checkIndex", "(II)V"⟩
abbrev cJ1_charAt_3b067 : ByteArray := prog_10_method_2_code
def yJ1_charAt_3b067 : MethodName := ⟨RJ1, "charAt", "([BI)C"⟩
abbrev cJ3_checkIndex_8e157 : ByteArray := prog_12_method_11_code
def yJ3_checkIndex_8e157 : MethodName := ⟨RJ3, "checkIndex", "(IILjava/util/function/BiFunction;)I"⟩
/-- a row of code: pc, instruction, next pc, and what its operands are: an int, two numbers, a long -/
abbrev pm_E : Type := Nat × Instr × Nat × Int32 × Nat × Nat × Int64
def tb_X0_init : List pm_E := [(0, .aload_n 0, 1, 0, 0, 0, 0), (1, .invokespecial 3, 4, 0, 1000, 0, 0), (4, .aload_n 0, 5, 0, 0, 0, 0), (5, .sipush 200, 8, 200, 0, 0, 0), (8, .newarray .int, 10, 0, 0, 0, 0), (10, .putfield 9, 13, 0, 0, 0, 0), (13, .return_, 14, 0, 0, 0, 0)]
def tb_X0_append : List pm_E := [(0, .aload_n 0, 1, 0, 0, 0, 0), (1, .getfield 15, 4, 0, 0, 1, 0), (4, .sipush 200, 7, 200, 0, 0, 0), (7, .if_icmp .ge 23, 10, 0, 30, 0, 0), (10, .aload_n 0, 11, 0, 0, 0, 0), (11, .getfield 9, 14, 0, 0, 0, 0), (14, .aload_n 0, 15, 0, 0, 0, 0), (15, .getfield 15, 18, 0, 0, 1, 0), (18, .iload_n 1, 19, 0, 0, 1, 0), (19, .iastore, 20, 0, 0, 0, 0), (20, .aload_n 0, 21, 0, 0, 0, 0), (21, .dup, 22, 0, 0, 0, 0), (22, .getfield 15, 25, 0, 0, 1, 0), (25, .iconst 1, 26, 1, 0, 0, 0), (26, .iadd, 27, 0, 0, 0, 0), (27, .putfield 15, 30, 0, 0, 1, 0), (30, .return_, 31, 0, 0, 0, 0)]
def tb_X0_firstFault : List pm_E := [(0, .aload_n 0, 1, 0, 0, 0, 0), (1, .iconst 0, 2, 0, 0, 0, 0), (2, .putfield 19, 5, 0, 0, 4, 0), (5, .aload_n 0, 6, 0, 0, 0, 0), (6, .iconst 0, 7, 0, 0, 0, 0), (7, .putfield 22, 10, 0, 0, 2, 0), (10, .iconst 1, 11, 1, 0, 0, 0), (11, .istore_n 2, 12, 0, 0, 2, 0), (12, .iload_n 2, 13, 0, 0, 2, 0), (13, .bipush 12, 15, 12, 0, 0, 0), (15, .if_icmp .gt 63, 18, 0, 78, 0, 0), (18, .aload_n 0, 19, 0, 0, 0, 0), (19, .invokevirtual 25, 22, 0, 3, 0, 0), (22, .aload_n 0, 23, 0, 0, 0, 0), (23, .aload_n 1, 24, 0, 0, 1, 0), (24, .invokevirtual 28, 27, 0, 6, 0, 0), (27, .ifCond .ne 8, 30, 0, 35, 0, 0), (30, .aload_n 0, 31, 0, 0, 0, 0), (31, .getfield 32, 34, 0, 0, 3, 0), (34, .ireturn, 35, 0, 0, 0, 0), (35, .aload_n 0, 36, 0, 0, 0, 0), (36, .iload_n 2, 37, 0, 0, 2, 0), (37, .putfield 22, 40, 0, 0, 2, 0), (40, .aload_n 0, 41, 0, 0, 0, 0), (41, .invokevirtual 25, 44, 0, 3, 0, 0), (44, .aload_n 0, 45, 0, 0, 0, 0), (45, .getfield 35, 48, 0, 0, 5, 0), (48, .ifCond .ne 5, 51, 0, 53, 0, 0), (51, .iconst (-1), 52, -1, 0, 0, 0), (52, .ireturn, 53, 0, 0, 0, 0), (53, .aload_n 0, 54, 0, 0, 0, 0), (54, .getfield 9, 57, 0, 0, 0, 0), (57, .aload_n 0, 58, 0, 0, 0, 0), (58, .getfield 32, 61, 0, 0, 3, 0), (61, .iaload, 62, 0, 0, 0, 0), (62, .bipush 59, 64, 59, 0, 0, 0), (64, .if_icmp .eq 8, 67, 0, 72, 0, 0), (67, .aload_n 0, 68, 0, 0, 0, 0), (68, .getfield 32, 71, 0, 0, 3, 0), (71, .ireturn, 72, 0, 0, 0, 0), (72, .iinc 2 1, 75, 1, 0, 2, 0), (75, .goto (-63), 78, 0, 12, 0, 0), (78, .aload_n 0, 79, 0, 0, 0, 0), (79, .getfield 32, 82, 0, 0, 3, 0), (82, .ireturn, 83, 0, 0, 0, 0)]
def tb_X0_advance : List pm_E := [(0, .aload_n 0, 1, 0, 0, 0, 0), (1, .getfield 19, 4, 0, 0, 4, 0), (4, .istore_n 1, 5, 0, 0, 1, 0), (5, .iload_n 1, 6, 0, 0, 1, 0), (6, .aload_n 0, 7, 0, 0, 0, 0), (7, .getfield 15, 10, 0, 0, 1, 0), (10, .if_icmp .ge 20, 13, 0, 30, 0, 0), (13, .aload_n 0, 14, 0, 0, 0, 0), (14, .getfield 9, 17, 0, 0, 0, 0), (17, .iload_n 1, 18, 0, 0, 1, 0), (18, .iaload, 19, 0, 0, 0, 0), (19, .bipush 32, 21, 32, 0, 0, 0), (21, .if_icmp .ne 9, 24, 0, 30, 0, 0), (24, .iinc 1 1, 27, 1, 0, 1, 0), (27, .goto (-22), 30, 0, 5, 0, 0), (30, .aload_n 0, 31, 0, 0, 0, 0), (31, .iload_n 1, 32, 0, 0, 1, 0), (32, .putfield 32, 35, 0, 0, 3, 0), (35, .aload_n 0, 36, 0, 0, 0, 0), (36, .aload_n 0, 37, 0, 0, 0, 0), (37, .iload_n 1, 38, 0, 0, 1, 0), (38, .invokevirtual 38, 41, 0, 4, 0, 0), (41, .putfield 35, 44, 0, 0, 5, 0), (44, .iinc 1 1, 47, 1, 0, 1, 0), (47, .aload_n 0, 48, 0, 0, 0, 0), (48, .getfield 35, 51, 0, 0, 5, 0), (51, .iconst 1, 52, 1, 0, 0, 0), (52, .if_icmp .eq 11, 55, 0, 63, 0, 0), (55, .aload_n 0, 56, 0, 0, 0, 0), (56, .getfield 35, 59, 0, 0, 5, 0), (59, .iconst 2, 60, 2, 0, 0, 0), (60, .if_icmp .ne 7, 63, 0, 67, 0, 0), (63, .iconst 1, 64, 1, 0, 0, 0), (64, .goto 4, 67, 0, 68, 0, 0), (67, .iconst 0, 68, 0, 0, 0, 0), (68, .istore_n 2, 69, 0, 0, 2, 0), (69, .iload_n 2, 70, 0, 0, 2, 0), (70, .ifCond .eq 29, 73, 0, 99, 0, 0), (73, .iload_n 1, 74, 0, 0, 1, 0), (74, .aload_n 0, 75, 0, 0, 0, 0), (75, .getfield 15, 78, 0, 0, 1, 0), (78, .if_icmp .ge 21, 81, 0, 99, 0, 0), (81, .aload_n 0, 82, 0, 0, 0, 0), (82, .iload_n 1, 83, 0, 0, 1, 0), (83, .invokevirtual 38, 86, 0, 4, 0, 0), (86, .aload_n 0, 87, 0, 0, 0, 0), (87, .getfield 35, 90, 0, 0, 5, 0), (90, .if_icmp .ne 9, 93, 0, 99, 0, 0), (93, .iinc 1 1, 96, 1, 0, 1, 0), (96, .goto (-27), 99, 0, 69, 0, 0), (99, .aload_n 0, 100, 0, 0, 0, 0), (100, .iload_n 1, 101, 0, 0, 1, 0), (101, .aload_n 0, 102, 0, 0, 0, 0), (102, .getfield 15, 105, 0, 0, 1, 0), (105, .invokestatic 42, 108, 0, 1002, 0, 0), (108, .putfield 19, 111, 0, 0, 4, 0), (111, .return_, 112, 0, 0, 0, 0)]
def tb_X0_sortAt : List pm_E := [(0, .iload_n 1, 1, 0, 0, 1, 0), (1, .ifCond .lt 18, 4, 0, 19, 0, 0), (4, .iload_n 1, 5, 0, 0, 1, 0), (5, .aload_n 0, 6, 0, 0, 0, 0), (6, .getfield 15, 9, 0, 0, 1, 0), (9, .if_icmp .ge 10, 12, 0, 19, 0, 0), (12, .iload_n 1, 13, 0, 0, 1, 0), (13, .sipush 200, 16, 200, 0, 0, 0), (16, .if_icmp .lt 5, 19, 0, 21, 0, 0), (19, .iconst 0, 20, 0, 0, 0, 0), (20, .ireturn, 21, 0, 0, 0, 0), (21, .aload_n 0, 22, 0, 0, 0, 0), (22, .getfield 9, 25, 0, 0, 0, 0), (25, .iload_n 1, 26, 0, 0, 1, 0), (26, .iaload, 27, 0, 0, 0, 0), (27, .bipush 97, 29, 97, 0, 0, 0), (29, .if_icmp .lt 16, 32, 0, 45, 0, 0), (32, .aload_n 0, 33, 0, 0, 0, 0), (33, .getfield 9, 36, 0, 0, 0, 0), (36, .iload_n 1, 37, 0, 0, 1, 0), (37, .iaload, 38, 0, 0, 0, 0), (38, .bipush 122, 40, 122, 0, 0, 0), (40, .if_icmp .gt 5, 43, 0, 45, 0, 0), (43, .iconst 1, 44, 1, 0, 0, 0), (44, .ireturn, 45, 0, 0, 0, 0), (45, .aload_n 0, 46, 0, 0, 0, 0), (46, .getfield 9, 49, 0, 0, 0, 0), (49, .iload_n 1, 50, 0, 0, 1, 0), (50, .iaload, 51, 0, 0, 0, 0), (51, .bipush 48, 53, 48, 0, 0, 0), (53, .if_icmp .lt 18, 56, 0, 71, 0, 0), (56, .aload_n 0, 57, 0, 0, 0, 0), (57, .getfield 9, 60, 0, 0, 0, 0), (60, .iload_n 1, 61, 0, 0, 1, 0), (61, .iaload, 62, 0, 0, 0, 0), (62, .bipush 57, 64, 57, 0, 0, 0), (64, .if_icmp .gt 7, 67, 0, 71, 0, 0), (67, .iconst 2, 68, 2, 0, 0, 0), (68, .goto 4, 71, 0, 72, 0, 0), (71, .iconst 3, 72, 3, 0, 0, 0), (72, .ireturn, 73, 0, 0, 0, 0)]
def tb_X0_isWord : List pm_E := [(0, .aload_n 0, 1, 0, 0, 0, 0), (1, .getfield 35, 4, 0, 0, 5, 0), (4, .iconst 1, 5, 1, 0, 0, 0), (5, .if_icmp .ne 19, 8, 0, 24, 0, 0), (8, .aload_n 0, 9, 0, 0, 0, 0), (9, .getfield 19, 12, 0, 0, 4, 0), (12, .aload_n 0, 13, 0, 0, 0, 0), (13, .getfield 32, 16, 0, 0, 3, 0), (16, .isub, 17, 0, 0, 0, 0), (17, .aload_n 1, 18, 0, 0, 1, 0), (18, .invokevirtual 48, 21, 0, 133, 0, 0), (21, .if_icmp .eq 5, 24, 0, 26, 0, 0), (24, .iconst 0, 25, 0, 0, 0, 0), (25, .ireturn, 26, 0, 0, 0, 0), (26, .iconst 0, 27, 0, 0, 0, 0), (27, .istore_n 2, 28, 0, 0, 2, 0), (28, .iload_n 2, 29, 0, 0, 2, 0), (29, .aload_n 1, 30, 0, 0, 1, 0), (30, .invokevirtual 48, 33, 0, 133, 0, 0), (33, .if_icmp .ge 30, 36, 0, 63, 0, 0), (36, .aload_n 0, 37, 0, 0, 0, 0), (37, .getfield 9, 40, 0, 0, 0, 0), (40, .aload_n 0, 41, 0, 0, 0, 0), (41, .getfield 32, 44, 0, 0, 3, 0), (44, .iload_n 2, 45, 0, 0, 2, 0), (45, .iadd, 46, 0, 0, 0, 0), (46, .iaload, 47, 0, 0, 0, 0), (47, .aload_n 1, 48, 0, 0, 1, 0), (48, .iload_n 2, 49, 0, 0, 2, 0), (49, .invokevirtual 53, 52, 0, 134, 0, 0), (52, .if_icmp .eq 5, 55, 0, 57, 0, 0), (55, .iconst 0, 56, 0, 0, 0, 0), (56, .ireturn, 57, 0, 0, 0, 0), (57, .iinc 2 1, 60, 1, 0, 2, 0), (60, .goto (-32), 63, 0, 28, 0, 0), (63, .iconst 1, 64, 1, 0, 0, 0), (64, .ireturn, 65, 0, 0, 0, 0)]
def tb_X0_takeLine_0 : List pm_E := [(0, .aload_n 0, 1, 0, 0, 0, 0), (1, .invokevirtual 57, 4, 0, 7, 0, 0), (4, .istore_n 2, 5, 0, 0, 2, 0), (5, .iload_n 2, 6, 0, 0, 2, 0), (6, .iconst (-1), 7, -1, 0, 0, 0), (7, .if_icmp .eq 27, 10, 0, 34, 0, 0), (10, .aload_n 1, 11, 0, 0, 1, 0), (11, .getfield 60, 14, 0, 1, 4, 0), (14, .bipush 12, 16, 12, 0, 0, 0), (16, .if_icmp .ge 16, 19, 0, 32, 0, 0), (19, .aload_n 0, 20, 0, 0, 0, 0), (20, .aload_n 1, 21, 0, 0, 1, 0), (21, .iload_n 2, 22, 0, 0, 2, 0), (22, .invokevirtual 65, 25, 0, 9, 0, 0), (25, .ifCond .eq 7, 28, 0, 32, 0, 0), (28, .iconst 1, 29, 1, 0, 0, 0), (29, .goto 4, 32, 0, 33, 0, 0), (32, .iconst 0, 33, 0, 0, 0, 0), (33, .ireturn, 34, 0, 0, 0, 0), (34, .aload_n 0, 35, 0, 0, 0, 0), (35, .invokevirtual 69, 38, 0, 8, 0, 0), (38, .istore_n 3, 39, 0, 0, 3, 0), (39, .iload_n 3, 40, 0, 0, 3, 0), (40, .iconst (-1), 41, -1, 0, 0, 0), (41, .if_icmp .eq 10, 44, 0, 51, 0, 0), (44, .aload_n 1, 45, 0, 0, 1, 0), (45, .iload_n 3, 46, 0, 0, 3, 0), (46, .putfield 72, 49, 0, 1, 10, 0), (49, .iconst 1, 50, 1, 0, 0, 0), (50, .ireturn, 51, 0, 0, 0, 0), (51, .aload_n 0, 52, 0, 0, 0, 0), (52, .ldc 75, 54, 0, 8, 1007, 0), (54, .invokevirtual 77, 57, 0, 5, 0, 0), (57, .ifCond .eq 26, 60, 0, 83, 0, 0), (60, .aload_n 1, 61, 0, 0, 1, 0), (61, .getfield 81, 64, 0, 1, 11, 0), (64, .bipush 8, 66, 8, 0, 0, 0), (66, .if_icmp .ge 15, 69, 0, 81, 0, 0), (69, .aload_n 0, 70, 0, 0, 0, 0), (70, .aload_n 1, 71, 0, 0, 1, 0), (71, .invokevirtual 84, 74, 0, 10, 0, 0), (74, .ifCond .eq 7, 77, 0, 81, 0, 0), (77, .iconst 1, 78, 1, 0, 0, 0), (78, .goto 4, 81, 0, 82, 0, 0), (81, .iconst 0, 82, 0, 0, 0, 0), (82, .ireturn, 83, 0, 0, 0, 0), (83, .aload_n 0, 84, 0, 0, 0, 0), (84, .ldc 87, 86, 0, 9, 1008, 0), (86, .invokevirtual 77, 89, 0, 5, 0, 0), (89, .ifCond .eq 10, 92, 0, 99, 0, 0), (92, .aload_n 1, 93, 0, 0, 1, 0), (93, .iconst 0, 94, 0, 0, 0, 0), (94, .putfield 81, 97, 0, 1, 11, 0), (97, .iconst 1, 98, 1, 0, 0, 0), (98, .ireturn, 99, 0, 0, 0, 0), (99, .aload_n 0, 100, 0, 0, 0, 0), (100, .ldc 89, 102, 0, 10, 1009, 0), (102, .invokevirtual 77, 105, 0, 5, 0, 0), (105, .ifCond .ne 12, 108, 0, 117, 0, 0), (108, .aload_n 0, 109, 0, 0, 0, 0)]
def tb_X0_takeLine_1 : List pm_E := [(109, .ldc 91, 111, 0, 11, 1010, 0), (111, .invokevirtual 77, 114, 0, 5, 0, 0), (114, .ifCond .eq 15, 117, 0, 129, 0, 0), (117, .aload_n 0, 118, 0, 0, 0, 0), (118, .aload_n 1, 119, 0, 0, 1, 0), (119, .aload_n 0, 120, 0, 0, 0, 0), (120, .ldc 89, 122, 0, 10, 1009, 0), (122, .invokevirtual 77, 125, 0, 5, 0, 0), (125, .invokevirtual 93, 128, 0, 11, 0, 0), (128, .ireturn, 129, 0, 0, 0, 0), (129, .aload_n 0, 130, 0, 0, 0, 0), (130, .ldc 97, 132, 0, 12, 1011, 0), (132, .invokevirtual 77, 135, 0, 5, 0, 0), (135, .ifCond .eq 9, 138, 0, 144, 0, 0), (138, .aload_n 0, 139, 0, 0, 0, 0), (139, .aload_n 1, 140, 0, 0, 1, 0), (140, .invokevirtual 99, 143, 0, 12, 0, 0), (143, .ireturn, 144, 0, 0, 0, 0), (144, .aload_n 0, 145, 0, 0, 0, 0), (145, .ldc 102, 147, 0, 13, 1012, 0), (147, .invokevirtual 77, 150, 0, 5, 0, 0), (150, .ifCond .eq 11, 153, 0, 161, 0, 0), (153, .aload_n 0, 154, 0, 0, 0, 0), (154, .aload_n 1, 155, 0, 0, 1, 0), (155, .invokevirtual 104, 158, 0, 13, 0, 0), (158, .goto 25, 161, 0, 183, 0, 0), (161, .aload_n 0, 162, 0, 0, 0, 0), (162, .ldc 107, 164, 0, 14, 1013, 0), (164, .invokevirtual 77, 167, 0, 5, 0, 0), (167, .ifCond .eq 15, 170, 0, 182, 0, 0), (170, .aload_n 0, 171, 0, 0, 0, 0), (171, .aload_n 1, 172, 0, 0, 1, 0), (172, .invokevirtual 109, 175, 0, 14, 0, 0), (175, .ifCond .eq 7, 178, 0, 182, 0, 0), (178, .iconst 1, 179, 1, 0, 0, 0), (179, .goto 4, 182, 0, 183, 0, 0), (182, .iconst 0, 183, 0, 0, 0, 0), (183, .ireturn, 184, 0, 0, 0, 0)]
def tb_X0_takeLine : List pm_E := tb_X0_takeLine_0 ++ (tb_X0_takeLine_1)
def tb_X0_streetKindTold : List pm_E := [(0, .aload_n 0, 1, 0, 0, 0, 0), (1, .ldc 112, 3, 0, 1, 1000, 0), (3, .invokevirtual 77, 6, 0, 5, 0, 0), (6, .ifCond .eq 5, 9, 0, 11, 0, 0), (9, .iconst 0, 10, 0, 0, 0, 0), (10, .ireturn, 11, 0, 0, 0, 0), (11, .aload_n 0, 12, 0, 0, 0, 0), (12, .ldc 114, 14, 0, 2, 1001, 0), (14, .invokevirtual 77, 17, 0, 5, 0, 0), (17, .ifCond .eq 5, 20, 0, 22, 0, 0), (20, .iconst 1, 21, 1, 0, 0, 0), (21, .ireturn, 22, 0, 0, 0, 0), (22, .aload_n 0, 23, 0, 0, 0, 0), (23, .ldc 116, 25, 0, 3, 1002, 0), (25, .invokevirtual 77, 28, 0, 5, 0, 0), (28, .ifCond .eq 5, 31, 0, 33, 0, 0), (31, .iconst 2, 32, 2, 0, 0, 0), (32, .ireturn, 33, 0, 0, 0, 0), (33, .aload_n 0, 34, 0, 0, 0, 0), (34, .ldc 118, 36, 0, 4, 1003, 0), (36, .invokevirtual 77, 39, 0, 5, 0, 0), (39, .ifCond .eq 7, 42, 0, 46, 0, 0), (42, .iconst 3, 43, 3, 0, 0, 0), (43, .goto 4, 46, 0, 47, 0, 0), (46, .iconst (-1), 47, -1, 0, 0, 0), (47, .ireturn, 48, 0, 0, 0, 0)]
def tb_X0_lawTold : List pm_E := [(0, .aload_n 0, 1, 0, 0, 0, 0), (1, .ldc 120, 3, 0, 5, 1004, 0), (3, .invokevirtual 77, 6, 0, 5, 0, 0), (6, .ifCond .eq 5, 9, 0, 11, 0, 0), (9, .iconst 0, 10, 0, 0, 0, 0), (10, .ireturn, 11, 0, 0, 0, 0), (11, .aload_n 0, 12, 0, 0, 0, 0), (12, .ldc 122, 14, 0, 6, 1005, 0), (14, .invokevirtual 77, 17, 0, 5, 0, 0), (17, .ifCond .eq 5, 20, 0, 22, 0, 0), (20, .iconst 1, 21, 1, 0, 0, 0), (21, .ireturn, 22, 0, 0, 0, 0), (22, .aload_n 0, 23, 0, 0, 0, 0), (23, .ldc 124, 25, 0, 7, 1006, 0), (25, .invokevirtual 77, 28, 0, 5, 0, 0), (28, .ifCond .eq 7, 31, 0, 35, 0, 0), (31, .iconst 2, 32, 2, 0, 0, 0), (32, .goto 4, 35, 0, 36, 0, 0), (35, .iconst (-1), 36, -1, 0, 0, 0), (36, .ireturn, 37, 0, 0, 0, 0)]
def tb_X0_takeStreet : List pm_E := [(0, .aload_n 0, 1, 0, 0, 0, 0), (1, .iconst 0, 2, 0, 0, 0, 0), (2, .aload_n 1, 3, 0, 0, 1, 0), (3, .getfield 126, 6, 0, 1, 0, 0), (6, .iconst 1, 7, 1, 0, 0, 0), (7, .isub, 8, 0, 0, 0, 0), (8, .invokevirtual 129, 11, 0, 15, 0, 0), (11, .ifCond .ne 5, 14, 0, 16, 0, 0), (14, .iconst 0, 15, 0, 0, 0, 0), (15, .ireturn, 16, 0, 0, 0, 0), (16, .aload_n 0, 17, 0, 0, 0, 0), (17, .getfield 133, 20, 0, 0, 6, 0), (20, .istore_n 3, 21, 0, 0, 3, 0), (21, .aload_n 0, 22, 0, 0, 0, 0), (22, .iconst 0, 23, 0, 0, 0, 0), (23, .aload_n 1, 24, 0, 0, 1, 0), (24, .getfield 126, 27, 0, 1, 0, 0), (27, .iconst 1, 28, 1, 0, 0, 0), (28, .isub, 29, 0, 0, 0, 0), (29, .invokevirtual 129, 32, 0, 15, 0, 0), (32, .ifCond .eq 11, 35, 0, 43, 0, 0), (35, .aload_n 0, 36, 0, 0, 0, 0), (36, .getfield 133, 39, 0, 0, 6, 0), (39, .iload_n 3, 40, 0, 0, 3, 0), (40, .if_icmp .ne 5, 43, 0, 45, 0, 0), (43, .iconst 0, 44, 0, 0, 0, 0), (44, .ireturn, 45, 0, 0, 0, 0), (45, .aload_n 0, 46, 0, 0, 0, 0), (46, .getfield 133, 49, 0, 0, 6, 0), (49, .istore 4, 51, 0, 0, 4, 0), (51, .aload_n 0, 52, 0, 0, 0, 0), (52, .iconst 1, 53, 1, 0, 0, 0), (53, .bipush 99, 55, 99, 0, 0, 0), (55, .invokevirtual 129, 58, 0, 15, 0, 0), (58, .ifCond .ne 5, 61, 0, 63, 0, 0), (61, .iconst 0, 62, 0, 0, 0, 0), (62, .ireturn, 63, 0, 0, 0, 0), (63, .aload_n 1, 64, 0, 0, 1, 0), (64, .iload_n 2, 65, 0, 0, 2, 0), (65, .iload_n 3, 66, 0, 0, 3, 0), (66, .iload 4, 68, 0, 0, 4, 0), (68, .aload_n 0, 69, 0, 0, 0, 0), (69, .getfield 133, 72, 0, 0, 6, 0), (72, .invokevirtual 136, 75, 0, 22, 0, 0), (75, .iconst 1, 76, 1, 0, 0, 0), (76, .ireturn, 77, 0, 0, 0, 0)]
def tb_X0_takeErrand : List pm_E := [(0, .aload_n 0, 1, 0, 0, 0, 0), (1, .iconst 0, 2, 0, 0, 0, 0), (2, .aload_n 1, 3, 0, 0, 1, 0), (3, .getfield 126, 6, 0, 1, 0, 0), (6, .iconst 1, 7, 1, 0, 0, 0), (7, .isub, 8, 0, 0, 0, 0), (8, .invokevirtual 129, 11, 0, 15, 0, 0), (11, .ifCond .ne 5, 14, 0, 16, 0, 0), (14, .iconst 0, 15, 0, 0, 0, 0), (15, .ireturn, 16, 0, 0, 0, 0), (16, .aload_n 0, 17, 0, 0, 0, 0), (17, .getfield 133, 20, 0, 0, 6, 0), (20, .istore_n 2, 21, 0, 0, 2, 0), (21, .aload_n 0, 22, 0, 0, 0, 0), (22, .iconst 0, 23, 0, 0, 0, 0), (23, .aload_n 1, 24, 0, 0, 1, 0), (24, .getfield 126, 27, 0, 1, 0, 0), (27, .iconst 1, 28, 1, 0, 0, 0), (28, .isub, 29, 0, 0, 0, 0), (29, .invokevirtual 129, 32, 0, 15, 0, 0), (32, .ifCond .eq 11, 35, 0, 43, 0, 0), (35, .aload_n 0, 36, 0, 0, 0, 0), (36, .getfield 133, 39, 0, 0, 6, 0), (39, .iload_n 2, 40, 0, 0, 2, 0), (40, .if_icmp .ne 5, 43, 0, 45, 0, 0), (43, .iconst 0, 44, 0, 0, 0, 0), (44, .ireturn, 45, 0, 0, 0, 0), (45, .aload_n 1, 46, 0, 0, 1, 0), (46, .iload_n 2, 47, 0, 0, 2, 0), (47, .aload_n 0, 48, 0, 0, 0, 0), (48, .getfield 133, 51, 0, 0, 6, 0), (51, .invokevirtual 140, 54, 0, 23, 0, 0), (54, .iconst 1, 55, 1, 0, 0, 0), (55, .ireturn, 56, 0, 0, 0, 0)]
def tb_X0_takeScrew : List pm_E := [(0, .aload_n 0, 1, 0, 0, 0, 0), (1, .iconst 0, 2, 0, 0, 0, 0), (2, .aload_n 1, 3, 0, 0, 1, 0), (3, .getfield 126, 6, 0, 1, 0, 0), (6, .iconst 1, 7, 1, 0, 0, 0), (7, .isub, 8, 0, 0, 0, 0), (8, .invokevirtual 129, 11, 0, 15, 0, 0), (11, .ifCond .ne 5, 14, 0, 16, 0, 0), (14, .iconst 0, 15, 0, 0, 0, 0), (15, .ireturn, 16, 0, 0, 0, 0), (16, .iconst 1, 17, 1, 0, 0, 0), (17, .aload_n 0, 18, 0, 0, 0, 0), (18, .getfield 133, 21, 0, 0, 6, 0), (21, .ishl, 22, 0, 0, 0, 0), (22, .istore_n 3, 23, 0, 0, 3, 0), (23, .aload_n 1, 24, 0, 0, 1, 0), (24, .iload_n 2, 25, 0, 0, 2, 0), (25, .ifCond .eq 12, 28, 0, 37, 0, 0), (28, .aload_n 1, 29, 0, 0, 1, 0), (29, .getfield 144, 32, 0, 1, 3, 0), (32, .iload_n 3, 33, 0, 0, 3, 0), (33, .ior, 34, 0, 0, 0, 0), (34, .goto 11, 37, 0, 45, 0, 0), (37, .aload_n 1, 38, 0, 0, 1, 0), (38, .getfield 144, 41, 0, 1, 3, 0), (41, .iload_n 3, 42, 0, 0, 3, 0), (42, .iconst (-1), 43, -1, 0, 0, 0), (43, .ixor, 44, 0, 0, 0, 0), (44, .iand, 45, 0, 0, 0, 0), (45, .putfield 144, 48, 0, 1, 3, 0), (48, .iconst 1, 49, 1, 0, 0, 0), (49, .ireturn, 50, 0, 0, 0, 0)]
def tb_X0_takeHeights : List pm_E := [(0, .aload_n 0, 1, 0, 0, 0, 0), (1, .iconst 0, 2, 0, 0, 0, 0), (2, .aload_n 1, 3, 0, 0, 1, 0), (3, .getfield 126, 6, 0, 1, 0, 0), (6, .iconst 1, 7, 1, 0, 0, 0), (7, .isub, 8, 0, 0, 0, 0), (8, .invokevirtual 129, 11, 0, 15, 0, 0), (11, .ifCond .ne 5, 14, 0, 16, 0, 0), (14, .iconst 0, 15, 0, 0, 0, 0), (15, .ireturn, 16, 0, 0, 0, 0), (16, .aload_n 0, 17, 0, 0, 0, 0), (17, .getfield 133, 20, 0, 0, 6, 0), (20, .istore_n 2, 21, 0, 0, 2, 0), (21, .aload_n 0, 22, 0, 0, 0, 0), (22, .iconst 0, 23, 0, 0, 0, 0), (23, .bipush 99, 25, 99, 0, 0, 0), (25, .invokevirtual 129, 28, 0, 15, 0, 0), (28, .ifCond .ne 5, 31, 0, 33, 0, 0), (31, .iconst 0, 32, 0, 0, 0, 0), (32, .ireturn, 33, 0, 0, 0, 0), (33, .aload_n 0, 34, 0, 0, 0, 0), (34, .getfield 133, 37, 0, 0, 6, 0), (37, .istore_n 3, 38, 0, 0, 3, 0), (38, .aload_n 0, 39, 0, 0, 0, 0), (39, .iconst 0, 40, 0, 0, 0, 0), (40, .bipush 99, 42, 99, 0, 0, 0), (42, .invokevirtual 129, 45, 0, 15, 0, 0), (45, .ifCond .ne 5, 48, 0, 50, 0, 0), (48, .iconst 0, 49, 0, 0, 0, 0), (49, .ireturn, 50, 0, 0, 0, 0), (50, .aload_n 1, 51, 0, 0, 1, 0), (51, .iload_n 2, 52, 0, 0, 2, 0), (52, .iload_n 3, 53, 0, 0, 3, 0), (53, .aload_n 0, 54, 0, 0, 0, 0), (54, .getfield 133, 57, 0, 0, 6, 0), (57, .invokevirtual 146, 60, 0, 21, 0, 0), (60, .iconst 1, 61, 1, 0, 0, 0), (61, .ireturn, 62, 0, 0, 0, 0)]
def tb_X0_takeTown : List pm_E := [(0, .aload_n 0, 1, 0, 0, 0, 0), (1, .iconst 2, 2, 2, 0, 0, 0), (2, .bipush 8, 4, 8, 0, 0, 0), (4, .invokevirtual 129, 7, 0, 15, 0, 0), (7, .ifCond .ne 5, 10, 0, 12, 0, 0), (10, .iconst 0, 11, 0, 0, 0, 0), (11, .ireturn, 12, 0, 0, 0, 0), (12, .aload_n 1, 13, 0, 0, 1, 0), (13, .aload_n 0, 14, 0, 0, 0, 0), (14, .getfield 133, 17, 0, 0, 6, 0), (17, .invokevirtual 150, 20, 0, 17, 0, 0), (20, .iconst 1, 21, 1, 0, 0, 0), (21, .ireturn, 22, 0, 0, 0, 0)]
def tb_X0_takeHalf : List pm_E := [(0, .aload_n 0, 1, 0, 0, 0, 0), (1, .bipush 10, 3, 10, 0, 0, 0), (3, .sipush 999, 6, 999, 0, 0, 0), (6, .invokevirtual 129, 9, 0, 15, 0, 0), (9, .ifCond .ne 5, 12, 0, 14, 0, 0), (12, .iconst 0, 13, 0, 0, 0, 0), (13, .ireturn, 14, 0, 0, 0, 0), (14, .aload_n 1, 15, 0, 0, 1, 0), (15, .aload_n 0, 16, 0, 0, 0, 0), (16, .getfield 133, 19, 0, 0, 6, 0), (19, .putfield 154, 22, 0, 1, 9, 0), (22, .iconst 1, 23, 1, 0, 0, 0), (23, .ireturn, 24, 0, 0, 0, 0)]
def tb_X0_takeNumber : List pm_E := [(0, .aload_n 0, 1, 0, 0, 0, 0), (1, .invokevirtual 25, 4, 0, 3, 0, 0), (4, .aload_n 0, 5, 0, 0, 0, 0), (5, .getfield 35, 8, 0, 0, 5, 0), (8, .iconst 2, 9, 2, 0, 0, 0), (9, .if_icmp .ne 16, 12, 0, 25, 0, 0), (12, .aload_n 0, 13, 0, 0, 0, 0), (13, .getfield 19, 16, 0, 0, 4, 0), (16, .aload_n 0, 17, 0, 0, 0, 0), (17, .getfield 32, 20, 0, 0, 3, 0), (20, .isub, 21, 0, 0, 0, 0), (21, .iconst 3, 22, 3, 0, 0, 0), (22, .if_icmp .le 5, 25, 0, 27, 0, 0), (25, .iconst 0, 26, 0, 0, 0, 0), (26, .ireturn, 27, 0, 0, 0, 0), (27, .aload_n 0, 28, 0, 0, 0, 0), (28, .iconst 0, 29, 0, 0, 0, 0), (29, .putfield 133, 32, 0, 0, 6, 0), (32, .aload_n 0, 33, 0, 0, 0, 0), (33, .getfield 32, 36, 0, 0, 3, 0), (36, .istore_n 3, 37, 0, 0, 3, 0), (37, .iload_n 3, 38, 0, 0, 3, 0), (38, .aload_n 0, 39, 0, 0, 0, 0), (39, .getfield 19, 42, 0, 0, 4, 0), (42, .if_icmp .ge 30, 45, 0, 72, 0, 0), (45, .aload_n 0, 46, 0, 0, 0, 0), (46, .aload_n 0, 47, 0, 0, 0, 0), (47, .getfield 133, 50, 0, 0, 6, 0), (50, .bipush 10, 52, 10, 0, 0, 0), (52, .imul, 53, 0, 0, 0, 0), (53, .aload_n 0, 54, 0, 0, 0, 0), (54, .getfield 9, 57, 0, 0, 0, 0), (57, .iload_n 3, 58, 0, 0, 3, 0), (58, .iaload, 59, 0, 0, 0, 0), (59, .iadd, 60, 0, 0, 0, 0), (60, .bipush 48, 62, 48, 0, 0, 0), (62, .isub, 63, 0, 0, 0, 0), (63, .putfield 133, 66, 0, 0, 6, 0), (66, .iinc 3 1, 69, 1, 0, 3, 0), (69, .goto (-32), 72, 0, 37, 0, 0), (72, .aload_n 0, 73, 0, 0, 0, 0), (73, .getfield 133, 76, 0, 0, 6, 0), (76, .iload_n 1, 77, 0, 0, 1, 0), (77, .if_icmp .lt 15, 80, 0, 92, 0, 0), (80, .aload_n 0, 81, 0, 0, 0, 0), (81, .getfield 133, 84, 0, 0, 6, 0), (84, .iload_n 2, 85, 0, 0, 2, 0), (85, .if_icmp .gt 7, 88, 0, 92, 0, 0), (88, .iconst 1, 89, 1, 0, 0, 0), (89, .goto 4, 92, 0, 93, 0, 0), (92, .iconst 0, 93, 0, 0, 0, 0), (93, .ireturn, 94, 0, 0, 0, 0)]
def tb_X1_init : List pm_E := [(0, .aload_n 0, 1, 0, 0, 0, 0), (1, .invokespecial 3, 4, 0, 1000, 0, 0), (4, .aload_n 0, 5, 0, 0, 0, 0), (5, .bipush 8, 7, 8, 0, 0, 0), (7, .newarray .int, 9, 0, 0, 0, 0), (9, .putfield 9, 12, 0, 1, 1, 0), (12, .aload_n 0, 13, 0, 0, 0, 0), (13, .bipush 8, 15, 8, 0, 0, 0), (15, .newarray .int, 17, 0, 0, 0, 0), (17, .putfield 15, 20, 0, 1, 2, 0), (20, .aload_n 0, 21, 0, 0, 0, 0), (21, .bipush 12, 23, 12, 0, 0, 0), (23, .newarray .int, 25, 0, 0, 0, 0), (25, .putfield 18, 28, 0, 1, 5, 0), (28, .aload_n 0, 29, 0, 0, 0, 0), (29, .bipush 12, 31, 12, 0, 0, 0), (31, .newarray .int, 33, 0, 0, 0, 0), (33, .putfield 21, 36, 0, 1, 6, 0), (36, .aload_n 0, 37, 0, 0, 0, 0), (37, .bipush 12, 39, 12, 0, 0, 0), (39, .newarray .int, 41, 0, 0, 0, 0), (41, .putfield 24, 44, 0, 1, 7, 0), (44, .aload_n 0, 45, 0, 0, 0, 0), (45, .bipush 12, 47, 12, 0, 0, 0), (47, .newarray .int, 49, 0, 0, 0, 0), (49, .putfield 27, 52, 0, 1, 8, 0), (52, .aload_n 0, 53, 0, 0, 0, 0), (53, .bipush 8, 55, 8, 0, 0, 0), (55, .newarray .int, 57, 0, 0, 0, 0), (57, .putfield 30, 60, 0, 1, 12, 0), (60, .aload_n 0, 61, 0, 0, 0, 0), (61, .bipush 8, 63, 8, 0, 0, 0), (63, .newarray .int, 65, 0, 0, 0, 0), (65, .putfield 33, 68, 0, 1, 13, 0), (68, .aload_n 0, 69, 0, 0, 0, 0), (69, .iconst 4, 70, 4, 0, 0, 0), (70, .invokevirtual 36, 73, 0, 17, 0, 0), (73, .return_, 74, 0, 0, 0, 0)]
def tb_X1_beginWith : List pm_E := [(0, .aload_n 0, 1, 0, 0, 0, 0), (1, .iload_n 1, 2, 0, 0, 1, 0), (2, .putfield 40, 5, 0, 1, 0, 0), (5, .aload_n 0, 6, 0, 0, 0, 0), (6, .iconst 0, 7, 0, 0, 0, 0), (7, .putfield 44, 10, 0, 1, 3, 0), (10, .aload_n 0, 11, 0, 0, 0, 0), (11, .iconst 0, 12, 0, 0, 0, 0), (12, .putfield 47, 15, 0, 1, 4, 0), (15, .aload_n 0, 16, 0, 0, 0, 0), (16, .bipush 60, 18, 60, 0, 0, 0), (18, .putfield 50, 21, 0, 1, 9, 0), (21, .aload_n 0, 22, 0, 0, 0, 0), (22, .iconst 0, 23, 0, 0, 0, 0), (23, .putfield 53, 26, 0, 1, 10, 0), (26, .aload_n 0, 27, 0, 0, 0, 0), (27, .iconst 0, 28, 0, 0, 0, 0), (28, .putfield 56, 31, 0, 1, 11, 0), (31, .iconst 0, 32, 0, 0, 0, 0), (32, .istore_n 2, 33, 0, 0, 2, 0), (33, .iload_n 2, 34, 0, 0, 2, 0), (34, .bipush 8, 36, 8, 0, 0, 0), (36, .if_icmp .ge 23, 39, 0, 59, 0, 0), (39, .aload_n 0, 40, 0, 0, 0, 0), (40, .getfield 9, 43, 0, 1, 1, 0), (43, .iload_n 2, 44, 0, 0, 2, 0), (44, .iconst 0, 45, 0, 0, 0, 0), (45, .iastore, 46, 0, 0, 0, 0), (46, .aload_n 0, 47, 0, 0, 0, 0), (47, .getfield 15, 50, 0, 1, 2, 0), (50, .iload_n 2, 51, 0, 0, 2, 0), (51, .iconst 0, 52, 0, 0, 0, 0), (52, .iastore, 53, 0, 0, 0, 0), (53, .iinc 2 1, 56, 1, 0, 2, 0), (56, .goto (-23), 59, 0, 33, 0, 0), (59, .return_, 60, 0, 0, 0, 0)]
def tb_X1_copyFrom_0 : List pm_E := [(0, .aload_n 0, 1, 0, 0, 0, 0), (1, .aload_n 1, 2, 0, 0, 1, 0), (2, .getfield 40, 5, 0, 1, 0, 0), (5, .putfield 40, 8, 0, 1, 0, 0), (8, .aload_n 0, 9, 0, 0, 0, 0), (9, .aload_n 1, 10, 0, 0, 1, 0), (10, .getfield 44, 13, 0, 1, 3, 0), (13, .putfield 44, 16, 0, 1, 3, 0), (16, .aload_n 0, 17, 0, 0, 0, 0), (17, .aload_n 1, 18, 0, 0, 1, 0), (18, .getfield 47, 21, 0, 1, 4, 0), (21, .putfield 47, 24, 0, 1, 4, 0), (24, .aload_n 0, 25, 0, 0, 0, 0), (25, .aload_n 1, 26, 0, 0, 1, 0), (26, .getfield 50, 29, 0, 1, 9, 0), (29, .putfield 50, 32, 0, 1, 9, 0), (32, .aload_n 0, 33, 0, 0, 0, 0), (33, .aload_n 1, 34, 0, 0, 1, 0), (34, .getfield 53, 37, 0, 1, 10, 0), (37, .putfield 53, 40, 0, 1, 10, 0), (40, .aload_n 0, 41, 0, 0, 0, 0), (41, .aload_n 1, 42, 0, 0, 1, 0), (42, .getfield 56, 45, 0, 1, 11, 0), (45, .putfield 56, 48, 0, 1, 11, 0), (48, .iconst 0, 49, 0, 0, 0, 0), (49, .istore_n 2, 50, 0, 0, 2, 0), (50, .iload_n 2, 51, 0, 0, 2, 0), (51, .bipush 8, 53, 8, 0, 0, 0), (53, .if_icmp .ge 33, 56, 0, 86, 0, 0), (56, .aload_n 0, 57, 0, 0, 0, 0), (57, .getfield 9, 60, 0, 1, 1, 0), (60, .iload_n 2, 61, 0, 0, 2, 0), (61, .aload_n 1, 62, 0, 0, 1, 0), (62, .getfield 9, 65, 0, 1, 1, 0), (65, .iload_n 2, 66, 0, 0, 2, 0), (66, .iaload, 67, 0, 0, 0, 0), (67, .iastore, 68, 0, 0, 0, 0), (68, .aload_n 0, 69, 0, 0, 0, 0), (69, .getfield 15, 72, 0, 1, 2, 0), (72, .iload_n 2, 73, 0, 0, 2, 0), (73, .aload_n 1, 74, 0, 0, 1, 0), (74, .getfield 15, 77, 0, 1, 2, 0), (77, .iload_n 2, 78, 0, 0, 2, 0), (78, .iaload, 79, 0, 0, 0, 0), (79, .iastore, 80, 0, 0, 0, 0), (80, .iinc 2 1, 83, 1, 0, 2, 0), (83, .goto (-33), 86, 0, 50, 0, 0), (86, .iconst 0, 87, 0, 0, 0, 0), (87, .istore_n 2, 88, 0, 0, 2, 0), (88, .iload_n 2, 89, 0, 0, 2, 0), (89, .bipush 12, 91, 12, 0, 0, 0), (91, .if_icmp .ge 57, 94, 0, 148, 0, 0), (94, .aload_n 0, 95, 0, 0, 0, 0), (95, .getfield 18, 98, 0, 1, 5, 0), (98, .iload_n 2, 99, 0, 0, 2, 0), (99, .aload_n 1, 100, 0, 0, 1, 0), (100, .getfield 18, 103, 0, 1, 5, 0), (103, .iload_n 2, 104, 0, 0, 2, 0), (104, .iaload, 105, 0, 0, 0, 0), (105, .iastore, 106, 0, 0, 0, 0)]
def tb_X1_copyFrom_1 : List pm_E := [(106, .aload_n 0, 107, 0, 0, 0, 0), (107, .getfield 21, 110, 0, 1, 6, 0), (110, .iload_n 2, 111, 0, 0, 2, 0), (111, .aload_n 1, 112, 0, 0, 1, 0), (112, .getfield 21, 115, 0, 1, 6, 0), (115, .iload_n 2, 116, 0, 0, 2, 0), (116, .iaload, 117, 0, 0, 0, 0), (117, .iastore, 118, 0, 0, 0, 0), (118, .aload_n 0, 119, 0, 0, 0, 0), (119, .getfield 24, 122, 0, 1, 7, 0), (122, .iload_n 2, 123, 0, 0, 2, 0), (123, .aload_n 1, 124, 0, 0, 1, 0), (124, .getfield 24, 127, 0, 1, 7, 0), (127, .iload_n 2, 128, 0, 0, 2, 0), (128, .iaload, 129, 0, 0, 0, 0), (129, .iastore, 130, 0, 0, 0, 0), (130, .aload_n 0, 131, 0, 0, 0, 0), (131, .getfield 27, 134, 0, 1, 8, 0), (134, .iload_n 2, 135, 0, 0, 2, 0), (135, .aload_n 1, 136, 0, 0, 1, 0), (136, .getfield 27, 139, 0, 1, 8, 0), (139, .iload_n 2, 140, 0, 0, 2, 0), (140, .iaload, 141, 0, 0, 0, 0), (141, .iastore, 142, 0, 0, 0, 0), (142, .iinc 2 1, 145, 1, 0, 2, 0), (145, .goto (-57), 148, 0, 88, 0, 0), (148, .iconst 0, 149, 0, 0, 0, 0), (149, .istore_n 2, 150, 0, 0, 2, 0), (150, .iload_n 2, 151, 0, 0, 2, 0), (151, .bipush 8, 153, 8, 0, 0, 0), (153, .if_icmp .ge 33, 156, 0, 186, 0, 0), (156, .aload_n 0, 157, 0, 0, 0, 0), (157, .getfield 30, 160, 0, 1, 12, 0), (160, .iload_n 2, 161, 0, 0, 2, 0), (161, .aload_n 1, 162, 0, 0, 1, 0), (162, .getfield 30, 165, 0, 1, 12, 0), (165, .iload_n 2, 166, 0, 0, 2, 0), (166, .iaload, 167, 0, 0, 0, 0), (167, .iastore, 168, 0, 0, 0, 0), (168, .aload_n 0, 169, 0, 0, 0, 0), (169, .getfield 33, 172, 0, 1, 13, 0), (172, .iload_n 2, 173, 0, 0, 2, 0), (173, .aload_n 1, 174, 0, 0, 1, 0), (174, .getfield 33, 177, 0, 1, 13, 0), (177, .iload_n 2, 178, 0, 0, 2, 0), (178, .iaload, 179, 0, 0, 0, 0), (179, .iastore, 180, 0, 0, 0, 0), (180, .iinc 2 1, 183, 1, 0, 2, 0), (183, .goto (-33), 186, 0, 150, 0, 0), (186, .return_, 187, 0, 0, 0, 0)]
def tb_X1_copyFrom : List pm_E := tb_X1_copyFrom_0 ++ (tb_X1_copyFrom_1)
def tb_X1_hasCorner : List pm_E := [(0, .iload_n 1, 1, 0, 0, 1, 0), (1, .ifCond .lt 21, 4, 0, 22, 0, 0), (4, .iload_n 1, 5, 0, 0, 1, 0), (5, .aload_n 0, 6, 0, 0, 0, 0), (6, .getfield 40, 9, 0, 1, 0, 0), (9, .if_icmp .ge 13, 12, 0, 22, 0, 0), (12, .iload_n 1, 13, 0, 0, 1, 0), (13, .bipush 8, 15, 8, 0, 0, 0), (15, .if_icmp .ge 7, 18, 0, 22, 0, 0), (18, .iconst 1, 19, 1, 0, 0, 0), (19, .goto 4, 22, 0, 23, 0, 0), (22, .iconst 0, 23, 0, 0, 0, 0), (23, .ireturn, 24, 0, 0, 0, 0)]
def tb_X1_hasStreet : List pm_E := [(0, .iload_n 1, 1, 0, 0, 1, 0), (1, .ifCond .lt 21, 4, 0, 22, 0, 0), (4, .iload_n 1, 5, 0, 0, 1, 0), (5, .aload_n 0, 6, 0, 0, 0, 0), (6, .getfield 47, 9, 0, 1, 4, 0), (9, .if_icmp .ge 13, 12, 0, 22, 0, 0), (12, .iload_n 1, 13, 0, 0, 1, 0), (13, .bipush 12, 15, 12, 0, 0, 0), (15, .if_icmp .ge 7, 18, 0, 22, 0, 0), (18, .iconst 1, 19, 1, 0, 0, 0), (19, .goto 4, 22, 0, 23, 0, 0), (22, .iconst 0, 23, 0, 0, 0, 0), (23, .ireturn, 24, 0, 0, 0, 0)]
def tb_X1_setHeights : List pm_E := [(0, .aload_n 0, 1, 0, 0, 0, 0), (1, .iload_n 1, 2, 0, 0, 1, 0), (2, .invokevirtual 59, 5, 0, 19, 0, 0), (5, .ifCond .eq 17, 8, 0, 22, 0, 0), (8, .aload_n 0, 9, 0, 0, 0, 0), (9, .getfield 9, 12, 0, 1, 1, 0), (12, .iload_n 1, 13, 0, 0, 1, 0), (13, .iload_n 2, 14, 0, 0, 2, 0), (14, .iastore, 15, 0, 0, 0, 0), (15, .aload_n 0, 16, 0, 0, 0, 0), (16, .getfield 15, 19, 0, 1, 2, 0), (19, .iload_n 1, 20, 0, 0, 1, 0), (20, .iload_n 3, 21, 0, 0, 3, 0), (21, .iastore, 22, 0, 0, 0, 0), (22, .return_, 23, 0, 0, 0, 0)]
def tb_X1_addStreet : List pm_E := [(0, .aload_n 0, 1, 0, 0, 0, 0), (1, .getfield 47, 4, 0, 1, 4, 0), (4, .bipush 12, 6, 12, 0, 0, 0), (6, .if_icmp .ge 54, 9, 0, 60, 0, 0), (9, .aload_n 0, 10, 0, 0, 0, 0), (10, .getfield 24, 13, 0, 1, 7, 0), (13, .aload_n 0, 14, 0, 0, 0, 0), (14, .getfield 47, 17, 0, 1, 4, 0), (17, .iload_n 1, 18, 0, 0, 1, 0), (18, .iastore, 19, 0, 0, 0, 0), (19, .aload_n 0, 20, 0, 0, 0, 0), (20, .getfield 18, 23, 0, 1, 5, 0), (23, .aload_n 0, 24, 0, 0, 0, 0), (24, .getfield 47, 27, 0, 1, 4, 0), (27, .iload_n 2, 28, 0, 0, 2, 0), (28, .iastore, 29, 0, 0, 0, 0), (29, .aload_n 0, 30, 0, 0, 0, 0), (30, .getfield 21, 33, 0, 1, 6, 0), (33, .aload_n 0, 34, 0, 0, 0, 0), (34, .getfield 47, 37, 0, 1, 4, 0), (37, .iload_n 3, 38, 0, 0, 3, 0), (38, .iastore, 39, 0, 0, 0, 0), (39, .aload_n 0, 40, 0, 0, 0, 0), (40, .getfield 27, 43, 0, 1, 8, 0), (43, .aload_n 0, 44, 0, 0, 0, 0), (44, .getfield 47, 47, 0, 1, 4, 0), (47, .iload 4, 49, 0, 0, 4, 0), (49, .iastore, 50, 0, 0, 0, 0), (50, .aload_n 0, 51, 0, 0, 0, 0), (51, .dup, 52, 0, 0, 0, 0), (52, .getfield 47, 55, 0, 1, 4, 0), (55, .iconst 1, 56, 1, 0, 0, 0), (56, .iadd, 57, 0, 0, 0, 0), (57, .putfield 47, 60, 0, 1, 4, 0), (60, .return_, 61, 0, 0, 0, 0)]
def tb_X1_addErrand : List pm_E := [(0, .aload_n 0, 1, 0, 0, 0, 0), (1, .getfield 56, 4, 0, 1, 11, 0), (4, .bipush 8, 6, 8, 0, 0, 0), (6, .if_icmp .ge 33, 9, 0, 39, 0, 0), (9, .aload_n 0, 10, 0, 0, 0, 0), (10, .getfield 30, 13, 0, 1, 12, 0), (13, .aload_n 0, 14, 0, 0, 0, 0), (14, .getfield 56, 17, 0, 1, 11, 0), (17, .iload_n 1, 18, 0, 0, 1, 0), (18, .iastore, 19, 0, 0, 0, 0), (19, .aload_n 0, 20, 0, 0, 0, 0), (20, .getfield 33, 23, 0, 1, 13, 0), (23, .aload_n 0, 24, 0, 0, 0, 0), (24, .getfield 56, 27, 0, 1, 11, 0), (27, .iload_n 2, 28, 0, 0, 2, 0), (28, .iastore, 29, 0, 0, 0, 0), (29, .aload_n 0, 30, 0, 0, 0, 0), (30, .dup, 31, 0, 0, 0, 0), (31, .getfield 56, 34, 0, 1, 11, 0), (34, .iconst 1, 35, 1, 0, 0, 0), (35, .iadd, 36, 0, 0, 0, 0), (36, .putfield 56, 39, 0, 1, 11, 0), (39, .return_, 40, 0, 0, 0, 0)]
def tb_X1_heightOf : List pm_E := [(0, .aload_n 0, 1, 0, 0, 0, 0), (1, .iload_n 1, 2, 0, 0, 1, 0), (2, .invokevirtual 59, 5, 0, 19, 0, 0), (5, .ifCond .ne 5, 8, 0, 10, 0, 0), (8, .iconst 0, 9, 0, 0, 0, 0), (9, .ireturn, 10, 0, 0, 0, 0), (10, .iload_n 2, 11, 0, 0, 2, 0), (11, .iconst 1, 12, 1, 0, 0, 0), (12, .if_icmp .ne 15, 15, 0, 27, 0, 0), (15, .iload_n 3, 16, 0, 0, 3, 0), (16, .iload_n 1, 17, 0, 0, 1, 0), (17, .ishr, 18, 0, 0, 0, 0), (18, .iconst 1, 19, 1, 0, 0, 0), (19, .iand, 20, 0, 0, 0, 0), (20, .ifCond .ne 7, 23, 0, 27, 0, 0), (23, .iconst 1, 24, 1, 0, 0, 0), (24, .goto 4, 27, 0, 28, 0, 0), (27, .iconst 0, 28, 0, 0, 0, 0), (28, .istore 4, 30, 0, 0, 4, 0), (30, .iload 4, 32, 0, 0, 4, 0), (32, .ifCond .eq 12, 35, 0, 44, 0, 0), (35, .aload_n 0, 36, 0, 0, 0, 0), (36, .getfield 15, 39, 0, 1, 2, 0), (39, .iload_n 1, 40, 0, 0, 1, 0), (40, .iaload, 41, 0, 0, 0, 0), (41, .goto 9, 44, 0, 50, 0, 0), (44, .aload_n 0, 45, 0, 0, 0, 0), (45, .getfield 9, 48, 0, 1, 1, 0), (48, .iload_n 1, 49, 0, 0, 1, 0), (49, .iaload, 50, 0, 0, 0, 0), (50, .ireturn, 51, 0, 0, 0, 0)]
def tb_X1_halvesBefore : List pm_E := [(0, .aload_n 0, 1, 0, 0, 0, 0), (1, .getfield 50, 4, 0, 1, 9, 0), (4, .iconst 1, 5, 1, 0, 0, 0), (5, .if_icmp .ge 7, 8, 0, 12, 0, 0), (8, .iconst 0, 9, 0, 0, 0, 0), (9, .goto 9, 12, 0, 18, 0, 0), (12, .iload_n 1, 13, 0, 0, 1, 0), (13, .aload_n 0, 14, 0, 0, 0, 0), (14, .getfield 50, 17, 0, 1, 9, 0), (17, .idiv, 18, 0, 0, 0, 0), (18, .ireturn, 19, 0, 0, 0, 0)]
def tb_X1_leadsFrom : List pm_E := [(0, .aload_n 0, 1, 0, 0, 0, 0), (1, .getfield 18, 4, 0, 1, 5, 0), (4, .iload_n 1, 5, 0, 0, 1, 0), (5, .iaload, 6, 0, 0, 0, 0), (6, .iload_n 2, 7, 0, 0, 2, 0), (7, .if_icmp .eq 13, 10, 0, 20, 0, 0), (10, .aload_n 0, 11, 0, 0, 0, 0), (11, .getfield 21, 14, 0, 1, 6, 0), (14, .iload_n 1, 15, 0, 0, 1, 0), (15, .iaload, 16, 0, 0, 0, 0), (16, .iload_n 2, 17, 0, 0, 2, 0), (17, .if_icmp .ne 7, 20, 0, 24, 0, 0), (20, .iconst 1, 21, 1, 0, 0, 0), (21, .goto 4, 24, 0, 25, 0, 0), (24, .iconst 0, 25, 0, 0, 0, 0), (25, .ireturn, 26, 0, 0, 0, 0)]
def tb_X1_otherEnd : List pm_E := [(0, .aload_n 0, 1, 0, 0, 0, 0), (1, .getfield 18, 4, 0, 1, 5, 0), (4, .iload_n 1, 5, 0, 0, 1, 0), (5, .iaload, 6, 0, 0, 0, 0), (6, .iload_n 2, 7, 0, 0, 2, 0), (7, .if_icmp .ne 12, 10, 0, 19, 0, 0), (10, .aload_n 0, 11, 0, 0, 0, 0), (11, .getfield 21, 14, 0, 1, 6, 0), (14, .iload_n 1, 15, 0, 0, 1, 0), (15, .iaload, 16, 0, 0, 0, 0), (16, .goto 9, 19, 0, 25, 0, 0), (19, .aload_n 0, 20, 0, 0, 0, 0), (20, .getfield 18, 23, 0, 1, 5, 0), (23, .iload_n 1, 24, 0, 0, 1, 0), (24, .iaload, 25, 0, 0, 0, 0), (25, .ireturn, 26, 0, 0, 0, 0)]
def tb_X1_openings_0 : List pm_E := [(0, .iconst 0, 1, 0, 0, 0, 0), (1, .istore 4, 3, 0, 0, 4, 0), (3, .iconst 0, 4, 0, 0, 0, 0), (4, .istore 5, 6, 0, 0, 5, 0), (6, .iload 5, 8, 0, 0, 5, 0), (8, .iconst 2, 9, 2, 0, 0, 0), (9, .if_icmp .ge 97, 12, 0, 106, 0, 0), (12, .aload_n 0, 13, 0, 0, 0, 0), (13, .aload_n 0, 14, 0, 0, 0, 0), (14, .getfield 18, 17, 0, 1, 5, 0), (17, .iload_n 1, 18, 0, 0, 1, 0), (18, .iaload, 19, 0, 0, 0, 0), (19, .iload 5, 21, 0, 0, 5, 0), (21, .iload_n 3, 22, 0, 0, 3, 0), (22, .invokevirtual 63, 25, 0, 24, 0, 0), (25, .istore 6, 27, 0, 0, 6, 0), (27, .aload_n 0, 28, 0, 0, 0, 0), (28, .aload_n 0, 29, 0, 0, 0, 0), (29, .getfield 21, 32, 0, 1, 6, 0), (32, .iload_n 1, 33, 0, 0, 1, 0), (33, .iaload, 34, 0, 0, 0, 0), (34, .iload 5, 36, 0, 0, 5, 0), (36, .iload_n 3, 37, 0, 0, 3, 0), (37, .invokevirtual 63, 40, 0, 24, 0, 0), (40, .istore 7, 42, 0, 0, 7, 0), (42, .aload_n 0, 43, 0, 0, 0, 0), (43, .getfield 24, 46, 0, 1, 7, 0), (46, .iload_n 1, 47, 0, 0, 1, 0), (47, .iaload, 48, 0, 0, 0, 0), (48, .iload_n 2, 49, 0, 0, 2, 0), (49, .iload 7, 51, 0, 0, 7, 0), (51, .iload 6, 53, 0, 0, 6, 0), (53, .isub, 54, 0, 0, 0, 0), (54, .iload 5, 56, 0, 0, 5, 0), (56, .invokestatic 67, 59, 0, 29, 0, 0), (59, .ifCond .eq 12, 62, 0, 71, 0, 0), (62, .iload 4, 64, 0, 0, 4, 0), (64, .iconst 1, 65, 1, 0, 0, 0), (65, .iload 5, 67, 0, 0, 5, 0), (67, .ishl, 68, 0, 0, 0, 0), (68, .ior, 69, 0, 0, 0, 0), (69, .istore 4, 71, 0, 0, 4, 0), (71, .aload_n 0, 72, 0, 0, 0, 0), (72, .getfield 24, 75, 0, 1, 7, 0), (75, .iload_n 1, 76, 0, 0, 1, 0), (76, .iaload, 77, 0, 0, 0, 0), (77, .iload_n 2, 78, 0, 0, 2, 0), (78, .iload 6, 80, 0, 0, 6, 0), (80, .iload 7, 82, 0, 0, 7, 0), (82, .isub, 83, 0, 0, 0, 0), (83, .iload 5, 85, 0, 0, 5, 0), (85, .invokestatic 67, 88, 0, 29, 0, 0), (88, .ifCond .eq 12, 91, 0, 100, 0, 0), (91, .iload 4, 93, 0, 0, 4, 0), (93, .iconst 4, 94, 4, 0, 0, 0), (94, .iload 5, 96, 0, 0, 5, 0), (96, .ishl, 97, 0, 0, 0, 0), (97, .ior, 98, 0, 0, 0, 0), (98, .istore 4, 100, 0, 0, 4, 0), (100, .iinc 5 1, 103, 1, 0, 5, 0)]
def tb_X1_openings_1 : List pm_E := [(103, .goto (-97), 106, 0, 6, 0, 0), (106, .iload 4, 108, 0, 0, 4, 0), (108, .ireturn, 109, 0, 0, 0, 0)]
def tb_X1_openings : List pm_E := tb_X1_openings_0 ++ (tb_X1_openings_1)
def tb_X1_mayBeTaken : List pm_E := [(0, .iload_n 0, 1, 0, 0, 0, 0), (1, .tableswitch 92 0 3 #[31, 92, 61, 77], 32, 0, 93, 0, 0), (32, .iload_n 2, 33, 0, 0, 2, 0), (33, .ifCond .gt 23, 36, 0, 56, 0, 0), (36, .iload_n 1, 37, 0, 0, 1, 0), (37, .iconst 1, 38, 1, 0, 0, 0), (38, .if_icmp .ne 7, 41, 0, 45, 0, 0), (41, .iload_n 2, 42, 0, 0, 2, 0), (42, .ifCond .eq 14, 45, 0, 56, 0, 0), (45, .iload_n 1, 46, 0, 0, 1, 0), (46, .iconst 2, 47, 2, 0, 0, 0), (47, .if_icmp .ne 13, 50, 0, 60, 0, 0), (50, .iload_n 2, 51, 0, 0, 2, 0), (51, .bipush (-9), 53, -9, 0, 0, 0), (53, .if_icmp .lt 7, 56, 0, 60, 0, 0), (56, .iconst 1, 57, 1, 0, 0, 0), (57, .goto 4, 60, 0, 61, 0, 0), (60, .iconst 0, 61, 0, 0, 0, 0), (61, .ireturn, 62, 0, 0, 0, 0), (62, .iload_n 2, 63, 0, 0, 2, 0), (63, .ifCond .le 13, 66, 0, 76, 0, 0), (66, .iload_n 2, 67, 0, 0, 2, 0), (67, .bipush 20, 69, 20, 0, 0, 0), (69, .if_icmp .gt 7, 72, 0, 76, 0, 0), (72, .iconst 1, 73, 1, 0, 0, 0), (73, .goto 4, 76, 0, 77, 0, 0), (76, .iconst 0, 77, 0, 0, 0, 0), (77, .ireturn, 78, 0, 0, 0, 0), (78, .iload_n 2, 79, 0, 0, 2, 0), (79, .ifCond .gt 8, 82, 0, 87, 0, 0), (82, .iload_n 3, 83, 0, 0, 3, 0), (83, .iconst 1, 84, 1, 0, 0, 0), (84, .if_icmp .ne 7, 87, 0, 91, 0, 0), (87, .iconst 1, 88, 1, 0, 0, 0), (88, .goto 4, 91, 0, 92, 0, 0), (91, .iconst 0, 92, 0, 0, 0, 0), (92, .ireturn, 93, 0, 0, 0, 0), (93, .iload_n 0, 94, 0, 0, 0, 0), (94, .iconst 1, 95, 1, 0, 0, 0), (95, .if_icmp .ne 7, 98, 0, 102, 0, 0), (98, .iconst 1, 99, 1, 0, 0, 0), (99, .goto 4, 102, 0, 103, 0, 0), (102, .iconst 0, 103, 0, 0, 0, 0), (103, .ireturn, 104, 0, 0, 0, 0)]
def tb_X2_init : List pm_E := [(0, .aload_n 0, 1, 0, 0, 0, 0), (1, .invokespecial 3, 4, 0, 1000, 0, 0), (4, .aload_n 0, 5, 0, 0, 0, 0), (5, .bipush 12, 7, 12, 0, 0, 0), (7, .newarray .int, 9, 0, 0, 0, 0), (9, .putfield 9, 12, 0, 2, 0, 0), (12, .aload_n 0, 13, 0, 0, 0, 0), (13, .bipush 8, 15, 8, 0, 0, 0), (15, .newarray .int, 17, 0, 0, 0, 0), (17, .putfield 15, 20, 0, 2, 1, 0), (20, .return_, 21, 0, 0, 0, 0)]
def tb_X2_layAsItIs : List pm_E := [(0, .aload_n 0, 1, 0, 0, 0, 0), (1, .aload_n 1, 2, 0, 0, 1, 0), (2, .aload_n 1, 3, 0, 0, 1, 0), (3, .getfield 18, 6, 0, 1, 10, 0), (6, .aload_n 1, 7, 0, 0, 1, 0), (7, .getfield 24, 10, 0, 1, 3, 0), (10, .invokevirtual 27, 13, 0, 32, 0, 0), (13, .return_, 14, 0, 0, 0, 0)]
def tb_X2_lay : List pm_E := [(0, .iconst 0, 1, 0, 0, 0, 0), (1, .istore 4, 3, 0, 0, 4, 0), (3, .iload 4, 5, 0, 0, 4, 0), (5, .aload_n 1, 6, 0, 0, 1, 0), (6, .getfield 31, 9, 0, 1, 4, 0), (9, .if_icmp .ge 24, 12, 0, 33, 0, 0), (12, .aload_n 0, 13, 0, 0, 0, 0), (13, .getfield 9, 16, 0, 2, 0, 0), (16, .iload 4, 18, 0, 0, 4, 0), (18, .aload_n 1, 19, 0, 0, 1, 0), (19, .iload 4, 21, 0, 0, 4, 0), (21, .iload_n 2, 22, 0, 0, 2, 0), (22, .iload_n 3, 23, 0, 0, 3, 0), (23, .invokevirtual 34, 26, 0, 28, 0, 0), (26, .iastore, 27, 0, 0, 0, 0), (27, .iinc 4 1, 30, 1, 0, 4, 0), (30, .goto (-27), 33, 0, 3, 0, 0), (33, .return_, 34, 0, 0, 0, 0)]
def tb_X2_spread : List pm_E := [(0, .iconst 0, 1, 0, 0, 0, 0), (1, .istore 4, 3, 0, 0, 4, 0), (3, .iload 4, 5, 0, 0, 4, 0), (5, .bipush 8, 7, 8, 0, 0, 0), (7, .if_icmp .ge 27, 10, 0, 34, 0, 0), (10, .aload_n 0, 11, 0, 0, 0, 0), (11, .getfield 15, 14, 0, 2, 1, 0), (14, .iload 4, 16, 0, 0, 4, 0), (16, .iload 4, 18, 0, 0, 4, 0), (18, .iload_n 2, 19, 0, 0, 2, 0), (19, .if_icmp .ne 7, 22, 0, 26, 0, 0), (22, .iload_n 3, 23, 0, 0, 3, 0), (23, .goto 4, 26, 0, 27, 0, 0), (26, .iconst (-1), 27, -1, 0, 0, 0), (27, .iastore, 28, 0, 0, 0, 0), (28, .iinc 4 1, 31, 1, 0, 4, 0), (31, .goto (-28), 34, 0, 3, 0, 0), (34, .iconst 0, 35, 0, 0, 0, 0), (35, .istore 4, 37, 0, 0, 4, 0), (37, .iconst 0, 38, 0, 0, 0, 0), (38, .istore 5, 40, 0, 0, 5, 0), (40, .iload 5, 42, 0, 0, 5, 0), (42, .aload_n 1, 43, 0, 0, 1, 0), (43, .getfield 38, 46, 0, 1, 0, 0), (46, .if_icmp .ge 41, 49, 0, 87, 0, 0), (49, .aload_n 0, 50, 0, 0, 0, 0), (50, .aload_n 1, 51, 0, 0, 1, 0), (51, .iload 4, 53, 0, 0, 4, 0), (53, .invokevirtual 41, 56, 0, 34, 0, 0), (56, .istore 6, 58, 0, 0, 6, 0), (58, .iload 6, 60, 0, 0, 6, 0), (60, .iconst (-1), 61, -1, 0, 0, 0), (61, .if_icmp .ne 4, 64, 0, 65, 0, 0), (64, .return_, 65, 0, 0, 0, 0), (65, .iload 4, 67, 0, 0, 4, 0), (67, .iconst 1, 68, 1, 0, 0, 0), (68, .iload 6, 70, 0, 0, 6, 0), (70, .ishl, 71, 0, 0, 0, 0), (71, .ior, 72, 0, 0, 0, 0), (72, .istore 4, 74, 0, 0, 4, 0), (74, .aload_n 0, 75, 0, 0, 0, 0), (75, .aload_n 1, 76, 0, 0, 1, 0), (76, .iload 6, 78, 0, 0, 6, 0), (78, .invokevirtual 45, 81, 0, 35, 0, 0), (81, .iinc 5 1, 84, 1, 0, 5, 0), (84, .goto (-44), 87, 0, 40, 0, 0), (87, .return_, 88, 0, 0, 0, 0)]
def tb_X2_earliestBeside : List pm_E := [(0, .iconst (-1), 1, -1, 0, 0, 0), (1, .istore_n 3, 2, 0, 0, 3, 0), (2, .iconst 0, 3, 0, 0, 0, 0), (3, .istore 4, 5, 0, 0, 4, 0), (5, .iload 4, 7, 0, 0, 4, 0), (7, .aload_n 1, 8, 0, 0, 1, 0), (8, .getfield 38, 11, 0, 1, 0, 0), (11, .if_icmp .ge 65, 14, 0, 76, 0, 0), (14, .aload_n 0, 15, 0, 0, 0, 0), (15, .getfield 15, 18, 0, 2, 1, 0), (18, .iload 4, 20, 0, 0, 4, 0), (20, .iaload, 21, 0, 0, 0, 0), (21, .iconst (-1), 22, -1, 0, 0, 0), (22, .if_icmp .eq 16, 25, 0, 38, 0, 0), (25, .iload_n 2, 26, 0, 0, 2, 0), (26, .iload 4, 28, 0, 0, 4, 0), (28, .ishr, 29, 0, 0, 0, 0), (29, .iconst 1, 30, 1, 0, 0, 0), (30, .iand, 31, 0, 0, 0, 0), (31, .ifCond .ne 7, 34, 0, 38, 0, 0), (34, .iconst 1, 35, 1, 0, 0, 0), (35, .goto 4, 38, 0, 39, 0, 0), (38, .iconst 0, 39, 0, 0, 0, 0), (39, .istore 5, 41, 0, 0, 5, 0), (41, .iload 5, 43, 0, 0, 5, 0), (43, .ifCond .eq 27, 46, 0, 70, 0, 0), (46, .iload_n 3, 47, 0, 0, 3, 0), (47, .iconst (-1), 48, -1, 0, 0, 0), (48, .if_icmp .eq 19, 51, 0, 67, 0, 0), (51, .aload_n 0, 52, 0, 0, 0, 0), (52, .getfield 15, 55, 0, 2, 1, 0), (55, .iload 4, 57, 0, 0, 4, 0), (57, .iaload, 58, 0, 0, 0, 0), (58, .aload_n 0, 59, 0, 0, 0, 0), (59, .getfield 15, 62, 0, 2, 1, 0), (62, .iload_n 3, 63, 0, 0, 3, 0), (63, .iaload, 64, 0, 0, 0, 0), (64, .if_icmp .ge 6, 67, 0, 70, 0, 0), (67, .iload 4, 69, 0, 0, 4, 0), (69, .istore_n 3, 70, 0, 0, 3, 0), (70, .iinc 4 1, 73, 1, 0, 4, 0), (73, .goto (-68), 76, 0, 5, 0, 0), (76, .iload_n 3, 77, 0, 0, 3, 0), (77, .ireturn, 78, 0, 0, 0, 0)]
def tb_X2_goOnFrom : List pm_E := [(0, .iconst 0, 1, 0, 0, 0, 0), (1, .istore_n 3, 2, 0, 0, 3, 0), (2, .iload_n 3, 3, 0, 0, 3, 0), (3, .aload_n 1, 4, 0, 0, 1, 0), (4, .getfield 31, 7, 0, 1, 4, 0), (7, .if_icmp .ge 94, 10, 0, 101, 0, 0), (10, .aload_n 1, 11, 0, 0, 1, 0), (11, .iload_n 3, 12, 0, 0, 3, 0), (12, .iload_n 2, 13, 0, 0, 2, 0), (13, .invokevirtual 49, 16, 0, 26, 0, 0), (16, .ifCond .eq 19, 19, 0, 35, 0, 0), (19, .aload_n 0, 20, 0, 0, 0, 0), (20, .aload_n 1, 21, 0, 0, 1, 0), (21, .iload_n 3, 22, 0, 0, 3, 0), (22, .iload_n 2, 23, 0, 0, 2, 0), (23, .aload_n 0, 24, 0, 0, 0, 0), (24, .getfield 15, 27, 0, 2, 1, 0), (27, .iload_n 2, 28, 0, 0, 2, 0), (28, .iaload, 29, 0, 0, 0, 0), (29, .invokevirtual 53, 32, 0, 36, 0, 0), (32, .goto 4, 35, 0, 36, 0, 0), (35, .iconst (-1), 36, -1, 0, 0, 0), (36, .istore 4, 38, 0, 0, 4, 0), (38, .iload 4, 40, 0, 0, 4, 0), (40, .iconst (-1), 41, -1, 0, 0, 0), (41, .if_icmp .eq 54, 44, 0, 95, 0, 0), (44, .aload_n 1, 45, 0, 0, 1, 0), (45, .iload_n 3, 46, 0, 0, 3, 0), (46, .iload_n 2, 47, 0, 0, 2, 0), (47, .invokevirtual 57, 50, 0, 27, 0, 0), (50, .istore 5, 52, 0, 0, 5, 0), (52, .iload 4, 54, 0, 0, 4, 0), (54, .aload_n 1, 55, 0, 0, 1, 0), (55, .getfield 61, 58, 0, 1, 8, 0), (58, .iload_n 3, 59, 0, 0, 3, 0), (59, .iaload, 60, 0, 0, 0, 0), (60, .iadd, 61, 0, 0, 0, 0), (61, .istore 6, 63, 0, 0, 6, 0), (63, .aload_n 0, 64, 0, 0, 0, 0), (64, .getfield 15, 67, 0, 2, 1, 0), (67, .iload 5, 69, 0, 0, 5, 0), (69, .iaload, 70, 0, 0, 0, 0), (70, .iconst (-1), 71, -1, 0, 0, 0), (71, .if_icmp .eq 15, 74, 0, 86, 0, 0), (74, .iload 6, 76, 0, 0, 6, 0), (76, .aload_n 0, 77, 0, 0, 0, 0), (77, .getfield 15, 80, 0, 2, 1, 0), (80, .iload 5, 82, 0, 0, 5, 0), (82, .iaload, 83, 0, 0, 0, 0), (83, .if_icmp .ge 12, 86, 0, 95, 0, 0), (86, .aload_n 0, 87, 0, 0, 0, 0), (87, .getfield 15, 90, 0, 2, 1, 0), (90, .iload 5, 92, 0, 0, 5, 0), (92, .iload 6, 94, 0, 0, 6, 0), (94, .iastore, 95, 0, 0, 0, 0), (95, .iinc 3 1, 98, 1, 0, 3, 0), (98, .goto (-96), 101, 0, 2, 0, 0), (101, .return_, 102, 0, 0, 0, 0)]
def tb_X2_beginOf_0 : List pm_E := [(0, .aload_n 1, 1, 0, 0, 1, 0), (1, .getfield 64, 4, 0, 1, 5, 0), (4, .iload_n 2, 5, 0, 0, 2, 0), (5, .iaload, 6, 0, 0, 0, 0), (6, .iload_n 3, 7, 0, 0, 3, 0), (7, .if_icmp .ne 14, 10, 0, 21, 0, 0), (10, .aload_n 0, 11, 0, 0, 0, 0), (11, .getfield 9, 14, 0, 2, 0, 0), (14, .iload_n 2, 15, 0, 0, 2, 0), (15, .iaload, 16, 0, 0, 0, 0), (16, .iconst 3, 17, 3, 0, 0, 0), (17, .iand, 18, 0, 0, 0, 0), (18, .goto 11, 21, 0, 29, 0, 0), (21, .aload_n 0, 22, 0, 0, 0, 0), (22, .getfield 9, 25, 0, 2, 0, 0), (25, .iload_n 2, 26, 0, 0, 2, 0), (26, .iaload, 27, 0, 0, 0, 0), (27, .iconst 2, 28, 2, 0, 0, 0), (28, .ishr, 29, 0, 0, 0, 0), (29, .istore 5, 31, 0, 0, 5, 0), (31, .aload_n 1, 32, 0, 0, 1, 0), (32, .iload 4, 34, 0, 0, 4, 0), (34, .invokevirtual 67, 37, 0, 25, 0, 0), (37, .istore 6, 39, 0, 0, 6, 0), (39, .iload 6, 41, 0, 0, 6, 0), (41, .istore 7, 43, 0, 0, 7, 0), (43, .iload 7, 45, 0, 0, 7, 0), (45, .iload 6, 47, 0, 0, 6, 0), (47, .iconst 2, 48, 2, 0, 0, 0), (48, .iadd, 49, 0, 0, 0, 0), (49, .if_icmp .gt 72, 52, 0, 121, 0, 0), (52, .iload 4, 54, 0, 0, 4, 0), (54, .iload 7, 56, 0, 0, 7, 0), (56, .aload_n 1, 57, 0, 0, 1, 0), (57, .getfield 71, 60, 0, 1, 9, 0), (60, .imul, 61, 0, 0, 0, 0), (61, .invokestatic 74, 64, 0, 1001, 0, 0), (64, .istore 8, 66, 0, 0, 8, 0), (66, .iload 8, 68, 0, 0, 8, 0), (68, .aload_n 1, 69, 0, 0, 1, 0), (69, .getfield 61, 72, 0, 1, 8, 0), (72, .iload_n 2, 73, 0, 0, 2, 0), (73, .iaload, 74, 0, 0, 0, 0), (74, .iadd, 75, 0, 0, 0, 0), (75, .iload 7, 77, 0, 0, 7, 0), (77, .iconst 1, 78, 1, 0, 0, 0), (78, .iadd, 79, 0, 0, 0, 0), (79, .aload_n 1, 80, 0, 0, 1, 0), (80, .getfield 71, 83, 0, 1, 9, 0), (83, .imul, 84, 0, 0, 0, 0), (84, .if_icmp .gt 7, 87, 0, 91, 0, 0), (87, .iconst 1, 88, 1, 0, 0, 0), (88, .goto 4, 91, 0, 92, 0, 0), (91, .iconst 0, 92, 0, 0, 0, 0), (92, .istore 9, 94, 0, 0, 9, 0), (94, .iload 9, 96, 0, 0, 9, 0), (96, .ifCond .eq 19, 99, 0, 115, 0, 0), (99, .iload 5, 101, 0, 0, 5, 0), (101, .iload 7, 103, 0, 0, 7, 0), (103, .iconst 1, 104, 1, 0, 0, 0)]
def tb_X2_beginOf_1 : List pm_E := [(104, .iand, 105, 0, 0, 0, 0), (105, .ishr, 106, 0, 0, 0, 0), (106, .iconst 1, 107, 1, 0, 0, 0), (107, .iand, 108, 0, 0, 0, 0), (108, .iconst 1, 109, 1, 0, 0, 0), (109, .if_icmp .ne 6, 112, 0, 115, 0, 0), (112, .iload 8, 114, 0, 0, 8, 0), (114, .ireturn, 115, 0, 0, 0, 0), (115, .iinc 7 1, 118, 1, 0, 7, 0), (118, .goto (-75), 121, 0, 43, 0, 0), (121, .iconst (-1), 122, -1, 0, 0, 0), (122, .ireturn, 123, 0, 0, 0, 0)]
def tb_X2_beginOf : List pm_E := tb_X2_beginOf_0 ++ (tb_X2_beginOf_1)
def tb_X2_canBeginAt : List pm_E := [(0, .aload_n 1, 1, 0, 0, 1, 0), (1, .iload_n 2, 2, 0, 0, 2, 0), (2, .iload_n 3, 3, 0, 0, 3, 0), (3, .invokevirtual 49, 6, 0, 26, 0, 0), (6, .ifCond .eq 21, 9, 0, 27, 0, 0), (9, .aload_n 0, 10, 0, 0, 0, 0), (10, .aload_n 1, 11, 0, 0, 1, 0), (11, .iload_n 2, 12, 0, 0, 2, 0), (12, .iload_n 3, 13, 0, 0, 3, 0), (13, .iload 4, 15, 0, 0, 4, 0), (15, .invokevirtual 53, 18, 0, 36, 0, 0), (18, .iload 4, 20, 0, 0, 4, 0), (20, .if_icmp .ne 7, 23, 0, 27, 0, 0), (23, .iconst 1, 24, 1, 0, 0, 0), (24, .goto 4, 27, 0, 28, 0, 0), (27, .iconst 0, 28, 0, 0, 0, 0), (28, .ireturn, 29, 0, 0, 0, 0)]
def tb_X2_streetAtOnce : List pm_E := [(0, .iconst 0, 1, 0, 0, 0, 0), (1, .istore 5, 3, 0, 0, 5, 0), (3, .iload 5, 5, 0, 0, 5, 0), (5, .aload_n 1, 6, 0, 0, 1, 0), (6, .getfield 31, 9, 0, 1, 4, 0), (9, .if_icmp .ge 62, 12, 0, 71, 0, 0), (12, .iload_n 2, 13, 0, 0, 2, 0), (13, .iload_n 3, 14, 0, 0, 3, 0), (14, .if_icmp .eq 27, 17, 0, 41, 0, 0), (17, .aload_n 1, 18, 0, 0, 1, 0), (18, .iload 5, 20, 0, 0, 5, 0), (20, .iload_n 2, 21, 0, 0, 2, 0), (21, .invokevirtual 49, 24, 0, 26, 0, 0), (24, .ifCond .eq 17, 27, 0, 41, 0, 0), (27, .aload_n 1, 28, 0, 0, 1, 0), (28, .iload 5, 30, 0, 0, 5, 0), (30, .iload_n 3, 31, 0, 0, 3, 0), (31, .invokevirtual 49, 34, 0, 26, 0, 0), (34, .ifCond .eq 7, 37, 0, 41, 0, 0), (37, .iconst 1, 38, 1, 0, 0, 0), (38, .goto 4, 41, 0, 42, 0, 0), (41, .iconst 0, 42, 0, 0, 0, 0), (42, .istore 6, 44, 0, 0, 6, 0), (44, .iload 6, 46, 0, 0, 6, 0), (46, .ifCond .eq 19, 49, 0, 65, 0, 0), (49, .aload_n 0, 50, 0, 0, 0, 0), (50, .aload_n 1, 51, 0, 0, 1, 0), (51, .iload 5, 53, 0, 0, 5, 0), (53, .iload_n 2, 54, 0, 0, 2, 0), (54, .iload 4, 56, 0, 0, 4, 0), (56, .invokevirtual 79, 59, 0, 37, 0, 0), (59, .ifCond .eq 6, 62, 0, 65, 0, 0), (62, .iload 5, 64, 0, 0, 5, 0), (64, .ireturn, 65, 0, 0, 0, 0), (65, .iinc 5 1, 68, 1, 0, 5, 0), (68, .goto (-65), 71, 0, 3, 0, 0), (71, .iconst (-1), 72, -1, 0, 0, 0), (72, .ireturn, 73, 0, 0, 0, 0)]
def tb_X2_arrival : List pm_E := [(0, .aload_n 0, 1, 0, 0, 0, 0), (1, .aload_n 1, 2, 0, 0, 1, 0), (2, .iload_n 2, 3, 0, 0, 2, 0), (3, .iload 4, 5, 0, 0, 4, 0), (5, .invokevirtual 83, 8, 0, 33, 0, 0), (8, .aload_n 1, 9, 0, 0, 1, 0), (9, .iload_n 3, 10, 0, 0, 3, 0), (10, .invokevirtual 86, 13, 0, 19, 0, 0), (13, .ifCond .eq 12, 16, 0, 25, 0, 0), (16, .aload_n 0, 17, 0, 0, 0, 0), (17, .getfield 15, 20, 0, 2, 1, 0), (20, .iload_n 3, 21, 0, 0, 3, 0), (21, .iaload, 22, 0, 0, 0, 0), (22, .goto 4, 25, 0, 26, 0, 0), (25, .iconst (-1), 26, -1, 0, 0, 0), (26, .ireturn, 27, 0, 0, 0, 0)]
def tb_X2_thereBy : List pm_E := [(0, .iconst 0, 1, 0, 0, 0, 0), (1, .istore_n 3, 2, 0, 0, 3, 0), (2, .iconst 0, 3, 0, 0, 0, 0), (3, .istore 4, 5, 0, 0, 4, 0), (5, .iload 4, 7, 0, 0, 4, 0), (7, .aload_n 1, 8, 0, 0, 1, 0), (8, .getfield 38, 11, 0, 1, 0, 0), (11, .if_icmp .ge 38, 14, 0, 49, 0, 0), (14, .aload_n 0, 15, 0, 0, 0, 0), (15, .getfield 15, 18, 0, 2, 1, 0), (18, .iload 4, 20, 0, 0, 4, 0), (20, .iaload, 21, 0, 0, 0, 0), (21, .iconst (-1), 22, -1, 0, 0, 0), (22, .if_icmp .eq 21, 25, 0, 43, 0, 0), (25, .aload_n 0, 26, 0, 0, 0, 0), (26, .getfield 15, 29, 0, 2, 1, 0), (29, .iload 4, 31, 0, 0, 4, 0), (31, .iaload, 32, 0, 0, 0, 0), (32, .iload_n 2, 33, 0, 0, 2, 0), (33, .if_icmp .gt 10, 36, 0, 43, 0, 0), (36, .iload_n 3, 37, 0, 0, 3, 0), (37, .iconst 1, 38, 1, 0, 0, 0), (38, .iload 4, 40, 0, 0, 4, 0), (40, .ishl, 41, 0, 0, 0, 0), (41, .ior, 42, 0, 0, 0, 0), (42, .istore_n 3, 43, 0, 0, 3, 0), (43, .iinc 4 1, 46, 1, 0, 4, 0), (46, .goto (-41), 49, 0, 5, 0, 0), (49, .iload_n 3, 50, 0, 0, 3, 0), (50, .ireturn, 51, 0, 0, 0, 0)]
def tb_X2_servedErrands : List pm_E := [(0, .iconst 0, 1, 0, 0, 0, 0), (1, .istore_n 2, 2, 0, 0, 2, 0), (2, .iconst 0, 3, 0, 0, 0, 0), (3, .istore_n 3, 4, 0, 0, 3, 0), (4, .iload_n 3, 5, 0, 0, 3, 0), (5, .aload_n 1, 6, 0, 0, 1, 0), (6, .getfield 90, 9, 0, 1, 11, 0), (9, .if_icmp .ge 24, 12, 0, 33, 0, 0), (12, .aload_n 0, 13, 0, 0, 0, 0), (13, .aload_n 1, 14, 0, 0, 1, 0), (14, .iload_n 3, 15, 0, 0, 3, 0), (15, .invokevirtual 93, 18, 0, 43, 0, 0), (18, .ifCond .eq 9, 21, 0, 27, 0, 0), (21, .iload_n 2, 22, 0, 0, 2, 0), (22, .iconst 1, 23, 1, 0, 0, 0), (23, .iload_n 3, 24, 0, 0, 3, 0), (24, .ishl, 25, 0, 0, 0, 0), (25, .ior, 26, 0, 0, 0, 0), (26, .istore_n 2, 27, 0, 0, 2, 0), (27, .iinc 3 1, 30, 1, 0, 3, 0), (30, .goto (-26), 33, 0, 4, 0, 0), (33, .iload_n 2, 34, 0, 0, 2, 0), (34, .ireturn, 35, 0, 0, 0, 0)]
def tb_X2_servesAll : List pm_E := [(0, .iconst 0, 1, 0, 0, 0, 0), (1, .istore_n 2, 2, 0, 0, 2, 0), (2, .iload_n 2, 3, 0, 0, 2, 0), (3, .aload_n 1, 4, 0, 0, 1, 0), (4, .getfield 90, 7, 0, 1, 11, 0), (7, .if_icmp .ge 20, 10, 0, 27, 0, 0), (10, .aload_n 0, 11, 0, 0, 0, 0), (11, .aload_n 1, 12, 0, 0, 1, 0), (12, .iload_n 2, 13, 0, 0, 2, 0), (13, .invokevirtual 93, 16, 0, 43, 0, 0), (16, .ifCond .ne 5, 19, 0, 21, 0, 0), (19, .iconst 0, 20, 0, 0, 0, 0), (20, .ireturn, 21, 0, 0, 0, 0), (21, .iinc 2 1, 24, 1, 0, 2, 0), (24, .goto (-22), 27, 0, 2, 0, 0), (27, .iconst 1, 28, 1, 0, 0, 0), (28, .ireturn, 29, 0, 0, 0, 0)]
def tb_X2_serves : List pm_E := [(0, .aload_n 0, 1, 0, 0, 0, 0), (1, .aload_n 1, 2, 0, 0, 1, 0), (2, .aload_n 1, 3, 0, 0, 1, 0), (3, .getfield 97, 6, 0, 1, 12, 0), (6, .iload_n 2, 7, 0, 0, 2, 0), (7, .iaload, 8, 0, 0, 0, 0), (8, .iconst 0, 9, 0, 0, 0, 0), (9, .invokevirtual 83, 12, 0, 33, 0, 0), (12, .aload_n 0, 13, 0, 0, 0, 0), (13, .aload_n 1, 14, 0, 0, 1, 0), (14, .iconst 2, 15, 2, 0, 0, 0), (15, .aload_n 1, 16, 0, 0, 1, 0), (16, .getfield 71, 19, 0, 1, 9, 0), (19, .imul, 20, 0, 0, 0, 0), (20, .invokevirtual 100, 23, 0, 40, 0, 0), (23, .istore_n 3, 24, 0, 0, 3, 0), (24, .iload_n 3, 25, 0, 0, 3, 0), (25, .aload_n 1, 26, 0, 0, 1, 0), (26, .getfield 103, 29, 0, 1, 13, 0), (29, .iload_n 2, 30, 0, 0, 2, 0), (30, .iaload, 31, 0, 0, 0, 0), (31, .ishr, 32, 0, 0, 0, 0), (32, .iconst 1, 33, 1, 0, 0, 0), (33, .iand, 34, 0, 0, 0, 0), (34, .iconst 1, 35, 1, 0, 0, 0), (35, .if_icmp .ne 7, 38, 0, 42, 0, 0), (38, .iconst 1, 39, 1, 0, 0, 0), (39, .goto 4, 42, 0, 43, 0, 0), (42, .iconst 0, 43, 0, 0, 0, 0), (43, .ireturn, 44, 0, 0, 0, 0)]
def tb_X3_init : List pm_E := [(0, .aload_n 0, 1, 0, 0, 0, 0), (1, .invokespecial 1, 4, 0, 1000, 0, 0), (4, .aload_n 0, 5, 0, 0, 0, 0), (5, .new 7, 8, 0, 0, 0, 0), (8, .dup, 9, 0, 0, 0, 0), (9, .invokespecial 9, 12, 0, 0, 0, 0), (12, .putfield 10, 15, 0, 3, 0, 0), (15, .aload_n 0, 16, 0, 0, 0, 0), (16, .new 16, 19, 0, 2, 0, 0), (19, .dup, 20, 0, 0, 0, 0), (20, .invokespecial 18, 23, 0, 30, 0, 0), (23, .putfield 19, 26, 0, 3, 1, 0), (26, .aload_n 0, 27, 0, 0, 0, 0), (27, .new 23, 30, 0, 1, 0, 0), (30, .dup, 31, 0, 0, 0, 0), (31, .invokespecial 25, 34, 0, 16, 0, 0), (34, .putfield 26, 37, 0, 3, 2, 0), (37, .aload_n 0, 38, 0, 0, 0, 0), (38, .new 23, 41, 0, 1, 0, 0), (41, .dup, 42, 0, 0, 0, 0), (42, .invokespecial 25, 45, 0, 16, 0, 0), (45, .putfield 30, 48, 0, 3, 3, 0), (48, .aload_n 0, 49, 0, 0, 0, 0), (49, .iconst 2, 50, 2, 0, 0, 0), (50, .newarray .int, 52, 0, 0, 0, 0), (52, .putfield 33, 55, 0, 3, 6, 0), (55, .aload_n 0, 56, 0, 0, 0, 0), (56, .iconst 2, 57, 2, 0, 0, 0), (57, .newarray .int, 59, 0, 0, 0, 0), (59, .putfield 37, 62, 0, 3, 7, 0), (62, .aload_n 0, 63, 0, 0, 0, 0), (63, .bipush 12, 65, 12, 0, 0, 0), (65, .newarray .int, 67, 0, 0, 0, 0), (67, .putfield 40, 70, 0, 3, 8, 0), (70, .aload_n 0, 71, 0, 0, 0, 0), (71, .bipush 12, 73, 12, 0, 0, 0), (73, .newarray .int, 75, 0, 0, 0, 0), (75, .putfield 43, 78, 0, 3, 10, 0), (78, .aload_n 0, 79, 0, 0, 0, 0), (79, .bipush 12, 81, 12, 0, 0, 0), (81, .newarray .int, 83, 0, 0, 0, 0), (83, .putfield 46, 86, 0, 3, 11, 0), (86, .aload_n 0, 87, 0, 0, 0, 0), (87, .bipush 12, 89, 12, 0, 0, 0), (89, .newarray .int, 91, 0, 0, 0, 0), (91, .putfield 49, 94, 0, 3, 12, 0), (94, .aload_n 0, 95, 0, 0, 0, 0), (95, .invokevirtual 52, 98, 0, 72, 0, 0), (98, .return_, 99, 0, 0, 0, 0)]
def tb_X3_write : List pm_E := [(0, .iload_n 3, 1, 0, 0, 3, 0), (1, .iconst 1, 2, 1, 0, 0, 0), (2, .if_icmp .lt 9, 5, 0, 11, 0, 0), (5, .iload_n 3, 6, 0, 0, 3, 0), (6, .bipush 8, 8, 8, 0, 0, 0), (8, .if_icmp .le 6, 11, 0, 14, 0, 0), (11, .bipush (-3), 13, -3, 0, 0, 0), (13, .ireturn, 14, 0, 0, 0, 0), (14, .aload_n 0, 15, 0, 0, 0, 0), (15, .getfield 10, 18, 0, 3, 0, 0), (18, .getfield 55, 21, 0, 0, 1, 0), (21, .iload_n 3, 22, 0, 0, 3, 0), (22, .iadd, 23, 0, 0, 0, 0), (23, .sipush 200, 26, 200, 0, 0, 0), (26, .if_icmp .le 6, 29, 0, 32, 0, 0), (29, .bipush (-5), 31, -5, 0, 0, 0), (31, .ireturn, 32, 0, 0, 0, 0), (32, .iconst 0, 33, 0, 0, 0, 0), (33, .istore 4, 35, 0, 0, 4, 0), (35, .iload 4, 37, 0, 0, 4, 0), (37, .iload_n 3, 38, 0, 0, 3, 0), (38, .if_icmp .ge 28, 41, 0, 66, 0, 0), (41, .aload_n 0, 42, 0, 0, 0, 0), (42, .getfield 10, 45, 0, 3, 0, 0), (45, .lload_n 1, 46, 0, 0, 1, 0), (46, .bipush 8, 48, 8, 0, 0, 0), (48, .iload 4, 50, 0, 0, 4, 0), (50, .imul, 51, 0, 0, 0, 0), (51, .lshr, 52, 0, 0, 0, 0), (52, .ldc2_w 59, 55, 0, 0, 0, 255), (55, .land, 56, 0, 0, 0, 0), (56, .l2i, 57, 0, 0, 0, 0), (57, .invokevirtual 61, 60, 0, 1, 0, 0), (60, .iinc 4 1, 63, 1, 0, 4, 0), (63, .goto (-28), 66, 0, 35, 0, 0), (66, .aload_n 0, 67, 0, 0, 0, 0), (67, .getfield 10, 70, 0, 3, 0, 0), (70, .getfield 55, 73, 0, 0, 1, 0), (73, .ireturn, 74, 0, 0, 0, 0)]
def tb_X3_erase : List pm_E := [(0, .aload_n 0, 1, 0, 0, 0, 0), (1, .getfield 10, 4, 0, 3, 0, 0), (4, .getfield 55, 7, 0, 0, 1, 0), (7, .istore_n 1, 8, 0, 0, 1, 0), (8, .aload_n 0, 9, 0, 0, 0, 0), (9, .getfield 10, 12, 0, 3, 0, 0), (12, .iconst 0, 13, 0, 0, 0, 0), (13, .putfield 55, 16, 0, 0, 1, 0), (16, .iload_n 1, 17, 0, 0, 1, 0), (17, .ireturn, 18, 0, 0, 0, 0)]
def tb_X3_fault : List pm_E := [(0, .aload_n 0, 1, 0, 0, 0, 0), (1, .getfield 30, 4, 0, 3, 3, 0), (4, .aload_n 0, 5, 0, 0, 0, 0), (5, .getfield 26, 8, 0, 3, 2, 0), (8, .invokevirtual 65, 11, 0, 18, 0, 0), (11, .aload_n 0, 12, 0, 0, 0, 0), (12, .getfield 10, 15, 0, 3, 0, 0), (15, .aload_n 0, 16, 0, 0, 0, 0), (16, .getfield 30, 19, 0, 3, 3, 0), (19, .invokevirtual 69, 22, 0, 2, 0, 0), (22, .ireturn, 23, 0, 0, 0, 0)]
def tb_X3_town : List pm_E := [(0, .aload_n 0, 1, 0, 0, 0, 0), (1, .getfield 30, 4, 0, 3, 3, 0), (4, .aload_n 0, 5, 0, 0, 0, 0), (5, .getfield 26, 8, 0, 3, 2, 0), (8, .invokevirtual 65, 11, 0, 18, 0, 0), (11, .aload_n 0, 12, 0, 0, 0, 0), (12, .getfield 10, 15, 0, 3, 0, 0), (15, .aload_n 0, 16, 0, 0, 0, 0), (16, .getfield 30, 19, 0, 3, 3, 0), (19, .invokevirtual 69, 22, 0, 2, 0, 0), (22, .iconst (-1), 23, -1, 0, 0, 0), (23, .if_icmp .eq 6, 26, 0, 29, 0, 0), (26, .bipush (-4), 28, -4, 0, 0, 0), (28, .ireturn, 29, 0, 0, 0, 0), (29, .aload_n 0, 30, 0, 0, 0, 0), (30, .getfield 26, 33, 0, 3, 2, 0), (33, .astore_n 1, 34, 0, 0, 1, 0), (34, .aload_n 0, 35, 0, 0, 0, 0), (35, .aload_n 0, 36, 0, 0, 0, 0), (36, .getfield 30, 39, 0, 3, 3, 0), (39, .putfield 26, 42, 0, 3, 2, 0), (42, .aload_n 0, 43, 0, 0, 0, 0), (43, .aload_n 1, 44, 0, 0, 1, 0), (44, .putfield 30, 47, 0, 3, 3, 0), (47, .aload_n 0, 48, 0, 0, 0, 0), (48, .getfield 10, 51, 0, 3, 0, 0), (51, .iconst 0, 52, 0, 0, 0, 0), (52, .putfield 55, 55, 0, 0, 1, 0), (55, .aload_n 0, 56, 0, 0, 0, 0), (56, .invokevirtual 52, 59, 0, 72, 0, 0), (59, .aload_n 0, 60, 0, 0, 0, 0), (60, .getfield 10, 63, 0, 3, 0, 0), (63, .getfield 73, 66, 0, 0, 2, 0), (66, .ireturn, 67, 0, 0, 0, 0)]
def tb_X3_corner : List pm_E := [(0, .aload_n 0, 1, 0, 0, 0, 0), (1, .getfield 26, 4, 0, 3, 2, 0), (4, .iload_n 1, 5, 0, 0, 1, 0), (5, .invokevirtual 76, 8, 0, 19, 0, 0), (8, .ifCond .ne 6, 11, 0, 14, 0, 0), (11, .bipush (-2), 13, -2, 0, 0, 0), (13, .ireturn, 14, 0, 0, 0, 0), (14, .iload_n 2, 15, 0, 0, 2, 0), (15, .tableswitch 54 0 2 #[25, 25, 42], 40, 0, 69, 0, 0), (40, .aload_n 0, 41, 0, 0, 0, 0), (41, .getfield 26, 44, 0, 3, 2, 0), (44, .iload_n 1, 45, 0, 0, 1, 0), (45, .iload_n 2, 46, 0, 0, 2, 0), (46, .aload_n 0, 47, 0, 0, 0, 0), (47, .getfield 26, 50, 0, 3, 2, 0), (50, .getfield 80, 53, 0, 1, 3, 0), (53, .invokevirtual 83, 56, 0, 24, 0, 0), (56, .ireturn, 57, 0, 0, 0, 0), (57, .aload_n 0, 58, 0, 0, 0, 0), (58, .getfield 26, 61, 0, 3, 2, 0), (61, .getfield 80, 64, 0, 1, 3, 0), (64, .iload_n 1, 65, 0, 0, 1, 0), (65, .ishr, 66, 0, 0, 0, 0), (66, .iconst 1, 67, 1, 0, 0, 0), (67, .iand, 68, 0, 0, 0, 0), (68, .ireturn, 69, 0, 0, 0, 0), (69, .bipush (-3), 71, -3, 0, 0, 0), (71, .ireturn, 72, 0, 0, 0, 0)]
def tb_X3_street : List pm_E := [(0, .aload_n 0, 1, 0, 0, 0, 0), (1, .getfield 26, 4, 0, 3, 2, 0), (4, .iload_n 1, 5, 0, 0, 1, 0), (5, .invokevirtual 87, 8, 0, 20, 0, 0), (8, .ifCond .ne 6, 11, 0, 14, 0, 0), (11, .bipush (-2), 13, -2, 0, 0, 0), (13, .ireturn, 14, 0, 0, 0, 0), (14, .iload_n 2, 15, 0, 0, 2, 0), (15, .tableswitch 69 0 3 #[29, 39, 49, 59], 44, 0, 84, 0, 0), (44, .aload_n 0, 45, 0, 0, 0, 0), (45, .getfield 26, 48, 0, 3, 2, 0), (48, .getfield 90, 51, 0, 1, 5, 0), (51, .iload_n 1, 52, 0, 0, 1, 0), (52, .iaload, 53, 0, 0, 0, 0), (53, .ireturn, 54, 0, 0, 0, 0), (54, .aload_n 0, 55, 0, 0, 0, 0), (55, .getfield 26, 58, 0, 3, 2, 0), (58, .getfield 93, 61, 0, 1, 6, 0), (61, .iload_n 1, 62, 0, 0, 1, 0), (62, .iaload, 63, 0, 0, 0, 0), (63, .ireturn, 64, 0, 0, 0, 0), (64, .aload_n 0, 65, 0, 0, 0, 0), (65, .getfield 26, 68, 0, 3, 2, 0), (68, .getfield 96, 71, 0, 1, 7, 0), (71, .iload_n 1, 72, 0, 0, 1, 0), (72, .iaload, 73, 0, 0, 0, 0), (73, .ireturn, 74, 0, 0, 0, 0), (74, .aload_n 0, 75, 0, 0, 0, 0), (75, .getfield 26, 78, 0, 3, 2, 0), (78, .getfield 99, 81, 0, 1, 8, 0), (81, .iload_n 1, 82, 0, 0, 1, 0), (82, .iaload, 83, 0, 0, 0, 0), (83, .ireturn, 84, 0, 0, 0, 0), (84, .bipush (-3), 86, -3, 0, 0, 0), (86, .ireturn, 87, 0, 0, 0, 0)]
def tb_X3_as : List pm_E := [(0, .aload_n 0, 1, 0, 0, 0, 0), (1, .getfield 26, 4, 0, 3, 2, 0), (4, .iload_n 1, 5, 0, 0, 1, 0), (5, .invokevirtual 87, 8, 0, 20, 0, 0), (8, .ifCond .ne 6, 11, 0, 14, 0, 0), (11, .bipush (-2), 13, -2, 0, 0, 0), (13, .ireturn, 14, 0, 0, 0, 0), (14, .iload_n 2, 15, 0, 0, 2, 0), (15, .ifCond .lt 8, 18, 0, 23, 0, 0), (18, .iload_n 2, 19, 0, 0, 2, 0), (19, .iconst 5, 20, 5, 0, 0, 0), (20, .if_icmp .lt 6, 23, 0, 26, 0, 0), (23, .bipush (-3), 25, -3, 0, 0, 0), (25, .ireturn, 26, 0, 0, 0, 0), (26, .aload_n 0, 27, 0, 0, 0, 0), (27, .getfield 26, 30, 0, 3, 2, 0), (30, .getfield 96, 33, 0, 1, 7, 0), (33, .iload_n 1, 34, 0, 0, 1, 0), (34, .iaload, 35, 0, 0, 0, 0), (35, .iload_n 2, 36, 0, 0, 2, 0), (36, .invokestatic 102, 39, 0, 75, 0, 0), (39, .ifCond .ne 6, 42, 0, 45, 0, 0), (42, .bipush (-4), 44, -4, 0, 0, 0), (44, .ireturn, 45, 0, 0, 0, 0), (45, .aload_n 0, 46, 0, 0, 0, 0), (46, .getfield 26, 49, 0, 3, 2, 0), (49, .iload_n 1, 50, 0, 0, 1, 0), (50, .aload_n 0, 51, 0, 0, 0, 0), (51, .getfield 26, 54, 0, 3, 2, 0), (54, .getfield 106, 57, 0, 1, 10, 0), (57, .aload_n 0, 58, 0, 0, 0, 0), (58, .getfield 26, 61, 0, 3, 2, 0), (61, .getfield 80, 64, 0, 1, 3, 0), (64, .invokevirtual 109, 67, 0, 28, 0, 0), (67, .ireturn, 68, 0, 0, 0, 0)]
def tb_X3_go_0 : List pm_E := [(0, .aload_n 0, 1, 0, 0, 0, 0), (1, .getfield 26, 4, 0, 3, 2, 0), (4, .iload_n 1, 5, 0, 0, 1, 0), (5, .invokevirtual 87, 8, 0, 20, 0, 0), (8, .ifCond .ne 6, 11, 0, 14, 0, 0), (11, .bipush (-2), 13, -2, 0, 0, 0), (13, .ireturn, 14, 0, 0, 0, 0), (14, .aload_n 0, 15, 0, 0, 0, 0), (15, .getfield 26, 18, 0, 3, 2, 0), (18, .iload_n 1, 19, 0, 0, 1, 0), (19, .aload_n 0, 20, 0, 0, 0, 0), (20, .getfield 112, 23, 0, 3, 4, 0), (23, .invokevirtual 115, 26, 0, 26, 0, 0), (26, .ifCond .ne 6, 29, 0, 32, 0, 0), (29, .bipush (-4), 31, -4, 0, 0, 0), (31, .ireturn, 32, 0, 0, 0, 0), (32, .aload_n 0, 33, 0, 0, 0, 0), (33, .getfield 19, 36, 0, 3, 1, 0), (36, .aload_n 0, 37, 0, 0, 0, 0), (37, .getfield 26, 40, 0, 3, 2, 0), (40, .invokevirtual 118, 43, 0, 31, 0, 0), (43, .aload_n 0, 44, 0, 0, 0, 0), (44, .getfield 19, 47, 0, 3, 1, 0), (47, .aload_n 0, 48, 0, 0, 0, 0), (48, .getfield 26, 51, 0, 3, 2, 0), (51, .iload_n 1, 52, 0, 0, 1, 0), (52, .aload_n 0, 53, 0, 0, 0, 0), (53, .getfield 112, 56, 0, 3, 4, 0), (56, .aload_n 0, 57, 0, 0, 0, 0), (57, .getfield 121, 60, 0, 3, 5, 0), (60, .invokevirtual 124, 63, 0, 37, 0, 0), (63, .ifCond .ne 6, 66, 0, 69, 0, 0), (66, .bipush (-4), 68, -4, 0, 0, 0), (68, .ireturn, 69, 0, 0, 0, 0), (69, .aload_n 0, 70, 0, 0, 0, 0), (70, .getfield 121, 73, 0, 3, 5, 0), (73, .aload_n 0, 74, 0, 0, 0, 0), (74, .getfield 26, 77, 0, 3, 2, 0), (77, .getfield 99, 80, 0, 1, 8, 0), (80, .iload_n 1, 81, 0, 0, 1, 0), (81, .iaload, 82, 0, 0, 0, 0), (82, .iadd, 83, 0, 0, 0, 0), (83, .ldc 128, 85, 99999, 0, 0, 0), (85, .if_icmp .le 6, 88, 0, 91, 0, 0), (88, .bipush (-5), 90, -5, 0, 0, 0), (90, .ireturn, 91, 0, 0, 0, 0), (91, .aload_n 0, 92, 0, 0, 0, 0), (92, .dup, 93, 0, 0, 0, 0), (93, .getfield 121, 96, 0, 3, 5, 0), (96, .aload_n 0, 97, 0, 0, 0, 0), (97, .getfield 26, 100, 0, 3, 2, 0), (100, .getfield 99, 103, 0, 1, 8, 0), (103, .iload_n 1, 104, 0, 0, 1, 0), (104, .iaload, 105, 0, 0, 0, 0), (105, .iadd, 106, 0, 0, 0, 0), (106, .putfield 121, 109, 0, 3, 5, 0), (109, .aload_n 0, 110, 0, 0, 0, 0), (110, .aload_n 0, 111, 0, 0, 0, 0), (111, .getfield 26, 114, 0, 3, 2, 0), (114, .iload_n 1, 115, 0, 0, 1, 0)]
def tb_X3_go_1 : List pm_E := [(115, .aload_n 0, 116, 0, 0, 0, 0), (116, .getfield 112, 119, 0, 3, 4, 0), (119, .invokevirtual 129, 122, 0, 27, 0, 0), (122, .putfield 112, 125, 0, 3, 4, 0), (125, .aload_n 0, 126, 0, 0, 0, 0), (126, .getfield 121, 129, 0, 3, 5, 0), (129, .ireturn, 130, 0, 0, 0, 0)]
def tb_X3_go : List pm_E := tb_X3_go_0 ++ (tb_X3_go_1)
def tb_X3_rest : List pm_E := [(0, .iload_n 1, 1, 0, 0, 1, 0), (1, .iconst 1, 2, 1, 0, 0, 0), (2, .if_icmp .lt 10, 5, 0, 12, 0, 0), (5, .iload_n 1, 6, 0, 0, 1, 0), (6, .sipush 9999, 9, 9999, 0, 0, 0), (9, .if_icmp .le 6, 12, 0, 15, 0, 0), (12, .bipush (-3), 14, -3, 0, 0, 0), (14, .ireturn, 15, 0, 0, 0, 0), (15, .aload_n 0, 16, 0, 0, 0, 0), (16, .getfield 121, 19, 0, 3, 5, 0), (19, .iload_n 1, 20, 0, 0, 1, 0), (20, .iadd, 21, 0, 0, 0, 0), (21, .ldc 128, 23, 99999, 0, 0, 0), (23, .if_icmp .le 6, 26, 0, 29, 0, 0), (26, .bipush (-5), 28, -5, 0, 0, 0), (28, .ireturn, 29, 0, 0, 0, 0), (29, .aload_n 0, 30, 0, 0, 0, 0), (30, .dup, 31, 0, 0, 0, 0), (31, .getfield 121, 34, 0, 3, 5, 0), (34, .iload_n 1, 35, 0, 0, 1, 0), (35, .iadd, 36, 0, 0, 0, 0), (36, .putfield 121, 39, 0, 3, 5, 0), (39, .aload_n 0, 40, 0, 0, 0, 0), (40, .getfield 121, 43, 0, 3, 5, 0), (43, .ireturn, 44, 0, 0, 0, 0)]
def tb_X3_here : List pm_E := [(0, .iload_n 1, 1, 0, 0, 1, 0), (1, .tableswitch 82 0 3 #[31, 36, 41, 55], 32, 0, 83, 0, 0), (32, .aload_n 0, 33, 0, 0, 0, 0), (33, .getfield 112, 36, 0, 3, 4, 0), (36, .ireturn, 37, 0, 0, 0, 0), (37, .aload_n 0, 38, 0, 0, 0, 0), (38, .getfield 121, 41, 0, 3, 5, 0), (41, .ireturn, 42, 0, 0, 0, 0), (42, .aload_n 0, 43, 0, 0, 0, 0), (43, .getfield 26, 46, 0, 3, 2, 0), (46, .aload_n 0, 47, 0, 0, 0, 0), (47, .getfield 121, 50, 0, 3, 5, 0), (50, .invokevirtual 133, 53, 0, 25, 0, 0), (53, .iconst 1, 54, 1, 0, 0, 0), (54, .iand, 55, 0, 0, 0, 0), (55, .ireturn, 56, 0, 0, 0, 0), (56, .aload_n 0, 57, 0, 0, 0, 0), (57, .getfield 26, 60, 0, 3, 2, 0), (60, .aload_n 0, 61, 0, 0, 0, 0), (61, .getfield 121, 64, 0, 3, 5, 0), (64, .invokevirtual 133, 67, 0, 25, 0, 0), (67, .iconst 1, 68, 1, 0, 0, 0), (68, .iadd, 69, 0, 0, 0, 0), (69, .aload_n 0, 70, 0, 0, 0, 0), (70, .getfield 26, 73, 0, 3, 2, 0), (73, .getfield 137, 76, 0, 1, 9, 0), (76, .imul, 77, 0, 0, 0, 0), (77, .aload_n 0, 78, 0, 0, 0, 0), (78, .getfield 121, 81, 0, 3, 5, 0), (81, .isub, 82, 0, 0, 0, 0), (82, .ireturn, 83, 0, 0, 0, 0), (83, .bipush (-3), 85, -3, 0, 0, 0), (85, .ireturn, 86, 0, 0, 0, 0)]
def tb_X3_keep : List pm_E := [(0, .iload_n 1, 1, 0, 0, 1, 0), (1, .ifCond .lt 8, 4, 0, 9, 0, 0), (4, .iload_n 1, 5, 0, 0, 1, 0), (5, .iconst 2, 6, 2, 0, 0, 0), (6, .if_icmp .lt 6, 9, 0, 12, 0, 0), (9, .bipush (-2), 11, -2, 0, 0, 0), (11, .ireturn, 12, 0, 0, 0, 0), (12, .aload_n 0, 13, 0, 0, 0, 0), (13, .getfield 33, 16, 0, 3, 6, 0), (16, .iload_n 1, 17, 0, 0, 1, 0), (17, .aload_n 0, 18, 0, 0, 0, 0), (18, .getfield 112, 21, 0, 3, 4, 0), (21, .iastore, 22, 0, 0, 0, 0), (22, .aload_n 0, 23, 0, 0, 0, 0), (23, .getfield 37, 26, 0, 3, 7, 0), (26, .iload_n 1, 27, 0, 0, 1, 0), (27, .aload_n 0, 28, 0, 0, 0, 0), (28, .getfield 121, 31, 0, 3, 5, 0), (31, .iastore, 32, 0, 0, 0, 0), (32, .aload_n 0, 33, 0, 0, 0, 0), (33, .getfield 121, 36, 0, 3, 5, 0), (36, .ireturn, 37, 0, 0, 0, 0)]
def tb_X3_back : List pm_E := [(0, .iload_n 1, 1, 0, 0, 1, 0), (1, .ifCond .lt 8, 4, 0, 9, 0, 0), (4, .iload_n 1, 5, 0, 0, 1, 0), (5, .iconst 2, 6, 2, 0, 0, 0), (6, .if_icmp .lt 6, 9, 0, 12, 0, 0), (9, .bipush (-2), 11, -2, 0, 0, 0), (11, .ireturn, 12, 0, 0, 0, 0), (12, .aload_n 0, 13, 0, 0, 0, 0), (13, .getfield 37, 16, 0, 3, 7, 0), (16, .iload_n 1, 17, 0, 0, 1, 0), (17, .iaload, 18, 0, 0, 0, 0), (18, .iconst (-1), 19, -1, 0, 0, 0), (19, .if_icmp .ne 6, 22, 0, 25, 0, 0), (22, .bipush (-4), 24, -4, 0, 0, 0), (24, .ireturn, 25, 0, 0, 0, 0), (25, .aload_n 0, 26, 0, 0, 0, 0), (26, .aload_n 0, 27, 0, 0, 0, 0), (27, .getfield 33, 30, 0, 3, 6, 0), (30, .iload_n 1, 31, 0, 0, 1, 0), (31, .iaload, 32, 0, 0, 0, 0), (32, .putfield 112, 35, 0, 3, 4, 0), (35, .aload_n 0, 36, 0, 0, 0, 0), (36, .aload_n 0, 37, 0, 0, 0, 0), (37, .getfield 37, 40, 0, 3, 7, 0), (40, .iload_n 1, 41, 0, 0, 1, 0), (41, .iaload, 42, 0, 0, 0, 0), (42, .putfield 121, 45, 0, 3, 5, 0), (45, .aload_n 0, 46, 0, 0, 0, 0), (46, .getfield 121, 49, 0, 3, 5, 0), (49, .ireturn, 50, 0, 0, 0, 0)]
def tb_X3_reach : List pm_E := [(0, .aload_n 0, 1, 0, 0, 0, 0), (1, .getfield 26, 4, 0, 3, 2, 0), (4, .iload_n 1, 5, 0, 0, 1, 0), (5, .invokevirtual 76, 8, 0, 19, 0, 0), (8, .ifCond .ne 6, 11, 0, 14, 0, 0), (11, .bipush (-2), 13, -2, 0, 0, 0), (13, .ireturn, 14, 0, 0, 0, 0), (14, .iload_n 2, 15, 0, 0, 2, 0), (15, .invokestatic 140, 18, 0, 73, 0, 0), (18, .ifCond .ne 6, 21, 0, 24, 0, 0), (21, .bipush (-3), 23, -3, 0, 0, 0), (23, .ireturn, 24, 0, 0, 0, 0), (24, .aload_n 0, 25, 0, 0, 0, 0), (25, .getfield 19, 28, 0, 3, 1, 0), (28, .aload_n 0, 29, 0, 0, 0, 0), (29, .getfield 26, 32, 0, 3, 2, 0), (32, .invokevirtual 118, 35, 0, 31, 0, 0), (35, .aload_n 0, 36, 0, 0, 0, 0), (36, .getfield 19, 39, 0, 3, 1, 0), (39, .aload_n 0, 40, 0, 0, 0, 0), (40, .getfield 26, 43, 0, 3, 2, 0), (43, .iload_n 1, 44, 0, 0, 1, 0), (44, .iload_n 2, 45, 0, 0, 2, 0), (45, .aload_n 0, 46, 0, 0, 0, 0), (46, .getfield 26, 49, 0, 3, 2, 0), (49, .getfield 137, 52, 0, 1, 9, 0), (52, .imul, 53, 0, 0, 0, 0), (53, .invokevirtual 143, 56, 0, 33, 0, 0), (56, .aload_n 0, 57, 0, 0, 0, 0), (57, .getfield 19, 60, 0, 3, 1, 0), (60, .aload_n 0, 61, 0, 0, 0, 0), (61, .getfield 26, 64, 0, 3, 2, 0), (64, .iload_n 2, 65, 0, 0, 2, 0), (65, .iconst 1, 66, 1, 0, 0, 0), (66, .iadd, 67, 0, 0, 0, 0), (67, .aload_n 0, 68, 0, 0, 0, 0), (68, .getfield 26, 71, 0, 3, 2, 0), (71, .getfield 137, 74, 0, 1, 9, 0), (74, .imul, 75, 0, 0, 0, 0), (75, .invokevirtual 147, 78, 0, 40, 0, 0), (78, .ireturn, 79, 0, 0, 0, 0)]
def tb_X3_soonest : List pm_E := [(0, .aload_n 0, 1, 0, 0, 0, 0), (1, .getfield 26, 4, 0, 3, 2, 0), (4, .iload_n 1, 5, 0, 0, 1, 0), (5, .invokevirtual 76, 8, 0, 19, 0, 0), (8, .ifCond .eq 14, 11, 0, 22, 0, 0), (11, .aload_n 0, 12, 0, 0, 0, 0), (12, .getfield 26, 15, 0, 3, 2, 0), (15, .iload_n 2, 16, 0, 0, 2, 0), (16, .invokevirtual 76, 19, 0, 19, 0, 0), (19, .ifCond .ne 6, 22, 0, 25, 0, 0), (22, .bipush (-2), 24, -2, 0, 0, 0), (24, .ireturn, 25, 0, 0, 0, 0), (25, .iload_n 3, 26, 0, 0, 3, 0), (26, .invokestatic 151, 29, 0, 74, 0, 0), (29, .ifCond .ne 6, 32, 0, 35, 0, 0), (32, .bipush (-3), 34, -3, 0, 0, 0), (34, .ireturn, 35, 0, 0, 0, 0), (35, .aload_n 0, 36, 0, 0, 0, 0), (36, .getfield 19, 39, 0, 3, 1, 0), (39, .aload_n 0, 40, 0, 0, 0, 0), (40, .getfield 26, 43, 0, 3, 2, 0), (43, .invokevirtual 118, 46, 0, 31, 0, 0), (46, .aload_n 0, 47, 0, 0, 0, 0), (47, .getfield 19, 50, 0, 3, 1, 0), (50, .aload_n 0, 51, 0, 0, 0, 0), (51, .getfield 26, 54, 0, 3, 2, 0), (54, .iload_n 1, 55, 0, 0, 1, 0), (55, .iload_n 2, 56, 0, 0, 2, 0), (56, .iload_n 3, 57, 0, 0, 3, 0), (57, .invokevirtual 154, 60, 0, 39, 0, 0), (60, .ireturn, 61, 0, 0, 0, 0)]
def tb_X3_home : List pm_E := [(0, .aload_n 0, 1, 0, 0, 0, 0), (1, .getfield 26, 4, 0, 3, 2, 0), (4, .iload_n 1, 5, 0, 0, 1, 0), (5, .invokevirtual 76, 8, 0, 19, 0, 0), (8, .ifCond .eq 14, 11, 0, 22, 0, 0), (11, .aload_n 0, 12, 0, 0, 0, 0), (12, .getfield 26, 15, 0, 3, 2, 0), (15, .iload_n 2, 16, 0, 0, 2, 0), (16, .invokevirtual 76, 19, 0, 19, 0, 0), (19, .ifCond .ne 6, 22, 0, 25, 0, 0), (22, .bipush (-2), 24, -2, 0, 0, 0), (24, .ireturn, 25, 0, 0, 0, 0), (25, .aload_n 0, 26, 0, 0, 0, 0), (26, .getfield 19, 29, 0, 3, 1, 0), (29, .aload_n 0, 30, 0, 0, 0, 0), (30, .getfield 26, 33, 0, 3, 2, 0), (33, .invokevirtual 118, 36, 0, 31, 0, 0), (36, .aload_n 0, 37, 0, 0, 0, 0), (37, .getfield 19, 40, 0, 3, 1, 0), (40, .aload_n 0, 41, 0, 0, 0, 0), (41, .getfield 26, 44, 0, 3, 2, 0), (44, .iload_n 1, 45, 0, 0, 1, 0), (45, .iload_n 2, 46, 0, 0, 2, 0), (46, .iconst 0, 47, 0, 0, 0, 0), (47, .invokevirtual 154, 50, 0, 39, 0, 0), (50, .istore_n 3, 51, 0, 0, 3, 0), (51, .iload_n 3, 52, 0, 0, 3, 0), (52, .iconst (-1), 53, -1, 0, 0, 0), (53, .if_icmp .ne 7, 56, 0, 60, 0, 0), (56, .iconst (-1), 57, -1, 0, 0, 0), (57, .goto 17, 60, 0, 74, 0, 0), (60, .aload_n 0, 61, 0, 0, 0, 0), (61, .getfield 19, 64, 0, 3, 1, 0), (64, .aload_n 0, 65, 0, 0, 0, 0), (65, .getfield 26, 68, 0, 3, 2, 0), (68, .iload_n 2, 69, 0, 0, 2, 0), (69, .iload_n 1, 70, 0, 0, 1, 0), (70, .iload_n 3, 71, 0, 0, 3, 0), (71, .invokevirtual 154, 74, 0, 39, 0, 0), (74, .ireturn, 75, 0, 0, 0, 0)]
def tb_X3_cut : List pm_E := [(0, .aload_n 0, 1, 0, 0, 0, 0), (1, .getfield 26, 4, 0, 3, 2, 0), (4, .iload_n 1, 5, 0, 0, 1, 0), (5, .invokevirtual 76, 8, 0, 19, 0, 0), (8, .ifCond .ne 6, 11, 0, 14, 0, 0), (11, .bipush (-2), 13, -2, 0, 0, 0), (13, .ireturn, 14, 0, 0, 0, 0), (14, .iconst 1, 15, 1, 0, 0, 0), (15, .iload_n 1, 16, 0, 0, 1, 0), (16, .ishl, 17, 0, 0, 0, 0), (17, .istore_n 2, 18, 0, 0, 2, 0), (18, .aload_n 0, 19, 0, 0, 0, 0), (19, .getfield 26, 22, 0, 3, 2, 0), (22, .getfield 80, 25, 0, 1, 3, 0), (25, .iload_n 2, 26, 0, 0, 2, 0), (26, .iand, 27, 0, 0, 0, 0), (27, .ifCond .eq 6, 30, 0, 33, 0, 0), (30, .bipush (-4), 32, -4, 0, 0, 0), (32, .ireturn, 33, 0, 0, 0, 0), (33, .iconst 0, 34, 0, 0, 0, 0), (34, .istore_n 3, 35, 0, 0, 3, 0), (35, .iconst 0, 36, 0, 0, 0, 0), (36, .istore 4, 38, 0, 0, 4, 0), (38, .iload 4, 40, 0, 0, 4, 0), (40, .aload_n 0, 41, 0, 0, 0, 0), (41, .getfield 26, 44, 0, 3, 2, 0), (44, .getfield 158, 47, 0, 1, 0, 0), (47, .if_icmp .ge 54, 50, 0, 101, 0, 0), (50, .aload_n 0, 51, 0, 0, 0, 0), (51, .iload 4, 53, 0, 0, 4, 0), (53, .aload_n 0, 54, 0, 0, 0, 0), (54, .getfield 26, 57, 0, 3, 2, 0), (57, .getfield 80, 60, 0, 1, 3, 0), (60, .invokevirtual 161, 63, 0, 76, 0, 0), (63, .istore 5, 65, 0, 0, 5, 0), (65, .aload_n 0, 66, 0, 0, 0, 0), (66, .iload 4, 68, 0, 0, 4, 0), (68, .aload_n 0, 69, 0, 0, 0, 0), (69, .getfield 26, 72, 0, 3, 2, 0), (72, .getfield 80, 75, 0, 1, 3, 0), (75, .iload_n 2, 76, 0, 0, 2, 0), (76, .ior, 77, 0, 0, 0, 0), (77, .invokevirtual 161, 80, 0, 76, 0, 0), (80, .istore 6, 82, 0, 0, 6, 0), (82, .iload_n 3, 83, 0, 0, 3, 0), (83, .iload 5, 85, 0, 0, 5, 0), (85, .iload 6, 87, 0, 0, 6, 0), (87, .iconst (-1), 88, -1, 0, 0, 0), (88, .ixor, 89, 0, 0, 0, 0), (89, .iand, 90, 0, 0, 0, 0), (90, .invokestatic 164, 93, 0, 132, 0, 0), (93, .iadd, 94, 0, 0, 0, 0), (94, .istore_n 3, 95, 0, 0, 3, 0), (95, .iinc 4 1, 98, 1, 0, 4, 0), (98, .goto (-60), 101, 0, 38, 0, 0), (101, .iload_n 3, 102, 0, 0, 3, 0), (102, .ireturn, 103, 0, 0, 0, 0)]
def tb_X3_served : List pm_E := [(0, .aload_n 0, 1, 0, 0, 0, 0), (1, .getfield 19, 4, 0, 3, 1, 0), (4, .aload_n 0, 5, 0, 0, 0, 0), (5, .getfield 26, 8, 0, 3, 2, 0), (8, .invokevirtual 118, 11, 0, 31, 0, 0), (11, .aload_n 0, 12, 0, 0, 0, 0), (12, .getfield 19, 15, 0, 3, 1, 0), (15, .aload_n 0, 16, 0, 0, 0, 0), (16, .getfield 26, 19, 0, 3, 2, 0), (19, .invokevirtual 169, 22, 0, 41, 0, 0), (22, .ireturn, 23, 0, 0, 0, 0)]
def tb_X3_law : List pm_E := [(0, .iload_n 1, 1, 0, 0, 1, 0), (1, .ifCond .eq 11, 4, 0, 12, 0, 0), (4, .iload_n 1, 5, 0, 0, 1, 0), (5, .iconst 1, 6, 1, 0, 0, 0), (6, .if_icmp .eq 6, 9, 0, 12, 0, 0), (9, .bipush (-3), 11, -3, 0, 0, 0), (11, .ireturn, 12, 0, 0, 0, 0), (12, .iconst (-1), 13, -1, 0, 0, 0), (13, .istore_n 2, 14, 0, 0, 2, 0), (14, .iconst (-1), 15, -1, 0, 0, 0), (15, .istore_n 3, 16, 0, 0, 3, 0), (16, .iconst 0, 17, 0, 0, 0, 0), (17, .istore 4, 19, 0, 0, 4, 0), (19, .iload 4, 21, 0, 0, 4, 0), (21, .iconst 3, 22, 3, 0, 0, 0), (22, .if_icmp .ge 57, 25, 0, 79, 0, 0), (25, .aload_n 0, 26, 0, 0, 0, 0), (26, .getfield 19, 29, 0, 3, 1, 0), (29, .aload_n 0, 30, 0, 0, 0, 0), (30, .getfield 26, 33, 0, 3, 2, 0), (33, .iload 4, 35, 0, 0, 4, 0), (35, .aload_n 0, 36, 0, 0, 0, 0), (36, .getfield 26, 39, 0, 3, 2, 0), (39, .getfield 80, 42, 0, 1, 3, 0), (42, .invokevirtual 172, 45, 0, 32, 0, 0), (45, .aload_n 0, 46, 0, 0, 0, 0), (46, .getfield 19, 49, 0, 3, 1, 0), (49, .aload_n 0, 50, 0, 0, 0, 0), (50, .getfield 26, 53, 0, 3, 2, 0), (53, .invokevirtual 169, 56, 0, 41, 0, 0), (56, .invokestatic 164, 59, 0, 132, 0, 0), (59, .istore 5, 61, 0, 0, 5, 0), (61, .iload 5, 63, 0, 0, 5, 0), (63, .iload_n 3, 64, 0, 0, 3, 0), (64, .if_icmp .le 9, 67, 0, 73, 0, 0), (67, .iload 4, 69, 0, 0, 4, 0), (69, .istore_n 2, 70, 0, 0, 2, 0), (70, .iload 5, 72, 0, 0, 5, 0), (72, .istore_n 3, 73, 0, 0, 3, 0), (73, .iinc 4 1, 76, 1, 0, 4, 0), (76, .goto (-57), 79, 0, 19, 0, 0), (79, .iload_n 1, 80, 0, 0, 1, 0), (80, .ifCond .ne 7, 83, 0, 87, 0, 0), (83, .iload_n 2, 84, 0, 0, 2, 0), (84, .goto 4, 87, 0, 88, 0, 0), (87, .iload_n 3, 88, 0, 0, 3, 0), (88, .ireturn, 89, 0, 0, 0, 0)]
def tb_X3_rope_0 : List pm_E := [(0, .iload_n 1, 1, 0, 0, 1, 0), (1, .ifCond .eq 11, 4, 0, 12, 0, 0), (4, .iload_n 1, 5, 0, 0, 1, 0), (5, .iconst 1, 6, 1, 0, 0, 0), (6, .if_icmp .eq 6, 9, 0, 12, 0, 0), (9, .bipush (-3), 11, -3, 0, 0, 0), (11, .ireturn, 12, 0, 0, 0, 0), (12, .iconst (-1), 13, -1, 0, 0, 0), (13, .istore_n 2, 14, 0, 0, 2, 0), (14, .aload_n 0, 15, 0, 0, 0, 0), (15, .getfield 19, 18, 0, 3, 1, 0), (18, .aload_n 0, 19, 0, 0, 0, 0), (19, .getfield 26, 22, 0, 3, 2, 0), (22, .invokevirtual 118, 25, 0, 31, 0, 0), (25, .aload_n 0, 26, 0, 0, 0, 0), (26, .getfield 26, 29, 0, 3, 2, 0), (29, .getfield 175, 32, 0, 1, 4, 0), (32, .ifCond .ne 20, 35, 0, 52, 0, 0), (35, .aload_n 0, 36, 0, 0, 0, 0), (36, .getfield 19, 39, 0, 3, 1, 0), (39, .aload_n 0, 40, 0, 0, 0, 0), (40, .getfield 26, 43, 0, 3, 2, 0), (43, .invokevirtual 169, 46, 0, 41, 0, 0), (46, .invokestatic 164, 49, 0, 132, 0, 0), (49, .goto 4, 52, 0, 53, 0, 0), (52, .iconst (-1), 53, -1, 0, 0, 0), (53, .istore_n 3, 54, 0, 0, 3, 0), (54, .iconst 0, 55, 0, 0, 0, 0), (55, .istore 4, 57, 0, 0, 4, 0), (57, .iload 4, 59, 0, 0, 4, 0), (59, .aload_n 0, 60, 0, 0, 0, 0), (60, .getfield 26, 63, 0, 3, 2, 0), (63, .getfield 175, 66, 0, 1, 4, 0), (66, .if_icmp .ge 60, 69, 0, 126, 0, 0), (69, .aload_n 0, 70, 0, 0, 0, 0), (70, .getfield 19, 73, 0, 3, 1, 0), (73, .aload_n 0, 74, 0, 0, 0, 0), (74, .getfield 26, 77, 0, 3, 2, 0), (77, .invokevirtual 118, 80, 0, 31, 0, 0), (80, .aload_n 0, 81, 0, 0, 0, 0), (81, .getfield 19, 84, 0, 3, 1, 0), (84, .getfield 178, 87, 0, 2, 0, 0), (87, .iload 4, 89, 0, 0, 4, 0), (89, .bipush 15, 91, 15, 0, 0, 0), (91, .iastore, 92, 0, 0, 0, 0), (92, .aload_n 0, 93, 0, 0, 0, 0), (93, .getfield 19, 96, 0, 3, 1, 0), (96, .aload_n 0, 97, 0, 0, 0, 0), (97, .getfield 26, 100, 0, 3, 2, 0), (100, .invokevirtual 169, 103, 0, 41, 0, 0), (103, .invokestatic 164, 106, 0, 132, 0, 0), (106, .istore 5, 108, 0, 0, 5, 0), (108, .iload 5, 110, 0, 0, 5, 0), (110, .iload_n 3, 111, 0, 0, 3, 0), (111, .if_icmp .le 9, 114, 0, 120, 0, 0), (114, .iload 4, 116, 0, 0, 4, 0), (116, .istore_n 2, 117, 0, 0, 2, 0), (117, .iload 5, 119, 0, 0, 5, 0), (119, .istore_n 3, 120, 0, 0, 3, 0), (120, .iinc 4 1, 123, 1, 0, 4, 0)]
def tb_X3_rope_1 : List pm_E := [(123, .goto (-66), 126, 0, 57, 0, 0), (126, .iload_n 1, 127, 0, 0, 1, 0), (127, .ifCond .ne 7, 130, 0, 134, 0, 0), (130, .iload_n 2, 131, 0, 0, 2, 0), (131, .goto 4, 134, 0, 135, 0, 0), (134, .iload_n 3, 135, 0, 0, 3, 0), (135, .ireturn, 136, 0, 0, 0, 0)]
def tb_X3_rope : List pm_E := tb_X3_rope_0 ++ (tb_X3_rope_1)
def tb_X3_mended_0 : List pm_E := [(0, .iload_n 1, 1, 0, 0, 1, 0), (1, .ifCond .eq 11, 4, 0, 12, 0, 0), (4, .iload_n 1, 5, 0, 0, 1, 0), (5, .iconst 1, 6, 1, 0, 0, 0), (6, .if_icmp .eq 6, 9, 0, 12, 0, 0), (9, .bipush (-3), 11, -3, 0, 0, 0), (11, .ireturn, 12, 0, 0, 0, 0), (12, .iconst (-1), 13, -1, 0, 0, 0), (13, .istore_n 2, 14, 0, 0, 2, 0), (14, .bipush 9, 16, 9, 0, 0, 0), (16, .istore_n 3, 17, 0, 0, 3, 0), (17, .iconst 0, 18, 0, 0, 0, 0), (18, .istore 4, 20, 0, 0, 4, 0), (20, .iload 4, 22, 0, 0, 4, 0), (22, .aload_n 0, 23, 0, 0, 0, 0), (23, .getfield 26, 26, 0, 3, 2, 0), (26, .getfield 80, 29, 0, 1, 3, 0), (29, .if_icmp .gt 89, 32, 0, 118, 0, 0), (32, .iload 4, 34, 0, 0, 4, 0), (34, .aload_n 0, 35, 0, 0, 0, 0), (35, .getfield 26, 38, 0, 3, 2, 0), (38, .getfield 80, 41, 0, 1, 3, 0), (41, .iconst (-1), 42, -1, 0, 0, 0), (42, .ixor, 43, 0, 0, 0, 0), (43, .iand, 44, 0, 0, 0, 0), (44, .ifCond .ne 68, 47, 0, 112, 0, 0), (47, .iload 4, 49, 0, 0, 4, 0), (49, .invokestatic 164, 52, 0, 132, 0, 0), (52, .iload_n 3, 53, 0, 0, 3, 0), (53, .if_icmp .lt 6, 56, 0, 59, 0, 0), (56, .goto 56, 59, 0, 112, 0, 0), (59, .aload_n 0, 60, 0, 0, 0, 0), (60, .getfield 19, 63, 0, 3, 1, 0), (63, .aload_n 0, 64, 0, 0, 0, 0), (64, .getfield 26, 67, 0, 3, 2, 0), (67, .aload_n 0, 68, 0, 0, 0, 0), (68, .getfield 26, 71, 0, 3, 2, 0), (71, .getfield 106, 74, 0, 1, 10, 0), (74, .aload_n 0, 75, 0, 0, 0, 0), (75, .getfield 26, 78, 0, 3, 2, 0), (78, .getfield 80, 81, 0, 1, 3, 0), (81, .iload 4, 83, 0, 0, 4, 0), (83, .iconst (-1), 84, -1, 0, 0, 0), (84, .ixor, 85, 0, 0, 0, 0), (85, .iand, 86, 0, 0, 0, 0), (86, .invokevirtual 172, 89, 0, 32, 0, 0), (89, .aload_n 0, 90, 0, 0, 0, 0), (90, .getfield 19, 93, 0, 3, 1, 0), (93, .aload_n 0, 94, 0, 0, 0, 0), (94, .getfield 26, 97, 0, 3, 2, 0), (97, .invokevirtual 181, 100, 0, 42, 0, 0), (100, .ifCond .eq 12, 103, 0, 112, 0, 0), (103, .iload 4, 105, 0, 0, 4, 0), (105, .istore_n 2, 106, 0, 0, 2, 0), (106, .iload 4, 108, 0, 0, 4, 0), (108, .invokestatic 164, 111, 0, 132, 0, 0), (111, .istore_n 3, 112, 0, 0, 3, 0), (112, .iinc 4 1, 115, 1, 0, 4, 0), (115, .goto (-95), 118, 0, 20, 0, 0), (118, .iload_n 2, 119, 0, 0, 2, 0)]
def tb_X3_mended_1 : List pm_E := [(119, .iconst (-1), 120, -1, 0, 0, 0), (120, .if_icmp .ne 5, 123, 0, 125, 0, 0), (123, .iconst (-1), 124, -1, 0, 0, 0), (124, .ireturn, 125, 0, 0, 0, 0), (125, .iload_n 1, 126, 0, 0, 1, 0), (126, .ifCond .ne 7, 129, 0, 133, 0, 0), (129, .iload_n 3, 130, 0, 0, 3, 0), (130, .goto 4, 133, 0, 134, 0, 0), (133, .iload_n 2, 134, 0, 0, 2, 0), (134, .ireturn, 135, 0, 0, 0, 0)]
def tb_X3_mended : List pm_E := tb_X3_mended_0 ++ (tb_X3_mended_1)
def tb_X3_walk : List pm_E := [(0, .aload_n 0, 1, 0, 0, 0, 0), (1, .getfield 26, 4, 0, 3, 2, 0), (4, .iload_n 1, 5, 0, 0, 1, 0), (5, .invokevirtual 76, 8, 0, 19, 0, 0), (8, .ifCond .ne 6, 11, 0, 14, 0, 0), (11, .bipush (-2), 13, -2, 0, 0, 0), (13, .ireturn, 14, 0, 0, 0, 0), (14, .aload_n 0, 15, 0, 0, 0, 0), (15, .getfield 185, 18, 0, 3, 9, 0), (18, .bipush 12, 20, 12, 0, 0, 0), (20, .if_icmp .lt 6, 23, 0, 26, 0, 0), (23, .bipush (-5), 25, -5, 0, 0, 0), (25, .ireturn, 26, 0, 0, 0, 0), (26, .aload_n 0, 27, 0, 0, 0, 0), (27, .getfield 40, 30, 0, 3, 8, 0), (30, .aload_n 0, 31, 0, 0, 0, 0), (31, .getfield 185, 34, 0, 3, 9, 0), (34, .iload_n 1, 35, 0, 0, 1, 0), (35, .iastore, 36, 0, 0, 0, 0), (36, .aload_n 0, 37, 0, 0, 0, 0), (37, .dup, 38, 0, 0, 0, 0), (38, .getfield 185, 41, 0, 3, 9, 0), (41, .iconst 1, 42, 1, 0, 0, 0), (42, .iadd, 43, 0, 0, 0, 0), (43, .putfield 185, 46, 0, 3, 9, 0), (46, .aload_n 0, 47, 0, 0, 0, 0), (47, .getfield 185, 50, 0, 3, 9, 0), (50, .ireturn, 51, 0, 0, 0, 0)]
def tb_X3_burn : List pm_E := [(0, .aload_n 0, 1, 0, 0, 0, 0), (1, .getfield 185, 4, 0, 3, 9, 0), (4, .istore_n 1, 5, 0, 0, 1, 0), (5, .aload_n 0, 6, 0, 0, 0, 0), (6, .iconst 0, 7, 0, 0, 0, 0), (7, .putfield 185, 10, 0, 3, 9, 0), (10, .iload_n 1, 11, 0, 0, 1, 0), (11, .ireturn, 12, 0, 0, 0, 0)]
def tb_X3_judge_0 : List pm_E := [(0, .iload_n 1, 1, 0, 0, 1, 0), (1, .invokestatic 151, 4, 0, 74, 0, 0), (4, .ifCond .eq 12, 7, 0, 16, 0, 0), (7, .iload_n 2, 8, 0, 0, 2, 0), (8, .ifCond .lt 8, 11, 0, 16, 0, 0), (11, .iload_n 2, 12, 0, 0, 2, 0), (12, .iconst 1, 13, 1, 0, 0, 0), (13, .if_icmp .le 6, 16, 0, 19, 0, 0), (16, .bipush (-3), 18, -3, 0, 0, 0), (18, .ireturn, 19, 0, 0, 0, 0), (19, .aload_n 0, 20, 0, 0, 0, 0), (20, .getfield 185, 23, 0, 3, 9, 0), (23, .ifCond .ne 6, 26, 0, 29, 0, 0), (26, .bipush (-4), 28, -4, 0, 0, 0), (28, .ireturn, 29, 0, 0, 0, 0), (29, .aload_n 0, 30, 0, 0, 0, 0), (30, .getfield 19, 33, 0, 3, 1, 0), (33, .aload_n 0, 34, 0, 0, 0, 0), (34, .getfield 26, 37, 0, 3, 2, 0), (37, .invokevirtual 118, 40, 0, 31, 0, 0), (40, .iload_n 1, 41, 0, 0, 1, 0), (41, .istore_n 3, 42, 0, 0, 3, 0), (42, .iconst 1, 43, 1, 0, 0, 0), (43, .istore 4, 45, 0, 0, 4, 0), (45, .iload 4, 47, 0, 0, 4, 0), (47, .aload_n 0, 48, 0, 0, 0, 0), (48, .getfield 185, 51, 0, 3, 9, 0), (51, .if_icmp .ge 69, 54, 0, 120, 0, 0), (54, .aload_n 0, 55, 0, 0, 0, 0), (55, .getfield 19, 58, 0, 3, 1, 0), (58, .aload_n 0, 59, 0, 0, 0, 0), (59, .getfield 26, 62, 0, 3, 2, 0), (62, .aload_n 0, 63, 0, 0, 0, 0), (63, .getfield 40, 66, 0, 3, 8, 0), (66, .iload 4, 68, 0, 0, 4, 0), (68, .iconst 1, 69, 1, 0, 0, 0), (69, .isub, 70, 0, 0, 0, 0), (70, .iaload, 71, 0, 0, 0, 0), (71, .aload_n 0, 72, 0, 0, 0, 0), (72, .getfield 40, 75, 0, 3, 8, 0), (75, .iload 4, 77, 0, 0, 4, 0), (77, .iaload, 78, 0, 0, 0, 0), (78, .iload_n 3, 79, 0, 0, 3, 0), (79, .invokevirtual 188, 82, 0, 38, 0, 0), (82, .istore 5, 84, 0, 0, 5, 0), (84, .iload 5, 86, 0, 0, 5, 0), (86, .iconst (-1), 87, -1, 0, 0, 0), (87, .if_icmp .ne 14, 90, 0, 101, 0, 0), (90, .iload_n 2, 91, 0, 0, 2, 0), (91, .ifCond .ne 8, 94, 0, 99, 0, 0), (94, .iload 4, 96, 0, 0, 4, 0), (96, .goto 4, 99, 0, 100, 0, 0), (99, .iload_n 3, 100, 0, 0, 3, 0), (100, .ireturn, 101, 0, 0, 0, 0), (101, .iload_n 3, 102, 0, 0, 3, 0), (102, .aload_n 0, 103, 0, 0, 0, 0), (103, .getfield 26, 106, 0, 3, 2, 0), (106, .getfield 99, 109, 0, 1, 8, 0), (109, .iload 5, 111, 0, 0, 5, 0), (111, .iaload, 112, 0, 0, 0, 0)]
def tb_X3_judge_1 : List pm_E := [(112, .iadd, 113, 0, 0, 0, 0), (113, .istore_n 3, 114, 0, 0, 3, 0), (114, .iinc 4 1, 117, 1, 0, 4, 0), (117, .goto (-72), 120, 0, 45, 0, 0), (120, .iload_n 2, 121, 0, 0, 2, 0), (121, .ifCond .ne 7, 124, 0, 128, 0, 0), (124, .iconst (-1), 125, -1, 0, 0, 0), (125, .goto 4, 128, 0, 129, 0, 0), (128, .iload_n 3, 129, 0, 0, 3, 0), (129, .ireturn, 130, 0, 0, 0, 0)]
def tb_X3_judge : List pm_E := tb_X3_judge_0 ++ (tb_X3_judge_1)
def tb_X3_seen : List pm_E := [(0, .aload_n 0, 1, 0, 0, 0, 0), (1, .getfield 26, 4, 0, 3, 2, 0), (4, .iload_n 1, 5, 0, 0, 1, 0), (5, .invokevirtual 76, 8, 0, 19, 0, 0), (8, .ifCond .eq 14, 11, 0, 22, 0, 0), (11, .aload_n 0, 12, 0, 0, 0, 0), (12, .getfield 26, 15, 0, 3, 2, 0), (15, .iload_n 2, 16, 0, 0, 2, 0), (16, .invokevirtual 76, 19, 0, 19, 0, 0), (19, .ifCond .ne 6, 22, 0, 25, 0, 0), (22, .bipush (-2), 24, -2, 0, 0, 0), (24, .ireturn, 25, 0, 0, 0, 0), (25, .iload_n 3, 26, 0, 0, 3, 0), (26, .invokestatic 140, 29, 0, 73, 0, 0), (29, .ifCond .eq 8, 32, 0, 37, 0, 0), (32, .iload_n 1, 33, 0, 0, 1, 0), (33, .iload_n 2, 34, 0, 0, 2, 0), (34, .if_icmp .ne 6, 37, 0, 40, 0, 0), (37, .bipush (-3), 39, -3, 0, 0, 0), (39, .ireturn, 40, 0, 0, 0, 0), (40, .aload_n 0, 41, 0, 0, 0, 0), (41, .getfield 191, 44, 0, 3, 13, 0), (44, .bipush 12, 46, 12, 0, 0, 0), (46, .if_icmp .lt 6, 49, 0, 52, 0, 0), (49, .bipush (-5), 51, -5, 0, 0, 0), (51, .ireturn, 52, 0, 0, 0, 0), (52, .aload_n 0, 53, 0, 0, 0, 0), (53, .getfield 43, 56, 0, 3, 10, 0), (56, .aload_n 0, 57, 0, 0, 0, 0), (57, .getfield 191, 60, 0, 3, 13, 0), (60, .iload_n 1, 61, 0, 0, 1, 0), (61, .iastore, 62, 0, 0, 0, 0), (62, .aload_n 0, 63, 0, 0, 0, 0), (63, .getfield 46, 66, 0, 3, 11, 0), (66, .aload_n 0, 67, 0, 0, 0, 0), (67, .getfield 191, 70, 0, 3, 13, 0), (70, .iload_n 2, 71, 0, 0, 2, 0), (71, .iastore, 72, 0, 0, 0, 0), (72, .aload_n 0, 73, 0, 0, 0, 0), (73, .getfield 49, 76, 0, 3, 12, 0), (76, .aload_n 0, 77, 0, 0, 0, 0), (77, .getfield 191, 80, 0, 3, 13, 0), (80, .iload_n 3, 81, 0, 0, 3, 0), (81, .iastore, 82, 0, 0, 0, 0), (82, .aload_n 0, 83, 0, 0, 0, 0), (83, .dup, 84, 0, 0, 0, 0), (84, .getfield 191, 87, 0, 3, 13, 0), (87, .iconst 1, 88, 1, 0, 0, 0), (88, .iadd, 89, 0, 0, 0, 0), (89, .putfield 191, 92, 0, 3, 13, 0), (92, .aload_n 0, 93, 0, 0, 0, 0), (93, .getfield 191, 96, 0, 3, 13, 0), (96, .ireturn, 97, 0, 0, 0, 0)]
def tb_X3_forget : List pm_E := [(0, .aload_n 0, 1, 0, 0, 0, 0), (1, .getfield 191, 4, 0, 3, 13, 0), (4, .istore_n 1, 5, 0, 0, 1, 0), (5, .aload_n 0, 6, 0, 0, 0, 0), (6, .iconst 0, 7, 0, 0, 0, 0), (7, .putfield 191, 10, 0, 3, 13, 0), (10, .iload_n 1, 11, 0, 0, 1, 0), (11, .ireturn, 12, 0, 0, 0, 0)]
def tb_X3_sure : List pm_E := [(0, .aload_n 0, 1, 0, 0, 0, 0), (1, .getfield 26, 4, 0, 3, 2, 0), (4, .iload_n 1, 5, 0, 0, 1, 0), (5, .invokevirtual 76, 8, 0, 19, 0, 0), (8, .ifCond .eq 14, 11, 0, 22, 0, 0), (11, .aload_n 0, 12, 0, 0, 0, 0), (12, .getfield 26, 15, 0, 3, 2, 0), (15, .iload_n 2, 16, 0, 0, 2, 0), (16, .invokevirtual 76, 19, 0, 19, 0, 0), (19, .ifCond .ne 6, 22, 0, 25, 0, 0), (22, .bipush (-2), 24, -2, 0, 0, 0), (24, .ireturn, 25, 0, 0, 0, 0), (25, .iload_n 3, 26, 0, 0, 3, 0), (26, .invokestatic 140, 29, 0, 73, 0, 0), (29, .ifCond .ne 6, 32, 0, 35, 0, 0), (32, .bipush (-3), 34, -3, 0, 0, 0), (34, .ireturn, 35, 0, 0, 0, 0), (35, .iload_n 1, 36, 0, 0, 1, 0), (36, .iload_n 2, 37, 0, 0, 2, 0), (37, .if_icmp .ne 17, 40, 0, 54, 0, 0), (40, .aload_n 0, 41, 0, 0, 0, 0), (41, .iload_n 3, 42, 0, 0, 3, 0), (42, .invokevirtual 194, 45, 0, 78, 0, 0), (45, .ifCond .eq 7, 48, 0, 52, 0, 0), (48, .iconst 1, 49, 1, 0, 0, 0), (49, .goto 4, 52, 0, 53, 0, 0), (52, .iconst 0, 53, 0, 0, 0, 0), (53, .ireturn, 54, 0, 0, 0, 0), (54, .aload_n 0, 55, 0, 0, 0, 0), (55, .iload_n 1, 56, 0, 0, 1, 0), (56, .iload_n 3, 57, 0, 0, 3, 0), (57, .invokevirtual 197, 60, 0, 77, 0, 0), (60, .iload_n 2, 61, 0, 0, 2, 0), (61, .ishr, 62, 0, 0, 0, 0), (62, .iconst 1, 63, 1, 0, 0, 0), (63, .iand, 64, 0, 0, 0, 0), (64, .ireturn, 65, 0, 0, 0, 0)]
def tb_X3_count : List pm_E := [(0, .iload_n 1, 1, 0, 0, 1, 0), (1, .tableswitch 117 0 8 #[51, 59, 67, 75, 83, 91, 96, 101, 109], 52, 0, 118, 0, 0), (52, .aload_n 0, 53, 0, 0, 0, 0), (53, .getfield 26, 56, 0, 3, 2, 0), (56, .getfield 158, 59, 0, 1, 0, 0), (59, .ireturn, 60, 0, 0, 0, 0), (60, .aload_n 0, 61, 0, 0, 0, 0), (61, .getfield 26, 64, 0, 3, 2, 0), (64, .getfield 175, 67, 0, 1, 4, 0), (67, .ireturn, 68, 0, 0, 0, 0), (68, .aload_n 0, 69, 0, 0, 0, 0), (69, .getfield 26, 72, 0, 3, 2, 0), (72, .getfield 106, 75, 0, 1, 10, 0), (75, .ireturn, 76, 0, 0, 0, 0), (76, .aload_n 0, 77, 0, 0, 0, 0), (77, .getfield 26, 80, 0, 3, 2, 0), (80, .getfield 137, 83, 0, 1, 9, 0), (83, .ireturn, 84, 0, 0, 0, 0), (84, .aload_n 0, 85, 0, 0, 0, 0), (85, .getfield 26, 88, 0, 3, 2, 0), (88, .getfield 200, 91, 0, 1, 11, 0), (91, .ireturn, 92, 0, 0, 0, 0), (92, .aload_n 0, 93, 0, 0, 0, 0), (93, .getfield 185, 96, 0, 3, 9, 0), (96, .ireturn, 97, 0, 0, 0, 0), (97, .aload_n 0, 98, 0, 0, 0, 0), (98, .getfield 191, 101, 0, 3, 13, 0), (101, .ireturn, 102, 0, 0, 0, 0), (102, .aload_n 0, 103, 0, 0, 0, 0), (103, .getfield 10, 106, 0, 3, 0, 0), (106, .getfield 55, 109, 0, 0, 1, 0), (109, .ireturn, 110, 0, 0, 0, 0), (110, .aload_n 0, 111, 0, 0, 0, 0), (111, .getfield 26, 114, 0, 3, 2, 0), (114, .getfield 80, 117, 0, 1, 3, 0), (117, .ireturn, 118, 0, 0, 0, 0), (118, .bipush (-3), 120, -3, 0, 0, 0), (120, .ireturn, 121, 0, 0, 0, 0)]
def tb_X3_startAnew : List pm_E := [(0, .aload_n 0, 1, 0, 0, 0, 0), (1, .iconst 0, 2, 0, 0, 0, 0), (2, .putfield 112, 5, 0, 3, 4, 0), (5, .aload_n 0, 6, 0, 0, 0, 0), (6, .iconst 0, 7, 0, 0, 0, 0), (7, .putfield 121, 10, 0, 3, 5, 0), (10, .aload_n 0, 11, 0, 0, 0, 0), (11, .iconst 0, 12, 0, 0, 0, 0), (12, .putfield 185, 15, 0, 3, 9, 0), (15, .aload_n 0, 16, 0, 0, 0, 0), (16, .iconst 0, 17, 0, 0, 0, 0), (17, .putfield 191, 20, 0, 3, 13, 0), (20, .iconst 0, 21, 0, 0, 0, 0), (21, .istore_n 1, 22, 0, 0, 1, 0), (22, .iload_n 1, 23, 0, 0, 1, 0), (23, .iconst 2, 24, 2, 0, 0, 0), (24, .if_icmp .ge 16, 27, 0, 40, 0, 0), (27, .aload_n 0, 28, 0, 0, 0, 0), (28, .getfield 37, 31, 0, 3, 7, 0), (31, .iload_n 1, 32, 0, 0, 1, 0), (32, .iconst (-1), 33, -1, 0, 0, 0), (33, .iastore, 34, 0, 0, 0, 0), (34, .iinc 1 1, 37, 1, 0, 1, 0), (37, .goto (-15), 40, 0, 22, 0, 0), (40, .return_, 41, 0, 0, 0, 0)]
def tb_X3_isHalf : List pm_E := [(0, .iload_n 0, 1, 0, 0, 0, 0), (1, .ifCond .lt 12, 4, 0, 13, 0, 0), (4, .iload_n 0, 5, 0, 0, 0, 0), (5, .iconst 2, 6, 2, 0, 0, 0), (6, .if_icmp .ge 7, 9, 0, 13, 0, 0), (9, .iconst 1, 10, 1, 0, 0, 0), (10, .goto 4, 13, 0, 14, 0, 0), (13, .iconst 0, 14, 0, 0, 0, 0), (14, .ireturn, 15, 0, 0, 0, 0)]
def tb_X3_isBegin : List pm_E := [(0, .iload_n 0, 1, 0, 0, 0, 0), (1, .ifCond .lt 14, 4, 0, 15, 0, 0), (4, .iload_n 0, 5, 0, 0, 0, 0), (5, .sipush 9999, 8, 9999, 0, 0, 0), (8, .if_icmp .gt 7, 11, 0, 15, 0, 0), (11, .iconst 1, 12, 1, 0, 0, 0), (12, .goto 4, 15, 0, 16, 0, 0), (15, .iconst 0, 16, 0, 0, 0, 0), (16, .ireturn, 17, 0, 0, 0, 0)]
def tb_X3_isUnder : List pm_E := [(0, .iload_n 0, 1, 0, 0, 0, 0), (1, .ifCond .lt 11, 4, 0, 12, 0, 0), (4, .iload_n 0, 5, 0, 0, 0, 0), (5, .getstatic 203, 8, 0, 1, 0, 0), (8, .arraylength, 9, 0, 0, 0, 0), (9, .if_icmp .lt 5, 12, 0, 14, 0, 0), (12, .iconst 0, 13, 0, 0, 0, 0), (13, .ireturn, 14, 0, 0, 0, 0), (14, .getstatic 203, 17, 0, 1, 0, 0), (17, .iload_n 0, 18, 0, 0, 0, 0), (18, .iaload, 19, 0, 0, 0, 0), (19, .istore_n 2, 20, 0, 0, 2, 0), (20, .iconst 0, 21, 0, 0, 0, 0), (21, .istore_n 3, 22, 0, 0, 3, 0), (22, .iload_n 3, 23, 0, 0, 3, 0), (23, .iconst 5, 24, 5, 0, 0, 0), (24, .if_icmp .ge 31, 27, 0, 55, 0, 0), (27, .iload_n 2, 28, 0, 0, 2, 0), (28, .ifCond .lt 27, 31, 0, 55, 0, 0), (31, .iload_n 2, 32, 0, 0, 2, 0), (32, .iconst 5, 33, 5, 0, 0, 0), (33, .if_icmp .ge 22, 36, 0, 55, 0, 0), (36, .iload_n 2, 37, 0, 0, 2, 0), (37, .iload_n 1, 38, 0, 0, 1, 0), (38, .if_icmp .ne 5, 41, 0, 43, 0, 0), (41, .iconst 1, 42, 1, 0, 0, 0), (42, .ireturn, 43, 0, 0, 0, 0), (43, .getstatic 206, 46, 0, 2, 0, 0), (46, .iload_n 2, 47, 0, 0, 2, 0), (47, .iaload, 48, 0, 0, 0, 0), (48, .istore_n 2, 49, 0, 0, 2, 0), (49, .iinc 3 1, 52, 1, 0, 3, 0), (52, .goto (-30), 55, 0, 22, 0, 0), (55, .iconst 0, 56, 0, 0, 0, 0), (56, .ireturn, 57, 0, 0, 0, 0)]
def tb_X3_cornersReached : List pm_E := [(0, .aload_n 0, 1, 0, 0, 0, 0), (1, .getfield 19, 4, 0, 3, 1, 0), (4, .aload_n 0, 5, 0, 0, 0, 0), (5, .getfield 26, 8, 0, 3, 2, 0), (8, .aload_n 0, 9, 0, 0, 0, 0), (9, .getfield 26, 12, 0, 3, 2, 0), (12, .getfield 106, 15, 0, 1, 10, 0), (15, .iload_n 2, 16, 0, 0, 2, 0), (16, .invokevirtual 172, 19, 0, 32, 0, 0), (19, .aload_n 0, 20, 0, 0, 0, 0), (20, .getfield 19, 23, 0, 3, 1, 0), (23, .aload_n 0, 24, 0, 0, 0, 0), (24, .getfield 26, 27, 0, 3, 2, 0), (27, .iload_n 1, 28, 0, 0, 1, 0), (28, .iconst 0, 29, 0, 0, 0, 0), (29, .invokevirtual 143, 32, 0, 33, 0, 0), (32, .aload_n 0, 33, 0, 0, 0, 0), (33, .getfield 19, 36, 0, 3, 1, 0), (36, .aload_n 0, 37, 0, 0, 0, 0), (37, .getfield 26, 40, 0, 3, 2, 0), (40, .ldc 209, 42, 1073741824, 0, 0, 0), (42, .invokevirtual 147, 45, 0, 40, 0, 0), (45, .ireturn, 46, 0, 0, 0, 0)]
def tb_X3_higherThan : List pm_E := [(0, .iconst 0, 1, 0, 0, 0, 0), (1, .istore_n 3, 2, 0, 0, 3, 0), (2, .iconst 0, 3, 0, 0, 0, 0), (3, .istore 4, 5, 0, 0, 4, 0), (5, .iload 4, 7, 0, 0, 4, 0), (7, .aload_n 0, 8, 0, 0, 0, 0), (8, .getfield 191, 11, 0, 3, 13, 0), (11, .if_icmp .ge 88, 14, 0, 99, 0, 0), (14, .iconst 0, 15, 0, 0, 0, 0), (15, .istore 5, 17, 0, 0, 5, 0), (17, .iload 5, 19, 0, 0, 5, 0), (19, .aload_n 0, 20, 0, 0, 0, 0), (20, .getfield 191, 23, 0, 3, 13, 0), (23, .if_icmp .ge 70, 26, 0, 93, 0, 0), (26, .aload_n 0, 27, 0, 0, 0, 0), (27, .getfield 43, 30, 0, 3, 10, 0), (30, .iload 5, 32, 0, 0, 5, 0), (32, .iaload, 33, 0, 0, 0, 0), (33, .iload_n 1, 34, 0, 0, 1, 0), (34, .if_icmp .eq 18, 37, 0, 52, 0, 0), (37, .iload_n 3, 38, 0, 0, 3, 0), (38, .aload_n 0, 39, 0, 0, 0, 0), (39, .getfield 43, 42, 0, 3, 10, 0), (42, .iload 5, 44, 0, 0, 5, 0), (44, .iaload, 45, 0, 0, 0, 0), (45, .ishr, 46, 0, 0, 0, 0), (46, .iconst 1, 47, 1, 0, 0, 0), (47, .iand, 48, 0, 0, 0, 0), (48, .iconst 1, 49, 1, 0, 0, 0), (49, .if_icmp .ne 7, 52, 0, 56, 0, 0), (52, .iconst 1, 53, 1, 0, 0, 0), (53, .goto 4, 56, 0, 57, 0, 0), (56, .iconst 0, 57, 0, 0, 0, 0), (57, .istore 6, 59, 0, 0, 6, 0), (59, .aload_n 0, 60, 0, 0, 0, 0), (60, .getfield 49, 63, 0, 3, 12, 0), (63, .iload 5, 65, 0, 0, 5, 0), (65, .iaload, 66, 0, 0, 0, 0), (66, .iload_n 2, 67, 0, 0, 2, 0), (67, .if_icmp .ne 20, 70, 0, 87, 0, 0), (70, .iload 6, 72, 0, 0, 6, 0), (72, .ifCond .eq 15, 75, 0, 87, 0, 0), (75, .iload_n 3, 76, 0, 0, 3, 0), (76, .iconst 1, 77, 1, 0, 0, 0), (77, .aload_n 0, 78, 0, 0, 0, 0), (78, .getfield 46, 81, 0, 3, 11, 0), (81, .iload 5, 83, 0, 0, 5, 0), (83, .iaload, 84, 0, 0, 0, 0), (84, .ishl, 85, 0, 0, 0, 0), (85, .ior, 86, 0, 0, 0, 0), (86, .istore_n 3, 87, 0, 0, 3, 0), (87, .iinc 5 1, 90, 1, 0, 5, 0), (90, .goto (-73), 93, 0, 17, 0, 0), (93, .iinc 4 1, 96, 1, 0, 4, 0), (96, .goto (-91), 99, 0, 5, 0, 0), (99, .iload_n 3, 100, 0, 0, 3, 0), (100, .ireturn, 101, 0, 0, 0, 0)]
def tb_X3_canAllBe : List pm_E := [(0, .iconst 0, 1, 0, 0, 0, 0), (1, .istore_n 2, 2, 0, 0, 2, 0), (2, .iload_n 2, 3, 0, 0, 2, 0), (3, .aload_n 0, 4, 0, 0, 0, 0), (4, .getfield 26, 7, 0, 3, 2, 0), (7, .getfield 158, 10, 0, 1, 0, 0), (10, .if_icmp .ge 25, 13, 0, 35, 0, 0), (13, .aload_n 0, 14, 0, 0, 0, 0), (14, .iload_n 2, 15, 0, 0, 2, 0), (15, .iload_n 1, 16, 0, 0, 1, 0), (16, .invokevirtual 197, 19, 0, 77, 0, 0), (19, .iload_n 2, 20, 0, 0, 2, 0), (20, .ishr, 21, 0, 0, 0, 0), (21, .iconst 1, 22, 1, 0, 0, 0), (22, .iand, 23, 0, 0, 0, 0), (23, .iconst 1, 24, 1, 0, 0, 0), (24, .if_icmp .ne 5, 27, 0, 29, 0, 0), (27, .iconst 0, 28, 0, 0, 0, 0), (28, .ireturn, 29, 0, 0, 0, 0), (29, .iinc 2 1, 32, 1, 0, 2, 0), (32, .goto (-30), 35, 0, 2, 0, 0), (35, .iconst 1, 36, 1, 0, 0, 0), (36, .ireturn, 37, 0, 0, 0, 0)]
def tb_X4_init : List pm_E := [(0, .aload_n 0, 1, 0, 0, 0, 0), (1, .invokespecial 1, 4, 0, 1000, 0, 0), (4, .aload_n 0, 5, 0, 0, 0, 0), (5, .iconst 4, 6, 4, 0, 0, 0), (6, .putfield 7, 9, 0, 4, 0, 0), (9, .aload_n 0, 10, 0, 0, 0, 0), (10, .bipush 16, 12, 16, 0, 0, 0), (12, .newarray .int, 14, 0, 0, 0, 0), (14, .putfield 13, 17, 0, 4, 1, 0), (17, .aload_n 0, 18, 0, 0, 0, 0), (18, .bipush 48, 20, 48, 0, 0, 0), (20, .newarray .int, 22, 0, 0, 0, 0), (22, .putfield 17, 25, 0, 4, 4, 0), (25, .aload_n 0, 26, 0, 0, 0, 0), (26, .bipush 60, 28, 60, 0, 0, 0), (28, .putfield 20, 31, 0, 4, 6, 0), (31, .aload_n 0, 32, 0, 0, 0, 0), (32, .bipush 16, 34, 16, 0, 0, 0), (34, .newarray .int, 36, 0, 0, 0, 0), (36, .putfield 23, 39, 0, 4, 8, 0), (39, .aload_n 0, 40, 0, 0, 0, 0), (40, .sipush 200, 43, 200, 0, 0, 0), (43, .newarray .int, 45, 0, 0, 0, 0), (45, .putfield 26, 48, 0, 4, 10, 0), (48, .aload_n 0, 49, 0, 0, 0, 0), (49, .bipush 48, 51, 48, 0, 0, 0), (51, .newarray .int, 53, 0, 0, 0, 0), (53, .putfield 29, 56, 0, 4, 21, 0), (56, .aload_n 0, 57, 0, 0, 0, 0), (57, .iconst 4, 58, 4, 0, 0, 0), (58, .newarray .int, 60, 0, 0, 0, 0), (60, .putfield 32, 63, 0, 4, 24, 0), (63, .aload_n 0, 64, 0, 0, 0, 0), (64, .iconst 2, 65, 2, 0, 0, 0), (65, .newarray .boolean, 67, 0, 0, 0, 0), (67, .putfield 35, 70, 0, 4, 25, 0), (70, .aload_n 0, 71, 0, 0, 0, 0), (71, .bipush 12, 73, 12, 0, 0, 0), (73, .newarray .int, 75, 0, 0, 0, 0), (75, .putfield 39, 78, 0, 4, 27, 0), (78, .aload_n 0, 79, 0, 0, 0, 0), (79, .bipush 36, 81, 36, 0, 0, 0), (81, .newarray .int, 83, 0, 0, 0, 0), (83, .putfield 42, 86, 0, 4, 29, 0), (86, .aload_n 0, 87, 0, 0, 0, 0), (87, .iconst (-1), 88, -1, 0, 0, 0), (88, .putfield 45, 91, 0, 4, 30, 0), (91, .aload_n 0, 92, 0, 0, 0, 0), (92, .bipush 8, 94, 8, 0, 0, 0), (94, .newarray .int, 96, 0, 0, 0, 0), (96, .putfield 48, 99, 0, 4, 31, 0), (99, .return_, 100, 0, 0, 0, 0)]
def tb_X4_in : List pm_E := [(0, .iload_n 0, 1, 0, 0, 0, 0), (1, .iload_n 1, 2, 0, 0, 1, 0), (2, .if_icmp .lt 12, 5, 0, 14, 0, 0), (5, .iload_n 0, 6, 0, 0, 0, 0), (6, .iload_n 2, 7, 0, 0, 2, 0), (7, .if_icmp .gt 7, 10, 0, 14, 0, 0), (10, .iconst 1, 11, 1, 0, 0, 0), (11, .goto 4, 14, 0, 15, 0, 0), (14, .iconst 0, 15, 0, 0, 0, 0), (15, .ireturn, 16, 0, 0, 0, 0)]
def tb_X4_has : List pm_E := [(0, .iload_n 0, 1, 0, 0, 0, 0), (1, .iload_n 1, 2, 0, 0, 1, 0), (2, .ishr, 3, 0, 0, 0, 0), (3, .iconst 1, 4, 1, 0, 0, 0), (4, .iand, 5, 0, 0, 0, 0), (5, .iconst 1, 6, 1, 0, 0, 0), (6, .if_icmp .ne 7, 9, 0, 13, 0, 0), (9, .iconst 1, 10, 1, 0, 0, 0), (10, .goto 4, 13, 0, 14, 0, 0), (13, .iconst 0, 14, 0, 0, 0, 0), (14, .ireturn, 15, 0, 0, 0, 0)]
def tb_X4_isCorner : List pm_E := [(0, .iload_n 1, 1, 0, 0, 1, 0), (1, .iconst 0, 2, 0, 0, 0, 0), (2, .aload_n 0, 3, 0, 0, 0, 0), (3, .getfield 7, 6, 0, 4, 0, 0), (6, .iconst 1, 7, 1, 0, 0, 0), (7, .isub, 8, 0, 0, 0, 0), (8, .invokestatic 51, 11, 0, 80, 0, 0), (11, .ireturn, 12, 0, 0, 0, 0)]
def tb_X4_isStreet : List pm_E := [(0, .iload_n 1, 1, 0, 0, 1, 0), (1, .iconst 0, 2, 0, 0, 0, 0), (2, .aload_n 0, 3, 0, 0, 0, 0), (3, .getfield 55, 6, 0, 4, 3, 0), (6, .iconst 1, 7, 1, 0, 0, 0), (7, .isub, 8, 0, 0, 0, 0), (8, .invokestatic 51, 11, 0, 80, 0, 0), (11, .ireturn, 12, 0, 0, 0, 0)]
def tb_X4_plain : List pm_E := [(0, .iconst 0, 1, 0, 0, 0, 0), (1, .istore_n 1, 2, 0, 0, 1, 0), (2, .iload_n 1, 3, 0, 0, 1, 0), (3, .bipush 16, 5, 16, 0, 0, 0), (5, .if_icmp .ge 16, 8, 0, 21, 0, 0), (8, .aload_n 0, 9, 0, 0, 0, 0), (9, .getfield 13, 12, 0, 4, 1, 0), (12, .iload_n 1, 13, 0, 0, 1, 0), (13, .iconst 0, 14, 0, 0, 0, 0), (14, .iastore, 15, 0, 0, 0, 0), (15, .iinc 1 1, 18, 1, 0, 1, 0), (18, .goto (-16), 21, 0, 2, 0, 0), (21, .aload_n 0, 22, 0, 0, 0, 0), (22, .iconst 0, 23, 0, 0, 0, 0), (23, .putfield 58, 26, 0, 4, 2, 0), (26, .aload_n 0, 27, 0, 0, 0, 0), (27, .iconst 0, 28, 0, 0, 0, 0), (28, .putfield 55, 31, 0, 4, 3, 0), (31, .aload_n 0, 32, 0, 0, 0, 0), (32, .iconst 0, 33, 0, 0, 0, 0), (33, .putfield 61, 36, 0, 4, 5, 0), (36, .aload_n 0, 37, 0, 0, 0, 0), (37, .bipush 60, 39, 60, 0, 0, 0), (39, .putfield 20, 42, 0, 4, 6, 0), (42, .aload_n 0, 43, 0, 0, 0, 0), (43, .iconst 0, 44, 0, 0, 0, 0), (44, .putfield 64, 47, 0, 4, 7, 0), (47, .return_, 48, 0, 0, 0, 0)]
def tb_X4_write : List pm_E := [(0, .iload_n 3, 1, 0, 0, 3, 0), (1, .iconst 1, 2, 1, 0, 0, 0), (2, .bipush 8, 4, 8, 0, 0, 0), (4, .invokestatic 51, 7, 0, 80, 0, 0), (7, .ifCond .ne 6, 10, 0, 13, 0, 0), (10, .bipush (-3), 12, -3, 0, 0, 0), (12, .ireturn, 13, 0, 0, 0, 0), (13, .aload_n 0, 14, 0, 0, 0, 0), (14, .getfield 67, 17, 0, 4, 9, 0), (17, .iload_n 3, 18, 0, 0, 3, 0), (18, .iadd, 19, 0, 0, 0, 0), (19, .sipush 200, 22, 200, 0, 0, 0), (22, .if_icmp .le 6, 25, 0, 28, 0, 0), (25, .bipush (-5), 27, -5, 0, 0, 0), (27, .ireturn, 28, 0, 0, 0, 0), (28, .iconst 0, 29, 0, 0, 0, 0), (29, .istore 4, 31, 0, 0, 4, 0), (31, .iload 4, 33, 0, 0, 4, 0), (33, .iload_n 3, 34, 0, 0, 3, 0), (34, .if_icmp .ge 33, 37, 0, 67, 0, 0), (37, .aload_n 0, 38, 0, 0, 0, 0), (38, .getfield 26, 41, 0, 4, 10, 0), (41, .aload_n 0, 42, 0, 0, 0, 0), (42, .getfield 67, 45, 0, 4, 9, 0), (45, .iload 4, 47, 0, 0, 4, 0), (47, .iadd, 48, 0, 0, 0, 0), (48, .lload_n 1, 49, 0, 0, 1, 0), (49, .bipush 8, 51, 8, 0, 0, 0), (51, .iload 4, 53, 0, 0, 4, 0), (53, .imul, 54, 0, 0, 0, 0), (54, .lshr, 55, 0, 0, 0, 0), (55, .ldc2_w 70, 58, 0, 0, 0, 255), (58, .land, 59, 0, 0, 0, 0), (59, .l2i, 60, 0, 0, 0, 0), (60, .iastore, 61, 0, 0, 0, 0), (61, .iinc 4 1, 64, 1, 0, 4, 0), (64, .goto (-33), 67, 0, 31, 0, 0), (67, .aload_n 0, 68, 0, 0, 0, 0), (68, .dup, 69, 0, 0, 0, 0), (69, .getfield 67, 72, 0, 4, 9, 0), (72, .iload_n 3, 73, 0, 0, 3, 0), (73, .iadd, 74, 0, 0, 0, 0), (74, .putfield 67, 77, 0, 4, 9, 0), (77, .aload_n 0, 78, 0, 0, 0, 0), (78, .getfield 67, 81, 0, 4, 9, 0), (81, .ireturn, 82, 0, 0, 0, 0)]
def tb_X4_erase : List pm_E := [(0, .aload_n 0, 1, 0, 0, 0, 0), (1, .getfield 67, 4, 0, 4, 9, 0), (4, .istore_n 1, 5, 0, 0, 1, 0), (5, .aload_n 0, 6, 0, 0, 0, 0), (6, .iconst 0, 7, 0, 0, 0, 0), (7, .putfield 67, 10, 0, 4, 9, 0), (10, .iload_n 1, 11, 0, 0, 1, 0), (11, .ireturn, 12, 0, 0, 0, 0)]
def tb_X4_nextToken_0 : List pm_E := [(0, .aload_n 0, 1, 0, 0, 0, 0), (1, .getfield 72, 4, 0, 4, 11, 0), (4, .aload_n 0, 5, 0, 0, 0, 0), (5, .getfield 67, 8, 0, 4, 9, 0), (8, .if_icmp .ge 30, 11, 0, 38, 0, 0), (11, .aload_n 0, 12, 0, 0, 0, 0), (12, .getfield 26, 15, 0, 4, 10, 0), (15, .aload_n 0, 16, 0, 0, 0, 0), (16, .getfield 72, 19, 0, 4, 11, 0), (19, .iaload, 20, 0, 0, 0, 0), (20, .bipush 32, 22, 32, 0, 0, 0), (22, .if_icmp .ne 16, 25, 0, 38, 0, 0), (25, .aload_n 0, 26, 0, 0, 0, 0), (26, .dup, 27, 0, 0, 0, 0), (27, .getfield 72, 30, 0, 4, 11, 0), (30, .iconst 1, 31, 1, 0, 0, 0), (31, .iadd, 32, 0, 0, 0, 0), (32, .putfield 72, 35, 0, 4, 11, 0), (35, .goto (-35), 38, 0, 0, 0, 0), (38, .aload_n 0, 39, 0, 0, 0, 0), (39, .aload_n 0, 40, 0, 0, 0, 0), (40, .getfield 72, 43, 0, 4, 11, 0), (43, .putfield 75, 46, 0, 4, 12, 0), (46, .aload_n 0, 47, 0, 0, 0, 0), (47, .iconst 0, 48, 0, 0, 0, 0), (48, .putfield 78, 51, 0, 4, 14, 0), (51, .aload_n 0, 52, 0, 0, 0, 0), (52, .iconst 0, 53, 0, 0, 0, 0), (53, .putfield 81, 56, 0, 4, 15, 0), (56, .aload_n 0, 57, 0, 0, 0, 0), (57, .getfield 72, 60, 0, 4, 11, 0), (60, .aload_n 0, 61, 0, 0, 0, 0), (61, .getfield 67, 64, 0, 4, 9, 0), (64, .if_icmp .ne 13, 67, 0, 77, 0, 0), (67, .aload_n 0, 68, 0, 0, 0, 0), (68, .ldc2_w 84, 71, 0, 0, 0, -2), (71, .putfield 86, 74, 0, 4, 13, 0), (74, .goto 320, 77, 0, 394, 0, 0), (77, .aload_n 0, 78, 0, 0, 0, 0), (78, .getfield 26, 81, 0, 4, 10, 0), (81, .aload_n 0, 82, 0, 0, 0, 0), (82, .getfield 72, 85, 0, 4, 11, 0), (85, .iaload, 86, 0, 0, 0, 0), (86, .bipush 97, 88, 97, 0, 0, 0), (88, .bipush 122, 90, 122, 0, 0, 0), (90, .invokestatic 51, 93, 0, 80, 0, 0), (93, .ifCond .eq 129, 96, 0, 222, 0, 0), (96, .aload_n 0, 97, 0, 0, 0, 0), (97, .lconst 0, 98, 0, 0, 0, 0), (98, .putfield 86, 101, 0, 4, 13, 0), (101, .aload_n 0, 102, 0, 0, 0, 0), (102, .getfield 72, 105, 0, 4, 11, 0), (105, .aload_n 0, 106, 0, 0, 0, 0), (106, .getfield 67, 109, 0, 4, 9, 0), (109, .if_icmp .ge 82, 112, 0, 191, 0, 0), (112, .aload_n 0, 113, 0, 0, 0, 0), (113, .getfield 26, 116, 0, 4, 10, 0), (116, .aload_n 0, 117, 0, 0, 0, 0), (117, .getfield 72, 120, 0, 4, 11, 0), (120, .iaload, 121, 0, 0, 0, 0)]
def tb_X4_nextToken_1 : List pm_E := [(121, .bipush 97, 123, 97, 0, 0, 0), (123, .bipush 122, 125, 122, 0, 0, 0), (125, .invokestatic 51, 128, 0, 80, 0, 0), (128, .ifCond .eq 63, 131, 0, 191, 0, 0), (131, .aload_n 0, 132, 0, 0, 0, 0), (132, .aload_n 0, 133, 0, 0, 0, 0), (133, .getfield 72, 136, 0, 4, 11, 0), (136, .aload_n 0, 137, 0, 0, 0, 0), (137, .getfield 75, 140, 0, 4, 12, 0), (140, .isub, 141, 0, 0, 0, 0), (141, .bipush 9, 143, 9, 0, 0, 0), (143, .if_icmp .ge 29, 146, 0, 172, 0, 0), (146, .ldc2_w 90, 149, 0, 0, 0, 27), (149, .aload_n 0, 150, 0, 0, 0, 0), (150, .getfield 86, 153, 0, 4, 13, 0), (153, .lmul, 154, 0, 0, 0, 0), (154, .aload_n 0, 155, 0, 0, 0, 0), (155, .getfield 26, 158, 0, 4, 10, 0), (158, .aload_n 0, 159, 0, 0, 0, 0), (159, .getfield 72, 162, 0, 4, 11, 0), (162, .iaload, 163, 0, 0, 0, 0), (163, .i2l, 164, 0, 0, 0, 0), (164, .ladd, 165, 0, 0, 0, 0), (165, .ldc2_w 92, 168, 0, 0, 0, 96), (168, .lsub, 169, 0, 0, 0, 0), (169, .goto 6, 172, 0, 175, 0, 0), (172, .ldc2_w 94, 175, 0, 0, 0, -4), (175, .putfield 86, 178, 0, 4, 13, 0), (178, .aload_n 0, 179, 0, 0, 0, 0), (179, .dup, 180, 0, 0, 0, 0), (180, .getfield 72, 183, 0, 4, 11, 0), (183, .iconst 1, 184, 1, 0, 0, 0), (184, .iadd, 185, 0, 0, 0, 0), (185, .putfield 72, 188, 0, 4, 11, 0), (188, .goto (-87), 191, 0, 101, 0, 0), (191, .aload_n 0, 192, 0, 0, 0, 0), (192, .aload_n 0, 193, 0, 0, 0, 0), (193, .getfield 72, 196, 0, 4, 11, 0), (196, .aload_n 0, 197, 0, 0, 0, 0), (197, .getfield 75, 200, 0, 4, 12, 0), (200, .isub, 201, 0, 0, 0, 0), (201, .bipush 9, 203, 9, 0, 0, 0), (203, .if_icmp .le 9, 206, 0, 212, 0, 0), (206, .ldc2_w 94, 209, 0, 0, 0, -4), (209, .goto 7, 212, 0, 216, 0, 0), (212, .aload_n 0, 213, 0, 0, 0, 0), (213, .getfield 86, 216, 0, 4, 13, 0), (216, .putfield 86, 219, 0, 4, 13, 0), (219, .goto 175, 222, 0, 394, 0, 0), (222, .aload_n 0, 223, 0, 0, 0, 0), (223, .getfield 26, 226, 0, 4, 10, 0), (226, .aload_n 0, 227, 0, 0, 0, 0), (227, .getfield 72, 230, 0, 4, 11, 0), (230, .iaload, 231, 0, 0, 0, 0), (231, .bipush 48, 233, 48, 0, 0, 0), (233, .bipush 57, 235, 57, 0, 0, 0), (235, .invokestatic 51, 238, 0, 80, 0, 0), (238, .ifCond .eq 119, 241, 0, 357, 0, 0), (241, .aload_n 0, 242, 0, 0, 0, 0), (242, .getfield 72, 245, 0, 4, 11, 0)]
def tb_X4_nextToken_2 : List pm_E := [(245, .aload_n 0, 246, 0, 0, 0, 0), (246, .getfield 67, 249, 0, 4, 9, 0), (249, .if_icmp .ge 84, 252, 0, 333, 0, 0), (252, .aload_n 0, 253, 0, 0, 0, 0), (253, .getfield 26, 256, 0, 4, 10, 0), (256, .aload_n 0, 257, 0, 0, 0, 0), (257, .getfield 72, 260, 0, 4, 11, 0), (260, .iaload, 261, 0, 0, 0, 0), (261, .bipush 48, 263, 48, 0, 0, 0), (263, .bipush 57, 265, 57, 0, 0, 0), (265, .invokestatic 51, 268, 0, 80, 0, 0), (268, .ifCond .eq 65, 271, 0, 333, 0, 0), (271, .aload_n 0, 272, 0, 0, 0, 0), (272, .aload_n 0, 273, 0, 0, 0, 0), (273, .getfield 78, 276, 0, 4, 14, 0), (276, .iconst 3, 277, 3, 0, 0, 0), (277, .if_icmp .ge 26, 280, 0, 303, 0, 0), (280, .bipush 10, 282, 10, 0, 0, 0), (282, .aload_n 0, 283, 0, 0, 0, 0), (283, .getfield 81, 286, 0, 4, 15, 0), (286, .imul, 287, 0, 0, 0, 0), (287, .aload_n 0, 288, 0, 0, 0, 0), (288, .getfield 26, 291, 0, 4, 10, 0), (291, .aload_n 0, 292, 0, 0, 0, 0), (292, .getfield 72, 295, 0, 4, 11, 0), (295, .iaload, 296, 0, 0, 0, 0), (296, .iadd, 297, 0, 0, 0, 0), (297, .bipush 48, 299, 48, 0, 0, 0), (299, .isub, 300, 0, 0, 0, 0), (300, .goto 7, 303, 0, 307, 0, 0), (303, .aload_n 0, 304, 0, 0, 0, 0), (304, .getfield 81, 307, 0, 4, 15, 0), (307, .putfield 81, 310, 0, 4, 15, 0), (310, .aload_n 0, 311, 0, 0, 0, 0), (311, .dup, 312, 0, 0, 0, 0), (312, .getfield 78, 315, 0, 4, 14, 0), (315, .iconst 1, 316, 1, 0, 0, 0), (316, .iadd, 317, 0, 0, 0, 0), (317, .putfield 78, 320, 0, 4, 14, 0), (320, .aload_n 0, 321, 0, 0, 0, 0), (321, .dup, 322, 0, 0, 0, 0), (322, .getfield 72, 325, 0, 4, 11, 0), (325, .iconst 1, 326, 1, 0, 0, 0), (326, .iadd, 327, 0, 0, 0, 0), (327, .putfield 72, 330, 0, 4, 11, 0), (330, .goto (-89), 333, 0, 241, 0, 0), (333, .aload_n 0, 334, 0, 0, 0, 0), (334, .aload_n 0, 335, 0, 0, 0, 0), (335, .getfield 78, 338, 0, 4, 14, 0), (338, .iconst 3, 339, 3, 0, 0, 0), (339, .if_icmp .le 9, 342, 0, 348, 0, 0), (342, .ldc2_w 94, 345, 0, 0, 0, -4), (345, .goto 6, 348, 0, 351, 0, 0), (348, .ldc2_w 96, 351, 0, 0, 0, -1), (351, .putfield 86, 354, 0, 4, 13, 0), (354, .goto 40, 357, 0, 394, 0, 0), (357, .aload_n 0, 358, 0, 0, 0, 0), (358, .aload_n 0, 359, 0, 0, 0, 0), (359, .getfield 26, 362, 0, 4, 10, 0), (362, .aload_n 0, 363, 0, 0, 0, 0)]
def tb_X4_nextToken_3 : List pm_E := [(363, .getfield 72, 366, 0, 4, 11, 0), (366, .iaload, 367, 0, 0, 0, 0), (367, .bipush 59, 369, 59, 0, 0, 0), (369, .if_icmp .ne 9, 372, 0, 378, 0, 0), (372, .ldc2_w 98, 375, 0, 0, 0, -3), (375, .goto 6, 378, 0, 381, 0, 0), (378, .ldc2_w 94, 381, 0, 0, 0, -4), (381, .putfield 86, 384, 0, 4, 13, 0), (384, .aload_n 0, 385, 0, 0, 0, 0), (385, .dup, 386, 0, 0, 0, 0), (386, .getfield 72, 389, 0, 4, 11, 0), (389, .iconst 1, 390, 1, 0, 0, 0), (390, .iadd, 391, 0, 0, 0, 0), (391, .putfield 72, 394, 0, 4, 11, 0), (394, .return_, 395, 0, 0, 0, 0)]
def tb_X4_nextToken : List pm_E := tb_X4_nextToken_0 ++ (tb_X4_nextToken_1 ++ (tb_X4_nextToken_2 ++ (tb_X4_nextToken_3)))
def tb_X4_fails : List pm_E := [(0, .aload_n 0, 1, 0, 0, 0, 0), (1, .aload_n 0, 2, 0, 0, 0, 0), (2, .getfield 75, 5, 0, 4, 12, 0), (5, .putfield 100, 8, 0, 4, 16, 0), (8, .iconst 0, 9, 0, 0, 0, 0), (9, .ireturn, 10, 0, 0, 0, 0)]
def tb_X4_isNumber : List pm_E := [(0, .aload_n 0, 1, 0, 0, 0, 0), (1, .invokevirtual 103, 4, 0, 87, 0, 0), (4, .aload_n 0, 5, 0, 0, 0, 0), (5, .getfield 86, 8, 0, 4, 13, 0), (8, .ldc2_w 96, 11, 0, 0, 0, -1), (11, .lcmp, 12, 0, 0, 0, 0), (12, .ifCond .ne 15, 15, 0, 27, 0, 0), (15, .aload_n 0, 16, 0, 0, 0, 0), (16, .getfield 81, 19, 0, 4, 15, 0), (19, .iload_n 2, 20, 0, 0, 2, 0), (20, .iload_n 3, 21, 0, 0, 3, 0), (21, .invokestatic 51, 24, 0, 80, 0, 0), (24, .ifCond .ne 8, 27, 0, 32, 0, 0), (27, .aload_n 0, 28, 0, 0, 0, 0), (28, .invokevirtual 106, 31, 0, 88, 0, 0), (31, .ireturn, 32, 0, 0, 0, 0), (32, .aload_n 0, 33, 0, 0, 0, 0), (33, .getfield 29, 36, 0, 4, 21, 0), (36, .iload_n 1, 37, 0, 0, 1, 0), (37, .aload_n 0, 38, 0, 0, 0, 0), (38, .getfield 81, 41, 0, 4, 15, 0), (41, .iastore, 42, 0, 0, 0, 0), (42, .iconst 1, 43, 1, 0, 0, 0), (43, .ireturn, 44, 0, 0, 0, 0)]
def tb_X4_isPlace : List pm_E := [(0, .aload_n 0, 1, 0, 0, 0, 0), (1, .iload_n 1, 2, 0, 0, 1, 0), (2, .iconst 0, 3, 0, 0, 0, 0), (3, .aload_n 0, 4, 0, 0, 0, 0), (4, .getfield 110, 7, 0, 4, 18, 0), (7, .iconst 1, 8, 1, 0, 0, 0), (8, .isub, 9, 0, 0, 0, 0), (9, .invokevirtual 113, 12, 0, 89, 0, 0), (12, .ireturn, 13, 0, 0, 0, 0)]
def tb_X4_arePlaces : List pm_E := [(0, .aload_n 0, 1, 0, 0, 0, 0), (1, .iload_n 1, 2, 0, 0, 1, 0), (2, .iconst 1, 3, 1, 0, 0, 0), (3, .iadd, 4, 0, 0, 0, 0), (4, .invokevirtual 116, 7, 0, 90, 0, 0), (7, .ifCond .eq 13, 10, 0, 20, 0, 0), (10, .aload_n 0, 11, 0, 0, 0, 0), (11, .iload_n 1, 12, 0, 0, 1, 0), (12, .iconst 2, 13, 2, 0, 0, 0), (13, .iadd, 14, 0, 0, 0, 0), (14, .invokevirtual 116, 17, 0, 90, 0, 0), (17, .ifCond .ne 5, 20, 0, 22, 0, 0), (20, .iconst 0, 21, 0, 0, 0, 0), (21, .ireturn, 22, 0, 0, 0, 0), (22, .aload_n 0, 23, 0, 0, 0, 0), (23, .getfield 29, 26, 0, 4, 21, 0), (26, .iload_n 1, 27, 0, 0, 1, 0), (27, .iconst 1, 28, 1, 0, 0, 0), (28, .iadd, 29, 0, 0, 0, 0), (29, .iaload, 30, 0, 0, 0, 0), (30, .aload_n 0, 31, 0, 0, 0, 0), (31, .getfield 29, 34, 0, 4, 21, 0), (34, .iload_n 1, 35, 0, 0, 1, 0), (35, .iconst 2, 36, 2, 0, 0, 0), (36, .iadd, 37, 0, 0, 0, 0), (37, .iaload, 38, 0, 0, 0, 0), (38, .if_icmp .ne 10, 41, 0, 48, 0, 0), (41, .aload_n 0, 42, 0, 0, 0, 0), (42, .invokevirtual 106, 45, 0, 88, 0, 0), (45, .ifCond .eq 7, 48, 0, 52, 0, 0), (48, .iconst 1, 49, 1, 0, 0, 0), (49, .goto 4, 52, 0, 53, 0, 0), (52, .iconst 0, 53, 0, 0, 0, 0), (53, .ireturn, 54, 0, 0, 0, 0)]
def tb_X4_isTown : List pm_E := [(0, .aload_n 0, 1, 0, 0, 0, 0), (1, .iload_n 1, 2, 0, 0, 1, 0), (2, .iconst 1, 3, 1, 0, 0, 0), (3, .iadd, 4, 0, 0, 0, 0), (4, .iconst 2, 5, 2, 0, 0, 0), (5, .bipush 8, 7, 8, 0, 0, 0), (7, .invokevirtual 113, 10, 0, 89, 0, 0), (10, .ifCond .ne 5, 13, 0, 15, 0, 0), (13, .iconst 0, 14, 0, 0, 0, 0), (14, .ireturn, 15, 0, 0, 0, 0), (15, .aload_n 0, 16, 0, 0, 0, 0), (16, .aload_n 0, 17, 0, 0, 0, 0), (17, .getfield 29, 20, 0, 4, 21, 0), (20, .iload_n 1, 21, 0, 0, 1, 0), (21, .iconst 1, 22, 1, 0, 0, 0), (22, .iadd, 23, 0, 0, 0, 0), (23, .iaload, 24, 0, 0, 0, 0), (24, .putfield 110, 27, 0, 4, 18, 0), (27, .aload_n 0, 28, 0, 0, 0, 0), (28, .iconst 0, 29, 0, 0, 0, 0), (29, .putfield 120, 32, 0, 4, 19, 0), (32, .aload_n 0, 33, 0, 0, 0, 0), (33, .iconst 0, 34, 0, 0, 0, 0), (34, .putfield 123, 37, 0, 4, 20, 0), (37, .iconst 1, 38, 1, 0, 0, 0), (38, .ireturn, 39, 0, 0, 0, 0)]
def tb_X4_isStreetLine : List pm_E := [(0, .aload_n 0, 1, 0, 0, 0, 0), (1, .getfield 120, 4, 0, 4, 19, 0), (4, .bipush 12, 6, 12, 0, 0, 0), (6, .if_icmp .ne 8, 9, 0, 14, 0, 0), (9, .aload_n 0, 10, 0, 0, 0, 0), (10, .invokevirtual 106, 13, 0, 88, 0, 0), (13, .ireturn, 14, 0, 0, 0, 0), (14, .aload_n 0, 15, 0, 0, 0, 0), (15, .dup, 16, 0, 0, 0, 0), (16, .getfield 120, 19, 0, 4, 19, 0), (19, .iconst 1, 20, 1, 0, 0, 0), (20, .iadd, 21, 0, 0, 0, 0), (21, .putfield 120, 24, 0, 4, 19, 0), (24, .aload_n 0, 25, 0, 0, 0, 0), (25, .iload_n 1, 26, 0, 0, 1, 0), (26, .invokevirtual 126, 29, 0, 91, 0, 0), (29, .ifCond .eq 20, 32, 0, 49, 0, 0), (32, .aload_n 0, 33, 0, 0, 0, 0), (33, .iload_n 1, 34, 0, 0, 1, 0), (34, .iconst 3, 35, 3, 0, 0, 0), (35, .iadd, 36, 0, 0, 0, 0), (36, .iconst 1, 37, 1, 0, 0, 0), (37, .bipush 99, 39, 99, 0, 0, 0), (39, .invokevirtual 113, 42, 0, 89, 0, 0), (42, .ifCond .eq 7, 45, 0, 49, 0, 0), (45, .iconst 1, 46, 1, 0, 0, 0), (46, .goto 4, 49, 0, 50, 0, 0), (49, .iconst 0, 50, 0, 0, 0, 0), (50, .ireturn, 51, 0, 0, 0, 0)]
def tb_X4_isErrand : List pm_E := [(0, .aload_n 0, 1, 0, 0, 0, 0), (1, .getfield 123, 4, 0, 4, 20, 0), (4, .bipush 8, 6, 8, 0, 0, 0), (6, .if_icmp .ne 8, 9, 0, 14, 0, 0), (9, .aload_n 0, 10, 0, 0, 0, 0), (10, .invokevirtual 106, 13, 0, 88, 0, 0), (13, .ireturn, 14, 0, 0, 0, 0), (14, .aload_n 0, 15, 0, 0, 0, 0), (15, .dup, 16, 0, 0, 0, 0), (16, .getfield 123, 19, 0, 4, 20, 0), (19, .iconst 1, 20, 1, 0, 0, 0), (20, .iadd, 21, 0, 0, 0, 0), (21, .putfield 123, 24, 0, 4, 20, 0), (24, .aload_n 0, 25, 0, 0, 0, 0), (25, .iload_n 1, 26, 0, 0, 1, 0), (26, .invokevirtual 126, 29, 0, 91, 0, 0), (29, .ireturn, 30, 0, 0, 0, 0)]
def tb_X4_isLine_0 : List pm_E := [(0, .aload_n 0, 1, 0, 0, 0, 0), (1, .invokevirtual 103, 4, 0, 87, 0, 0), (4, .aload_n 0, 5, 0, 0, 0, 0), (5, .getfield 86, 8, 0, 4, 13, 0), (8, .ldc2_w 129, 11, 0, 0, 0, 8538916), (11, .lcmp, 12, 0, 0, 0, 0), (12, .ifCond .ne 7, 15, 0, 19, 0, 0), (15, .iconst 0, 16, 0, 0, 0, 0), (16, .goto 95, 19, 0, 111, 0, 0), (19, .aload_n 0, 20, 0, 0, 0, 0), (20, .getfield 86, 23, 0, 4, 13, 0), (23, .ldc2_w 131, 26, 0, 0, 0, 6491892), (26, .lcmp, 27, 0, 0, 0, 0), (27, .ifCond .ne 7, 30, 0, 34, 0, 0), (30, .iconst 1, 31, 1, 0, 0, 0), (31, .goto 80, 34, 0, 111, 0, 0), (34, .aload_n 0, 35, 0, 0, 0, 0), (35, .getfield 86, 38, 0, 4, 13, 0), (38, .ldc2_w 133, 41, 0, 0, 0, 10492029), (41, .lcmp, 42, 0, 0, 0, 0), (42, .ifCond .ne 7, 45, 0, 49, 0, 0), (45, .iconst 2, 46, 2, 0, 0, 0), (46, .goto 65, 49, 0, 111, 0, 0), (49, .aload_n 0, 50, 0, 0, 0, 0), (50, .getfield 86, 53, 0, 4, 13, 0), (53, .ldc2_w 135, 56, 0, 0, 0, 38444009), (56, .lcmp, 57, 0, 0, 0, 0), (57, .ifCond .ne 7, 60, 0, 64, 0, 0), (60, .iconst 3, 61, 3, 0, 0, 0), (61, .goto 50, 64, 0, 111, 0, 0), (64, .aload_n 0, 65, 0, 0, 0, 0), (65, .getfield 86, 68, 0, 4, 13, 0), (68, .ldc2_w 137, 71, 0, 0, 0, 583), (71, .lcmp, 72, 0, 0, 0, 0), (72, .ifCond .ne 7, 75, 0, 79, 0, 0), (75, .iconst 4, 76, 4, 0, 0, 0), (76, .goto 35, 79, 0, 111, 0, 0), (79, .aload_n 0, 80, 0, 0, 0, 0), (80, .getfield 86, 83, 0, 4, 13, 0), (83, .ldc2_w 139, 86, 0, 0, 0, 114602), (86, .lcmp, 87, 0, 0, 0, 0), (87, .ifCond .ne 7, 90, 0, 94, 0, 0), (90, .iconst 5, 91, 5, 0, 0, 0), (91, .goto 20, 94, 0, 111, 0, 0), (94, .aload_n 0, 95, 0, 0, 0, 0), (95, .getfield 86, 98, 0, 4, 13, 0), (98, .ldc2_w 141, 101, 0, 0, 0, 90302), (101, .lcmp, 102, 0, 0, 0, 0), (102, .ifCond .ne 8, 105, 0, 110, 0, 0), (105, .bipush 6, 107, 6, 0, 0, 0), (107, .goto 4, 110, 0, 111, 0, 0), (110, .iconst (-1), 111, -1, 0, 0, 0), (111, .istore_n 2, 112, 0, 0, 2, 0), (112, .aload_n 0, 113, 0, 0, 0, 0), (113, .getfield 86, 116, 0, 4, 13, 0), (116, .ldc2_w 143, 119, 0, 0, 0, 405230), (119, .lcmp, 120, 0, 0, 0, 0), (120, .ifCond .ne 8, 123, 0, 128, 0, 0), (123, .bipush 7, 125, 7, 0, 0, 0), (125, .goto 100, 128, 0, 225, 0, 0)]
def tb_X4_isLine_1 : List pm_E := [(128, .aload_n 0, 129, 0, 0, 0, 0), (129, .getfield 86, 132, 0, 4, 13, 0), (132, .ldc2_w 145, 135, 0, 0, 0, 51382989), (135, .lcmp, 136, 0, 0, 0, 0), (136, .ifCond .ne 8, 139, 0, 144, 0, 0), (139, .bipush 8, 141, 8, 0, 0, 0), (141, .goto 84, 144, 0, 225, 0, 0), (144, .aload_n 0, 145, 0, 0, 0, 0), (145, .getfield 86, 148, 0, 4, 13, 0), (148, .ldc2_w 147, 151, 0, 0, 0, 10506440), (151, .lcmp, 152, 0, 0, 0, 0), (152, .ifCond .ne 8, 155, 0, 160, 0, 0), (155, .bipush 9, 157, 9, 0, 0, 0), (157, .goto 68, 160, 0, 225, 0, 0), (160, .aload_n 0, 161, 0, 0, 0, 0), (161, .getfield 86, 164, 0, 4, 13, 0), (164, .ldc2_w 149, 167, 0, 0, 0, 131360), (167, .lcmp, 168, 0, 0, 0, 0), (168, .ifCond .ne 8, 171, 0, 176, 0, 0), (171, .bipush 10, 173, 10, 0, 0, 0), (173, .goto 52, 176, 0, 225, 0, 0), (176, .aload_n 0, 177, 0, 0, 0, 0), (177, .getfield 86, 180, 0, 4, 13, 0), (180, .ldc2_w 151, 183, 0, 0, 0, 158523), (183, .lcmp, 184, 0, 0, 0, 0), (184, .ifCond .ne 8, 187, 0, 192, 0, 0), (187, .bipush 11, 189, 11, 0, 0, 0), (189, .goto 36, 192, 0, 225, 0, 0), (192, .aload_n 0, 193, 0, 0, 0, 0), (193, .getfield 86, 196, 0, 4, 13, 0), (196, .ldc2_w 153, 199, 0, 0, 0, 81665878), (199, .lcmp, 200, 0, 0, 0, 0), (200, .ifCond .ne 8, 203, 0, 208, 0, 0), (203, .bipush 12, 205, 12, 0, 0, 0), (205, .goto 20, 208, 0, 225, 0, 0), (208, .aload_n 0, 209, 0, 0, 0, 0), (209, .getfield 86, 212, 0, 4, 13, 0), (212, .ldc2_w 155, 215, 0, 0, 0, 180392), (215, .lcmp, 216, 0, 0, 0, 0), (216, .ifCond .ne 8, 219, 0, 224, 0, 0), (219, .bipush 13, 221, 13, 0, 0, 0), (221, .goto 4, 224, 0, 225, 0, 0), (224, .iconst (-1), 225, -1, 0, 0, 0), (225, .istore_n 3, 226, 0, 0, 3, 0), (226, .aload_n 0, 227, 0, 0, 0, 0), (227, .getfield 29, 230, 0, 4, 21, 0), (230, .iload_n 1, 231, 0, 0, 1, 0), (231, .iload_n 2, 232, 0, 0, 2, 0), (232, .iconst (-1), 233, -1, 0, 0, 0), (233, .if_icmp .ne 7, 236, 0, 240, 0, 0), (236, .iload_n 3, 237, 0, 0, 3, 0), (237, .goto 4, 240, 0, 241, 0, 0), (240, .iload_n 2, 241, 0, 0, 2, 0), (241, .iastore, 242, 0, 0, 0, 0), (242, .aload_n 0, 243, 0, 0, 0, 0), (243, .getfield 29, 246, 0, 4, 21, 0), (246, .iload_n 1, 247, 0, 0, 1, 0), (247, .iaload, 248, 0, 0, 0, 0), (248, .tableswitch 162 0 13 #[72, 72, 72, 72, 78, 78, 78, 80, 86, 128, 128, 136, 149, 155], 320, 0, 410, 0, 0), (320, .aload_n 0, 321, 0, 0, 0, 0)]
def tb_X4_isLine_2 : List pm_E := [(321, .iload_n 1, 322, 0, 0, 1, 0), (322, .invokevirtual 157, 325, 0, 93, 0, 0), (325, .ireturn, 326, 0, 0, 0, 0), (326, .iconst 1, 327, 1, 0, 0, 0), (327, .ireturn, 328, 0, 0, 0, 0), (328, .aload_n 0, 329, 0, 0, 0, 0), (329, .iload_n 1, 330, 0, 0, 1, 0), (330, .invokevirtual 160, 333, 0, 92, 0, 0), (333, .ireturn, 334, 0, 0, 0, 0), (334, .aload_n 0, 335, 0, 0, 0, 0), (335, .iload_n 1, 336, 0, 0, 1, 0), (336, .iconst 1, 337, 1, 0, 0, 0), (337, .iadd, 338, 0, 0, 0, 0), (338, .invokevirtual 116, 341, 0, 90, 0, 0), (341, .ifCond .eq 33, 344, 0, 374, 0, 0), (344, .aload_n 0, 345, 0, 0, 0, 0), (345, .iload_n 1, 346, 0, 0, 1, 0), (346, .iconst 2, 347, 2, 0, 0, 0), (347, .iadd, 348, 0, 0, 0, 0), (348, .iconst 0, 349, 0, 0, 0, 0), (349, .bipush 99, 351, 99, 0, 0, 0), (351, .invokevirtual 113, 354, 0, 89, 0, 0), (354, .ifCond .eq 20, 357, 0, 374, 0, 0), (357, .aload_n 0, 358, 0, 0, 0, 0), (358, .iload_n 1, 359, 0, 0, 1, 0), (359, .iconst 3, 360, 3, 0, 0, 0), (360, .iadd, 361, 0, 0, 0, 0), (361, .iconst 0, 362, 0, 0, 0, 0), (362, .bipush 99, 364, 99, 0, 0, 0), (364, .invokevirtual 113, 367, 0, 89, 0, 0), (367, .ifCond .eq 7, 370, 0, 374, 0, 0), (370, .iconst 1, 371, 1, 0, 0, 0), (371, .goto 4, 374, 0, 375, 0, 0), (374, .iconst 0, 375, 0, 0, 0, 0), (375, .ireturn, 376, 0, 0, 0, 0), (376, .aload_n 0, 377, 0, 0, 0, 0), (377, .iload_n 1, 378, 0, 0, 1, 0), (378, .iconst 1, 379, 1, 0, 0, 0), (379, .iadd, 380, 0, 0, 0, 0), (380, .invokevirtual 116, 383, 0, 90, 0, 0), (383, .ireturn, 384, 0, 0, 0, 0), (384, .aload_n 0, 385, 0, 0, 0, 0), (385, .iload_n 1, 386, 0, 0, 1, 0), (386, .iconst 1, 387, 1, 0, 0, 0), (387, .iadd, 388, 0, 0, 0, 0), (388, .bipush 10, 390, 10, 0, 0, 0), (390, .sipush 999, 393, 999, 0, 0, 0), (393, .invokevirtual 113, 396, 0, 89, 0, 0), (396, .ireturn, 397, 0, 0, 0, 0), (397, .aload_n 0, 398, 0, 0, 0, 0), (398, .iload_n 1, 399, 0, 0, 1, 0), (399, .invokevirtual 163, 402, 0, 94, 0, 0), (402, .ireturn, 403, 0, 0, 0, 0), (403, .aload_n 0, 404, 0, 0, 0, 0), (404, .iconst 0, 405, 0, 0, 0, 0), (405, .putfield 123, 408, 0, 4, 20, 0), (408, .iconst 1, 409, 1, 0, 0, 0), (409, .ireturn, 410, 0, 0, 0, 0), (410, .aload_n 0, 411, 0, 0, 0, 0), (411, .invokevirtual 106, 414, 0, 88, 0, 0)]
def tb_X4_isLine_3 : List pm_E := [(414, .ireturn, 415, 0, 0, 0, 0)]
def tb_X4_isLine : List pm_E := tb_X4_isLine_0 ++ (tb_X4_isLine_1 ++ (tb_X4_isLine_2 ++ (tb_X4_isLine_3)))
def tb_X4_isRead_0 : List pm_E := [(0, .aload_n 0, 1, 0, 0, 0, 0), (1, .iconst 0, 2, 0, 0, 0, 0), (2, .putfield 72, 5, 0, 4, 11, 0), (5, .aload_n 0, 6, 0, 0, 0, 0), (6, .iconst 0, 7, 0, 0, 0, 0), (7, .putfield 166, 10, 0, 4, 17, 0), (10, .aload_n 0, 11, 0, 0, 0, 0), (11, .aload_n 0, 12, 0, 0, 0, 0), (12, .getfield 7, 15, 0, 4, 0, 0), (15, .putfield 110, 18, 0, 4, 18, 0), (18, .aload_n 0, 19, 0, 0, 0, 0), (19, .aload_n 0, 20, 0, 0, 0, 0), (20, .getfield 55, 23, 0, 4, 3, 0), (23, .putfield 120, 26, 0, 4, 19, 0), (26, .aload_n 0, 27, 0, 0, 0, 0), (27, .aload_n 0, 28, 0, 0, 0, 0), (28, .getfield 64, 31, 0, 4, 7, 0), (31, .putfield 123, 34, 0, 4, 20, 0), (34, .iconst 1, 35, 1, 0, 0, 0), (35, .istore_n 1, 36, 0, 0, 1, 0), (36, .iload_n 1, 37, 0, 0, 1, 0), (37, .ifCond .eq 61, 40, 0, 98, 0, 0), (40, .aload_n 0, 41, 0, 0, 0, 0), (41, .iconst 4, 42, 4, 0, 0, 0), (42, .aload_n 0, 43, 0, 0, 0, 0), (43, .getfield 166, 46, 0, 4, 17, 0), (46, .imul, 47, 0, 0, 0, 0), (47, .invokevirtual 169, 50, 0, 95, 0, 0), (50, .ifCond .ne 5, 53, 0, 55, 0, 0), (53, .iconst 0, 54, 0, 0, 0, 0), (54, .ireturn, 55, 0, 0, 0, 0), (55, .aload_n 0, 56, 0, 0, 0, 0), (56, .dup, 57, 0, 0, 0, 0), (57, .getfield 166, 60, 0, 4, 17, 0), (60, .iconst 1, 61, 1, 0, 0, 0), (61, .iadd, 62, 0, 0, 0, 0), (62, .putfield 166, 65, 0, 4, 17, 0), (65, .aload_n 0, 66, 0, 0, 0, 0), (66, .invokevirtual 103, 69, 0, 87, 0, 0), (69, .aload_n 0, 70, 0, 0, 0, 0), (70, .getfield 86, 73, 0, 4, 13, 0), (73, .ldc2_w 98, 76, 0, 0, 0, -3), (76, .lcmp, 77, 0, 0, 0, 0), (77, .ifCond .ne 16, 80, 0, 93, 0, 0), (80, .aload_n 0, 81, 0, 0, 0, 0), (81, .getfield 166, 84, 0, 4, 17, 0), (84, .bipush 12, 86, 12, 0, 0, 0), (86, .if_icmp .ge 7, 89, 0, 93, 0, 0), (89, .iconst 1, 90, 1, 0, 0, 0), (90, .goto 4, 93, 0, 94, 0, 0), (93, .iconst 0, 94, 0, 0, 0, 0), (94, .istore_n 1, 95, 0, 0, 1, 0), (95, .goto (-59), 98, 0, 36, 0, 0), (98, .aload_n 0, 99, 0, 0, 0, 0), (99, .getfield 86, 102, 0, 4, 13, 0), (102, .ldc2_w 84, 105, 0, 0, 0, -2), (105, .lcmp, 106, 0, 0, 0, 0), (106, .ifCond .eq 10, 109, 0, 116, 0, 0), (109, .aload_n 0, 110, 0, 0, 0, 0), (110, .invokevirtual 106, 113, 0, 88, 0, 0)]
def tb_X4_isRead_1 : List pm_E := [(113, .ifCond .eq 7, 116, 0, 120, 0, 0), (116, .iconst 1, 117, 1, 0, 0, 0), (117, .goto 4, 120, 0, 121, 0, 0), (120, .iconst 0, 121, 0, 0, 0, 0), (121, .ireturn, 122, 0, 0, 0, 0)]
def tb_X4_isRead : List pm_E := tb_X4_isRead_0 ++ (tb_X4_isRead_1)
def tb_X4_fault : List pm_E := [(0, .aload_n 0, 1, 0, 0, 0, 0), (1, .invokevirtual 172, 4, 0, 96, 0, 0), (4, .ifCond .eq 7, 7, 0, 11, 0, 0), (7, .iconst (-1), 8, -1, 0, 0, 0), (8, .goto 7, 11, 0, 15, 0, 0), (11, .aload_n 0, 12, 0, 0, 0, 0), (12, .getfield 100, 15, 0, 4, 16, 0), (15, .ireturn, 16, 0, 0, 0, 0)]
def tb_X4_doLine_0 : List pm_E := [(0, .aload_n 0, 1, 0, 0, 0, 0), (1, .getfield 29, 4, 0, 4, 21, 0), (4, .iload_n 1, 5, 0, 0, 1, 0), (5, .iconst 1, 6, 1, 0, 0, 0), (6, .iadd, 7, 0, 0, 0, 0), (7, .iaload, 8, 0, 0, 0, 0), (8, .istore_n 2, 9, 0, 0, 2, 0), (9, .aload_n 0, 10, 0, 0, 0, 0), (10, .getfield 29, 13, 0, 4, 21, 0), (13, .iload_n 1, 14, 0, 0, 1, 0), (14, .iconst 2, 15, 2, 0, 0, 0), (15, .iadd, 16, 0, 0, 0, 0), (16, .iaload, 17, 0, 0, 0, 0), (17, .istore_n 3, 18, 0, 0, 3, 0), (18, .aload_n 0, 19, 0, 0, 0, 0), (19, .getfield 29, 22, 0, 4, 21, 0), (22, .iload_n 1, 23, 0, 0, 1, 0), (23, .iaload, 24, 0, 0, 0, 0), (24, .tableswitch 280 0 13 #[72, 72, 72, 72, 280, 280, 280, 151, 163, 193, 208, 225, 233, 272], 96, 0, 304, 0, 0), (96, .aload_n 0, 97, 0, 0, 0, 0), (97, .getfield 17, 100, 0, 4, 4, 0), (100, .iconst 4, 101, 4, 0, 0, 0), (101, .aload_n 0, 102, 0, 0, 0, 0), (102, .getfield 55, 105, 0, 4, 3, 0), (105, .imul, 106, 0, 0, 0, 0), (106, .iload_n 2, 107, 0, 0, 2, 0), (107, .iastore, 108, 0, 0, 0, 0), (108, .aload_n 0, 109, 0, 0, 0, 0), (109, .getfield 17, 112, 0, 4, 4, 0), (112, .iconst 4, 113, 4, 0, 0, 0), (113, .aload_n 0, 114, 0, 0, 0, 0), (114, .getfield 55, 117, 0, 4, 3, 0), (117, .imul, 118, 0, 0, 0, 0), (118, .iconst 1, 119, 1, 0, 0, 0), (119, .iadd, 120, 0, 0, 0, 0), (120, .iload_n 3, 121, 0, 0, 3, 0), (121, .iastore, 122, 0, 0, 0, 0), (122, .aload_n 0, 123, 0, 0, 0, 0), (123, .getfield 17, 126, 0, 4, 4, 0), (126, .iconst 4, 127, 4, 0, 0, 0), (127, .aload_n 0, 128, 0, 0, 0, 0), (128, .getfield 55, 131, 0, 4, 3, 0), (131, .imul, 132, 0, 0, 0, 0), (132, .iconst 2, 133, 2, 0, 0, 0), (133, .iadd, 134, 0, 0, 0, 0), (134, .aload_n 0, 135, 0, 0, 0, 0), (135, .getfield 29, 138, 0, 4, 21, 0), (138, .iload_n 1, 139, 0, 0, 1, 0), (139, .iaload, 140, 0, 0, 0, 0), (140, .iastore, 141, 0, 0, 0, 0), (141, .aload_n 0, 142, 0, 0, 0, 0), (142, .getfield 17, 145, 0, 4, 4, 0), (145, .iconst 4, 146, 4, 0, 0, 0), (146, .aload_n 0, 147, 0, 0, 0, 0), (147, .getfield 55, 150, 0, 4, 3, 0), (150, .imul, 151, 0, 0, 0, 0), (151, .iconst 3, 152, 3, 0, 0, 0), (152, .iadd, 153, 0, 0, 0, 0), (153, .aload_n 0, 154, 0, 0, 0, 0), (154, .getfield 29, 157, 0, 4, 21, 0)]
def tb_X4_doLine_1 : List pm_E := [(157, .iload_n 1, 158, 0, 0, 1, 0), (158, .iconst 3, 159, 3, 0, 0, 0), (159, .iadd, 160, 0, 0, 0, 0), (160, .iaload, 161, 0, 0, 0, 0), (161, .iastore, 162, 0, 0, 0, 0), (162, .aload_n 0, 163, 0, 0, 0, 0), (163, .dup, 164, 0, 0, 0, 0), (164, .getfield 55, 167, 0, 4, 3, 0), (167, .iconst 1, 168, 1, 0, 0, 0), (168, .iadd, 169, 0, 0, 0, 0), (169, .putfield 55, 172, 0, 4, 3, 0), (172, .goto 144, 175, 0, 316, 0, 0), (175, .aload_n 0, 176, 0, 0, 0, 0), (176, .invokevirtual 175, 179, 0, 84, 0, 0), (179, .aload_n 0, 180, 0, 0, 0, 0), (180, .iload_n 2, 181, 0, 0, 2, 0), (181, .putfield 7, 184, 0, 4, 0, 0), (184, .goto 132, 187, 0, 316, 0, 0), (187, .aload_n 0, 188, 0, 0, 0, 0), (188, .getfield 13, 191, 0, 4, 1, 0), (191, .iconst 2, 192, 2, 0, 0, 0), (192, .iload_n 2, 193, 0, 0, 2, 0), (193, .imul, 194, 0, 0, 0, 0), (194, .iload_n 3, 195, 0, 0, 3, 0), (195, .iastore, 196, 0, 0, 0, 0), (196, .aload_n 0, 197, 0, 0, 0, 0), (197, .getfield 13, 200, 0, 4, 1, 0), (200, .iconst 2, 201, 2, 0, 0, 0), (201, .iload_n 2, 202, 0, 0, 2, 0), (202, .imul, 203, 0, 0, 0, 0), (203, .iconst 1, 204, 1, 0, 0, 0), (204, .iadd, 205, 0, 0, 0, 0), (205, .aload_n 0, 206, 0, 0, 0, 0), (206, .getfield 29, 209, 0, 4, 21, 0), (209, .iload_n 1, 210, 0, 0, 1, 0), (210, .iconst 3, 211, 3, 0, 0, 0), (211, .iadd, 212, 0, 0, 0, 0), (212, .iaload, 213, 0, 0, 0, 0), (213, .iastore, 214, 0, 0, 0, 0), (214, .goto 102, 217, 0, 316, 0, 0), (217, .aload_n 0, 218, 0, 0, 0, 0), (218, .aload_n 0, 219, 0, 0, 0, 0), (219, .getfield 58, 222, 0, 4, 2, 0), (222, .iconst 1, 223, 1, 0, 0, 0), (223, .iload_n 2, 224, 0, 0, 2, 0), (224, .ishl, 225, 0, 0, 0, 0), (225, .ior, 226, 0, 0, 0, 0), (226, .putfield 58, 229, 0, 4, 2, 0), (229, .goto 87, 232, 0, 316, 0, 0), (232, .aload_n 0, 233, 0, 0, 0, 0), (233, .aload_n 0, 234, 0, 0, 0, 0), (234, .getfield 58, 237, 0, 4, 2, 0), (237, .iconst 1, 238, 1, 0, 0, 0), (238, .iload_n 2, 239, 0, 0, 2, 0), (239, .ishl, 240, 0, 0, 0, 0), (240, .iconst (-1), 241, -1, 0, 0, 0), (241, .ixor, 242, 0, 0, 0, 0), (242, .iand, 243, 0, 0, 0, 0), (243, .putfield 58, 246, 0, 4, 2, 0), (246, .goto 70, 249, 0, 316, 0, 0)]
def tb_X4_doLine_2 : List pm_E := [(249, .aload_n 0, 250, 0, 0, 0, 0), (250, .iload_n 2, 251, 0, 0, 2, 0), (251, .putfield 20, 254, 0, 4, 6, 0), (254, .goto 62, 257, 0, 316, 0, 0), (257, .aload_n 0, 258, 0, 0, 0, 0), (258, .getfield 23, 261, 0, 4, 8, 0), (261, .iconst 2, 262, 2, 0, 0, 0), (262, .aload_n 0, 263, 0, 0, 0, 0), (263, .getfield 64, 266, 0, 4, 7, 0), (266, .imul, 267, 0, 0, 0, 0), (267, .iload_n 2, 268, 0, 0, 2, 0), (268, .iastore, 269, 0, 0, 0, 0), (269, .aload_n 0, 270, 0, 0, 0, 0), (270, .getfield 23, 273, 0, 4, 8, 0), (273, .iconst 2, 274, 2, 0, 0, 0), (274, .aload_n 0, 275, 0, 0, 0, 0), (275, .getfield 64, 278, 0, 4, 7, 0), (278, .imul, 279, 0, 0, 0, 0), (279, .iconst 1, 280, 1, 0, 0, 0), (280, .iadd, 281, 0, 0, 0, 0), (281, .iload_n 3, 282, 0, 0, 3, 0), (282, .iastore, 283, 0, 0, 0, 0), (283, .aload_n 0, 284, 0, 0, 0, 0), (284, .dup, 285, 0, 0, 0, 0), (285, .getfield 64, 288, 0, 4, 7, 0), (288, .iconst 1, 289, 1, 0, 0, 0), (289, .iadd, 290, 0, 0, 0, 0), (290, .putfield 64, 293, 0, 4, 7, 0), (293, .goto 23, 296, 0, 316, 0, 0), (296, .aload_n 0, 297, 0, 0, 0, 0), (297, .iconst 0, 298, 0, 0, 0, 0), (298, .putfield 64, 301, 0, 4, 7, 0), (301, .goto 15, 304, 0, 316, 0, 0), (304, .aload_n 0, 305, 0, 0, 0, 0), (305, .aload_n 0, 306, 0, 0, 0, 0), (306, .getfield 29, 309, 0, 4, 21, 0), (309, .iload_n 1, 310, 0, 0, 1, 0), (310, .iaload, 311, 0, 0, 0, 0), (311, .iconst 4, 312, 4, 0, 0, 0), (312, .isub, 313, 0, 0, 0, 0), (313, .putfield 61, 316, 0, 4, 5, 0), (316, .return_, 317, 0, 0, 0, 0)]
def tb_X4_doLine : List pm_E := tb_X4_doLine_0 ++ (tb_X4_doLine_1 ++ (tb_X4_doLine_2))
def tb_X4_town : List pm_E := [(0, .aload_n 0, 1, 0, 0, 0, 0), (1, .invokevirtual 172, 4, 0, 96, 0, 0), (4, .ifCond .ne 6, 7, 0, 10, 0, 0), (7, .bipush (-4), 9, -4, 0, 0, 0), (9, .ireturn, 10, 0, 0, 0, 0), (10, .iconst 0, 11, 0, 0, 0, 0), (11, .istore_n 1, 12, 0, 0, 1, 0), (12, .iload_n 1, 13, 0, 0, 1, 0), (13, .aload_n 0, 14, 0, 0, 0, 0), (14, .getfield 166, 17, 0, 4, 17, 0), (17, .if_icmp .ge 16, 20, 0, 33, 0, 0), (20, .aload_n 0, 21, 0, 0, 0, 0), (21, .iconst 4, 22, 4, 0, 0, 0), (22, .iload_n 1, 23, 0, 0, 1, 0), (23, .imul, 24, 0, 0, 0, 0), (24, .invokevirtual 178, 27, 0, 98, 0, 0), (27, .iinc 1 1, 30, 1, 0, 1, 0), (30, .goto (-18), 33, 0, 12, 0, 0), (33, .aload_n 0, 34, 0, 0, 0, 0), (34, .iconst 0, 35, 0, 0, 0, 0), (35, .putfield 67, 38, 0, 4, 9, 0), (38, .aload_n 0, 39, 0, 0, 0, 0), (39, .iconst 0, 40, 0, 0, 0, 0), (40, .putfield 182, 43, 0, 4, 22, 0), (43, .aload_n 0, 44, 0, 0, 0, 0), (44, .iconst 0, 45, 0, 0, 0, 0), (45, .putfield 185, 48, 0, 4, 23, 0), (48, .aload_n 0, 49, 0, 0, 0, 0), (49, .iconst 0, 50, 0, 0, 0, 0), (50, .putfield 188, 53, 0, 4, 26, 0), (53, .aload_n 0, 54, 0, 0, 0, 0), (54, .iconst 0, 55, 0, 0, 0, 0), (55, .putfield 191, 58, 0, 4, 28, 0), (58, .aload_n 0, 59, 0, 0, 0, 0), (59, .getfield 35, 62, 0, 4, 25, 0), (62, .iconst 0, 63, 0, 0, 0, 0), (63, .iconst 0, 64, 0, 0, 0, 0), (64, .bastore, 65, 0, 0, 0, 0), (65, .aload_n 0, 66, 0, 0, 0, 0), (66, .getfield 35, 69, 0, 4, 25, 0), (69, .iconst 1, 70, 1, 0, 0, 0), (70, .iconst 0, 71, 0, 0, 0, 0), (71, .bastore, 72, 0, 0, 0, 0), (72, .aload_n 0, 73, 0, 0, 0, 0), (73, .getfield 166, 76, 0, 4, 17, 0), (76, .ireturn, 77, 0, 0, 0, 0)]
def tb_X4_heightOf : List pm_E := [(0, .aload_n 0, 1, 0, 0, 0, 0), (1, .getfield 13, 4, 0, 4, 1, 0), (4, .iconst 2, 5, 2, 0, 0, 0), (5, .iload_n 1, 6, 0, 0, 1, 0), (6, .imul, 7, 0, 0, 0, 0), (7, .aload_n 0, 8, 0, 0, 0, 0), (8, .getfield 58, 11, 0, 4, 2, 0), (11, .iload_n 1, 12, 0, 0, 1, 0), (12, .invokestatic 194, 15, 0, 81, 0, 0), (15, .ifCond .eq 7, 18, 0, 22, 0, 0), (18, .iconst 0, 19, 0, 0, 0, 0), (19, .goto 4, 22, 0, 23, 0, 0), (22, .iload_n 2, 23, 0, 0, 2, 0), (23, .iadd, 24, 0, 0, 0, 0), (24, .iaload, 25, 0, 0, 0, 0), (25, .ireturn, 26, 0, 0, 0, 0)]
def tb_X4_corner : List pm_E := [(0, .aload_n 0, 1, 0, 0, 0, 0), (1, .iload_n 1, 2, 0, 0, 1, 0), (2, .invokevirtual 198, 5, 0, 82, 0, 0), (5, .ifCond .ne 6, 8, 0, 11, 0, 0), (8, .bipush (-2), 10, -2, 0, 0, 0), (10, .ireturn, 11, 0, 0, 0, 0), (11, .iload_n 2, 12, 0, 0, 2, 0), (12, .ifCond .eq 8, 15, 0, 20, 0, 0), (15, .iload_n 2, 16, 0, 0, 2, 0), (16, .iconst 1, 17, 1, 0, 0, 0), (17, .if_icmp .ne 12, 20, 0, 29, 0, 0), (20, .aload_n 0, 21, 0, 0, 0, 0), (21, .iload_n 1, 22, 0, 0, 1, 0), (22, .iload_n 2, 23, 0, 0, 2, 0), (23, .invokevirtual 201, 26, 0, 100, 0, 0), (26, .goto 21, 29, 0, 47, 0, 0), (29, .iload_n 2, 30, 0, 0, 2, 0), (30, .iconst 2, 31, 2, 0, 0, 0), (31, .if_icmp .ne 14, 34, 0, 45, 0, 0), (34, .aload_n 0, 35, 0, 0, 0, 0), (35, .getfield 58, 38, 0, 4, 2, 0), (38, .iload_n 1, 39, 0, 0, 1, 0), (39, .ishr, 40, 0, 0, 0, 0), (40, .iconst 1, 41, 1, 0, 0, 0), (41, .iand, 42, 0, 0, 0, 0), (42, .goto 5, 45, 0, 47, 0, 0), (45, .bipush (-3), 47, -3, 0, 0, 0), (47, .ireturn, 48, 0, 0, 0, 0)]
def tb_X4_street : List pm_E := [(0, .aload_n 0, 1, 0, 0, 0, 0), (1, .iload_n 1, 2, 0, 0, 1, 0), (2, .invokevirtual 205, 5, 0, 83, 0, 0), (5, .ifCond .ne 6, 8, 0, 11, 0, 0), (8, .bipush (-2), 10, -2, 0, 0, 0), (10, .ireturn, 11, 0, 0, 0, 0), (11, .iload_n 2, 12, 0, 0, 2, 0), (12, .iconst 0, 13, 0, 0, 0, 0), (13, .iconst 3, 14, 3, 0, 0, 0), (14, .invokestatic 51, 17, 0, 80, 0, 0), (17, .ifCond .eq 16, 20, 0, 33, 0, 0), (20, .aload_n 0, 21, 0, 0, 0, 0), (21, .getfield 17, 24, 0, 4, 4, 0), (24, .iconst 4, 25, 4, 0, 0, 0), (25, .iload_n 1, 26, 0, 0, 1, 0), (26, .imul, 27, 0, 0, 0, 0), (27, .iload_n 2, 28, 0, 0, 2, 0), (28, .iadd, 29, 0, 0, 0, 0), (29, .iaload, 30, 0, 0, 0, 0), (30, .goto 5, 33, 0, 35, 0, 0), (33, .bipush (-3), 35, -3, 0, 0, 0), (35, .ireturn, 36, 0, 0, 0, 0)]
def tb_X4_may_0 : List pm_E := [(0, .aload_n 0, 1, 0, 0, 0, 0), (1, .aload_n 0, 2, 0, 0, 0, 0), (2, .getfield 17, 5, 0, 4, 4, 0), (5, .iconst 4, 6, 4, 0, 0, 0), (6, .iload_n 1, 7, 0, 0, 1, 0), (7, .imul, 8, 0, 0, 0, 0), (8, .iconst 1, 9, 1, 0, 0, 0), (9, .iadd, 10, 0, 0, 0, 0), (10, .iload_n 2, 11, 0, 0, 2, 0), (11, .isub, 12, 0, 0, 0, 0), (12, .iaload, 13, 0, 0, 0, 0), (13, .iload_n 3, 14, 0, 0, 3, 0), (14, .invokevirtual 201, 17, 0, 100, 0, 0), (17, .aload_n 0, 18, 0, 0, 0, 0), (18, .aload_n 0, 19, 0, 0, 0, 0), (19, .getfield 17, 22, 0, 4, 4, 0), (22, .iconst 4, 23, 4, 0, 0, 0), (23, .iload_n 1, 24, 0, 0, 1, 0), (24, .imul, 25, 0, 0, 0, 0), (25, .iload_n 2, 26, 0, 0, 2, 0), (26, .iadd, 27, 0, 0, 0, 0), (27, .iaload, 28, 0, 0, 0, 0), (28, .iload_n 3, 29, 0, 0, 3, 0), (29, .invokevirtual 201, 32, 0, 100, 0, 0), (32, .isub, 33, 0, 0, 0, 0), (33, .istore 4, 35, 0, 0, 4, 0), (35, .iload_n 1, 36, 0, 0, 1, 0), (36, .aload_n 0, 37, 0, 0, 0, 0), (37, .getfield 45, 40, 0, 4, 30, 0), (40, .if_icmp .ne 7, 43, 0, 47, 0, 0), (43, .iconst 1, 44, 1, 0, 0, 0), (44, .goto 13, 47, 0, 57, 0, 0), (47, .aload_n 0, 48, 0, 0, 0, 0), (48, .getfield 17, 51, 0, 4, 4, 0), (51, .iconst 4, 52, 4, 0, 0, 0), (52, .iload_n 1, 53, 0, 0, 1, 0), (53, .imul, 54, 0, 0, 0, 0), (54, .iconst 2, 55, 2, 0, 0, 0), (55, .iadd, 56, 0, 0, 0, 0), (56, .iaload, 57, 0, 0, 0, 0), (57, .tableswitch 101 0 2 #[27, 81, 83], 84, 0, 158, 0, 0), (84, .aload_n 0, 85, 0, 0, 0, 0), (85, .getfield 61, 88, 0, 4, 5, 0), (88, .ifCond .ne 16, 91, 0, 104, 0, 0), (91, .iload 4, 93, 0, 0, 4, 0), (93, .ifCond .le 7, 96, 0, 100, 0, 0), (96, .iconst 1, 97, 1, 0, 0, 0), (97, .goto 40, 100, 0, 137, 0, 0), (100, .iconst 0, 101, 0, 0, 0, 0), (101, .goto 36, 104, 0, 137, 0, 0), (104, .aload_n 0, 105, 0, 0, 0, 0), (105, .getfield 61, 108, 0, 4, 5, 0), (108, .iconst 1, 109, 1, 0, 0, 0), (109, .if_icmp .ne 16, 112, 0, 125, 0, 0), (112, .iload 4, 114, 0, 0, 4, 0), (114, .ifCond .lt 7, 117, 0, 121, 0, 0), (117, .iconst 1, 118, 1, 0, 0, 0), (118, .goto 19, 121, 0, 137, 0, 0), (121, .iconst 0, 122, 0, 0, 0, 0), (122, .goto 15, 125, 0, 137, 0, 0)]
def tb_X4_may_1 : List pm_E := [(125, .iload 4, 127, 0, 0, 4, 0), (127, .bipush (-10), 129, -10, 0, 0, 0), (129, .if_icmp .le 7, 132, 0, 136, 0, 0), (132, .iconst 1, 133, 1, 0, 0, 0), (133, .goto 4, 136, 0, 137, 0, 0), (136, .iconst 0, 137, 0, 0, 0, 0), (137, .ireturn, 138, 0, 0, 0, 0), (138, .iconst 1, 139, 1, 0, 0, 0), (139, .ireturn, 140, 0, 0, 0, 0), (140, .iload 4, 142, 0, 0, 4, 0), (142, .ifCond .le 14, 145, 0, 156, 0, 0), (145, .iload 4, 147, 0, 0, 4, 0), (147, .bipush 21, 149, 21, 0, 0, 0), (149, .if_icmp .ge 7, 152, 0, 156, 0, 0), (152, .iconst 1, 153, 1, 0, 0, 0), (153, .goto 4, 156, 0, 157, 0, 0), (156, .iconst 0, 157, 0, 0, 0, 0), (157, .ireturn, 158, 0, 0, 0, 0), (158, .iload 4, 160, 0, 0, 4, 0), (160, .ifCond .gt 8, 163, 0, 168, 0, 0), (163, .iload_n 3, 164, 0, 0, 3, 0), (164, .iconst 1, 165, 1, 0, 0, 0), (165, .if_icmp .ne 7, 168, 0, 172, 0, 0), (168, .iconst 1, 169, 1, 0, 0, 0), (169, .goto 4, 172, 0, 173, 0, 0), (172, .iconst 0, 173, 0, 0, 0, 0), (173, .ireturn, 174, 0, 0, 0, 0)]
def tb_X4_may : List pm_E := tb_X4_may_0 ++ (tb_X4_may_1)
def tb_X4_as_0 : List pm_E := [(0, .aload_n 0, 1, 0, 0, 0, 0), (1, .iload_n 1, 2, 0, 0, 1, 0), (2, .invokevirtual 205, 5, 0, 83, 0, 0), (5, .ifCond .ne 6, 8, 0, 11, 0, 0), (8, .bipush (-2), 10, -2, 0, 0, 0), (10, .ireturn, 11, 0, 0, 0, 0), (11, .iload_n 2, 12, 0, 0, 2, 0), (12, .iconst 0, 13, 0, 0, 0, 0), (13, .iconst 4, 14, 4, 0, 0, 0), (14, .invokestatic 51, 17, 0, 80, 0, 0), (17, .ifCond .ne 6, 20, 0, 23, 0, 0), (20, .bipush (-3), 22, -3, 0, 0, 0), (22, .ireturn, 23, 0, 0, 0, 0), (23, .aload_n 0, 24, 0, 0, 0, 0), (24, .getfield 17, 27, 0, 4, 4, 0), (27, .iconst 4, 28, 4, 0, 0, 0), (28, .iload_n 1, 29, 0, 0, 1, 0), (29, .imul, 30, 0, 0, 0, 0), (30, .iconst 2, 31, 2, 0, 0, 0), (31, .iadd, 32, 0, 0, 0, 0), (32, .iaload, 33, 0, 0, 0, 0), (33, .istore_n 3, 34, 0, 0, 3, 0), (34, .iload_n 2, 35, 0, 0, 2, 0), (35, .ifCond .eq 56, 38, 0, 91, 0, 0), (38, .iload_n 2, 39, 0, 0, 2, 0), (39, .iconst 1, 40, 1, 0, 0, 0), (40, .if_icmp .ne 15, 43, 0, 55, 0, 0), (43, .iload_n 3, 44, 0, 0, 3, 0), (44, .ifCond .eq 47, 47, 0, 91, 0, 0), (47, .iload_n 3, 48, 0, 0, 3, 0), (48, .iconst 2, 49, 2, 0, 0, 0), (49, .if_icmp .ne 46, 52, 0, 95, 0, 0), (52, .goto 39, 55, 0, 91, 0, 0), (55, .iload_n 2, 56, 0, 0, 2, 0), (56, .iconst 2, 57, 2, 0, 0, 0), (57, .if_icmp .ne 11, 60, 0, 68, 0, 0), (60, .iload_n 3, 61, 0, 0, 3, 0), (61, .iconst 2, 62, 2, 0, 0, 0), (62, .if_icmp .ne 33, 65, 0, 95, 0, 0), (65, .goto 26, 68, 0, 91, 0, 0), (68, .iload_n 2, 69, 0, 0, 2, 0), (69, .iconst 3, 70, 3, 0, 0, 0), (70, .if_icmp .ne 16, 73, 0, 86, 0, 0), (73, .iload_n 3, 74, 0, 0, 3, 0), (74, .iconst 1, 75, 1, 0, 0, 0), (75, .if_icmp .eq 16, 78, 0, 91, 0, 0), (78, .iload_n 3, 79, 0, 0, 3, 0), (79, .iconst 3, 80, 3, 0, 0, 0), (80, .if_icmp .ne 15, 83, 0, 95, 0, 0), (83, .goto 8, 86, 0, 91, 0, 0), (86, .iload_n 3, 87, 0, 0, 3, 0), (87, .iconst 3, 88, 3, 0, 0, 0), (88, .if_icmp .ne 7, 91, 0, 95, 0, 0), (91, .iconst 1, 92, 1, 0, 0, 0), (92, .goto 4, 95, 0, 96, 0, 0), (95, .iconst 0, 96, 0, 0, 0, 0), (96, .istore 4, 98, 0, 0, 4, 0), (98, .iconst 0, 99, 0, 0, 0, 0), (99, .istore 5, 101, 0, 0, 5, 0), (101, .iconst 0, 102, 0, 0, 0, 0)]
def tb_X4_as_1 : List pm_E := [(102, .istore 6, 104, 0, 0, 6, 0), (104, .iload 6, 106, 0, 0, 6, 0), (106, .iconst 2, 107, 2, 0, 0, 0), (107, .if_icmp .ge 54, 110, 0, 161, 0, 0), (110, .iconst 0, 111, 0, 0, 0, 0), (111, .istore 7, 113, 0, 0, 7, 0), (113, .iload 7, 115, 0, 0, 7, 0), (115, .iconst 2, 116, 2, 0, 0, 0), (116, .if_icmp .ge 39, 119, 0, 155, 0, 0), (119, .iload 5, 121, 0, 0, 5, 0), (121, .aload_n 0, 122, 0, 0, 0, 0), (122, .iload_n 1, 123, 0, 0, 1, 0), (123, .iload 6, 125, 0, 0, 6, 0), (125, .iload 7, 127, 0, 0, 7, 0), (127, .invokevirtual 208, 130, 0, 103, 0, 0), (130, .ifCond .eq 15, 133, 0, 145, 0, 0), (133, .iconst 1, 134, 1, 0, 0, 0), (134, .iconst 2, 135, 2, 0, 0, 0), (135, .iload 6, 137, 0, 0, 6, 0), (137, .imul, 138, 0, 0, 0, 0), (138, .iload 7, 140, 0, 0, 7, 0), (140, .iadd, 141, 0, 0, 0, 0), (141, .ishl, 142, 0, 0, 0, 0), (142, .goto 4, 145, 0, 146, 0, 0), (145, .iconst 0, 146, 0, 0, 0, 0), (146, .iadd, 147, 0, 0, 0, 0), (147, .istore 5, 149, 0, 0, 5, 0), (149, .iinc 7 1, 152, 1, 0, 7, 0), (152, .goto (-39), 155, 0, 113, 0, 0), (155, .iinc 6 1, 158, 1, 0, 6, 0), (158, .goto (-54), 161, 0, 104, 0, 0), (161, .iload 4, 163, 0, 0, 4, 0), (163, .ifCond .eq 8, 166, 0, 171, 0, 0), (166, .iload 5, 168, 0, 0, 5, 0), (168, .goto 5, 171, 0, 173, 0, 0), (171, .bipush (-4), 173, -4, 0, 0, 0), (173, .ireturn, 174, 0, 0, 0, 0)]
def tb_X4_as : List pm_E := tb_X4_as_0 ++ (tb_X4_as_1)
def tb_X4_sideOf : List pm_E := [(0, .aload_n 0, 1, 0, 0, 0, 0), (1, .getfield 17, 4, 0, 4, 4, 0), (4, .iconst 4, 5, 4, 0, 0, 0), (5, .iload_n 1, 6, 0, 0, 1, 0), (6, .imul, 7, 0, 0, 0, 0), (7, .iaload, 8, 0, 0, 0, 0), (8, .iload_n 2, 9, 0, 0, 2, 0), (9, .if_icmp .ne 7, 12, 0, 16, 0, 0), (12, .iconst 0, 13, 0, 0, 0, 0), (13, .goto 22, 16, 0, 35, 0, 0), (16, .aload_n 0, 17, 0, 0, 0, 0), (17, .getfield 17, 20, 0, 4, 4, 0), (20, .iconst 4, 21, 4, 0, 0, 0), (21, .iload_n 1, 22, 0, 0, 1, 0), (22, .imul, 23, 0, 0, 0, 0), (23, .iconst 1, 24, 1, 0, 0, 0), (24, .iadd, 25, 0, 0, 0, 0), (25, .iaload, 26, 0, 0, 0, 0), (26, .iload_n 2, 27, 0, 0, 2, 0), (27, .if_icmp .ne 7, 30, 0, 34, 0, 0), (30, .iconst 1, 31, 1, 0, 0, 0), (31, .goto 4, 34, 0, 35, 0, 0), (34, .iconst (-1), 35, -1, 0, 0, 0), (35, .ireturn, 36, 0, 0, 0, 0)]
def tb_X4_canGo : List pm_E := [(0, .aload_n 0, 1, 0, 0, 0, 0), (1, .iload_n 1, 2, 0, 0, 1, 0), (2, .iload_n 2, 3, 0, 0, 2, 0), (3, .invokevirtual 211, 6, 0, 105, 0, 0), (6, .istore 4, 8, 0, 0, 4, 0), (8, .iload 4, 10, 0, 0, 4, 0), (10, .iconst (-1), 11, -1, 0, 0, 0), (11, .if_icmp .eq 49, 14, 0, 60, 0, 0), (14, .iload_n 3, 15, 0, 0, 3, 0), (15, .aload_n 0, 16, 0, 0, 0, 0), (16, .getfield 20, 19, 0, 4, 6, 0), (19, .irem, 20, 0, 0, 0, 0), (20, .aload_n 0, 21, 0, 0, 0, 0), (21, .getfield 17, 24, 0, 4, 4, 0), (24, .iconst 4, 25, 4, 0, 0, 0), (25, .iload_n 1, 26, 0, 0, 1, 0), (26, .imul, 27, 0, 0, 0, 0), (27, .iconst 3, 28, 3, 0, 0, 0), (28, .iadd, 29, 0, 0, 0, 0), (29, .iaload, 30, 0, 0, 0, 0), (30, .iadd, 31, 0, 0, 0, 0), (31, .aload_n 0, 32, 0, 0, 0, 0), (32, .getfield 20, 35, 0, 4, 6, 0), (35, .if_icmp .gt 25, 38, 0, 60, 0, 0), (38, .aload_n 0, 39, 0, 0, 0, 0), (39, .iload_n 1, 40, 0, 0, 1, 0), (40, .iload 4, 42, 0, 0, 4, 0), (42, .iload_n 3, 43, 0, 0, 3, 0), (43, .aload_n 0, 44, 0, 0, 0, 0), (44, .getfield 20, 47, 0, 4, 6, 0), (47, .idiv, 48, 0, 0, 0, 0), (48, .iconst 2, 49, 2, 0, 0, 0), (49, .irem, 50, 0, 0, 0, 0), (50, .invokevirtual 208, 53, 0, 103, 0, 0), (53, .ifCond .eq 7, 56, 0, 60, 0, 0), (56, .iconst 1, 57, 1, 0, 0, 0), (57, .goto 4, 60, 0, 61, 0, 0), (60, .iconst 0, 61, 0, 0, 0, 0), (61, .ireturn, 62, 0, 0, 0, 0)]
def tb_X4_go_0 : List pm_E := [(0, .aload_n 0, 1, 0, 0, 0, 0), (1, .iload_n 1, 2, 0, 0, 1, 0), (2, .invokevirtual 205, 5, 0, 83, 0, 0), (5, .ifCond .ne 6, 8, 0, 11, 0, 0), (8, .bipush (-2), 10, -2, 0, 0, 0), (10, .ireturn, 11, 0, 0, 0, 0), (11, .aload_n 0, 12, 0, 0, 0, 0), (12, .iload_n 1, 13, 0, 0, 1, 0), (13, .aload_n 0, 14, 0, 0, 0, 0), (14, .getfield 182, 17, 0, 4, 22, 0), (17, .aload_n 0, 18, 0, 0, 0, 0), (18, .getfield 185, 21, 0, 4, 23, 0), (21, .invokevirtual 214, 24, 0, 106, 0, 0), (24, .ifCond .ne 6, 27, 0, 30, 0, 0), (27, .bipush (-4), 29, -4, 0, 0, 0), (29, .ireturn, 30, 0, 0, 0, 0), (30, .aload_n 0, 31, 0, 0, 0, 0), (31, .getfield 185, 34, 0, 4, 23, 0), (34, .aload_n 0, 35, 0, 0, 0, 0), (35, .getfield 17, 38, 0, 4, 4, 0), (38, .iconst 4, 39, 4, 0, 0, 0), (39, .iload_n 1, 40, 0, 0, 1, 0), (40, .imul, 41, 0, 0, 0, 0), (41, .iconst 3, 42, 3, 0, 0, 0), (42, .iadd, 43, 0, 0, 0, 0), (43, .iaload, 44, 0, 0, 0, 0), (44, .iadd, 45, 0, 0, 0, 0), (45, .ldc 217, 47, 99999, 0, 0, 0), (47, .if_icmp .le 6, 50, 0, 53, 0, 0), (50, .bipush (-5), 52, -5, 0, 0, 0), (52, .ireturn, 53, 0, 0, 0, 0), (53, .aload_n 0, 54, 0, 0, 0, 0), (54, .dup, 55, 0, 0, 0, 0), (55, .getfield 185, 58, 0, 4, 23, 0), (58, .aload_n 0, 59, 0, 0, 0, 0), (59, .getfield 17, 62, 0, 4, 4, 0), (62, .iconst 4, 63, 4, 0, 0, 0), (63, .iload_n 1, 64, 0, 0, 1, 0), (64, .imul, 65, 0, 0, 0, 0), (65, .iconst 3, 66, 3, 0, 0, 0), (66, .iadd, 67, 0, 0, 0, 0), (67, .iaload, 68, 0, 0, 0, 0), (68, .iadd, 69, 0, 0, 0, 0), (69, .putfield 185, 72, 0, 4, 23, 0), (72, .aload_n 0, 73, 0, 0, 0, 0), (73, .aload_n 0, 74, 0, 0, 0, 0), (74, .getfield 17, 77, 0, 4, 4, 0), (77, .iconst 4, 78, 4, 0, 0, 0), (78, .iload_n 1, 79, 0, 0, 1, 0), (79, .imul, 80, 0, 0, 0, 0), (80, .iconst 1, 81, 1, 0, 0, 0), (81, .iadd, 82, 0, 0, 0, 0), (82, .aload_n 0, 83, 0, 0, 0, 0), (83, .iload_n 1, 84, 0, 0, 1, 0), (84, .aload_n 0, 85, 0, 0, 0, 0), (85, .getfield 182, 88, 0, 4, 22, 0), (88, .invokevirtual 211, 91, 0, 105, 0, 0), (91, .isub, 92, 0, 0, 0, 0), (92, .iaload, 93, 0, 0, 0, 0), (93, .putfield 182, 96, 0, 4, 22, 0)]
def tb_X4_go_1 : List pm_E := [(96, .aload_n 0, 97, 0, 0, 0, 0), (97, .getfield 185, 100, 0, 4, 23, 0), (100, .ireturn, 101, 0, 0, 0, 0)]
def tb_X4_go : List pm_E := tb_X4_go_0 ++ (tb_X4_go_1)
def tb_X4_rest : List pm_E := [(0, .iload_n 1, 1, 0, 0, 1, 0), (1, .iconst 1, 2, 1, 0, 0, 0), (2, .sipush 9999, 5, 9999, 0, 0, 0), (5, .invokestatic 51, 8, 0, 80, 0, 0), (8, .ifCond .ne 6, 11, 0, 14, 0, 0), (11, .bipush (-3), 13, -3, 0, 0, 0), (13, .ireturn, 14, 0, 0, 0, 0), (14, .aload_n 0, 15, 0, 0, 0, 0), (15, .getfield 185, 18, 0, 4, 23, 0), (18, .iload_n 1, 19, 0, 0, 1, 0), (19, .iadd, 20, 0, 0, 0, 0), (20, .ldc 217, 22, 99999, 0, 0, 0), (22, .if_icmp .le 6, 25, 0, 28, 0, 0), (25, .bipush (-5), 27, -5, 0, 0, 0), (27, .ireturn, 28, 0, 0, 0, 0), (28, .aload_n 0, 29, 0, 0, 0, 0), (29, .dup, 30, 0, 0, 0, 0), (30, .getfield 185, 33, 0, 4, 23, 0), (33, .iload_n 1, 34, 0, 0, 1, 0), (34, .iadd, 35, 0, 0, 0, 0), (35, .putfield 185, 38, 0, 4, 23, 0), (38, .aload_n 0, 39, 0, 0, 0, 0), (39, .getfield 185, 42, 0, 4, 23, 0), (42, .ireturn, 43, 0, 0, 0, 0)]
def tb_X4_here : List pm_E := [(0, .iload_n 1, 1, 0, 0, 1, 0), (1, .tableswitch 68 0 3 #[31, 36, 41, 53], 32, 0, 69, 0, 0), (32, .aload_n 0, 33, 0, 0, 0, 0), (33, .getfield 182, 36, 0, 4, 22, 0), (36, .ireturn, 37, 0, 0, 0, 0), (37, .aload_n 0, 38, 0, 0, 0, 0), (38, .getfield 185, 41, 0, 4, 23, 0), (41, .ireturn, 42, 0, 0, 0, 0), (42, .aload_n 0, 43, 0, 0, 0, 0), (43, .getfield 185, 46, 0, 4, 23, 0), (46, .aload_n 0, 47, 0, 0, 0, 0), (47, .getfield 20, 50, 0, 4, 6, 0), (50, .idiv, 51, 0, 0, 0, 0), (51, .iconst 2, 52, 2, 0, 0, 0), (52, .irem, 53, 0, 0, 0, 0), (53, .ireturn, 54, 0, 0, 0, 0), (54, .aload_n 0, 55, 0, 0, 0, 0), (55, .getfield 20, 58, 0, 4, 6, 0), (58, .aload_n 0, 59, 0, 0, 0, 0), (59, .getfield 185, 62, 0, 4, 23, 0), (62, .aload_n 0, 63, 0, 0, 0, 0), (63, .getfield 20, 66, 0, 4, 6, 0), (66, .irem, 67, 0, 0, 0, 0), (67, .isub, 68, 0, 0, 0, 0), (68, .ireturn, 69, 0, 0, 0, 0), (69, .bipush (-3), 71, -3, 0, 0, 0), (71, .ireturn, 72, 0, 0, 0, 0)]
def tb_X4_keep : List pm_E := [(0, .iload_n 1, 1, 0, 0, 1, 0), (1, .iconst 0, 2, 0, 0, 0, 0), (2, .iconst 1, 3, 1, 0, 0, 0), (3, .invokestatic 51, 6, 0, 80, 0, 0), (6, .ifCond .ne 6, 9, 0, 12, 0, 0), (9, .bipush (-2), 11, -2, 0, 0, 0), (11, .ireturn, 12, 0, 0, 0, 0), (12, .aload_n 0, 13, 0, 0, 0, 0), (13, .getfield 32, 16, 0, 4, 24, 0), (16, .iconst 2, 17, 2, 0, 0, 0), (17, .iload_n 1, 18, 0, 0, 1, 0), (18, .imul, 19, 0, 0, 0, 0), (19, .aload_n 0, 20, 0, 0, 0, 0), (20, .getfield 182, 23, 0, 4, 22, 0), (23, .iastore, 24, 0, 0, 0, 0), (24, .aload_n 0, 25, 0, 0, 0, 0), (25, .getfield 32, 28, 0, 4, 24, 0), (28, .iconst 2, 29, 2, 0, 0, 0), (29, .iload_n 1, 30, 0, 0, 1, 0), (30, .imul, 31, 0, 0, 0, 0), (31, .iconst 1, 32, 1, 0, 0, 0), (32, .iadd, 33, 0, 0, 0, 0), (33, .aload_n 0, 34, 0, 0, 0, 0), (34, .getfield 185, 37, 0, 4, 23, 0), (37, .iastore, 38, 0, 0, 0, 0), (38, .aload_n 0, 39, 0, 0, 0, 0), (39, .getfield 35, 42, 0, 4, 25, 0), (42, .iload_n 1, 43, 0, 0, 1, 0), (43, .iconst 1, 44, 1, 0, 0, 0), (44, .bastore, 45, 0, 0, 0, 0), (45, .aload_n 0, 46, 0, 0, 0, 0), (46, .getfield 185, 49, 0, 4, 23, 0), (49, .ireturn, 50, 0, 0, 0, 0)]
def tb_X4_back : List pm_E := [(0, .iload_n 1, 1, 0, 0, 1, 0), (1, .iconst 0, 2, 0, 0, 0, 0), (2, .iconst 1, 3, 1, 0, 0, 0), (3, .invokestatic 51, 6, 0, 80, 0, 0), (6, .ifCond .ne 6, 9, 0, 12, 0, 0), (9, .bipush (-2), 11, -2, 0, 0, 0), (11, .ireturn, 12, 0, 0, 0, 0), (12, .aload_n 0, 13, 0, 0, 0, 0), (13, .getfield 35, 16, 0, 4, 25, 0), (16, .iload_n 1, 17, 0, 0, 1, 0), (17, .baload, 18, 0, 0, 0, 0), (18, .ifCond .ne 6, 21, 0, 24, 0, 0), (21, .bipush (-4), 23, -4, 0, 0, 0), (23, .ireturn, 24, 0, 0, 0, 0), (24, .aload_n 0, 25, 0, 0, 0, 0), (25, .aload_n 0, 26, 0, 0, 0, 0), (26, .getfield 32, 29, 0, 4, 24, 0), (29, .iconst 2, 30, 2, 0, 0, 0), (30, .iload_n 1, 31, 0, 0, 1, 0), (31, .imul, 32, 0, 0, 0, 0), (32, .iaload, 33, 0, 0, 0, 0), (33, .putfield 182, 36, 0, 4, 22, 0), (36, .aload_n 0, 37, 0, 0, 0, 0), (37, .aload_n 0, 38, 0, 0, 0, 0), (38, .getfield 32, 41, 0, 4, 24, 0), (41, .iconst 2, 42, 2, 0, 0, 0), (42, .iload_n 1, 43, 0, 0, 1, 0), (43, .imul, 44, 0, 0, 0, 0), (44, .iconst 1, 45, 1, 0, 0, 0), (45, .iadd, 46, 0, 0, 0, 0), (46, .iaload, 47, 0, 0, 0, 0), (47, .putfield 185, 50, 0, 4, 23, 0), (50, .aload_n 0, 51, 0, 0, 0, 0), (51, .getfield 185, 54, 0, 4, 23, 0), (54, .ireturn, 55, 0, 0, 0, 0)]
def tb_X4_reach_0 : List pm_E := [(0, .aload_n 0, 1, 0, 0, 0, 0), (1, .iload_n 1, 2, 0, 0, 1, 0), (2, .invokevirtual 198, 5, 0, 82, 0, 0), (5, .ifCond .ne 6, 8, 0, 11, 0, 0), (8, .bipush (-2), 10, -2, 0, 0, 0), (10, .ireturn, 11, 0, 0, 0, 0), (11, .iload_n 2, 12, 0, 0, 2, 0), (12, .iconst 0, 13, 0, 0, 0, 0), (13, .iconst 1, 14, 1, 0, 0, 0), (14, .invokestatic 51, 17, 0, 80, 0, 0), (17, .ifCond .ne 6, 20, 0, 23, 0, 0), (20, .bipush (-3), 22, -3, 0, 0, 0), (22, .ireturn, 23, 0, 0, 0, 0), (23, .iconst 0, 24, 0, 0, 0, 0), (24, .istore_n 3, 25, 0, 0, 3, 0), (25, .iload_n 3, 26, 0, 0, 3, 0), (26, .aload_n 0, 27, 0, 0, 0, 0), (27, .getfield 7, 30, 0, 4, 0, 0), (30, .if_icmp .ge 26, 33, 0, 56, 0, 0), (33, .aload_n 0, 34, 0, 0, 0, 0), (34, .getfield 48, 37, 0, 4, 31, 0), (37, .iload_n 3, 38, 0, 0, 3, 0), (38, .iload_n 3, 39, 0, 0, 3, 0), (39, .iload_n 1, 40, 0, 0, 1, 0), (40, .if_icmp .ne 7, 43, 0, 47, 0, 0), (43, .iconst 0, 44, 0, 0, 0, 0), (44, .goto 5, 47, 0, 49, 0, 0), (47, .ldc 218, 49, 10000000, 0, 0, 0), (49, .iastore, 50, 0, 0, 0, 0), (50, .iinc 3 1, 53, 1, 0, 3, 0), (53, .goto (-28), 56, 0, 25, 0, 0), (56, .iconst 0, 57, 0, 0, 0, 0), (57, .istore_n 3, 58, 0, 0, 3, 0), (58, .iload_n 3, 59, 0, 0, 3, 0), (59, .aload_n 0, 60, 0, 0, 0, 0), (60, .getfield 7, 63, 0, 4, 0, 0), (63, .if_icmp .ge 145, 66, 0, 208, 0, 0), (66, .iconst 0, 67, 0, 0, 0, 0), (67, .istore 4, 69, 0, 0, 4, 0), (69, .iload 4, 71, 0, 0, 4, 0), (71, .aload_n 0, 72, 0, 0, 0, 0), (72, .getfield 55, 75, 0, 4, 3, 0), (75, .if_icmp .ge 127, 78, 0, 202, 0, 0), (78, .iconst 0, 79, 0, 0, 0, 0), (79, .istore 5, 81, 0, 0, 5, 0), (81, .iload 5, 83, 0, 0, 5, 0), (83, .iconst 2, 84, 2, 0, 0, 0), (84, .if_icmp .ge 112, 87, 0, 196, 0, 0), (87, .aload_n 0, 88, 0, 0, 0, 0), (88, .getfield 17, 91, 0, 4, 4, 0), (91, .iconst 4, 92, 4, 0, 0, 0), (92, .iload 4, 94, 0, 0, 4, 0), (94, .imul, 95, 0, 0, 0, 0), (95, .iload 5, 97, 0, 0, 5, 0), (97, .iadd, 98, 0, 0, 0, 0), (98, .iaload, 99, 0, 0, 0, 0), (99, .istore 6, 101, 0, 0, 6, 0), (101, .aload_n 0, 102, 0, 0, 0, 0), (102, .getfield 17, 105, 0, 4, 4, 0), (105, .iconst 4, 106, 4, 0, 0, 0)]
def tb_X4_reach_1 : List pm_E := [(106, .iload 4, 108, 0, 0, 4, 0), (108, .imul, 109, 0, 0, 0, 0), (109, .iconst 1, 110, 1, 0, 0, 0), (110, .iadd, 111, 0, 0, 0, 0), (111, .iload 5, 113, 0, 0, 5, 0), (113, .isub, 114, 0, 0, 0, 0), (114, .iaload, 115, 0, 0, 0, 0), (115, .istore 7, 117, 0, 0, 7, 0), (117, .aload_n 0, 118, 0, 0, 0, 0), (118, .getfield 48, 121, 0, 4, 31, 0), (121, .iload 6, 123, 0, 0, 6, 0), (123, .iaload, 124, 0, 0, 0, 0), (124, .aload_n 0, 125, 0, 0, 0, 0), (125, .getfield 17, 128, 0, 4, 4, 0), (128, .iconst 4, 129, 4, 0, 0, 0), (129, .iload 4, 131, 0, 0, 4, 0), (131, .imul, 132, 0, 0, 0, 0), (132, .iconst 3, 133, 3, 0, 0, 0), (133, .iadd, 134, 0, 0, 0, 0), (134, .iaload, 135, 0, 0, 0, 0), (135, .iadd, 136, 0, 0, 0, 0), (136, .istore 8, 138, 0, 0, 8, 0), (138, .aload_n 0, 139, 0, 0, 0, 0), (139, .getfield 48, 142, 0, 4, 31, 0), (142, .iload 7, 144, 0, 0, 7, 0), (144, .aload_n 0, 145, 0, 0, 0, 0), (145, .iload 4, 147, 0, 0, 4, 0), (147, .iload 5, 149, 0, 0, 5, 0), (149, .iload_n 2, 150, 0, 0, 2, 0), (150, .invokevirtual 208, 153, 0, 103, 0, 0), (153, .ifCond .eq 29, 156, 0, 182, 0, 0), (156, .iload 8, 158, 0, 0, 8, 0), (158, .aload_n 0, 159, 0, 0, 0, 0), (159, .getfield 20, 162, 0, 4, 6, 0), (162, .if_icmp .gt 20, 165, 0, 182, 0, 0), (165, .iload 8, 167, 0, 0, 8, 0), (167, .aload_n 0, 168, 0, 0, 0, 0), (168, .getfield 48, 171, 0, 4, 31, 0), (171, .iload 7, 173, 0, 0, 7, 0), (173, .iaload, 174, 0, 0, 0, 0), (174, .if_icmp .ge 8, 177, 0, 182, 0, 0), (177, .iload 8, 179, 0, 0, 8, 0), (179, .goto 10, 182, 0, 189, 0, 0), (182, .aload_n 0, 183, 0, 0, 0, 0), (183, .getfield 48, 186, 0, 4, 31, 0), (186, .iload 7, 188, 0, 0, 7, 0), (188, .iaload, 189, 0, 0, 0, 0), (189, .iastore, 190, 0, 0, 0, 0), (190, .iinc 5 1, 193, 1, 0, 5, 0), (193, .goto (-112), 196, 0, 81, 0, 0), (196, .iinc 4 1, 199, 1, 0, 4, 0), (199, .goto (-130), 202, 0, 69, 0, 0), (202, .iinc 3 1, 205, 1, 0, 3, 0), (205, .goto (-147), 208, 0, 58, 0, 0), (208, .iconst 0, 209, 0, 0, 0, 0), (209, .istore_n 3, 210, 0, 0, 3, 0), (210, .iconst 0, 211, 0, 0, 0, 0), (211, .istore 4, 213, 0, 0, 4, 0), (213, .iload 4, 215, 0, 0, 4, 0), (215, .aload_n 0, 216, 0, 0, 0, 0)]
def tb_X4_reach_2 : List pm_E := [(216, .getfield 7, 219, 0, 4, 0, 0), (219, .if_icmp .ge 32, 222, 0, 251, 0, 0), (222, .iload_n 3, 223, 0, 0, 3, 0), (223, .aload_n 0, 224, 0, 0, 0, 0), (224, .getfield 48, 227, 0, 4, 31, 0), (227, .iload 4, 229, 0, 0, 4, 0), (229, .iaload, 230, 0, 0, 0, 0), (230, .ldc 218, 232, 10000000, 0, 0, 0), (232, .if_icmp .ge 10, 235, 0, 242, 0, 0), (235, .iconst 1, 236, 1, 0, 0, 0), (236, .iload 4, 238, 0, 0, 4, 0), (238, .ishl, 239, 0, 0, 0, 0), (239, .goto 4, 242, 0, 243, 0, 0), (242, .iconst 0, 243, 0, 0, 0, 0), (243, .ior, 244, 0, 0, 0, 0), (244, .istore_n 3, 245, 0, 0, 3, 0), (245, .iinc 4 1, 248, 1, 0, 4, 0), (248, .goto (-35), 251, 0, 213, 0, 0), (251, .iload_n 3, 252, 0, 0, 3, 0), (252, .ireturn, 253, 0, 0, 0, 0)]
def tb_X4_reach : List pm_E := tb_X4_reach_0 ++ (tb_X4_reach_1 ++ (tb_X4_reach_2))
def tb_X4_endOf_0 : List pm_E := [(0, .aload_n 0, 1, 0, 0, 0, 0), (1, .getfield 17, 4, 0, 4, 4, 0), (4, .iconst 4, 5, 4, 0, 0, 0), (5, .iload_n 1, 6, 0, 0, 1, 0), (6, .imul, 7, 0, 0, 0, 0), (7, .iconst 3, 8, 3, 0, 0, 0), (8, .iadd, 9, 0, 0, 0, 0), (9, .iaload, 10, 0, 0, 0, 0), (10, .istore 4, 12, 0, 0, 4, 0), (12, .iload 4, 14, 0, 0, 4, 0), (14, .aload_n 0, 15, 0, 0, 0, 0), (15, .getfield 20, 18, 0, 4, 6, 0), (18, .if_icmp .le 6, 21, 0, 24, 0, 0), (21, .ldc 218, 23, 10000000, 0, 0, 0), (23, .ireturn, 24, 0, 0, 0, 0), (24, .iload_n 3, 25, 0, 0, 3, 0), (25, .aload_n 0, 26, 0, 0, 0, 0), (26, .getfield 20, 29, 0, 4, 6, 0), (29, .idiv, 30, 0, 0, 0, 0), (30, .istore 5, 32, 0, 0, 5, 0), (32, .iload 5, 34, 0, 0, 5, 0), (34, .istore 6, 36, 0, 0, 6, 0), (36, .iload 6, 38, 0, 0, 6, 0), (38, .iload 5, 40, 0, 0, 5, 0), (40, .iconst 3, 41, 3, 0, 0, 0), (41, .iadd, 42, 0, 0, 0, 0), (42, .if_icmp .ge 65, 45, 0, 107, 0, 0), (45, .iload 6, 47, 0, 0, 6, 0), (47, .iload 5, 49, 0, 0, 5, 0), (49, .if_icmp .ne 7, 52, 0, 56, 0, 0), (52, .iload_n 3, 53, 0, 0, 3, 0), (53, .goto 10, 56, 0, 63, 0, 0), (56, .iload 6, 58, 0, 0, 6, 0), (58, .aload_n 0, 59, 0, 0, 0, 0), (59, .getfield 20, 62, 0, 4, 6, 0), (62, .imul, 63, 0, 0, 0, 0), (63, .istore 7, 65, 0, 0, 7, 0), (65, .aload_n 0, 66, 0, 0, 0, 0), (66, .iload_n 1, 67, 0, 0, 1, 0), (67, .iload_n 2, 68, 0, 0, 2, 0), (68, .iload 6, 70, 0, 0, 6, 0), (70, .iconst 2, 71, 2, 0, 0, 0), (71, .irem, 72, 0, 0, 0, 0), (72, .invokevirtual 208, 75, 0, 103, 0, 0), (75, .ifCond .eq 26, 78, 0, 101, 0, 0), (78, .iload 7, 80, 0, 0, 7, 0), (80, .iload 4, 82, 0, 0, 4, 0), (82, .iadd, 83, 0, 0, 0, 0), (83, .iload 6, 85, 0, 0, 6, 0), (85, .iconst 1, 86, 1, 0, 0, 0), (86, .iadd, 87, 0, 0, 0, 0), (87, .aload_n 0, 88, 0, 0, 0, 0), (88, .getfield 20, 91, 0, 4, 6, 0), (91, .imul, 92, 0, 0, 0, 0), (92, .if_icmp .gt 9, 95, 0, 101, 0, 0), (95, .iload 7, 97, 0, 0, 7, 0), (97, .iload 4, 99, 0, 0, 4, 0), (99, .iadd, 100, 0, 0, 0, 0), (100, .ireturn, 101, 0, 0, 0, 0), (101, .iinc 6 1, 104, 1, 0, 6, 0)]
def tb_X4_endOf_1 : List pm_E := [(104, .goto (-68), 107, 0, 36, 0, 0), (107, .ldc 218, 109, 10000000, 0, 0, 0), (109, .ireturn, 110, 0, 0, 0, 0)]
def tb_X4_endOf : List pm_E := tb_X4_endOf_0 ++ (tb_X4_endOf_1)
def tb_X4_soonestOf_0 : List pm_E := [(0, .iconst 0, 1, 0, 0, 0, 0), (1, .istore 4, 3, 0, 0, 4, 0), (3, .iload 4, 5, 0, 0, 4, 0), (5, .aload_n 0, 6, 0, 0, 0, 0), (6, .getfield 7, 9, 0, 4, 0, 0), (9, .if_icmp .ge 28, 12, 0, 37, 0, 0), (12, .aload_n 0, 13, 0, 0, 0, 0), (13, .getfield 48, 16, 0, 4, 31, 0), (16, .iload 4, 18, 0, 0, 4, 0), (18, .iload 4, 20, 0, 0, 4, 0), (20, .iload_n 1, 21, 0, 0, 1, 0), (21, .if_icmp .ne 7, 24, 0, 28, 0, 0), (24, .iload_n 3, 25, 0, 0, 3, 0), (25, .goto 5, 28, 0, 30, 0, 0), (28, .ldc 218, 30, 10000000, 0, 0, 0), (30, .iastore, 31, 0, 0, 0, 0), (31, .iinc 4 1, 34, 1, 0, 4, 0), (34, .goto (-31), 37, 0, 3, 0, 0), (37, .iconst 0, 38, 0, 0, 0, 0), (38, .istore 4, 40, 0, 0, 4, 0), (40, .iconst 0, 41, 0, 0, 0, 0), (41, .istore 5, 43, 0, 0, 5, 0), (43, .iload 5, 45, 0, 0, 5, 0), (45, .aload_n 0, 46, 0, 0, 0, 0), (46, .getfield 7, 49, 0, 4, 0, 0), (49, .if_icmp .ge 204, 52, 0, 253, 0, 0), (52, .iconst (-1), 53, -1, 0, 0, 0), (53, .istore 6, 55, 0, 0, 6, 0), (55, .iconst 0, 56, 0, 0, 0, 0), (56, .istore 7, 58, 0, 0, 7, 0), (58, .iload 7, 60, 0, 0, 7, 0), (60, .aload_n 0, 61, 0, 0, 0, 0), (61, .getfield 7, 64, 0, 4, 0, 0), (64, .if_icmp .ge 63, 67, 0, 127, 0, 0), (67, .iload 4, 69, 0, 0, 4, 0), (69, .iload 7, 71, 0, 0, 7, 0), (71, .invokestatic 194, 74, 0, 81, 0, 0), (74, .ifCond .ne 43, 77, 0, 117, 0, 0), (77, .aload_n 0, 78, 0, 0, 0, 0), (78, .getfield 48, 81, 0, 4, 31, 0), (81, .iload 7, 83, 0, 0, 7, 0), (83, .iaload, 84, 0, 0, 0, 0), (84, .ldc 218, 86, 10000000, 0, 0, 0), (86, .if_icmp .ge 31, 89, 0, 117, 0, 0), (89, .iload 6, 91, 0, 0, 6, 0), (91, .iconst (-1), 92, -1, 0, 0, 0), (92, .if_icmp .eq 20, 95, 0, 112, 0, 0), (95, .aload_n 0, 96, 0, 0, 0, 0), (96, .getfield 48, 99, 0, 4, 31, 0), (99, .iload 7, 101, 0, 0, 7, 0), (101, .iaload, 102, 0, 0, 0, 0), (102, .aload_n 0, 103, 0, 0, 0, 0), (103, .getfield 48, 106, 0, 4, 31, 0), (106, .iload 6, 108, 0, 0, 6, 0), (108, .iaload, 109, 0, 0, 0, 0), (109, .if_icmp .ge 8, 112, 0, 117, 0, 0), (112, .iload 7, 114, 0, 0, 7, 0), (114, .goto 5, 117, 0, 119, 0, 0), (117, .iload 6, 119, 0, 0, 6, 0), (119, .istore 6, 121, 0, 0, 6, 0)]
def tb_X4_soonestOf_1 : List pm_E := [(121, .iinc 7 1, 124, 1, 0, 7, 0), (124, .goto (-66), 127, 0, 58, 0, 0), (127, .iload 6, 129, 0, 0, 6, 0), (129, .iconst (-1), 130, -1, 0, 0, 0), (130, .if_icmp .ne 10, 133, 0, 140, 0, 0), (133, .aload_n 0, 134, 0, 0, 0, 0), (134, .getfield 48, 137, 0, 4, 31, 0), (137, .iload_n 2, 138, 0, 0, 2, 0), (138, .iaload, 139, 0, 0, 0, 0), (139, .ireturn, 140, 0, 0, 0, 0), (140, .iload 4, 142, 0, 0, 4, 0), (142, .iconst 1, 143, 1, 0, 0, 0), (143, .iload 6, 145, 0, 0, 6, 0), (145, .ishl, 146, 0, 0, 0, 0), (146, .ior, 147, 0, 0, 0, 0), (147, .istore 4, 149, 0, 0, 4, 0), (149, .iconst 0, 150, 0, 0, 0, 0), (150, .istore 7, 152, 0, 0, 7, 0), (152, .iload 7, 154, 0, 0, 7, 0), (154, .aload_n 0, 155, 0, 0, 0, 0), (155, .getfield 55, 158, 0, 4, 3, 0), (158, .if_icmp .ge 89, 161, 0, 247, 0, 0), (161, .aload_n 0, 162, 0, 0, 0, 0), (162, .iload 7, 164, 0, 0, 7, 0), (164, .iload 6, 166, 0, 0, 6, 0), (166, .invokevirtual 211, 169, 0, 105, 0, 0), (169, .istore 8, 171, 0, 0, 8, 0), (171, .iload 8, 173, 0, 0, 8, 0), (173, .iconst (-1), 174, -1, 0, 0, 0), (174, .if_icmp .eq 67, 177, 0, 241, 0, 0), (177, .aload_n 0, 178, 0, 0, 0, 0), (178, .getfield 17, 181, 0, 4, 4, 0), (181, .iconst 4, 182, 4, 0, 0, 0), (182, .iload 7, 184, 0, 0, 7, 0), (184, .imul, 185, 0, 0, 0, 0), (185, .iconst 1, 186, 1, 0, 0, 0), (186, .iadd, 187, 0, 0, 0, 0), (187, .iload 8, 189, 0, 0, 8, 0), (189, .isub, 190, 0, 0, 0, 0), (190, .iaload, 191, 0, 0, 0, 0), (191, .istore 9, 193, 0, 0, 9, 0), (193, .aload_n 0, 194, 0, 0, 0, 0), (194, .iload 7, 196, 0, 0, 7, 0), (196, .iload 8, 198, 0, 0, 8, 0), (198, .aload_n 0, 199, 0, 0, 0, 0), (199, .getfield 48, 202, 0, 4, 31, 0), (202, .iload 6, 204, 0, 0, 6, 0), (204, .iaload, 205, 0, 0, 0, 0), (205, .invokevirtual 219, 208, 0, 113, 0, 0), (208, .istore 10, 210, 0, 0, 10, 0), (210, .aload_n 0, 211, 0, 0, 0, 0), (211, .getfield 48, 214, 0, 4, 31, 0), (214, .iload 9, 216, 0, 0, 9, 0), (216, .iload 10, 218, 0, 0, 10, 0), (218, .aload_n 0, 219, 0, 0, 0, 0), (219, .getfield 48, 222, 0, 4, 31, 0), (222, .iload 9, 224, 0, 0, 9, 0), (224, .iaload, 225, 0, 0, 0, 0), (225, .if_icmp .ge 8, 228, 0, 233, 0, 0), (228, .iload 10, 230, 0, 0, 10, 0)]
def tb_X4_soonestOf_2 : List pm_E := [(230, .goto 10, 233, 0, 240, 0, 0), (233, .aload_n 0, 234, 0, 0, 0, 0), (234, .getfield 48, 237, 0, 4, 31, 0), (237, .iload 9, 239, 0, 0, 9, 0), (239, .iaload, 240, 0, 0, 0, 0), (240, .iastore, 241, 0, 0, 0, 0), (241, .iinc 7 1, 244, 1, 0, 7, 0), (244, .goto (-92), 247, 0, 152, 0, 0), (247, .iinc 5 1, 250, 1, 0, 5, 0), (250, .goto (-207), 253, 0, 43, 0, 0), (253, .aload_n 0, 254, 0, 0, 0, 0), (254, .getfield 48, 257, 0, 4, 31, 0), (257, .iload_n 2, 258, 0, 0, 2, 0), (258, .iaload, 259, 0, 0, 0, 0), (259, .ireturn, 260, 0, 0, 0, 0)]
def tb_X4_soonestOf : List pm_E := tb_X4_soonestOf_0 ++ (tb_X4_soonestOf_1 ++ (tb_X4_soonestOf_2))
def tb_X4_soonest : List pm_E := [(0, .aload_n 0, 1, 0, 0, 0, 0), (1, .iload_n 1, 2, 0, 0, 1, 0), (2, .invokevirtual 198, 5, 0, 82, 0, 0), (5, .ifCond .eq 11, 8, 0, 16, 0, 0), (8, .aload_n 0, 9, 0, 0, 0, 0), (9, .iload_n 2, 10, 0, 0, 2, 0), (10, .invokevirtual 198, 13, 0, 82, 0, 0), (13, .ifCond .ne 6, 16, 0, 19, 0, 0), (16, .bipush (-2), 18, -2, 0, 0, 0), (18, .ireturn, 19, 0, 0, 0, 0), (19, .iload_n 3, 20, 0, 0, 3, 0), (20, .iconst 0, 21, 0, 0, 0, 0), (21, .sipush 9999, 24, 9999, 0, 0, 0), (24, .invokestatic 51, 27, 0, 80, 0, 0), (27, .ifCond .ne 6, 30, 0, 33, 0, 0), (30, .bipush (-3), 32, -3, 0, 0, 0), (32, .ireturn, 33, 0, 0, 0, 0), (33, .aload_n 0, 34, 0, 0, 0, 0), (34, .iload_n 1, 35, 0, 0, 1, 0), (35, .iload_n 2, 36, 0, 0, 2, 0), (36, .iload_n 3, 37, 0, 0, 3, 0), (37, .invokevirtual 223, 40, 0, 114, 0, 0), (40, .istore 4, 42, 0, 0, 4, 0), (42, .iload 4, 44, 0, 0, 4, 0), (44, .ldc 218, 46, 10000000, 0, 0, 0), (46, .if_icmp .ne 7, 49, 0, 53, 0, 0), (49, .iconst (-1), 50, -1, 0, 0, 0), (50, .goto 5, 53, 0, 55, 0, 0), (53, .iload 4, 55, 0, 0, 4, 0), (55, .ireturn, 56, 0, 0, 0, 0)]
def tb_X4_home : List pm_E := [(0, .aload_n 0, 1, 0, 0, 0, 0), (1, .iload_n 1, 2, 0, 0, 1, 0), (2, .invokevirtual 198, 5, 0, 82, 0, 0), (5, .ifCond .eq 11, 8, 0, 16, 0, 0), (8, .aload_n 0, 9, 0, 0, 0, 0), (9, .iload_n 2, 10, 0, 0, 2, 0), (10, .invokevirtual 198, 13, 0, 82, 0, 0), (13, .ifCond .ne 6, 16, 0, 19, 0, 0), (16, .bipush (-2), 18, -2, 0, 0, 0), (18, .ireturn, 19, 0, 0, 0, 0), (19, .aload_n 0, 20, 0, 0, 0, 0), (20, .iload_n 1, 21, 0, 0, 1, 0), (21, .iload_n 2, 22, 0, 0, 2, 0), (22, .iconst 0, 23, 0, 0, 0, 0), (23, .invokevirtual 223, 26, 0, 114, 0, 0), (26, .istore_n 3, 27, 0, 0, 3, 0), (27, .iload_n 3, 28, 0, 0, 3, 0), (28, .ldc 218, 30, 10000000, 0, 0, 0), (30, .if_icmp .ne 8, 33, 0, 38, 0, 0), (33, .ldc 218, 35, 10000000, 0, 0, 0), (35, .goto 10, 38, 0, 45, 0, 0), (38, .aload_n 0, 39, 0, 0, 0, 0), (39, .iload_n 2, 40, 0, 0, 2, 0), (40, .iload_n 1, 41, 0, 0, 1, 0), (41, .iload_n 3, 42, 0, 0, 3, 0), (42, .invokevirtual 223, 45, 0, 114, 0, 0), (45, .istore 4, 47, 0, 0, 4, 0), (47, .iload 4, 49, 0, 0, 4, 0), (49, .ldc 218, 51, 10000000, 0, 0, 0), (51, .if_icmp .ne 7, 54, 0, 58, 0, 0), (54, .iconst (-1), 55, -1, 0, 0, 0), (55, .goto 5, 58, 0, 60, 0, 0), (58, .iload 4, 60, 0, 0, 4, 0), (60, .ireturn, 61, 0, 0, 0, 0)]
def tb_X4_cut_0 : List pm_E := [(0, .aload_n 0, 1, 0, 0, 0, 0), (1, .iload_n 1, 2, 0, 0, 1, 0), (2, .invokevirtual 198, 5, 0, 82, 0, 0), (5, .ifCond .ne 6, 8, 0, 11, 0, 0), (8, .bipush (-2), 10, -2, 0, 0, 0), (10, .ireturn, 11, 0, 0, 0, 0), (11, .aload_n 0, 12, 0, 0, 0, 0), (12, .getfield 58, 15, 0, 4, 2, 0), (15, .iload_n 1, 16, 0, 0, 1, 0), (16, .invokestatic 194, 19, 0, 81, 0, 0), (19, .ifCond .eq 6, 22, 0, 25, 0, 0), (22, .bipush (-4), 24, -4, 0, 0, 0), (24, .ireturn, 25, 0, 0, 0, 0), (25, .iconst 0, 26, 0, 0, 0, 0), (26, .istore_n 2, 27, 0, 0, 2, 0), (27, .iconst 0, 28, 0, 0, 0, 0), (28, .istore_n 3, 29, 0, 0, 3, 0), (29, .iload_n 3, 30, 0, 0, 3, 0), (30, .aload_n 0, 31, 0, 0, 0, 0), (31, .getfield 7, 34, 0, 4, 0, 0), (34, .if_icmp .ge 93, 37, 0, 127, 0, 0), (37, .iconst 0, 38, 0, 0, 0, 0), (38, .istore 4, 40, 0, 0, 4, 0), (40, .iload 4, 42, 0, 0, 4, 0), (42, .aload_n 0, 43, 0, 0, 0, 0), (43, .getfield 7, 46, 0, 4, 0, 0), (46, .if_icmp .ge 75, 49, 0, 121, 0, 0), (49, .iload_n 3, 50, 0, 0, 3, 0), (50, .iload 4, 52, 0, 0, 4, 0), (52, .if_icmp .eq 63, 55, 0, 115, 0, 0), (55, .aload_n 0, 56, 0, 0, 0, 0), (56, .iload_n 3, 57, 0, 0, 3, 0), (57, .iload 4, 59, 0, 0, 4, 0), (59, .iconst 0, 60, 0, 0, 0, 0), (60, .invokevirtual 223, 63, 0, 114, 0, 0), (63, .ldc 218, 65, 10000000, 0, 0, 0), (65, .if_icmp .ge 50, 68, 0, 115, 0, 0), (68, .aload_n 0, 69, 0, 0, 0, 0), (69, .aload_n 0, 70, 0, 0, 0, 0), (70, .getfield 58, 73, 0, 4, 2, 0), (73, .iconst 1, 74, 1, 0, 0, 0), (74, .iload_n 1, 75, 0, 0, 1, 0), (75, .ishl, 76, 0, 0, 0, 0), (76, .ior, 77, 0, 0, 0, 0), (77, .putfield 58, 80, 0, 4, 2, 0), (80, .iload_n 2, 81, 0, 0, 2, 0), (81, .aload_n 0, 82, 0, 0, 0, 0), (82, .iload_n 3, 83, 0, 0, 3, 0), (83, .iload 4, 85, 0, 0, 4, 0), (85, .iconst 0, 86, 0, 0, 0, 0), (86, .invokevirtual 223, 89, 0, 114, 0, 0), (89, .ldc 218, 91, 10000000, 0, 0, 0), (91, .if_icmp .ne 7, 94, 0, 98, 0, 0), (94, .iconst 1, 95, 1, 0, 0, 0), (95, .goto 4, 98, 0, 99, 0, 0), (98, .iconst 0, 99, 0, 0, 0, 0), (99, .iadd, 100, 0, 0, 0, 0), (100, .istore_n 2, 101, 0, 0, 2, 0), (101, .aload_n 0, 102, 0, 0, 0, 0), (102, .aload_n 0, 103, 0, 0, 0, 0)]
def tb_X4_cut_1 : List pm_E := [(103, .getfield 58, 106, 0, 4, 2, 0), (106, .iconst 1, 107, 1, 0, 0, 0), (107, .iload_n 1, 108, 0, 0, 1, 0), (108, .ishl, 109, 0, 0, 0, 0), (109, .iconst (-1), 110, -1, 0, 0, 0), (110, .ixor, 111, 0, 0, 0, 0), (111, .iand, 112, 0, 0, 0, 0), (112, .putfield 58, 115, 0, 4, 2, 0), (115, .iinc 4 1, 118, 1, 0, 4, 0), (118, .goto (-78), 121, 0, 40, 0, 0), (121, .iinc 3 1, 124, 1, 0, 3, 0), (124, .goto (-95), 127, 0, 29, 0, 0), (127, .iload_n 2, 128, 0, 0, 2, 0), (128, .ireturn, 129, 0, 0, 0, 0)]
def tb_X4_cut : List pm_E := tb_X4_cut_0 ++ (tb_X4_cut_1)
def tb_X4_servedNow : List pm_E := [(0, .iconst 0, 1, 0, 0, 0, 0), (1, .istore_n 1, 2, 0, 0, 1, 0), (2, .iconst 0, 3, 0, 0, 0, 0), (3, .istore_n 2, 4, 0, 0, 2, 0), (4, .iload_n 2, 5, 0, 0, 2, 0), (5, .aload_n 0, 6, 0, 0, 0, 0), (6, .getfield 64, 9, 0, 4, 7, 0), (9, .if_icmp .ge 51, 12, 0, 60, 0, 0), (12, .iload_n 1, 13, 0, 0, 1, 0), (13, .aload_n 0, 14, 0, 0, 0, 0), (14, .aload_n 0, 15, 0, 0, 0, 0), (15, .getfield 23, 18, 0, 4, 8, 0), (18, .iconst 2, 19, 2, 0, 0, 0), (19, .iload_n 2, 20, 0, 0, 2, 0), (20, .imul, 21, 0, 0, 0, 0), (21, .iaload, 22, 0, 0, 0, 0), (22, .aload_n 0, 23, 0, 0, 0, 0), (23, .getfield 23, 26, 0, 4, 8, 0), (26, .iconst 2, 27, 2, 0, 0, 0), (27, .iload_n 2, 28, 0, 0, 2, 0), (28, .imul, 29, 0, 0, 0, 0), (29, .iconst 1, 30, 1, 0, 0, 0), (30, .iadd, 31, 0, 0, 0, 0), (31, .iaload, 32, 0, 0, 0, 0), (32, .iconst 0, 33, 0, 0, 0, 0), (33, .invokevirtual 223, 36, 0, 114, 0, 0), (36, .iconst 2, 37, 2, 0, 0, 0), (37, .aload_n 0, 38, 0, 0, 0, 0), (38, .getfield 20, 41, 0, 4, 6, 0), (41, .imul, 42, 0, 0, 0, 0), (42, .if_icmp .gt 9, 45, 0, 51, 0, 0), (45, .iconst 1, 46, 1, 0, 0, 0), (46, .iload_n 2, 47, 0, 0, 2, 0), (47, .ishl, 48, 0, 0, 0, 0), (48, .goto 4, 51, 0, 52, 0, 0), (51, .iconst 0, 52, 0, 0, 0, 0), (52, .ior, 53, 0, 0, 0, 0), (53, .istore_n 1, 54, 0, 0, 1, 0), (54, .iinc 2 1, 57, 1, 0, 2, 0), (57, .goto (-53), 60, 0, 4, 0, 0), (60, .iload_n 1, 61, 0, 0, 1, 0), (61, .ireturn, 62, 0, 0, 0, 0)]
def tb_X4_bits : List pm_E := [(0, .iconst 0, 1, 0, 0, 0, 0), (1, .istore_n 1, 2, 0, 0, 1, 0), (2, .iconst 0, 3, 0, 0, 0, 0), (3, .istore_n 2, 4, 0, 0, 2, 0), (4, .iload_n 2, 5, 0, 0, 2, 0), (5, .bipush 8, 7, 8, 0, 0, 0), (7, .if_icmp .ge 17, 10, 0, 24, 0, 0), (10, .iload_n 1, 11, 0, 0, 1, 0), (11, .iload_n 0, 12, 0, 0, 0, 0), (12, .iload_n 2, 13, 0, 0, 2, 0), (13, .ishr, 14, 0, 0, 0, 0), (14, .iconst 1, 15, 1, 0, 0, 0), (15, .iand, 16, 0, 0, 0, 0), (16, .iadd, 17, 0, 0, 0, 0), (17, .istore_n 1, 18, 0, 0, 1, 0), (18, .iinc 2 1, 21, 1, 0, 2, 0), (21, .goto (-17), 24, 0, 4, 0, 0), (24, .iload_n 1, 25, 0, 0, 1, 0), (25, .ireturn, 26, 0, 0, 0, 0)]
def tb_X4_served : List pm_E := [(0, .aload_n 0, 1, 0, 0, 0, 0), (1, .invokevirtual 226, 4, 0, 118, 0, 0), (4, .ireturn, 5, 0, 0, 0, 0)]
def tb_X4_law : List pm_E := [(0, .iload_n 1, 1, 0, 0, 1, 0), (1, .iconst 0, 2, 0, 0, 0, 0), (2, .iconst 1, 3, 1, 0, 0, 0), (3, .invokestatic 51, 6, 0, 80, 0, 0), (6, .ifCond .ne 6, 9, 0, 12, 0, 0), (9, .bipush (-3), 11, -3, 0, 0, 0), (11, .ireturn, 12, 0, 0, 0, 0), (12, .aload_n 0, 13, 0, 0, 0, 0), (13, .getfield 61, 16, 0, 4, 5, 0), (16, .istore_n 2, 17, 0, 0, 2, 0), (17, .iconst 0, 18, 0, 0, 0, 0), (18, .istore_n 3, 19, 0, 0, 3, 0), (19, .iconst (-1), 20, -1, 0, 0, 0), (20, .istore 4, 22, 0, 0, 4, 0), (22, .iconst 0, 23, 0, 0, 0, 0), (23, .istore 5, 25, 0, 0, 5, 0), (25, .iload 5, 27, 0, 0, 5, 0), (27, .iconst 3, 28, 3, 0, 0, 0), (28, .if_icmp .ge 54, 31, 0, 82, 0, 0), (31, .aload_n 0, 32, 0, 0, 0, 0), (32, .iload 5, 34, 0, 0, 5, 0), (34, .putfield 61, 37, 0, 4, 5, 0), (37, .aload_n 0, 38, 0, 0, 0, 0), (38, .invokevirtual 226, 41, 0, 118, 0, 0), (41, .invokestatic 230, 44, 0, 119, 0, 0), (44, .istore 6, 46, 0, 0, 6, 0), (46, .iload 6, 48, 0, 0, 6, 0), (48, .iload 4, 50, 0, 0, 4, 0), (50, .if_icmp .le 8, 53, 0, 58, 0, 0), (53, .iload 5, 55, 0, 0, 5, 0), (55, .goto 4, 58, 0, 59, 0, 0), (58, .iload_n 3, 59, 0, 0, 3, 0), (59, .istore_n 3, 60, 0, 0, 3, 0), (60, .iload 6, 62, 0, 0, 6, 0), (62, .iload 4, 64, 0, 0, 4, 0), (64, .if_icmp .le 8, 67, 0, 72, 0, 0), (67, .iload 6, 69, 0, 0, 6, 0), (69, .goto 5, 72, 0, 74, 0, 0), (72, .iload 4, 74, 0, 0, 4, 0), (74, .istore 4, 76, 0, 0, 4, 0), (76, .iinc 5 1, 79, 1, 0, 5, 0), (79, .goto (-54), 82, 0, 25, 0, 0), (82, .aload_n 0, 83, 0, 0, 0, 0), (83, .iload_n 2, 84, 0, 0, 2, 0), (84, .putfield 61, 87, 0, 4, 5, 0), (87, .iload_n 1, 88, 0, 0, 1, 0), (88, .ifCond .ne 7, 91, 0, 95, 0, 0), (91, .iload_n 3, 92, 0, 0, 3, 0), (92, .goto 5, 95, 0, 97, 0, 0), (95, .iload 4, 97, 0, 0, 4, 0), (97, .ireturn, 98, 0, 0, 0, 0)]
def tb_X4_rope : List pm_E := [(0, .iload_n 1, 1, 0, 0, 1, 0), (1, .iconst 0, 2, 0, 0, 0, 0), (2, .iconst 1, 3, 1, 0, 0, 0), (3, .invokestatic 51, 6, 0, 80, 0, 0), (6, .ifCond .ne 6, 9, 0, 12, 0, 0), (9, .bipush (-3), 11, -3, 0, 0, 0), (11, .ireturn, 12, 0, 0, 0, 0), (12, .iconst (-1), 13, -1, 0, 0, 0), (13, .istore_n 2, 14, 0, 0, 2, 0), (14, .iconst (-1), 15, -1, 0, 0, 0), (15, .istore_n 3, 16, 0, 0, 3, 0), (16, .iconst 0, 17, 0, 0, 0, 0), (17, .istore 4, 19, 0, 0, 4, 0), (19, .iload 4, 21, 0, 0, 4, 0), (21, .aload_n 0, 22, 0, 0, 0, 0), (22, .getfield 55, 25, 0, 4, 3, 0), (25, .if_icmp .ge 50, 28, 0, 75, 0, 0), (28, .aload_n 0, 29, 0, 0, 0, 0), (29, .iload 4, 31, 0, 0, 4, 0), (31, .putfield 45, 34, 0, 4, 30, 0), (34, .aload_n 0, 35, 0, 0, 0, 0), (35, .invokevirtual 226, 38, 0, 118, 0, 0), (38, .invokestatic 230, 41, 0, 119, 0, 0), (41, .istore 5, 43, 0, 0, 5, 0), (43, .iload 5, 45, 0, 0, 5, 0), (45, .iload_n 3, 46, 0, 0, 3, 0), (46, .if_icmp .le 8, 49, 0, 54, 0, 0), (49, .iload 4, 51, 0, 0, 4, 0), (51, .goto 4, 54, 0, 55, 0, 0), (54, .iload_n 2, 55, 0, 0, 2, 0), (55, .istore_n 2, 56, 0, 0, 2, 0), (56, .iload 5, 58, 0, 0, 5, 0), (58, .iload_n 3, 59, 0, 0, 3, 0), (59, .if_icmp .le 8, 62, 0, 67, 0, 0), (62, .iload 5, 64, 0, 0, 5, 0), (64, .goto 4, 67, 0, 68, 0, 0), (67, .iload_n 3, 68, 0, 0, 3, 0), (68, .istore_n 3, 69, 0, 0, 3, 0), (69, .iinc 4 1, 72, 1, 0, 4, 0), (72, .goto (-53), 75, 0, 19, 0, 0), (75, .aload_n 0, 76, 0, 0, 0, 0), (76, .iconst (-1), 77, -1, 0, 0, 0), (77, .putfield 45, 80, 0, 4, 30, 0), (80, .iload_n 1, 81, 0, 0, 1, 0), (81, .ifCond .ne 7, 84, 0, 88, 0, 0), (84, .iload_n 2, 85, 0, 0, 2, 0), (85, .goto 19, 88, 0, 104, 0, 0), (88, .iload_n 2, 89, 0, 0, 2, 0), (89, .iconst (-1), 90, -1, 0, 0, 0), (90, .if_icmp .ne 13, 93, 0, 103, 0, 0), (93, .aload_n 0, 94, 0, 0, 0, 0), (94, .invokevirtual 226, 97, 0, 118, 0, 0), (97, .invokestatic 230, 100, 0, 119, 0, 0), (100, .goto 4, 103, 0, 104, 0, 0), (103, .iload_n 3, 104, 0, 0, 3, 0), (104, .ireturn, 105, 0, 0, 0, 0)]
def tb_X4_mended_0 : List pm_E := [(0, .iload_n 1, 1, 0, 0, 1, 0), (1, .iconst 0, 2, 0, 0, 0, 0), (2, .iconst 1, 3, 1, 0, 0, 0), (3, .invokestatic 51, 6, 0, 80, 0, 0), (6, .ifCond .ne 6, 9, 0, 12, 0, 0), (9, .bipush (-3), 11, -3, 0, 0, 0), (11, .ireturn, 12, 0, 0, 0, 0), (12, .aload_n 0, 13, 0, 0, 0, 0), (13, .getfield 58, 16, 0, 4, 2, 0), (16, .istore_n 2, 17, 0, 0, 2, 0), (17, .iconst (-1), 18, -1, 0, 0, 0), (18, .istore_n 3, 19, 0, 0, 3, 0), (19, .iconst 0, 20, 0, 0, 0, 0), (20, .istore 4, 22, 0, 0, 4, 0), (22, .iload 4, 24, 0, 0, 4, 0), (24, .iconst 1, 25, 1, 0, 0, 0), (25, .aload_n 0, 26, 0, 0, 0, 0), (26, .getfield 7, 29, 0, 4, 0, 0), (29, .ishl, 30, 0, 0, 0, 0), (30, .if_icmp .ge 66, 33, 0, 96, 0, 0), (33, .iload 4, 35, 0, 0, 4, 0), (35, .iload_n 2, 36, 0, 0, 2, 0), (36, .iconst (-1), 37, -1, 0, 0, 0), (37, .ixor, 38, 0, 0, 0, 0), (38, .iand, 39, 0, 0, 0, 0), (39, .ifCond .ne 51, 42, 0, 90, 0, 0), (42, .iload_n 3, 43, 0, 0, 3, 0), (43, .iconst (-1), 44, -1, 0, 0, 0), (44, .if_icmp .eq 15, 47, 0, 59, 0, 0), (47, .iload 4, 49, 0, 0, 4, 0), (49, .invokestatic 230, 52, 0, 119, 0, 0), (52, .iload_n 3, 53, 0, 0, 3, 0), (53, .invokestatic 230, 56, 0, 119, 0, 0), (56, .if_icmp .ge 34, 59, 0, 90, 0, 0), (59, .aload_n 0, 60, 0, 0, 0, 0), (60, .iload_n 2, 61, 0, 0, 2, 0), (61, .iload 4, 63, 0, 0, 4, 0), (63, .iconst (-1), 64, -1, 0, 0, 0), (64, .ixor, 65, 0, 0, 0, 0), (65, .iand, 66, 0, 0, 0, 0), (66, .putfield 58, 69, 0, 4, 2, 0), (69, .aload_n 0, 70, 0, 0, 0, 0), (70, .invokevirtual 226, 73, 0, 118, 0, 0), (73, .invokestatic 230, 76, 0, 119, 0, 0), (76, .aload_n 0, 77, 0, 0, 0, 0), (77, .getfield 64, 80, 0, 4, 7, 0), (80, .if_icmp .ne 8, 83, 0, 88, 0, 0), (83, .iload 4, 85, 0, 0, 4, 0), (85, .goto 4, 88, 0, 89, 0, 0), (88, .iload_n 3, 89, 0, 0, 3, 0), (89, .istore_n 3, 90, 0, 0, 3, 0), (90, .iinc 4 1, 93, 1, 0, 4, 0), (93, .goto (-71), 96, 0, 22, 0, 0), (96, .aload_n 0, 97, 0, 0, 0, 0), (97, .iload_n 2, 98, 0, 0, 2, 0), (98, .putfield 58, 101, 0, 4, 2, 0), (101, .iload_n 3, 102, 0, 0, 3, 0), (102, .iconst (-1), 103, -1, 0, 0, 0), (103, .if_icmp .eq 8, 106, 0, 111, 0, 0), (106, .iload_n 1, 107, 0, 0, 1, 0)]
def tb_X4_mended_1 : List pm_E := [(107, .iconst 1, 108, 1, 0, 0, 0), (108, .if_icmp .ne 7, 111, 0, 115, 0, 0), (111, .iload_n 3, 112, 0, 0, 3, 0), (112, .goto 7, 115, 0, 119, 0, 0), (115, .iload_n 3, 116, 0, 0, 3, 0), (116, .invokestatic 230, 119, 0, 119, 0, 0), (119, .ireturn, 120, 0, 0, 0, 0)]
def tb_X4_mended : List pm_E := tb_X4_mended_0 ++ (tb_X4_mended_1)
def tb_X4_walk : List pm_E := [(0, .aload_n 0, 1, 0, 0, 0, 0), (1, .iload_n 1, 2, 0, 0, 1, 0), (2, .invokevirtual 198, 5, 0, 82, 0, 0), (5, .ifCond .ne 6, 8, 0, 11, 0, 0), (8, .bipush (-2), 10, -2, 0, 0, 0), (10, .ireturn, 11, 0, 0, 0, 0), (11, .aload_n 0, 12, 0, 0, 0, 0), (12, .getfield 188, 15, 0, 4, 26, 0), (15, .bipush 12, 17, 12, 0, 0, 0), (17, .if_icmp .ne 6, 20, 0, 23, 0, 0), (20, .bipush (-5), 22, -5, 0, 0, 0), (22, .ireturn, 23, 0, 0, 0, 0), (23, .aload_n 0, 24, 0, 0, 0, 0), (24, .getfield 39, 27, 0, 4, 27, 0), (27, .aload_n 0, 28, 0, 0, 0, 0), (28, .getfield 188, 31, 0, 4, 26, 0), (31, .iload_n 1, 32, 0, 0, 1, 0), (32, .iastore, 33, 0, 0, 0, 0), (33, .aload_n 0, 34, 0, 0, 0, 0), (34, .dup, 35, 0, 0, 0, 0), (35, .getfield 188, 38, 0, 4, 26, 0), (38, .iconst 1, 39, 1, 0, 0, 0), (39, .iadd, 40, 0, 0, 0, 0), (40, .putfield 188, 43, 0, 4, 26, 0), (43, .aload_n 0, 44, 0, 0, 0, 0), (44, .getfield 188, 47, 0, 4, 26, 0), (47, .ireturn, 48, 0, 0, 0, 0)]
def tb_X4_burn : List pm_E := [(0, .aload_n 0, 1, 0, 0, 0, 0), (1, .getfield 188, 4, 0, 4, 26, 0), (4, .istore_n 1, 5, 0, 0, 1, 0), (5, .aload_n 0, 6, 0, 0, 0, 0), (6, .iconst 0, 7, 0, 0, 0, 0), (7, .putfield 188, 10, 0, 4, 26, 0), (10, .iload_n 1, 11, 0, 0, 1, 0), (11, .ireturn, 12, 0, 0, 0, 0)]
def tb_X4_judge_0 : List pm_E := [(0, .iload_n 1, 1, 0, 0, 1, 0), (1, .iconst 0, 2, 0, 0, 0, 0), (2, .sipush 9999, 5, 9999, 0, 0, 0), (5, .invokestatic 51, 8, 0, 80, 0, 0), (8, .ifCond .eq 12, 11, 0, 20, 0, 0), (11, .iload_n 2, 12, 0, 0, 2, 0), (12, .iconst 0, 13, 0, 0, 0, 0), (13, .iconst 1, 14, 1, 0, 0, 0), (14, .invokestatic 51, 17, 0, 80, 0, 0), (17, .ifCond .ne 6, 20, 0, 23, 0, 0), (20, .bipush (-3), 22, -3, 0, 0, 0), (22, .ireturn, 23, 0, 0, 0, 0), (23, .aload_n 0, 24, 0, 0, 0, 0), (24, .getfield 188, 27, 0, 4, 26, 0), (27, .ifCond .ne 6, 30, 0, 33, 0, 0), (30, .bipush (-4), 32, -4, 0, 0, 0), (32, .ireturn, 33, 0, 0, 0, 0), (33, .iload_n 1, 34, 0, 0, 1, 0), (34, .istore_n 3, 35, 0, 0, 3, 0), (35, .iconst 1, 36, 1, 0, 0, 0), (36, .istore 4, 38, 0, 0, 4, 0), (38, .iload 4, 40, 0, 0, 4, 0), (40, .aload_n 0, 41, 0, 0, 0, 0), (41, .getfield 188, 44, 0, 4, 26, 0), (44, .if_icmp .ge 139, 47, 0, 183, 0, 0), (47, .iconst (-1), 48, -1, 0, 0, 0), (48, .istore 5, 50, 0, 0, 5, 0), (50, .aload_n 0, 51, 0, 0, 0, 0), (51, .getfield 55, 54, 0, 4, 3, 0), (54, .iconst 1, 55, 1, 0, 0, 0), (55, .isub, 56, 0, 0, 0, 0), (56, .istore 6, 58, 0, 0, 6, 0), (58, .iload 6, 60, 0, 0, 6, 0), (60, .ifCond .lt 86, 63, 0, 146, 0, 0), (63, .aload_n 0, 64, 0, 0, 0, 0), (64, .iload 6, 66, 0, 0, 6, 0), (66, .aload_n 0, 67, 0, 0, 0, 0), (67, .getfield 39, 70, 0, 4, 27, 0), (70, .iload 4, 72, 0, 0, 4, 0), (72, .iconst 1, 73, 1, 0, 0, 0), (73, .isub, 74, 0, 0, 0, 0), (74, .iaload, 75, 0, 0, 0, 0), (75, .iload_n 3, 76, 0, 0, 3, 0), (76, .invokevirtual 214, 79, 0, 106, 0, 0), (79, .ifCond .eq 44, 82, 0, 123, 0, 0), (82, .aload_n 0, 83, 0, 0, 0, 0), (83, .getfield 17, 86, 0, 4, 4, 0), (86, .iconst 4, 87, 4, 0, 0, 0), (87, .iload 6, 89, 0, 0, 6, 0), (89, .imul, 90, 0, 0, 0, 0), (90, .iconst 1, 91, 1, 0, 0, 0), (91, .iadd, 92, 0, 0, 0, 0), (92, .aload_n 0, 93, 0, 0, 0, 0), (93, .iload 6, 95, 0, 0, 6, 0), (95, .aload_n 0, 96, 0, 0, 0, 0), (96, .getfield 39, 99, 0, 4, 27, 0), (99, .iload 4, 101, 0, 0, 4, 0), (101, .iconst 1, 102, 1, 0, 0, 0), (102, .isub, 103, 0, 0, 0, 0), (103, .iaload, 104, 0, 0, 0, 0)]
def tb_X4_judge_1 : List pm_E := [(104, .invokevirtual 211, 107, 0, 105, 0, 0), (107, .isub, 108, 0, 0, 0, 0), (108, .iaload, 109, 0, 0, 0, 0), (109, .aload_n 0, 110, 0, 0, 0, 0), (110, .getfield 39, 113, 0, 4, 27, 0), (113, .iload 4, 115, 0, 0, 4, 0), (115, .iaload, 116, 0, 0, 0, 0), (116, .if_icmp .ne 7, 119, 0, 123, 0, 0), (119, .iconst 1, 120, 1, 0, 0, 0), (120, .goto 4, 123, 0, 124, 0, 0), (123, .iconst 0, 124, 0, 0, 0, 0), (124, .istore 7, 126, 0, 0, 7, 0), (126, .iload 7, 128, 0, 0, 7, 0), (128, .ifCond .eq 8, 131, 0, 136, 0, 0), (131, .iload 6, 133, 0, 0, 6, 0), (133, .goto 5, 136, 0, 138, 0, 0), (136, .iload 5, 138, 0, 0, 5, 0), (138, .istore 5, 140, 0, 0, 5, 0), (140, .iinc 6 (-1), 143, -1, 0, 6, 0), (143, .goto (-85), 146, 0, 58, 0, 0), (146, .iload 5, 148, 0, 0, 5, 0), (148, .iconst (-1), 149, -1, 0, 0, 0), (149, .if_icmp .ne 14, 152, 0, 163, 0, 0), (152, .iload_n 2, 153, 0, 0, 2, 0), (153, .ifCond .ne 8, 156, 0, 161, 0, 0), (156, .iload 4, 158, 0, 0, 4, 0), (158, .goto 4, 161, 0, 162, 0, 0), (161, .iload_n 3, 162, 0, 0, 3, 0), (162, .ireturn, 163, 0, 0, 0, 0), (163, .iload_n 3, 164, 0, 0, 3, 0), (164, .aload_n 0, 165, 0, 0, 0, 0), (165, .getfield 17, 168, 0, 4, 4, 0), (168, .iconst 4, 169, 4, 0, 0, 0), (169, .iload 5, 171, 0, 0, 5, 0), (171, .imul, 172, 0, 0, 0, 0), (172, .iconst 3, 173, 3, 0, 0, 0), (173, .iadd, 174, 0, 0, 0, 0), (174, .iaload, 175, 0, 0, 0, 0), (175, .iadd, 176, 0, 0, 0, 0), (176, .istore_n 3, 177, 0, 0, 3, 0), (177, .iinc 4 1, 180, 1, 0, 4, 0), (180, .goto (-142), 183, 0, 38, 0, 0), (183, .iload_n 2, 184, 0, 0, 2, 0), (184, .ifCond .ne 7, 187, 0, 191, 0, 0), (187, .iconst (-1), 188, -1, 0, 0, 0), (188, .goto 4, 191, 0, 192, 0, 0), (191, .iload_n 3, 192, 0, 0, 3, 0), (192, .ireturn, 193, 0, 0, 0, 0)]
def tb_X4_judge : List pm_E := tb_X4_judge_0 ++ (tb_X4_judge_1)
def tb_X4_seen_0 : List pm_E := [(0, .aload_n 0, 1, 0, 0, 0, 0), (1, .iload_n 1, 2, 0, 0, 1, 0), (2, .invokevirtual 198, 5, 0, 82, 0, 0), (5, .ifCond .eq 11, 8, 0, 16, 0, 0), (8, .aload_n 0, 9, 0, 0, 0, 0), (9, .iload_n 2, 10, 0, 0, 2, 0), (10, .invokevirtual 198, 13, 0, 82, 0, 0), (13, .ifCond .ne 6, 16, 0, 19, 0, 0), (16, .bipush (-2), 18, -2, 0, 0, 0), (18, .ireturn, 19, 0, 0, 0, 0), (19, .iload_n 3, 20, 0, 0, 3, 0), (20, .iconst 0, 21, 0, 0, 0, 0), (21, .iconst 1, 22, 1, 0, 0, 0), (22, .invokestatic 51, 25, 0, 80, 0, 0), (25, .ifCond .eq 8, 28, 0, 33, 0, 0), (28, .iload_n 1, 29, 0, 0, 1, 0), (29, .iload_n 2, 30, 0, 0, 2, 0), (30, .if_icmp .ne 6, 33, 0, 36, 0, 0), (33, .bipush (-3), 35, -3, 0, 0, 0), (35, .ireturn, 36, 0, 0, 0, 0), (36, .aload_n 0, 37, 0, 0, 0, 0), (37, .getfield 191, 40, 0, 4, 28, 0), (40, .bipush 12, 42, 12, 0, 0, 0), (42, .if_icmp .ne 6, 45, 0, 48, 0, 0), (45, .bipush (-5), 47, -5, 0, 0, 0), (47, .ireturn, 48, 0, 0, 0, 0), (48, .aload_n 0, 49, 0, 0, 0, 0), (49, .getfield 42, 52, 0, 4, 29, 0), (52, .iconst 3, 53, 3, 0, 0, 0), (53, .aload_n 0, 54, 0, 0, 0, 0), (54, .getfield 191, 57, 0, 4, 28, 0), (57, .imul, 58, 0, 0, 0, 0), (58, .iload_n 1, 59, 0, 0, 1, 0), (59, .iastore, 60, 0, 0, 0, 0), (60, .aload_n 0, 61, 0, 0, 0, 0), (61, .getfield 42, 64, 0, 4, 29, 0), (64, .iconst 3, 65, 3, 0, 0, 0), (65, .aload_n 0, 66, 0, 0, 0, 0), (66, .getfield 191, 69, 0, 4, 28, 0), (69, .imul, 70, 0, 0, 0, 0), (70, .iconst 1, 71, 1, 0, 0, 0), (71, .iadd, 72, 0, 0, 0, 0), (72, .iload_n 2, 73, 0, 0, 2, 0), (73, .iastore, 74, 0, 0, 0, 0), (74, .aload_n 0, 75, 0, 0, 0, 0), (75, .getfield 42, 78, 0, 4, 29, 0), (78, .iconst 3, 79, 3, 0, 0, 0), (79, .aload_n 0, 80, 0, 0, 0, 0), (80, .getfield 191, 83, 0, 4, 28, 0), (83, .imul, 84, 0, 0, 0, 0), (84, .iconst 2, 85, 2, 0, 0, 0), (85, .iadd, 86, 0, 0, 0, 0), (86, .iload_n 3, 87, 0, 0, 3, 0), (87, .iastore, 88, 0, 0, 0, 0), (88, .aload_n 0, 89, 0, 0, 0, 0), (89, .dup, 90, 0, 0, 0, 0), (90, .getfield 191, 93, 0, 4, 28, 0), (93, .iconst 1, 94, 1, 0, 0, 0), (94, .iadd, 95, 0, 0, 0, 0), (95, .putfield 191, 98, 0, 4, 28, 0)]
def tb_X4_seen_1 : List pm_E := [(98, .aload_n 0, 99, 0, 0, 0, 0), (99, .getfield 191, 102, 0, 4, 28, 0), (102, .ireturn, 103, 0, 0, 0, 0)]
def tb_X4_seen : List pm_E := tb_X4_seen_0 ++ (tb_X4_seen_1)
def tb_X4_forget : List pm_E := [(0, .aload_n 0, 1, 0, 0, 0, 0), (1, .getfield 191, 4, 0, 4, 28, 0), (4, .istore_n 1, 5, 0, 0, 1, 0), (5, .aload_n 0, 6, 0, 0, 0, 0), (6, .iconst 0, 7, 0, 0, 0, 0), (7, .putfield 191, 10, 0, 4, 28, 0), (10, .iload_n 1, 11, 0, 0, 1, 0), (11, .ireturn, 12, 0, 0, 0, 0)]
def tb_X4_above_0 : List pm_E := [(0, .iconst 0, 1, 0, 0, 0, 0), (1, .istore_n 3, 2, 0, 0, 3, 0), (2, .iconst 0, 3, 0, 0, 0, 0), (3, .istore 4, 5, 0, 0, 4, 0), (5, .iload 4, 7, 0, 0, 4, 0), (7, .aload_n 0, 8, 0, 0, 0, 0), (8, .getfield 7, 11, 0, 4, 0, 0), (11, .if_icmp .ge 103, 14, 0, 114, 0, 0), (14, .iconst 0, 15, 0, 0, 0, 0), (15, .istore 5, 17, 0, 0, 5, 0), (17, .iload 5, 19, 0, 0, 5, 0), (19, .aload_n 0, 20, 0, 0, 0, 0), (20, .getfield 191, 23, 0, 4, 28, 0), (23, .if_icmp .ge 85, 26, 0, 108, 0, 0), (26, .aload_n 0, 27, 0, 0, 0, 0), (27, .getfield 42, 30, 0, 4, 29, 0), (30, .iconst 3, 31, 3, 0, 0, 0), (31, .iload 5, 33, 0, 0, 5, 0), (33, .imul, 34, 0, 0, 0, 0), (34, .iaload, 35, 0, 0, 0, 0), (35, .iload_n 1, 36, 0, 0, 1, 0), (36, .if_icmp .eq 19, 39, 0, 55, 0, 0), (39, .iload_n 3, 40, 0, 0, 3, 0), (40, .aload_n 0, 41, 0, 0, 0, 0), (41, .getfield 42, 44, 0, 4, 29, 0), (44, .iconst 3, 45, 3, 0, 0, 0), (45, .iload 5, 47, 0, 0, 5, 0), (47, .imul, 48, 0, 0, 0, 0), (48, .iaload, 49, 0, 0, 0, 0), (49, .invokestatic 194, 52, 0, 81, 0, 0), (52, .ifCond .eq 7, 55, 0, 59, 0, 0), (55, .iconst 1, 56, 1, 0, 0, 0), (56, .goto 4, 59, 0, 60, 0, 0), (59, .iconst 0, 60, 0, 0, 0, 0), (60, .istore 6, 62, 0, 0, 6, 0), (62, .iload_n 3, 63, 0, 0, 3, 0), (63, .iload 6, 65, 0, 0, 6, 0), (65, .ifCond .eq 34, 68, 0, 99, 0, 0), (68, .aload_n 0, 69, 0, 0, 0, 0), (69, .getfield 42, 72, 0, 4, 29, 0), (72, .iconst 3, 73, 3, 0, 0, 0), (73, .iload 5, 75, 0, 0, 5, 0), (75, .imul, 76, 0, 0, 0, 0), (76, .iconst 2, 77, 2, 0, 0, 0), (77, .iadd, 78, 0, 0, 0, 0), (78, .iaload, 79, 0, 0, 0, 0), (79, .iload_n 2, 80, 0, 0, 2, 0), (80, .if_icmp .ne 19, 83, 0, 99, 0, 0), (83, .iconst 1, 84, 1, 0, 0, 0), (84, .aload_n 0, 85, 0, 0, 0, 0), (85, .getfield 42, 88, 0, 4, 29, 0), (88, .iconst 3, 89, 3, 0, 0, 0), (89, .iload 5, 91, 0, 0, 5, 0), (91, .imul, 92, 0, 0, 0, 0), (92, .iconst 1, 93, 1, 0, 0, 0), (93, .iadd, 94, 0, 0, 0, 0), (94, .iaload, 95, 0, 0, 0, 0), (95, .ishl, 96, 0, 0, 0, 0), (96, .goto 4, 99, 0, 100, 0, 0), (99, .iconst 0, 100, 0, 0, 0, 0)]
def tb_X4_above_1 : List pm_E := [(100, .ior, 101, 0, 0, 0, 0), (101, .istore_n 3, 102, 0, 0, 3, 0), (102, .iinc 5 1, 105, 1, 0, 5, 0), (105, .goto (-88), 108, 0, 17, 0, 0), (108, .iinc 4 1, 111, 1, 0, 4, 0), (111, .goto (-106), 114, 0, 5, 0, 0), (114, .iload_n 3, 115, 0, 0, 3, 0), (115, .ireturn, 116, 0, 0, 0, 0)]
def tb_X4_above : List pm_E := tb_X4_above_0 ++ (tb_X4_above_1)
def tb_X4_sure : List pm_E := [(0, .aload_n 0, 1, 0, 0, 0, 0), (1, .iload_n 1, 2, 0, 0, 1, 0), (2, .invokevirtual 198, 5, 0, 82, 0, 0), (5, .ifCond .eq 11, 8, 0, 16, 0, 0), (8, .aload_n 0, 9, 0, 0, 0, 0), (9, .iload_n 2, 10, 0, 0, 2, 0), (10, .invokevirtual 198, 13, 0, 82, 0, 0), (13, .ifCond .ne 6, 16, 0, 19, 0, 0), (16, .bipush (-2), 18, -2, 0, 0, 0), (18, .ireturn, 19, 0, 0, 0, 0), (19, .iload_n 3, 20, 0, 0, 3, 0), (20, .iconst 0, 21, 0, 0, 0, 0), (21, .iconst 1, 22, 1, 0, 0, 0), (22, .invokestatic 51, 25, 0, 80, 0, 0), (25, .ifCond .ne 6, 28, 0, 31, 0, 0), (28, .bipush (-3), 30, -3, 0, 0, 0), (30, .ireturn, 31, 0, 0, 0, 0), (31, .iload_n 1, 32, 0, 0, 1, 0), (32, .iload_n 2, 33, 0, 0, 2, 0), (33, .if_icmp .eq 14, 36, 0, 47, 0, 0), (36, .aload_n 0, 37, 0, 0, 0, 0), (37, .iload_n 1, 38, 0, 0, 1, 0), (38, .iload_n 3, 39, 0, 0, 3, 0), (39, .invokevirtual 234, 42, 0, 129, 0, 0), (42, .iload_n 2, 43, 0, 0, 2, 0), (43, .ishr, 44, 0, 0, 0, 0), (44, .iconst 1, 45, 1, 0, 0, 0), (45, .iand, 46, 0, 0, 0, 0), (46, .ireturn, 47, 0, 0, 0, 0), (47, .iconst 1, 48, 1, 0, 0, 0), (48, .istore 4, 50, 0, 0, 4, 0), (50, .iconst 0, 51, 0, 0, 0, 0), (51, .istore 5, 53, 0, 0, 5, 0), (53, .iload 5, 55, 0, 0, 5, 0), (55, .aload_n 0, 56, 0, 0, 0, 0), (56, .getfield 7, 59, 0, 4, 0, 0), (59, .if_icmp .ge 36, 62, 0, 95, 0, 0), (62, .iload 4, 64, 0, 0, 4, 0), (64, .ifCond .eq 22, 67, 0, 86, 0, 0), (67, .aload_n 0, 68, 0, 0, 0, 0), (68, .iload 5, 70, 0, 0, 5, 0), (70, .iload_n 3, 71, 0, 0, 3, 0), (71, .invokevirtual 234, 74, 0, 129, 0, 0), (74, .iload 5, 76, 0, 0, 5, 0), (76, .invokestatic 194, 79, 0, 81, 0, 0), (79, .ifCond .ne 7, 82, 0, 86, 0, 0), (82, .iconst 1, 83, 1, 0, 0, 0), (83, .goto 4, 86, 0, 87, 0, 0), (86, .iconst 0, 87, 0, 0, 0, 0), (87, .istore 4, 89, 0, 0, 4, 0), (89, .iinc 5 1, 92, 1, 0, 5, 0), (92, .goto (-39), 95, 0, 53, 0, 0), (95, .iload 4, 97, 0, 0, 4, 0), (97, .ifCond .eq 7, 100, 0, 104, 0, 0), (100, .iconst 1, 101, 1, 0, 0, 0), (101, .goto 4, 104, 0, 105, 0, 0), (104, .iconst 0, 105, 0, 0, 0, 0), (105, .ireturn, 106, 0, 0, 0, 0)]
def tb_X4_count : List pm_E := [(0, .iload_n 1, 1, 0, 0, 1, 0), (1, .tableswitch 96 0 8 #[51, 56, 61, 66, 71, 76, 81, 86, 91], 52, 0, 97, 0, 0), (52, .aload_n 0, 53, 0, 0, 0, 0), (53, .getfield 7, 56, 0, 4, 0, 0), (56, .ireturn, 57, 0, 0, 0, 0), (57, .aload_n 0, 58, 0, 0, 0, 0), (58, .getfield 55, 61, 0, 4, 3, 0), (61, .ireturn, 62, 0, 0, 0, 0), (62, .aload_n 0, 63, 0, 0, 0, 0), (63, .getfield 61, 66, 0, 4, 5, 0), (66, .ireturn, 67, 0, 0, 0, 0), (67, .aload_n 0, 68, 0, 0, 0, 0), (68, .getfield 20, 71, 0, 4, 6, 0), (71, .ireturn, 72, 0, 0, 0, 0), (72, .aload_n 0, 73, 0, 0, 0, 0), (73, .getfield 64, 76, 0, 4, 7, 0), (76, .ireturn, 77, 0, 0, 0, 0), (77, .aload_n 0, 78, 0, 0, 0, 0), (78, .getfield 188, 81, 0, 4, 26, 0), (81, .ireturn, 82, 0, 0, 0, 0), (82, .aload_n 0, 83, 0, 0, 0, 0), (83, .getfield 191, 86, 0, 4, 28, 0), (86, .ireturn, 87, 0, 0, 0, 0), (87, .aload_n 0, 88, 0, 0, 0, 0), (88, .getfield 67, 91, 0, 4, 9, 0), (91, .ireturn, 92, 0, 0, 0, 0), (92, .aload_n 0, 93, 0, 0, 0, 0), (93, .getfield 58, 96, 0, 4, 2, 0), (96, .ireturn, 97, 0, 0, 0, 0), (97, .bipush (-3), 99, -3, 0, 0, 0), (99, .ireturn, 100, 0, 0, 0, 0)]
def tb_J6_bitCount_0f7a4 : List pm_E := [(0, .iload_n 0, 1, 0, 0, 0, 0), (1, .iload_n 0, 2, 0, 0, 0, 0), (2, .iconst 1, 3, 1, 0, 0, 0), (3, .iushr, 4, 0, 0, 0, 0), (4, .ldc_w 265, 7, 1431655765, 0, 0, 0), (7, .iand, 8, 0, 0, 0, 0), (8, .isub, 9, 0, 0, 0, 0), (9, .istore_n 0, 10, 0, 0, 0, 0), (10, .iload_n 0, 11, 0, 0, 0, 0), (11, .ldc_w 266, 14, 858993459, 0, 0, 0), (14, .iand, 15, 0, 0, 0, 0), (15, .iload_n 0, 16, 0, 0, 0, 0), (16, .iconst 2, 17, 2, 0, 0, 0), (17, .iushr, 18, 0, 0, 0, 0), (18, .ldc_w 266, 21, 858993459, 0, 0, 0), (21, .iand, 22, 0, 0, 0, 0), (22, .iadd, 23, 0, 0, 0, 0), (23, .istore_n 0, 24, 0, 0, 0, 0), (24, .iload_n 0, 25, 0, 0, 0, 0), (25, .iload_n 0, 26, 0, 0, 0, 0), (26, .iconst 4, 27, 4, 0, 0, 0), (27, .iushr, 28, 0, 0, 0, 0), (28, .iadd, 29, 0, 0, 0, 0), (29, .ldc_w 267, 32, 252645135, 0, 0, 0), (32, .iand, 33, 0, 0, 0, 0), (33, .istore_n 0, 34, 0, 0, 0, 0), (34, .iload_n 0, 35, 0, 0, 0, 0), (35, .iload_n 0, 36, 0, 0, 0, 0), (36, .bipush 8, 38, 8, 0, 0, 0), (38, .iushr, 39, 0, 0, 0, 0), (39, .iadd, 40, 0, 0, 0, 0), (40, .istore_n 0, 41, 0, 0, 0, 0), (41, .iload_n 0, 42, 0, 0, 0, 0), (42, .iload_n 0, 43, 0, 0, 0, 0), (43, .bipush 16, 45, 16, 0, 0, 0), (45, .iushr, 46, 0, 0, 0, 0), (46, .iadd, 47, 0, 0, 0, 0), (47, .istore_n 0, 48, 0, 0, 0, 0), (48, .iload_n 0, 49, 0, 0, 0, 0), (49, .bipush 63, 51, 63, 0, 0, 0), (51, .iand, 52, 0, 0, 0, 0), (52, .ireturn, 53, 0, 0, 0, 0)]
def tb_J0_length_8abf5 : List pm_E := [(0, .aload_n 0, 1, 0, 0, 0, 0), (1, .getfield 9, 4, 0, 9, 0, 0), (4, .arraylength, 5, 0, 0, 0, 0), (5, .aload_n 0, 6, 0, 0, 0, 0), (6, .invokevirtual 335, 9, 0, 135, 0, 0), (9, .ishr, 10, 0, 0, 0, 0), (10, .ireturn, 11, 0, 0, 0, 0)]
def tb_J0_charAt_5068e : List pm_E := [(0, .aload_n 0, 1, 0, 0, 0, 0), (1, .invokevirtual 492, 4, 0, 136, 0, 0), (4, .ifCond .eq 12, 7, 0, 16, 0, 0), (7, .aload_n 0, 8, 0, 0, 0, 0), (8, .getfield 9, 11, 0, 9, 0, 0), (11, .iload_n 1, 12, 0, 0, 1, 0), (12, .invokestatic 495, 15, 0, 138, 0, 0), (15, .ireturn, 16, 0, 0, 0, 0)]
def tb_J0_coder_7d493 : List pm_E := [(0, .getstatic 38, 3, 0, 0, 0, 0), (3, .ifCond .eq 10, 6, 0, 13, 0, 0), (6, .aload_n 0, 7, 0, 0, 0, 0), (7, .getfield 15, 10, 0, 9, 1, 0), (10, .goto 4, 13, 0, 14, 0, 0), (13, .iconst 1, 14, 1, 0, 0, 0), (14, .ireturn, 15, 0, 0, 0, 0)]
def tb_J0_isLatin1_aae02 : List pm_E := [(0, .getstatic 38, 3, 0, 0, 0, 0), (3, .ifCond .eq 14, 6, 0, 17, 0, 0), (6, .aload_n 0, 7, 0, 0, 0, 0), (7, .getfield 15, 10, 0, 9, 1, 0), (10, .ifCond .ne 7, 13, 0, 17, 0, 0), (13, .iconst 1, 14, 1, 0, 0, 0), (14, .goto 4, 17, 0, 18, 0, 0), (17, .iconst 0, 18, 0, 0, 0, 0), (18, .ireturn, 19, 0, 0, 0, 0)]
def tb_J0_checkIndex_df160 : List pm_E := [(0, .iload_n 0, 1, 0, 0, 0, 0), (1, .iload_n 1, 2, 0, 0, 1, 0), (2, .getstatic 1053, 5, 0, 3, 0, 0), (5, .invokestatic 1059, 8, 0, 139, 0, 0), (8, .pop, 9, 0, 0, 0, 0), (9, .return_, 10, 0, 0, 0, 0)]
def tb_J1_charAt_3b067 : List pm_E := [(0, .iload_n 1, 1, 0, 0, 1, 0), (1, .aload_n 0, 2, 0, 0, 0, 0), (2, .arraylength, 3, 0, 0, 0, 0), (3, .invokestatic 9, 6, 0, 137, 0, 0), (6, .aload_n 0, 7, 0, 0, 0, 0), (7, .iload_n 1, 8, 0, 0, 1, 0), (8, .baload, 9, 0, 0, 0, 0), (9, .sipush 255, 12, 255, 0, 0, 0), (12, .iand, 13, 0, 0, 0, 0), (13, .i2c, 14, 0, 0, 0, 0), (14, .ireturn, 15, 0, 0, 0, 0)]
def tb_J3_checkIndex_8e157 : List pm_E := [(0, .iload_n 0, 1, 0, 0, 0, 0), (1, .ifCond .lt 8, 4, 0, 9, 0, 0), (4, .iload_n 0, 5, 0, 0, 0, 0), (5, .iload_n 1, 6, 0, 0, 1, 0), (6, .if_icmp .lt 10, 9, 0, 16, 0, 0), (16, .iload_n 0, 17, 0, 0, 0, 0), (17, .ireturn, 18, 0, 0, 0, 0)]
def tb_L_law_0 : List pm_E := [(0, .new 7, 3, 0, 3, 0, 0), (3, .dup, 4, 0, 0, 0, 0), (4, .invokespecial 9, 7, 0, 44, 0, 0), (7, .astore_n 1, 8, 0, 0, 1, 0), (8, .new 10, 11, 0, 4, 0, 0), (11, .dup, 12, 0, 0, 0, 0), (12, .invokespecial 12, 15, 0, 79, 0, 0), (15, .astore_n 2, 16, 0, 0, 2, 0), (16, .iconst 0, 17, 0, 0, 0, 0), (17, .istore_n 3, 18, 0, 0, 3, 0), (18, .iload_n 3, 19, 0, 0, 3, 0), (19, .aload_n 0, 20, 0, 0, 0, 0), (20, .arraylength, 21, 0, 0, 0, 0), (21, .iconst 4, 22, 4, 0, 0, 0), (22, .isub, 23, 0, 0, 0, 0), (23, .if_icmp .gt 860, 26, 0, 883, 0, 0), (26, .aload_n 0, 27, 0, 0, 0, 0), (27, .iload_n 3, 28, 0, 0, 3, 0), (28, .iaload, 29, 0, 0, 0, 0), (29, .bipush 31, 31, 31, 0, 0, 0), (31, .iand, 32, 0, 0, 0, 0), (32, .tableswitch 845 0 26 #[124, 187, 200, 213, 226, 259, 292, 325, 348, 371, 394, 417, 440, 473, 516, 549, 572, 585, 608, 631, 654, 677, 690, 723, 766, 779, 822], 156, 0, 877, 0, 0), (156, .aload_n 1, 157, 0, 0, 1, 0), (157, .aload_n 0, 158, 0, 0, 0, 0), (158, .iload_n 3, 159, 0, 0, 3, 0), (159, .iconst 1, 160, 1, 0, 0, 0), (160, .iadd, 161, 0, 0, 0, 0), (161, .iaload, 162, 0, 0, 0, 0), (162, .i2l, 163, 0, 0, 0, 0), (163, .bipush 32, 165, 32, 0, 0, 0), (165, .lshl, 166, 0, 0, 0, 0), (166, .aload_n 0, 167, 0, 0, 0, 0), (167, .iload_n 3, 168, 0, 0, 3, 0), (168, .iconst 2, 169, 2, 0, 0, 0), (169, .iadd, 170, 0, 0, 0, 0), (170, .iaload, 171, 0, 0, 0, 0), (171, .i2l, 172, 0, 0, 0, 0), (172, .ldc2_w 13, 175, 0, 0, 0, 4294967295), (175, .land, 176, 0, 0, 0, 0), (176, .lor, 177, 0, 0, 0, 0), (177, .aload_n 0, 178, 0, 0, 0, 0), (178, .iload_n 3, 179, 0, 0, 3, 0), (179, .iconst 3, 180, 3, 0, 0, 0), (180, .iadd, 181, 0, 0, 0, 0), (181, .iaload, 182, 0, 0, 0, 0), (182, .invokevirtual 15, 185, 0, 45, 0, 0), (185, .aload_n 2, 186, 0, 0, 2, 0), (186, .aload_n 0, 187, 0, 0, 0, 0), (187, .iload_n 3, 188, 0, 0, 3, 0), (188, .iconst 1, 189, 1, 0, 0, 0), (189, .iadd, 190, 0, 0, 0, 0), (190, .iaload, 191, 0, 0, 0, 0), (191, .i2l, 192, 0, 0, 0, 0), (192, .bipush 32, 194, 32, 0, 0, 0), (194, .lshl, 195, 0, 0, 0, 0), (195, .aload_n 0, 196, 0, 0, 0, 0), (196, .iload_n 3, 197, 0, 0, 3, 0), (197, .iconst 2, 198, 2, 0, 0, 0), (198, .iadd, 199, 0, 0, 0, 0), (199, .iaload, 200, 0, 0, 0, 0)]
def tb_L_law_1 : List pm_E := [(200, .i2l, 201, 0, 0, 0, 0), (201, .ldc2_w 13, 204, 0, 0, 0, 4294967295), (204, .land, 205, 0, 0, 0, 0), (205, .lor, 206, 0, 0, 0, 0), (206, .aload_n 0, 207, 0, 0, 0, 0), (207, .iload_n 3, 208, 0, 0, 3, 0), (208, .iconst 3, 209, 3, 0, 0, 0), (209, .iadd, 210, 0, 0, 0, 0), (210, .iaload, 211, 0, 0, 0, 0), (211, .invokevirtual 19, 214, 0, 85, 0, 0), (214, .if_icmp .eq 663, 217, 0, 877, 0, 0), (217, .iconst 0, 218, 0, 0, 0, 0), (218, .ireturn, 219, 0, 0, 0, 0), (219, .aload_n 1, 220, 0, 0, 1, 0), (220, .invokevirtual 20, 223, 0, 46, 0, 0), (223, .aload_n 2, 224, 0, 0, 2, 0), (224, .invokevirtual 24, 227, 0, 86, 0, 0), (227, .if_icmp .eq 650, 230, 0, 877, 0, 0), (230, .iconst 0, 231, 0, 0, 0, 0), (231, .ireturn, 232, 0, 0, 0, 0), (232, .aload_n 1, 233, 0, 0, 1, 0), (233, .invokevirtual 25, 236, 0, 47, 0, 0), (236, .aload_n 2, 237, 0, 0, 2, 0), (237, .invokevirtual 28, 240, 0, 97, 0, 0), (240, .if_icmp .eq 637, 243, 0, 877, 0, 0), (243, .iconst 0, 244, 0, 0, 0, 0), (244, .ireturn, 245, 0, 0, 0, 0), (245, .aload_n 1, 246, 0, 0, 1, 0), (246, .invokevirtual 29, 249, 0, 48, 0, 0), (249, .aload_n 2, 250, 0, 0, 2, 0), (250, .invokevirtual 32, 253, 0, 99, 0, 0), (253, .if_icmp .eq 624, 256, 0, 877, 0, 0), (256, .iconst 0, 257, 0, 0, 0, 0), (257, .ireturn, 258, 0, 0, 0, 0), (258, .aload_n 1, 259, 0, 0, 1, 0), (259, .aload_n 0, 260, 0, 0, 0, 0), (260, .iload_n 3, 261, 0, 0, 3, 0), (261, .iconst 1, 262, 1, 0, 0, 0), (262, .iadd, 263, 0, 0, 0, 0), (263, .iaload, 264, 0, 0, 0, 0), (264, .aload_n 0, 265, 0, 0, 0, 0), (265, .iload_n 3, 266, 0, 0, 3, 0), (266, .iconst 2, 267, 2, 0, 0, 0), (267, .iadd, 268, 0, 0, 0, 0), (268, .iaload, 269, 0, 0, 0, 0), (269, .invokevirtual 33, 272, 0, 49, 0, 0), (272, .aload_n 2, 273, 0, 0, 2, 0), (273, .aload_n 0, 274, 0, 0, 0, 0), (274, .iload_n 3, 275, 0, 0, 3, 0), (275, .iconst 1, 276, 1, 0, 0, 0), (276, .iadd, 277, 0, 0, 0, 0), (277, .iaload, 278, 0, 0, 0, 0), (278, .aload_n 0, 279, 0, 0, 0, 0), (279, .iload_n 3, 280, 0, 0, 3, 0), (280, .iconst 2, 281, 2, 0, 0, 0), (281, .iadd, 282, 0, 0, 0, 0), (282, .iaload, 283, 0, 0, 0, 0), (283, .invokevirtual 37, 286, 0, 101, 0, 0), (286, .if_icmp .eq 591, 289, 0, 877, 0, 0), (289, .iconst 0, 290, 0, 0, 0, 0)]
def tb_L_law_2 : List pm_E := [(290, .ireturn, 291, 0, 0, 0, 0), (291, .aload_n 1, 292, 0, 0, 1, 0), (292, .aload_n 0, 293, 0, 0, 0, 0), (293, .iload_n 3, 294, 0, 0, 3, 0), (294, .iconst 1, 295, 1, 0, 0, 0), (295, .iadd, 296, 0, 0, 0, 0), (296, .iaload, 297, 0, 0, 0, 0), (297, .aload_n 0, 298, 0, 0, 0, 0), (298, .iload_n 3, 299, 0, 0, 3, 0), (299, .iconst 2, 300, 2, 0, 0, 0), (300, .iadd, 301, 0, 0, 0, 0), (301, .iaload, 302, 0, 0, 0, 0), (302, .invokevirtual 38, 305, 0, 50, 0, 0), (305, .aload_n 2, 306, 0, 0, 2, 0), (306, .aload_n 0, 307, 0, 0, 0, 0), (307, .iload_n 3, 308, 0, 0, 3, 0), (308, .iconst 1, 309, 1, 0, 0, 0), (309, .iadd, 310, 0, 0, 0, 0), (310, .iaload, 311, 0, 0, 0, 0), (311, .aload_n 0, 312, 0, 0, 0, 0), (312, .iload_n 3, 313, 0, 0, 3, 0), (313, .iconst 2, 314, 2, 0, 0, 0), (314, .iadd, 315, 0, 0, 0, 0), (315, .iaload, 316, 0, 0, 0, 0), (316, .invokevirtual 41, 319, 0, 102, 0, 0), (319, .if_icmp .eq 558, 322, 0, 877, 0, 0), (322, .iconst 0, 323, 0, 0, 0, 0), (323, .ireturn, 324, 0, 0, 0, 0), (324, .aload_n 1, 325, 0, 0, 1, 0), (325, .aload_n 0, 326, 0, 0, 0, 0), (326, .iload_n 3, 327, 0, 0, 3, 0), (327, .iconst 1, 328, 1, 0, 0, 0), (328, .iadd, 329, 0, 0, 0, 0), (329, .iaload, 330, 0, 0, 0, 0), (330, .aload_n 0, 331, 0, 0, 0, 0), (331, .iload_n 3, 332, 0, 0, 3, 0), (332, .iconst 2, 333, 2, 0, 0, 0), (333, .iadd, 334, 0, 0, 0, 0), (334, .iaload, 335, 0, 0, 0, 0), (335, .invokevirtual 42, 338, 0, 51, 0, 0), (338, .aload_n 2, 339, 0, 0, 2, 0), (339, .aload_n 0, 340, 0, 0, 0, 0), (340, .iload_n 3, 341, 0, 0, 3, 0), (341, .iconst 1, 342, 1, 0, 0, 0), (342, .iadd, 343, 0, 0, 0, 0), (343, .iaload, 344, 0, 0, 0, 0), (344, .aload_n 0, 345, 0, 0, 0, 0), (345, .iload_n 3, 346, 0, 0, 3, 0), (346, .iconst 2, 347, 2, 0, 0, 0), (347, .iadd, 348, 0, 0, 0, 0), (348, .iaload, 349, 0, 0, 0, 0), (349, .invokevirtual 45, 352, 0, 104, 0, 0), (352, .if_icmp .eq 525, 355, 0, 877, 0, 0), (355, .iconst 0, 356, 0, 0, 0, 0), (356, .ireturn, 357, 0, 0, 0, 0), (357, .aload_n 1, 358, 0, 0, 1, 0), (358, .aload_n 0, 359, 0, 0, 0, 0), (359, .iload_n 3, 360, 0, 0, 3, 0), (360, .iconst 1, 361, 1, 0, 0, 0), (361, .iadd, 362, 0, 0, 0, 0)]
def tb_L_law_3 : List pm_E := [(362, .iaload, 363, 0, 0, 0, 0), (363, .invokevirtual 46, 366, 0, 52, 0, 0), (366, .aload_n 2, 367, 0, 0, 2, 0), (367, .aload_n 0, 368, 0, 0, 0, 0), (368, .iload_n 3, 369, 0, 0, 3, 0), (369, .iconst 1, 370, 1, 0, 0, 0), (370, .iadd, 371, 0, 0, 0, 0), (371, .iaload, 372, 0, 0, 0, 0), (372, .invokevirtual 50, 375, 0, 107, 0, 0), (375, .if_icmp .eq 502, 378, 0, 877, 0, 0), (378, .iconst 0, 379, 0, 0, 0, 0), (379, .ireturn, 380, 0, 0, 0, 0), (380, .aload_n 1, 381, 0, 0, 1, 0), (381, .aload_n 0, 382, 0, 0, 0, 0), (382, .iload_n 3, 383, 0, 0, 3, 0), (383, .iconst 1, 384, 1, 0, 0, 0), (384, .iadd, 385, 0, 0, 0, 0), (385, .iaload, 386, 0, 0, 0, 0), (386, .invokevirtual 51, 389, 0, 53, 0, 0), (389, .aload_n 2, 390, 0, 0, 2, 0), (390, .aload_n 0, 391, 0, 0, 0, 0), (391, .iload_n 3, 392, 0, 0, 3, 0), (392, .iconst 1, 393, 1, 0, 0, 0), (393, .iadd, 394, 0, 0, 0, 0), (394, .iaload, 395, 0, 0, 0, 0), (395, .invokevirtual 54, 398, 0, 108, 0, 0), (398, .if_icmp .eq 479, 401, 0, 877, 0, 0), (401, .iconst 0, 402, 0, 0, 0, 0), (402, .ireturn, 403, 0, 0, 0, 0), (403, .aload_n 1, 404, 0, 0, 1, 0), (404, .aload_n 0, 405, 0, 0, 0, 0), (405, .iload_n 3, 406, 0, 0, 3, 0), (406, .iconst 1, 407, 1, 0, 0, 0), (407, .iadd, 408, 0, 0, 0, 0), (408, .iaload, 409, 0, 0, 0, 0), (409, .invokevirtual 55, 412, 0, 54, 0, 0), (412, .aload_n 2, 413, 0, 0, 2, 0), (413, .aload_n 0, 414, 0, 0, 0, 0), (414, .iload_n 3, 415, 0, 0, 3, 0), (415, .iconst 1, 416, 1, 0, 0, 0), (416, .iadd, 417, 0, 0, 0, 0), (417, .iaload, 418, 0, 0, 0, 0), (418, .invokevirtual 58, 421, 0, 109, 0, 0), (421, .if_icmp .eq 456, 424, 0, 877, 0, 0), (424, .iconst 0, 425, 0, 0, 0, 0), (425, .ireturn, 426, 0, 0, 0, 0), (426, .aload_n 1, 427, 0, 0, 1, 0), (427, .aload_n 0, 428, 0, 0, 0, 0), (428, .iload_n 3, 429, 0, 0, 3, 0), (429, .iconst 1, 430, 1, 0, 0, 0), (430, .iadd, 431, 0, 0, 0, 0), (431, .iaload, 432, 0, 0, 0, 0), (432, .invokevirtual 59, 435, 0, 55, 0, 0), (435, .aload_n 2, 436, 0, 0, 2, 0), (436, .aload_n 0, 437, 0, 0, 0, 0), (437, .iload_n 3, 438, 0, 0, 3, 0), (438, .iconst 1, 439, 1, 0, 0, 0), (439, .iadd, 440, 0, 0, 0, 0), (440, .iaload, 441, 0, 0, 0, 0), (441, .invokevirtual 62, 444, 0, 110, 0, 0)]
def tb_L_law_4 : List pm_E := [(444, .if_icmp .eq 433, 447, 0, 877, 0, 0), (447, .iconst 0, 448, 0, 0, 0, 0), (448, .ireturn, 449, 0, 0, 0, 0), (449, .aload_n 1, 450, 0, 0, 1, 0), (450, .aload_n 0, 451, 0, 0, 0, 0), (451, .iload_n 3, 452, 0, 0, 3, 0), (452, .iconst 1, 453, 1, 0, 0, 0), (453, .iadd, 454, 0, 0, 0, 0), (454, .iaload, 455, 0, 0, 0, 0), (455, .invokevirtual 63, 458, 0, 56, 0, 0), (458, .aload_n 2, 459, 0, 0, 2, 0), (459, .aload_n 0, 460, 0, 0, 0, 0), (460, .iload_n 3, 461, 0, 0, 3, 0), (461, .iconst 1, 462, 1, 0, 0, 0), (462, .iadd, 463, 0, 0, 0, 0), (463, .iaload, 464, 0, 0, 0, 0), (464, .invokevirtual 66, 467, 0, 111, 0, 0), (467, .if_icmp .eq 410, 470, 0, 877, 0, 0), (470, .iconst 0, 471, 0, 0, 0, 0), (471, .ireturn, 472, 0, 0, 0, 0), (472, .aload_n 1, 473, 0, 0, 1, 0), (473, .aload_n 0, 474, 0, 0, 0, 0), (474, .iload_n 3, 475, 0, 0, 3, 0), (475, .iconst 1, 476, 1, 0, 0, 0), (476, .iadd, 477, 0, 0, 0, 0), (477, .iaload, 478, 0, 0, 0, 0), (478, .aload_n 0, 479, 0, 0, 0, 0), (479, .iload_n 3, 480, 0, 0, 3, 0), (480, .iconst 2, 481, 2, 0, 0, 0), (481, .iadd, 482, 0, 0, 0, 0), (482, .iaload, 483, 0, 0, 0, 0), (483, .invokevirtual 67, 486, 0, 57, 0, 0), (486, .aload_n 2, 487, 0, 0, 2, 0), (487, .aload_n 0, 488, 0, 0, 0, 0), (488, .iload_n 3, 489, 0, 0, 3, 0), (489, .iconst 1, 490, 1, 0, 0, 0), (490, .iadd, 491, 0, 0, 0, 0), (491, .iaload, 492, 0, 0, 0, 0), (492, .aload_n 0, 493, 0, 0, 0, 0), (493, .iload_n 3, 494, 0, 0, 3, 0), (494, .iconst 2, 495, 2, 0, 0, 0), (495, .iadd, 496, 0, 0, 0, 0), (496, .iaload, 497, 0, 0, 0, 0), (497, .invokevirtual 70, 500, 0, 112, 0, 0), (500, .if_icmp .eq 377, 503, 0, 877, 0, 0), (503, .iconst 0, 504, 0, 0, 0, 0), (504, .ireturn, 505, 0, 0, 0, 0), (505, .aload_n 1, 506, 0, 0, 1, 0), (506, .aload_n 0, 507, 0, 0, 0, 0), (507, .iload_n 3, 508, 0, 0, 3, 0), (508, .iconst 1, 509, 1, 0, 0, 0), (509, .iadd, 510, 0, 0, 0, 0), (510, .iaload, 511, 0, 0, 0, 0), (511, .aload_n 0, 512, 0, 0, 0, 0), (512, .iload_n 3, 513, 0, 0, 3, 0), (513, .iconst 2, 514, 2, 0, 0, 0), (514, .iadd, 515, 0, 0, 0, 0), (515, .iaload, 516, 0, 0, 0, 0), (516, .aload_n 0, 517, 0, 0, 0, 0), (517, .iload_n 3, 518, 0, 0, 3, 0)]
def tb_L_law_5 : List pm_E := [(518, .iconst 3, 519, 3, 0, 0, 0), (519, .iadd, 520, 0, 0, 0, 0), (520, .iaload, 521, 0, 0, 0, 0), (521, .invokevirtual 71, 524, 0, 58, 0, 0), (524, .aload_n 2, 525, 0, 0, 2, 0), (525, .aload_n 0, 526, 0, 0, 0, 0), (526, .iload_n 3, 527, 0, 0, 3, 0), (527, .iconst 1, 528, 1, 0, 0, 0), (528, .iadd, 529, 0, 0, 0, 0), (529, .iaload, 530, 0, 0, 0, 0), (530, .aload_n 0, 531, 0, 0, 0, 0), (531, .iload_n 3, 532, 0, 0, 3, 0), (532, .iconst 2, 533, 2, 0, 0, 0), (533, .iadd, 534, 0, 0, 0, 0), (534, .iaload, 535, 0, 0, 0, 0), (535, .aload_n 0, 536, 0, 0, 0, 0), (536, .iload_n 3, 537, 0, 0, 3, 0), (537, .iconst 3, 538, 3, 0, 0, 0), (538, .iadd, 539, 0, 0, 0, 0), (539, .iaload, 540, 0, 0, 0, 0), (540, .invokevirtual 75, 543, 0, 115, 0, 0), (543, .if_icmp .eq 334, 546, 0, 877, 0, 0), (546, .iconst 0, 547, 0, 0, 0, 0), (547, .ireturn, 548, 0, 0, 0, 0), (548, .aload_n 1, 549, 0, 0, 1, 0), (549, .aload_n 0, 550, 0, 0, 0, 0), (550, .iload_n 3, 551, 0, 0, 3, 0), (551, .iconst 1, 552, 1, 0, 0, 0), (552, .iadd, 553, 0, 0, 0, 0), (553, .iaload, 554, 0, 0, 0, 0), (554, .aload_n 0, 555, 0, 0, 0, 0), (555, .iload_n 3, 556, 0, 0, 3, 0), (556, .iconst 2, 557, 2, 0, 0, 0), (557, .iadd, 558, 0, 0, 0, 0), (558, .iaload, 559, 0, 0, 0, 0), (559, .invokevirtual 76, 562, 0, 59, 0, 0), (562, .aload_n 2, 563, 0, 0, 2, 0), (563, .aload_n 0, 564, 0, 0, 0, 0), (564, .iload_n 3, 565, 0, 0, 3, 0), (565, .iconst 1, 566, 1, 0, 0, 0), (566, .iadd, 567, 0, 0, 0, 0), (567, .iaload, 568, 0, 0, 0, 0), (568, .aload_n 0, 569, 0, 0, 0, 0), (569, .iload_n 3, 570, 0, 0, 3, 0), (570, .iconst 2, 571, 2, 0, 0, 0), (571, .iadd, 572, 0, 0, 0, 0), (572, .iaload, 573, 0, 0, 0, 0), (573, .invokevirtual 79, 576, 0, 116, 0, 0), (576, .if_icmp .eq 301, 579, 0, 877, 0, 0), (579, .iconst 0, 580, 0, 0, 0, 0), (580, .ireturn, 581, 0, 0, 0, 0), (581, .aload_n 1, 582, 0, 0, 1, 0), (582, .aload_n 0, 583, 0, 0, 0, 0), (583, .iload_n 3, 584, 0, 0, 3, 0), (584, .iconst 1, 585, 1, 0, 0, 0), (585, .iadd, 586, 0, 0, 0, 0), (586, .iaload, 587, 0, 0, 0, 0), (587, .invokevirtual 80, 590, 0, 60, 0, 0), (590, .aload_n 2, 591, 0, 0, 2, 0), (591, .aload_n 0, 592, 0, 0, 0, 0)]
def tb_L_law_6 : List pm_E := [(592, .iload_n 3, 593, 0, 0, 3, 0), (593, .iconst 1, 594, 1, 0, 0, 0), (594, .iadd, 595, 0, 0, 0, 0), (595, .iaload, 596, 0, 0, 0, 0), (596, .invokevirtual 83, 599, 0, 117, 0, 0), (599, .if_icmp .eq 278, 602, 0, 877, 0, 0), (602, .iconst 0, 603, 0, 0, 0, 0), (603, .ireturn, 604, 0, 0, 0, 0), (604, .aload_n 1, 605, 0, 0, 1, 0), (605, .invokevirtual 84, 608, 0, 61, 0, 0), (608, .aload_n 2, 609, 0, 0, 2, 0), (609, .invokevirtual 87, 612, 0, 120, 0, 0), (612, .if_icmp .eq 265, 615, 0, 877, 0, 0), (615, .iconst 0, 616, 0, 0, 0, 0), (616, .ireturn, 617, 0, 0, 0, 0), (617, .aload_n 1, 618, 0, 0, 1, 0), (618, .aload_n 0, 619, 0, 0, 0, 0), (619, .iload_n 3, 620, 0, 0, 3, 0), (620, .iconst 1, 621, 1, 0, 0, 0), (621, .iadd, 622, 0, 0, 0, 0), (622, .iaload, 623, 0, 0, 0, 0), (623, .invokevirtual 88, 626, 0, 62, 0, 0), (626, .aload_n 2, 627, 0, 0, 2, 0), (627, .aload_n 0, 628, 0, 0, 0, 0), (628, .iload_n 3, 629, 0, 0, 3, 0), (629, .iconst 1, 630, 1, 0, 0, 0), (630, .iadd, 631, 0, 0, 0, 0), (631, .iaload, 632, 0, 0, 0, 0), (632, .invokevirtual 91, 635, 0, 121, 0, 0), (635, .if_icmp .eq 242, 638, 0, 877, 0, 0), (638, .iconst 0, 639, 0, 0, 0, 0), (639, .ireturn, 640, 0, 0, 0, 0), (640, .aload_n 1, 641, 0, 0, 1, 0), (641, .aload_n 0, 642, 0, 0, 0, 0), (642, .iload_n 3, 643, 0, 0, 3, 0), (643, .iconst 1, 644, 1, 0, 0, 0), (644, .iadd, 645, 0, 0, 0, 0), (645, .iaload, 646, 0, 0, 0, 0), (646, .invokevirtual 92, 649, 0, 63, 0, 0), (649, .aload_n 2, 650, 0, 0, 2, 0), (650, .aload_n 0, 651, 0, 0, 0, 0), (651, .iload_n 3, 652, 0, 0, 3, 0), (652, .iconst 1, 653, 1, 0, 0, 0), (653, .iadd, 654, 0, 0, 0, 0), (654, .iaload, 655, 0, 0, 0, 0), (655, .invokevirtual 95, 658, 0, 122, 0, 0), (658, .if_icmp .eq 219, 661, 0, 877, 0, 0), (661, .iconst 0, 662, 0, 0, 0, 0), (662, .ireturn, 663, 0, 0, 0, 0), (663, .aload_n 1, 664, 0, 0, 1, 0), (664, .aload_n 0, 665, 0, 0, 0, 0), (665, .iload_n 3, 666, 0, 0, 3, 0), (666, .iconst 1, 667, 1, 0, 0, 0), (667, .iadd, 668, 0, 0, 0, 0), (668, .iaload, 669, 0, 0, 0, 0), (669, .invokevirtual 96, 672, 0, 64, 0, 0), (672, .aload_n 2, 673, 0, 0, 2, 0), (673, .aload_n 0, 674, 0, 0, 0, 0), (674, .iload_n 3, 675, 0, 0, 3, 0), (675, .iconst 1, 676, 1, 0, 0, 0)]
def tb_L_law_7 : List pm_E := [(676, .iadd, 677, 0, 0, 0, 0), (677, .iaload, 678, 0, 0, 0, 0), (678, .invokevirtual 99, 681, 0, 123, 0, 0), (681, .if_icmp .eq 196, 684, 0, 877, 0, 0), (684, .iconst 0, 685, 0, 0, 0, 0), (685, .ireturn, 686, 0, 0, 0, 0), (686, .aload_n 1, 687, 0, 0, 1, 0), (687, .aload_n 0, 688, 0, 0, 0, 0), (688, .iload_n 3, 689, 0, 0, 3, 0), (689, .iconst 1, 690, 1, 0, 0, 0), (690, .iadd, 691, 0, 0, 0, 0), (691, .iaload, 692, 0, 0, 0, 0), (692, .invokevirtual 100, 695, 0, 65, 0, 0), (695, .aload_n 2, 696, 0, 0, 2, 0), (696, .aload_n 0, 697, 0, 0, 0, 0), (697, .iload_n 3, 698, 0, 0, 3, 0), (698, .iconst 1, 699, 1, 0, 0, 0), (699, .iadd, 700, 0, 0, 0, 0), (700, .iaload, 701, 0, 0, 0, 0), (701, .invokevirtual 103, 704, 0, 124, 0, 0), (704, .if_icmp .eq 173, 707, 0, 877, 0, 0), (707, .iconst 0, 708, 0, 0, 0, 0), (708, .ireturn, 709, 0, 0, 0, 0), (709, .aload_n 1, 710, 0, 0, 1, 0), (710, .invokevirtual 104, 713, 0, 66, 0, 0), (713, .aload_n 2, 714, 0, 0, 2, 0), (714, .invokevirtual 107, 717, 0, 125, 0, 0), (717, .if_icmp .eq 160, 720, 0, 877, 0, 0), (720, .iconst 0, 721, 0, 0, 0, 0), (721, .ireturn, 722, 0, 0, 0, 0), (722, .aload_n 1, 723, 0, 0, 1, 0), (723, .aload_n 0, 724, 0, 0, 0, 0), (724, .iload_n 3, 725, 0, 0, 3, 0), (725, .iconst 1, 726, 1, 0, 0, 0), (726, .iadd, 727, 0, 0, 0, 0), (727, .iaload, 728, 0, 0, 0, 0), (728, .aload_n 0, 729, 0, 0, 0, 0), (729, .iload_n 3, 730, 0, 0, 3, 0), (730, .iconst 2, 731, 2, 0, 0, 0), (731, .iadd, 732, 0, 0, 0, 0), (732, .iaload, 733, 0, 0, 0, 0), (733, .invokevirtual 108, 736, 0, 67, 0, 0), (736, .aload_n 2, 737, 0, 0, 2, 0), (737, .aload_n 0, 738, 0, 0, 0, 0), (738, .iload_n 3, 739, 0, 0, 3, 0), (739, .iconst 1, 740, 1, 0, 0, 0), (740, .iadd, 741, 0, 0, 0, 0), (741, .iaload, 742, 0, 0, 0, 0), (742, .aload_n 0, 743, 0, 0, 0, 0), (743, .iload_n 3, 744, 0, 0, 3, 0), (744, .iconst 2, 745, 2, 0, 0, 0), (745, .iadd, 746, 0, 0, 0, 0), (746, .iaload, 747, 0, 0, 0, 0), (747, .invokevirtual 111, 750, 0, 126, 0, 0), (750, .if_icmp .eq 127, 753, 0, 877, 0, 0), (753, .iconst 0, 754, 0, 0, 0, 0), (754, .ireturn, 755, 0, 0, 0, 0), (755, .aload_n 1, 756, 0, 0, 1, 0), (756, .aload_n 0, 757, 0, 0, 0, 0), (757, .iload_n 3, 758, 0, 0, 3, 0)]
def tb_L_law_8 : List pm_E := [(758, .iconst 1, 759, 1, 0, 0, 0), (759, .iadd, 760, 0, 0, 0, 0), (760, .iaload, 761, 0, 0, 0, 0), (761, .aload_n 0, 762, 0, 0, 0, 0), (762, .iload_n 3, 763, 0, 0, 3, 0), (763, .iconst 2, 764, 2, 0, 0, 0), (764, .iadd, 765, 0, 0, 0, 0), (765, .iaload, 766, 0, 0, 0, 0), (766, .aload_n 0, 767, 0, 0, 0, 0), (767, .iload_n 3, 768, 0, 0, 3, 0), (768, .iconst 3, 769, 3, 0, 0, 0), (769, .iadd, 770, 0, 0, 0, 0), (770, .iaload, 771, 0, 0, 0, 0), (771, .invokevirtual 112, 774, 0, 68, 0, 0), (774, .aload_n 2, 775, 0, 0, 2, 0), (775, .aload_n 0, 776, 0, 0, 0, 0), (776, .iload_n 3, 777, 0, 0, 3, 0), (777, .iconst 1, 778, 1, 0, 0, 0), (778, .iadd, 779, 0, 0, 0, 0), (779, .iaload, 780, 0, 0, 0, 0), (780, .aload_n 0, 781, 0, 0, 0, 0), (781, .iload_n 3, 782, 0, 0, 3, 0), (782, .iconst 2, 783, 2, 0, 0, 0), (783, .iadd, 784, 0, 0, 0, 0), (784, .iaload, 785, 0, 0, 0, 0), (785, .aload_n 0, 786, 0, 0, 0, 0), (786, .iload_n 3, 787, 0, 0, 3, 0), (787, .iconst 3, 788, 3, 0, 0, 0), (788, .iadd, 789, 0, 0, 0, 0), (789, .iaload, 790, 0, 0, 0, 0), (790, .invokevirtual 115, 793, 0, 127, 0, 0), (793, .if_icmp .eq 84, 796, 0, 877, 0, 0), (796, .iconst 0, 797, 0, 0, 0, 0), (797, .ireturn, 798, 0, 0, 0, 0), (798, .aload_n 1, 799, 0, 0, 1, 0), (799, .invokevirtual 116, 802, 0, 69, 0, 0), (802, .aload_n 2, 803, 0, 0, 2, 0), (803, .invokevirtual 119, 806, 0, 128, 0, 0), (806, .if_icmp .eq 71, 809, 0, 877, 0, 0), (809, .iconst 0, 810, 0, 0, 0, 0), (810, .ireturn, 811, 0, 0, 0, 0), (811, .aload_n 1, 812, 0, 0, 1, 0), (812, .aload_n 0, 813, 0, 0, 0, 0), (813, .iload_n 3, 814, 0, 0, 3, 0), (814, .iconst 1, 815, 1, 0, 0, 0), (815, .iadd, 816, 0, 0, 0, 0), (816, .iaload, 817, 0, 0, 0, 0), (817, .aload_n 0, 818, 0, 0, 0, 0), (818, .iload_n 3, 819, 0, 0, 3, 0), (819, .iconst 2, 820, 2, 0, 0, 0), (820, .iadd, 821, 0, 0, 0, 0), (821, .iaload, 822, 0, 0, 0, 0), (822, .aload_n 0, 823, 0, 0, 0, 0), (823, .iload_n 3, 824, 0, 0, 3, 0), (824, .iconst 3, 825, 3, 0, 0, 0), (825, .iadd, 826, 0, 0, 0, 0), (826, .iaload, 827, 0, 0, 0, 0), (827, .invokevirtual 120, 830, 0, 70, 0, 0), (830, .aload_n 2, 831, 0, 0, 2, 0), (831, .aload_n 0, 832, 0, 0, 0, 0)]
def tb_L_law_9 : List pm_E := [(832, .iload_n 3, 833, 0, 0, 3, 0), (833, .iconst 1, 834, 1, 0, 0, 0), (834, .iadd, 835, 0, 0, 0, 0), (835, .iaload, 836, 0, 0, 0, 0), (836, .aload_n 0, 837, 0, 0, 0, 0), (837, .iload_n 3, 838, 0, 0, 3, 0), (838, .iconst 2, 839, 2, 0, 0, 0), (839, .iadd, 840, 0, 0, 0, 0), (840, .iaload, 841, 0, 0, 0, 0), (841, .aload_n 0, 842, 0, 0, 0, 0), (842, .iload_n 3, 843, 0, 0, 3, 0), (843, .iconst 3, 844, 3, 0, 0, 0), (844, .iadd, 845, 0, 0, 0, 0), (845, .iaload, 846, 0, 0, 0, 0), (846, .invokevirtual 123, 849, 0, 130, 0, 0), (849, .if_icmp .eq 28, 852, 0, 877, 0, 0), (852, .iconst 0, 853, 0, 0, 0, 0), (853, .ireturn, 854, 0, 0, 0, 0), (854, .aload_n 1, 855, 0, 0, 1, 0), (855, .aload_n 0, 856, 0, 0, 0, 0), (856, .iload_n 3, 857, 0, 0, 3, 0), (857, .iconst 1, 858, 1, 0, 0, 0), (858, .iadd, 859, 0, 0, 0, 0), (859, .iaload, 860, 0, 0, 0, 0), (860, .invokevirtual 124, 863, 0, 71, 0, 0), (863, .aload_n 2, 864, 0, 0, 2, 0), (864, .aload_n 0, 865, 0, 0, 0, 0), (865, .iload_n 3, 866, 0, 0, 3, 0), (866, .iconst 1, 867, 1, 0, 0, 0), (867, .iadd, 868, 0, 0, 0, 0), (868, .iaload, 869, 0, 0, 0, 0), (869, .invokevirtual 127, 872, 0, 131, 0, 0), (872, .if_icmp .eq 5, 875, 0, 877, 0, 0), (875, .iconst 0, 876, 0, 0, 0, 0), (876, .ireturn, 877, 0, 0, 0, 0), (877, .iinc 3 4, 880, 4, 0, 3, 0), (880, .goto (-862), 883, 0, 18, 0, 0), (883, .iconst 1, 884, 1, 0, 0, 0), (884, .ireturn, 885, 0, 0, 0, 0)]
def tb_L_law : List pm_E := tb_L_law_0 ++ (tb_L_law_1 ++ (tb_L_law_2 ++ (tb_L_law_3 ++ (tb_L_law_4 ++ (tb_L_law_5 ++ (tb_L_law_6 ++ (tb_L_law_7 ++ (tb_L_law_8 ++ (tb_L_law_9)))))))))
/-- a method: rows and what it returns, locals, parameters (the receiver apart), what the receiver is (9 String, 20 none, 21 a new object), name, bytes, frames and locals that its calls want -/
abbrev pm_M : Type := (List pm_E × Option FieldType) × Nat × Nat × Nat × MethodName × ByteArray × Nat × Nat
def mm_X0_init : pm_M := ((tb_X0_init, none), 1, 0, 21, yX0_init, cX0_init, 1, 21)
def mm_X0_append : pm_M := ((tb_X0_append, none), 2, 1, 0, yX0_append, cX0_append, 0, 0)
def mm_X0_firstFault : pm_M := ((tb_X0_firstFault, (some .int)), 3, 1, 0, yX0_firstFault, cX0_firstFault, 7, 150)
def mm_X0_advance : pm_M := ((tb_X0_advance, none), 3, 0, 0, yX0_advance, cX0_advance, 1, 21)
def mm_X0_sortAt : pm_M := ((tb_X0_sortAt, (some .int)), 2, 1, 0, yX0_sortAt, cX0_sortAt, 0, 0)
def mm_X0_isWord : pm_M := ((tb_X0_isWord, (some .boolean)), 3, 1, 0, yX0_isWord, cX0_isWord, 4, 85)
def mm_X0_takeLine : pm_M := ((tb_X0_takeLine, (some .boolean)), 4, 1, 0, yX0_takeLine, cX0_takeLine, 6, 127)
def mm_X0_streetKindTold : pm_M := ((tb_X0_streetKindTold, (some .int)), 1, 0, 0, yX0_streetKindTold, cX0_streetKindTold, 5, 107)
def mm_X0_lawTold : pm_M := ((tb_X0_lawTold, (some .int)), 1, 0, 0, yX0_lawTold, cX0_lawTold, 5, 107)
def mm_X0_takeStreet : pm_M := ((tb_X0_takeStreet, (some .boolean)), 5, 2, 0, yX0_takeStreet, cX0_takeStreet, 3, 66)
def mm_X0_takeErrand : pm_M := ((tb_X0_takeErrand, (some .boolean)), 3, 1, 0, yX0_takeErrand, cX0_takeErrand, 3, 66)
def mm_X0_takeScrew : pm_M := ((tb_X0_takeScrew, (some .boolean)), 4, 2, 0, yX0_takeScrew, cX0_takeScrew, 3, 66)
def mm_X0_takeHeights : pm_M := ((tb_X0_takeHeights, (some .boolean)), 4, 1, 0, yX0_takeHeights, cX0_takeHeights, 3, 66)
def mm_X0_takeTown : pm_M := ((tb_X0_takeTown, (some .boolean)), 2, 1, 0, yX0_takeTown, cX0_takeTown, 3, 66)
def mm_X0_takeHalf : pm_M := ((tb_X0_takeHalf, (some .boolean)), 2, 1, 0, yX0_takeHalf, cX0_takeHalf, 3, 66)
def mm_X0_takeNumber : pm_M := ((tb_X0_takeNumber, (some .boolean)), 4, 2, 0, yX0_takeNumber, cX0_takeNumber, 2, 43)
def mm_X1_init : pm_M := ((tb_X1_init, none), 1, 0, 21, yX1_init, cX1_init, 1, 22)
def mm_X1_beginWith : pm_M := ((tb_X1_beginWith, none), 3, 1, 1, yX1_beginWith, cX1_beginWith, 0, 0)
def mm_X1_copyFrom : pm_M := ((tb_X1_copyFrom, none), 3, 1, 1, yX1_copyFrom, cX1_copyFrom, 0, 0)
def mm_X1_hasCorner : pm_M := ((tb_X1_hasCorner, (some .boolean)), 2, 1, 1, yX1_hasCorner, cX1_hasCorner, 0, 0)
def mm_X1_hasStreet : pm_M := ((tb_X1_hasStreet, (some .boolean)), 2, 1, 1, yX1_hasStreet, cX1_hasStreet, 0, 0)
def mm_X1_setHeights : pm_M := ((tb_X1_setHeights, none), 4, 3, 1, yX1_setHeights, cX1_setHeights, 1, 21)
def mm_X1_addStreet : pm_M := ((tb_X1_addStreet, none), 5, 4, 1, yX1_addStreet, cX1_addStreet, 0, 0)
def mm_X1_addErrand : pm_M := ((tb_X1_addErrand, none), 3, 2, 1, yX1_addErrand, cX1_addErrand, 0, 0)
def mm_X1_heightOf : pm_M := ((tb_X1_heightOf, (some .int)), 5, 3, 1, yX1_heightOf, cX1_heightOf, 1, 21)
def mm_X1_halvesBefore : pm_M := ((tb_X1_halvesBefore, (some .int)), 2, 1, 1, yX1_halvesBefore, cX1_halvesBefore, 0, 0)
def mm_X1_leadsFrom : pm_M := ((tb_X1_leadsFrom, (some .boolean)), 3, 2, 1, yX1_leadsFrom, cX1_leadsFrom, 0, 0)
def mm_X1_otherEnd : pm_M := ((tb_X1_otherEnd, (some .int)), 3, 2, 1, yX1_otherEnd, cX1_otherEnd, 0, 0)
def mm_X1_openings : pm_M := ((tb_X1_openings, (some .int)), 8, 3, 1, yX1_openings, cX1_openings, 2, 45)
def mm_X1_mayBeTaken : pm_M := ((tb_X1_mayBeTaken, (some .boolean)), 4, 4, 20, yX1_mayBeTaken, cX1_mayBeTaken, 0, 0)
def mm_X2_init : pm_M := ((tb_X2_init, none), 1, 0, 21, yX2_init, cX2_init, 1, 21)
def mm_X2_layAsItIs : pm_M := ((tb_X2_layAsItIs, none), 2, 1, 2, yX2_layAsItIs, cX2_layAsItIs, 4, 96)
def mm_X2_lay : pm_M := ((tb_X2_lay, none), 5, 3, 2, yX2_lay, cX2_lay, 3, 72)
def mm_X2_spread : pm_M := ((tb_X2_spread, none), 7, 3, 2, yX2_spread, cX2_spread, 3, 76)
def mm_X2_earliestBeside : pm_M := ((tb_X2_earliestBeside, (some .int)), 6, 2, 2, yX2_earliestBeside, cX2_earliestBeside, 0, 0)
def mm_X2_goOnFrom : pm_M := ((tb_X2_goOnFrom, none), 7, 2, 2, yX2_goOnFrom, cX2_goOnFrom, 2, 50)
def mm_X2_beginOf : pm_M := ((tb_X2_beginOf, (some .int)), 10, 4, 2, yX2_beginOf, cX2_beginOf, 1, 21)
def mm_X2_canBeginAt : pm_M := ((tb_X2_canBeginAt, (some .boolean)), 5, 4, 2, yX2_canBeginAt, cX2_canBeginAt, 2, 50)
def mm_X2_streetAtOnce : pm_M := ((tb_X2_streetAtOnce, (some .int)), 7, 4, 2, yX2_streetAtOnce, cX2_streetAtOnce, 3, 74)
def mm_X2_arrival : pm_M := ((tb_X2_arrival, (some .int)), 5, 4, 2, yX2_arrival, cX2_arrival, 4, 102)
def mm_X2_thereBy : pm_M := ((tb_X2_thereBy, (some .int)), 5, 2, 2, yX2_thereBy, cX2_thereBy, 0, 0)
def mm_X2_servedErrands : pm_M := ((tb_X2_servedErrands, (some .int)), 4, 1, 2, yX2_servedErrands, cX2_servedErrands, 5, 125)
def mm_X2_servesAll : pm_M := ((tb_X2_servesAll, (some .boolean)), 3, 1, 2, yX2_servesAll, cX2_servesAll, 5, 125)
def mm_X2_serves : pm_M := ((tb_X2_serves, (some .boolean)), 4, 2, 2, yX2_serves, cX2_serves, 4, 102)
def mm_X3_init : pm_M := ((tb_X3_init, none), 1, 0, 21, yX3_init, cX3_init, 2, 42)
def mm_X3_write : pm_M := ((tb_X3_write, (some .int)), 5, 2, 3, yX3_write, cX3_write, 1, 21)
def mm_X3_erase : pm_M := ((tb_X3_erase, (some .int)), 2, 0, 3, yX3_erase, cX3_erase, 0, 0)
def mm_X3_fault : pm_M := ((tb_X3_fault, (some .int)), 1, 0, 3, yX3_fault, cX3_fault, 8, 172)
def mm_X3_town : pm_M := ((tb_X3_town, (some .int)), 2, 0, 3, yX3_town, cX3_town, 8, 172)
def mm_X3_corner : pm_M := ((tb_X3_corner, (some .int)), 3, 2, 3, yX3_corner, cX3_corner, 2, 45)
def mm_X3_street : pm_M := ((tb_X3_street, (some .int)), 3, 2, 3, yX3_street, cX3_street, 1, 21)
def mm_X3_as : pm_M := ((tb_X3_as, (some .int)), 3, 2, 3, yX3_as, cX3_as, 3, 72)
def mm_X3_go : pm_M := ((tb_X3_go, (some .int)), 2, 1, 3, yX3_go, cX3_go, 5, 117)
def mm_X3_rest : pm_M := ((tb_X3_rest, (some .int)), 2, 1, 3, yX3_rest, cX3_rest, 0, 0)
def mm_X3_here : pm_M := ((tb_X3_here, (some .int)), 2, 1, 3, yX3_here, cX3_here, 1, 21)
def mm_X3_keep : pm_M := ((tb_X3_keep, (some .int)), 2, 1, 3, yX3_keep, cX3_keep, 0, 0)
def mm_X3_back : pm_M := ((tb_X3_back, (some .int)), 2, 1, 3, yX3_back, cX3_back, 0, 0)
def mm_X3_reach : pm_M := ((tb_X3_reach, (some .int)), 3, 2, 3, yX3_reach, cX3_reach, 5, 117)
def mm_X3_soonest : pm_M := ((tb_X3_soonest, (some .int)), 4, 3, 3, yX3_soonest, cX3_soonest, 5, 126)
def mm_X3_home : pm_M := ((tb_X3_home, (some .int)), 4, 2, 3, yX3_home, cX3_home, 5, 126)
def mm_X3_cut : pm_M := ((tb_X3_cut, (some .int)), 7, 1, 3, yX3_cut, cX3_cut, 5, 124)
def mm_X3_served : pm_M := ((tb_X3_served, (some .int)), 1, 0, 3, yX3_served, cX3_served, 6, 148)
def mm_X3_law : pm_M := ((tb_X3_law, (some .int)), 6, 1, 3, yX3_law, cX3_law, 6, 148)
def mm_X3_rope : pm_M := ((tb_X3_rope, (some .int)), 6, 1, 3, yX3_rope, cX3_rope, 6, 148)
def mm_X3_mended : pm_M := ((tb_X3_mended, (some .int)), 5, 1, 3, yX3_mended, cX3_mended, 6, 147)
def mm_X3_walk : pm_M := ((tb_X3_walk, (some .int)), 2, 1, 3, yX3_walk, cX3_walk, 1, 21)
def mm_X3_burn : pm_M := ((tb_X3_burn, (some .int)), 2, 0, 3, yX3_burn, cX3_burn, 0, 0)
def mm_X3_judge : pm_M := ((tb_X3_judge, (some .int)), 6, 2, 3, yX3_judge, cX3_judge, 5, 117)
def mm_X3_seen : pm_M := ((tb_X3_seen, (some .int)), 4, 3, 3, yX3_seen, cX3_seen, 1, 21)
def mm_X3_forget : pm_M := ((tb_X3_forget, (some .int)), 2, 0, 3, yX3_forget, cX3_forget, 0, 0)
def mm_X3_sure : pm_M := ((tb_X3_sure, (some .int)), 4, 3, 3, yX3_sure, cX3_sure, 2, 48)
def mm_X3_count : pm_M := ((tb_X3_count, (some .int)), 2, 1, 3, yX3_count, cX3_count, 0, 0)
def mm_X3_startAnew : pm_M := ((tb_X3_startAnew, none), 2, 0, 3, yX3_startAnew, cX3_startAnew, 0, 0)
def mm_X3_isHalf : pm_M := ((tb_X3_isHalf, (some .boolean)), 1, 1, 20, yX3_isHalf, cX3_isHalf, 0, 0)
def mm_X3_isBegin : pm_M := ((tb_X3_isBegin, (some .boolean)), 1, 1, 20, yX3_isBegin, cX3_isBegin, 0, 0)
def mm_X3_isUnder : pm_M := ((tb_X3_isUnder, (some .boolean)), 4, 2, 20, yX3_isUnder, cX3_isUnder, 0, 0)
def mm_X3_cornersReached : pm_M := ((tb_X3_cornersReached, (some .int)), 3, 2, 3, yX3_cornersReached, cX3_cornersReached, 4, 102)
def mm_X3_higherThan : pm_M := ((tb_X3_higherThan, (some .int)), 7, 2, 3, yX3_higherThan, cX3_higherThan, 0, 0)
def mm_X3_canAllBe : pm_M := ((tb_X3_canAllBe, (some .boolean)), 3, 1, 3, yX3_canAllBe, cX3_canAllBe, 1, 26)
def mm_X4_init : pm_M := ((tb_X4_init, none), 1, 0, 21, yX4_init, cX4_init, 1, 21)
def mm_X4_in : pm_M := ((tb_X4_in, (some .boolean)), 3, 3, 20, yX4_in, cX4_in, 0, 0)
def mm_X4_has : pm_M := ((tb_X4_has, (some .boolean)), 2, 2, 20, yX4_has, cX4_has, 0, 0)
def mm_X4_isCorner : pm_M := ((tb_X4_isCorner, (some .boolean)), 2, 1, 4, yX4_isCorner, cX4_isCorner, 1, 22)
def mm_X4_isStreet : pm_M := ((tb_X4_isStreet, (some .boolean)), 2, 1, 4, yX4_isStreet, cX4_isStreet, 1, 22)
def mm_X4_plain : pm_M := ((tb_X4_plain, none), 2, 0, 4, yX4_plain, cX4_plain, 0, 0)
def mm_X4_write : pm_M := ((tb_X4_write, (some .int)), 5, 2, 4, yX4_write, cX4_write, 1, 22)
def mm_X4_erase : pm_M := ((tb_X4_erase, (some .int)), 2, 0, 4, yX4_erase, cX4_erase, 0, 0)
def mm_X4_nextToken : pm_M := ((tb_X4_nextToken, none), 1, 0, 4, yX4_nextToken, cX4_nextToken, 1, 22)
def mm_X4_fails : pm_M := ((tb_X4_fails, (some .boolean)), 1, 0, 4, yX4_fails, cX4_fails, 0, 0)
def mm_X4_isNumber : pm_M := ((tb_X4_isNumber, (some .boolean)), 4, 3, 4, yX4_isNumber, cX4_isNumber, 2, 42)
def mm_X4_isPlace : pm_M := ((tb_X4_isPlace, (some .boolean)), 2, 1, 4, yX4_isPlace, cX4_isPlace, 3, 65)
def mm_X4_arePlaces : pm_M := ((tb_X4_arePlaces, (some .boolean)), 2, 1, 4, yX4_arePlaces, cX4_arePlaces, 4, 86)
def mm_X4_isTown : pm_M := ((tb_X4_isTown, (some .boolean)), 2, 1, 4, yX4_isTown, cX4_isTown, 3, 65)
def mm_X4_isStreetLine : pm_M := ((tb_X4_isStreetLine, (some .boolean)), 2, 1, 4, yX4_isStreetLine, cX4_isStreetLine, 5, 107)
def mm_X4_isErrand : pm_M := ((tb_X4_isErrand, (some .boolean)), 2, 1, 4, yX4_isErrand, cX4_isErrand, 5, 107)
def mm_X4_isLine : pm_M := ((tb_X4_isLine, (some .boolean)), 4, 1, 4, yX4_isLine, cX4_isLine, 6, 128)
def mm_X4_isRead : pm_M := ((tb_X4_isRead, (some .boolean)), 2, 0, 4, yX4_isRead, cX4_isRead, 7, 151)
def mm_X4_fault : pm_M := ((tb_X4_fault, (some .int)), 1, 0, 4, yX4_fault, cX4_fault, 8, 172)
def mm_X4_doLine : pm_M := ((tb_X4_doLine, none), 4, 1, 4, yX4_doLine, cX4_doLine, 1, 21)
def mm_X4_town : pm_M := ((tb_X4_town, (some .int)), 2, 0, 4, yX4_town, cX4_town, 8, 172)
def mm_X4_heightOf : pm_M := ((tb_X4_heightOf, (some .int)), 3, 2, 4, yX4_heightOf, cX4_heightOf, 1, 21)
def mm_X4_corner : pm_M := ((tb_X4_corner, (some .int)), 3, 2, 4, yX4_corner, cX4_corner, 2, 43)
def mm_X4_street : pm_M := ((tb_X4_street, (some .int)), 3, 2, 4, yX4_street, cX4_street, 2, 43)
def mm_X4_may : pm_M := ((tb_X4_may, (some .boolean)), 5, 3, 4, yX4_may, cX4_may, 2, 43)
def mm_X4_as : pm_M := ((tb_X4_as, (some .int)), 8, 2, 4, yX4_as, cX4_as, 3, 67)
def mm_X4_sideOf : pm_M := ((tb_X4_sideOf, (some .int)), 3, 2, 4, yX4_sideOf, cX4_sideOf, 0, 0)
def mm_X4_canGo : pm_M := ((tb_X4_canGo, (some .boolean)), 5, 3, 4, yX4_canGo, cX4_canGo, 3, 67)
def mm_X4_go : pm_M := ((tb_X4_go, (some .int)), 2, 1, 4, yX4_go, cX4_go, 4, 91)
def mm_X4_rest : pm_M := ((tb_X4_rest, (some .int)), 2, 1, 4, yX4_rest, cX4_rest, 1, 22)
def mm_X4_here : pm_M := ((tb_X4_here, (some .int)), 2, 1, 4, yX4_here, cX4_here, 0, 0)
def mm_X4_keep : pm_M := ((tb_X4_keep, (some .int)), 2, 1, 4, yX4_keep, cX4_keep, 1, 22)
def mm_X4_back : pm_M := ((tb_X4_back, (some .int)), 2, 1, 4, yX4_back, cX4_back, 1, 22)
def mm_X4_reach : pm_M := ((tb_X4_reach, (some .int)), 9, 2, 4, yX4_reach, cX4_reach, 3, 67)
def mm_X4_endOf : pm_M := ((tb_X4_endOf, (some .int)), 8, 3, 4, yX4_endOf, cX4_endOf, 3, 67)
def mm_X4_soonestOf : pm_M := ((tb_X4_soonestOf, (some .int)), 11, 3, 4, yX4_soonestOf, cX4_soonestOf, 4, 94)
def mm_X4_soonest : pm_M := ((tb_X4_soonest, (some .int)), 5, 3, 4, yX4_soonest, cX4_soonest, 5, 124)
def mm_X4_home : pm_M := ((tb_X4_home, (some .int)), 5, 2, 4, yX4_home, cX4_home, 5, 124)
def mm_X4_cut : pm_M := ((tb_X4_cut, (some .int)), 5, 1, 4, yX4_cut, cX4_cut, 5, 124)
def mm_X4_servedNow : pm_M := ((tb_X4_servedNow, (some .int)), 3, 0, 4, yX4_servedNow, cX4_servedNow, 5, 124)
def mm_X4_bits : pm_M := ((tb_X4_bits, (some .int)), 3, 1, 20, yX4_bits, cX4_bits, 0, 0)
def mm_X4_served : pm_M := ((tb_X4_served, (some .int)), 1, 0, 4, yX4_served, cX4_served, 6, 146)
def mm_X4_law : pm_M := ((tb_X4_law, (some .int)), 7, 1, 4, yX4_law, cX4_law, 6, 146)
def mm_X4_rope : pm_M := ((tb_X4_rope, (some .int)), 6, 1, 4, yX4_rope, cX4_rope, 6, 146)
def mm_X4_mended : pm_M := ((tb_X4_mended, (some .int)), 5, 1, 4, yX4_mended, cX4_mended, 6, 146)
def mm_X4_walk : pm_M := ((tb_X4_walk, (some .int)), 2, 1, 4, yX4_walk, cX4_walk, 2, 43)
def mm_X4_burn : pm_M := ((tb_X4_burn, (some .int)), 2, 0, 4, yX4_burn, cX4_burn, 0, 0)
def mm_X4_judge : pm_M := ((tb_X4_judge, (some .int)), 8, 2, 4, yX4_judge, cX4_judge, 4, 91)
def mm_X4_seen : pm_M := ((tb_X4_seen, (some .int)), 4, 3, 4, yX4_seen, cX4_seen, 2, 43)
def mm_X4_forget : pm_M := ((tb_X4_forget, (some .int)), 2, 0, 4, yX4_forget, cX4_forget, 0, 0)
def mm_X4_above : pm_M := ((tb_X4_above, (some .int)), 7, 2, 4, yX4_above, cX4_above, 1, 21)
def mm_X4_sure : pm_M := ((tb_X4_sure, (some .int)), 6, 3, 4, yX4_sure, cX4_sure, 2, 47)
def mm_X4_count : pm_M := ((tb_X4_count, (some .int)), 2, 1, 4, yX4_count, cX4_count, 0, 0)
def mm_J6_bitCount_0f7a4 : pm_M := ((tb_J6_bitCount_0f7a4, (some .int)), 1, 1, 20, yJ6_bitCount_0f7a4, cJ6_bitCount_0f7a4, 0, 0)
def mm_J0_length_8abf5 : pm_M := ((tb_J0_length_8abf5, (some .int)), 1, 0, 9, yJ0_length_8abf5, cJ0_length_8abf5, 1, 20)
def mm_J0_charAt_5068e : pm_M := ((tb_J0_charAt_5068e, (some .char)), 2, 1, 9, yJ0_charAt_5068e, cJ0_charAt_5068e, 3, 64)
def mm_J0_coder_7d493 : pm_M := ((tb_J0_coder_7d493, (some .byte)), 1, 0, 9, yJ0_coder_7d493, cJ0_coder_7d493, 0, 0)
def mm_J0_isLatin1_aae02 : pm_M := ((tb_J0_isLatin1_aae02, (some .boolean)), 1, 0, 9, yJ0_isLatin1_aae02, cJ0_isLatin1_aae02, 0, 0)
def mm_J0_checkIndex_df160 : pm_M := ((tb_J0_checkIndex_df160, none), 2, 2, 20, yJ0_checkIndex_df160, cJ0_checkIndex_df160, 1, 22)
def mm_J1_charAt_3b067 : pm_M := ((tb_J1_charAt_3b067, (some .char)), 2, 2, 20, yJ1_charAt_3b067, cJ1_charAt_3b067, 2, 43)
def mm_J3_checkIndex_8e157 : pm_M := ((tb_J3_checkIndex_8e157, (some .int)), 3, 3, 20, yJ3_checkIndex_8e157, cJ3_checkIndex_8e157, 0, 0)
def mm_L_law : pm_M := ((tb_L_law, (some .boolean)), 4, 1, 20, x, code, 9, 193)
def pm_MT : List pm_M := [mm_X0_init, mm_X0_append, mm_X0_firstFault, mm_X0_advance, mm_X0_sortAt, mm_X0_isWord, mm_X0_takeLine, mm_X0_streetKindTold, mm_X0_lawTold, mm_X0_takeStreet, mm_X0_takeErrand, mm_X0_takeScrew, mm_X0_takeHeights, mm_X0_takeTown, mm_X0_takeHalf, mm_X0_takeNumber, mm_X1_init, mm_X1_beginWith, mm_X1_copyFrom, mm_X1_hasCorner, mm_X1_hasStreet, mm_X1_setHeights, mm_X1_addStreet, mm_X1_addErrand, mm_X1_heightOf, mm_X1_halvesBefore, mm_X1_leadsFrom, mm_X1_otherEnd, mm_X1_openings, mm_X1_mayBeTaken, mm_X2_init, mm_X2_layAsItIs, mm_X2_lay, mm_X2_spread, mm_X2_earliestBeside, mm_X2_goOnFrom, mm_X2_beginOf, mm_X2_canBeginAt, mm_X2_streetAtOnce, mm_X2_arrival, mm_X2_thereBy, mm_X2_servedErrands, mm_X2_servesAll, mm_X2_serves, mm_X3_init, mm_X3_write, mm_X3_erase, mm_X3_fault, mm_X3_town, mm_X3_corner, mm_X3_street, mm_X3_as, mm_X3_go, mm_X3_rest, mm_X3_here, mm_X3_keep, mm_X3_back, mm_X3_reach, mm_X3_soonest, mm_X3_home, mm_X3_cut, mm_X3_served, mm_X3_law, mm_X3_rope, mm_X3_mended, mm_X3_walk, mm_X3_burn, mm_X3_judge, mm_X3_seen, mm_X3_forget, mm_X3_sure, mm_X3_count, mm_X3_startAnew, mm_X3_isHalf, mm_X3_isBegin, mm_X3_isUnder, mm_X3_cornersReached, mm_X3_higherThan, mm_X3_canAllBe, mm_X4_init, mm_X4_in, mm_X4_has, mm_X4_isCorner, mm_X4_isStreet, mm_X4_plain, mm_X4_write, mm_X4_erase, mm_X4_nextToken, mm_X4_fails, mm_X4_isNumber, mm_X4_isPlace, mm_X4_arePlaces, mm_X4_isTown, mm_X4_isStreetLine, mm_X4_isErrand, mm_X4_isLine, mm_X4_isRead, mm_X4_fault, mm_X4_doLine, mm_X4_town, mm_X4_heightOf, mm_X4_corner, mm_X4_street, mm_X4_may, mm_X4_as, mm_X4_sideOf, mm_X4_canGo, mm_X4_go, mm_X4_rest, mm_X4_here, mm_X4_keep, mm_X4_back, mm_X4_reach, mm_X4_endOf, mm_X4_soonestOf, mm_X4_soonest, mm_X4_home, mm_X4_cut, mm_X4_servedNow, mm_X4_bits, mm_X4_served, mm_X4_law, mm_X4_rope, mm_X4_mended, mm_X4_walk, mm_X4_burn, mm_X4_judge, mm_X4_seen, mm_X4_forget, mm_X4_above, mm_X4_sure, mm_X4_count, mm_J6_bitCount_0f7a4, mm_J0_length_8abf5, mm_J0_charAt_5068e, mm_J0_coder_7d493, mm_J0_isLatin1_aae02, mm_J0_checkIndex_df160, mm_J1_charAt_3b067, mm_J3_checkIndex_8e157]
def lk_X0 : List Jvm.Cond := [.methodLink "UphillOnly$Script" 3 ⟨"java/lang/Object", "<init>", "()V"⟩, .fieldLink "UphillOnly$Script" 9 "UphillOnly$Script" "row" "[I", .fieldLink "UphillOnly$Script" 15 "UphillOnly$Script" "length" "I", .fieldLink "UphillOnly$Script" 19 "UphillOnly$Script" "tokenBehind" "I", .fieldLink "UphillOnly$Script" 22 "UphillOnly$Script" "lines" "I", .methodLink "UphillOnly$Script" 25 ⟨"UphillOnly$Script", "advance", "()V"⟩, .methodLink "UphillOnly$Script" 28 ⟨"UphillOnly$Script", "takeLine", "(LUphillOnly$Town;)Z"⟩, .fieldLink "UphillOnly$Script" 32 "UphillOnly$Script" "tokenPlace" "I", .fieldLink "UphillOnly$Script" 35 "UphillOnly$Script" "tokenSort" "I", .methodLink "UphillOnly$Script" 38 ⟨"UphillOnly$Script", "sortAt", "(I)I"⟩, .methodLink "UphillOnly$Script" 42 ⟨"java/lang/Math", "min", "(II)I"⟩, .methodLink "UphillOnly$Script" 48 ⟨"java/lang/String", "length", "()I"⟩, .methodLink "UphillOnly$Script" 53 ⟨"java/lang/String", "charAt", "(I)C"⟩, .methodLink "UphillOnly$Script" 57 ⟨"UphillOnly$Script", "streetKindTold", "()I"⟩, .fieldLink "UphillOnly$Script" 60 "UphillOnly$Town" "streets" "I", .methodLink "UphillOnly$Script" 65 ⟨"UphillOnly$Script", "takeStreet", "(LUphillOnly$Town;I)Z"⟩, .methodLink "UphillOnly$Script" 69 ⟨"UphillOnly$Script", "lawTold", "()I"⟩, .fieldLink "UphillOnly$Script" 72 "UphillOnly$Town" "law" "I", .methodLink "UphillOnly$Script" 77 ⟨"UphillOnly$Script", "isWord", "(Ljava/lang/String;)Z"⟩, .fieldLink "UphillOnly$Script" 81 "UphillOnly$Town" "errands" "I", .methodLink "UphillOnly$Script" 84 ⟨"UphillOnly$Script", "takeErrand", "(LUphillOnly$Town;)Z"⟩, .methodLink "UphillOnly$Script" 93 ⟨"UphillOnly$Script", "takeScrew", "(LUphillOnly$Town;Z)Z"⟩, .methodLink "UphillOnly$Script" 99 ⟨"UphillOnly$Script", "takeHeights", "(LUphillOnly$Town;)Z"⟩, .methodLink "UphillOnly$Script" 104 ⟨"UphillOnly$Script", "takeTown", "(LUphillOnly$Town;)Z"⟩, .methodLink "UphillOnly$Script" 109 ⟨"UphillOnly$Script", "takeHalf", "(LUphillOnly$Town;)Z"⟩, .fieldLink "UphillOnly$Script" 126 "UphillOnly$Town" "corners" "I", .methodLink "UphillOnly$Script" 129 ⟨"UphillOnly$Script", "takeNumber", "(II)Z"⟩, .fieldLink "UphillOnly$Script" 133 "UphillOnly$Script" "number" "I", .methodLink "UphillOnly$Script" 136 ⟨"UphillOnly$Town", "addStreet", "(IIII)V"⟩, .methodLink "UphillOnly$Script" 140 ⟨"UphillOnly$Town", "addErrand", "(II)V"⟩, .fieldLink "UphillOnly$Script" 144 "UphillOnly$Town" "stuck" "I", .methodLink "UphillOnly$Script" 146 ⟨"UphillOnly$Town", "setHeights", "(III)V"⟩, .methodLink "UphillOnly$Script" 150 ⟨"UphillOnly$Town", "beginWith", "(I)V"⟩, .fieldLink "UphillOnly$Script" 154 "UphillOnly$Town" "half" "I"]
def lk_X1 : List Jvm.Cond := [.methodLink "UphillOnly$Town" 3 ⟨"java/lang/Object", "<init>", "()V"⟩, .fieldLink "UphillOnly$Town" 9 "UphillOnly$Town" "byDay" "[I", .fieldLink "UphillOnly$Town" 15 "UphillOnly$Town" "byNight" "[I", .fieldLink "UphillOnly$Town" 18 "UphillOnly$Town" "first" "[I", .fieldLink "UphillOnly$Town" 21 "UphillOnly$Town" "second" "[I", .fieldLink "UphillOnly$Town" 24 "UphillOnly$Town" "kind" "[I", .fieldLink "UphillOnly$Town" 27 "UphillOnly$Town" "minutes" "[I", .fieldLink "UphillOnly$Town" 30 "UphillOnly$Town" "errandFrom" "[I", .fieldLink "UphillOnly$Town" 33 "UphillOnly$Town" "errandTo" "[I", .methodLink "UphillOnly$Town" 36 ⟨"UphillOnly$Town", "beginWith", "(I)V"⟩, .fieldLink "UphillOnly$Town" 40 "UphillOnly$Town" "corners" "I", .fieldLink "UphillOnly$Town" 44 "UphillOnly$Town" "stuck" "I", .fieldLink "UphillOnly$Town" 47 "UphillOnly$Town" "streets" "I", .fieldLink "UphillOnly$Town" 50 "UphillOnly$Town" "half" "I", .fieldLink "UphillOnly$Town" 53 "UphillOnly$Town" "law" "I", .fieldLink "UphillOnly$Town" 56 "UphillOnly$Town" "errands" "I", .methodLink "UphillOnly$Town" 59 ⟨"UphillOnly$Town", "hasCorner", "(I)Z"⟩, .methodLink "UphillOnly$Town" 63 ⟨"UphillOnly$Town", "heightOf", "(III)I"⟩, .methodLink "UphillOnly$Town" 67 ⟨"UphillOnly$Town", "mayBeTaken", "(IIII)Z"⟩]
def lk_X2 : List Jvm.Cond := [.methodLink "UphillOnly$Ways" 3 ⟨"java/lang/Object", "<init>", "()V"⟩, .fieldLink "UphillOnly$Ways" 9 "UphillOnly$Ways" "open" "[I", .fieldLink "UphillOnly$Ways" 15 "UphillOnly$Ways" "there" "[I", .fieldLink "UphillOnly$Ways" 18 "UphillOnly$Town" "law" "I", .fieldLink "UphillOnly$Ways" 24 "UphillOnly$Town" "stuck" "I", .methodLink "UphillOnly$Ways" 27 ⟨"UphillOnly$Ways", "lay", "(LUphillOnly$Town;II)V"⟩, .fieldLink "UphillOnly$Ways" 31 "UphillOnly$Town" "streets" "I", .methodLink "UphillOnly$Ways" 34 ⟨"UphillOnly$Town", "openings", "(III)I"⟩, .fieldLink "UphillOnly$Ways" 38 "UphillOnly$Town" "corners" "I", .methodLink "UphillOnly$Ways" 41 ⟨"UphillOnly$Ways", "earliestBeside", "(LUphillOnly$Town;I)I"⟩, .methodLink "UphillOnly$Ways" 45 ⟨"UphillOnly$Ways", "goOnFrom", "(LUphillOnly$Town;I)V"⟩, .methodLink "UphillOnly$Ways" 49 ⟨"UphillOnly$Town", "leadsFrom", "(II)Z"⟩, .methodLink "UphillOnly$Ways" 53 ⟨"UphillOnly$Ways", "beginOf", "(LUphillOnly$Town;III)I"⟩, .methodLink "UphillOnly$Ways" 57 ⟨"UphillOnly$Town", "otherEnd", "(II)I"⟩, .fieldLink "UphillOnly$Ways" 61 "UphillOnly$Town" "minutes" "[I", .fieldLink "UphillOnly$Ways" 64 "UphillOnly$Town" "first" "[I", .methodLink "UphillOnly$Ways" 67 ⟨"UphillOnly$Town", "halvesBefore", "(I)I"⟩, .fieldLink "UphillOnly$Ways" 71 "UphillOnly$Town" "half" "I", .methodLink "UphillOnly$Ways" 74 ⟨"java/lang/Math", "max", "(II)I"⟩, .methodLink "UphillOnly$Ways" 79 ⟨"UphillOnly$Ways", "canBeginAt", "(LUphillOnly$Town;III)Z"⟩, .methodLink "UphillOnly$Ways" 83 ⟨"UphillOnly$Ways", "spread", "(LUphillOnly$Town;II)V"⟩, .methodLink "UphillOnly$Ways" 86 ⟨"UphillOnly$Town", "hasCorner", "(I)Z"⟩, .fieldLink "UphillOnly$Ways" 90 "UphillOnly$Town" "errands" "I", .methodLink "UphillOnly$Ways" 93 ⟨"UphillOnly$Ways", "serves", "(LUphillOnly$Town;I)Z"⟩, .fieldLink "UphillOnly$Ways" 97 "UphillOnly$Town" "errandFrom" "[I", .methodLink "UphillOnly$Ways" 100 ⟨"UphillOnly$Ways", "thereBy", "(LUphillOnly$Town;I)I"⟩, .fieldLink "UphillOnly$Ways" 103 "UphillOnly$Town" "errandTo" "[I"]
def lk_X3 : List Jvm.Cond := [.methodLink "UphillOnly" 1 ⟨"java/lang/Object", "<init>", "()V"⟩, .classLink "UphillOnly" 7 "UphillOnly$Script", .methodLink "UphillOnly" 9 ⟨"UphillOnly$Script", "<init>", "()V"⟩, .fieldLink "UphillOnly" 10 "UphillOnly" "script" "LUphillOnly$Script;", .classLink "UphillOnly" 16 "UphillOnly$Ways", .methodLink "UphillOnly" 18 ⟨"UphillOnly$Ways", "<init>", "()V"⟩, .fieldLink "UphillOnly" 19 "UphillOnly" "ways" "LUphillOnly$Ways;", .classLink "UphillOnly" 23 "UphillOnly$Town", .methodLink "UphillOnly" 25 ⟨"UphillOnly$Town", "<init>", "()V"⟩, .fieldLink "UphillOnly" 26 "UphillOnly" "current" "LUphillOnly$Town;", .fieldLink "UphillOnly" 30 "UphillOnly" "draft" "LUphillOnly$Town;", .fieldLink "UphillOnly" 33 "UphillOnly" "keptStand" "[I", .fieldLink "UphillOnly" 37 "UphillOnly" "keptMinute" "[I", .fieldLink "UphillOnly" 40 "UphillOnly" "walked" "[I", .fieldLink "UphillOnly" 43 "UphillOnly" "stepFrom" "[I", .fieldLink "UphillOnly" 46 "UphillOnly" "stepTo" "[I", .fieldLink "UphillOnly" 49 "UphillOnly" "stepHalf" "[I", .methodLink "UphillOnly" 52 ⟨"UphillOnly", "startAnew", "()V"⟩, .fieldLink "UphillOnly" 55 "UphillOnly$Script" "length" "I", .constantLong "UphillOnly" 59 (255), .methodLink "UphillOnly" 61 ⟨"UphillOnly$Script", "append", "(I)V"⟩, .methodLink "UphillOnly" 65 ⟨"UphillOnly$Town", "copyFrom", "(LUphillOnly$Town;)V"⟩, .methodLink "UphillOnly" 69 ⟨"UphillOnly$Script", "firstFault", "(LUphillOnly$Town;)I"⟩, .fieldLink "UphillOnly" 73 "UphillOnly$Script" "lines" "I", .methodLink "UphillOnly" 76 ⟨"UphillOnly$Town", "hasCorner", "(I)Z"⟩, .fieldLink "UphillOnly" 80 "UphillOnly$Town" "stuck" "I", .methodLink "UphillOnly" 83 ⟨"UphillOnly$Town", "heightOf", "(III)I"⟩, .methodLink "UphillOnly" 87 ⟨"UphillOnly$Town", "hasStreet", "(I)Z"⟩, .fieldLink "UphillOnly" 90 "UphillOnly$Town" "first" "[I", .fieldLink "UphillOnly" 93 "UphillOnly$Town" "second" "[I", .fieldLink "UphillOnly" 96 "UphillOnly$Town" "kind" "[I", .fieldLink "UphillOnly" 99 "UphillOnly$Town" "minutes" "[I", .methodLink "UphillOnly" 102 ⟨"UphillOnly", "isUnder", "(II)Z"⟩, .fieldLink "UphillOnly" 106 "UphillOnly$Town" "law" "I", .methodLink "UphillOnly" 109 ⟨"UphillOnly$Town", "openings", "(III)I"⟩, .fieldLink "UphillOnly" 112 "UphillOnly" "stand" "I", .methodLink "UphillOnly" 115 ⟨"UphillOnly$Town", "leadsFrom", "(II)Z"⟩, .methodLink "UphillOnly" 118 ⟨"UphillOnly$Ways", "layAsItIs", "(LUphillOnly$Town;)V"⟩, .fieldLink "UphillOnly" 121 "UphillOnly" "minute" "I", .methodLink "UphillOnly" 124 ⟨"UphillOnly$Ways", "canBeginAt", "(LUphillOnly$Town;III)Z"⟩, .constant "UphillOnly" 128 (99999), .methodLink "UphillOnly" 129 ⟨"UphillOnly$Town", "otherEnd", "(II)I"⟩, .methodLink "UphillOnly" 133 ⟨"UphillOnly$Town", "halvesBefore", "(I)I"⟩, .fieldLink "UphillOnly" 137 "UphillOnly$Town" "half" "I", .methodLink "UphillOnly" 140 ⟨"UphillOnly", "isHalf", "(I)Z"⟩, .methodLink "UphillOnly" 143 ⟨"UphillOnly$Ways", "spread", "(LUphillOnly$Town;II)V"⟩, .methodLink "UphillOnly" 147 ⟨"UphillOnly$Ways", "thereBy", "(LUphillOnly$Town;I)I"⟩, .methodLink "UphillOnly" 151 ⟨"UphillOnly", "isBegin", "(I)Z"⟩, .methodLink "UphillOnly" 154 ⟨"UphillOnly$Ways", "arrival", "(LUphillOnly$Town;III)I"⟩, .fieldLink "UphillOnly" 158 "UphillOnly$Town" "corners" "I", .methodLink "UphillOnly" 161 ⟨"UphillOnly", "cornersReached", "(II)I"⟩, .methodLink "UphillOnly" 164 ⟨"java/lang/Integer", "bitCount", "(I)I"⟩, .methodLink "UphillOnly" 169 ⟨"UphillOnly$Ways", "servedErrands", "(LUphillOnly$Town;)I"⟩, .methodLink "UphillOnly" 172 ⟨"UphillOnly$Ways", "lay", "(LUphillOnly$Town;II)V"⟩, .fieldLink "UphillOnly" 175 "UphillOnly$Town" "streets" "I", .fieldLink "UphillOnly" 178 "UphillOnly$Ways" "open" "[I", .methodLink "UphillOnly" 181 ⟨"UphillOnly$Ways", "servesAll", "(LUphillOnly$Town;)Z"⟩, .fieldLink "UphillOnly" 185 "UphillOnly" "walkedCount" "I", .methodLink "UphillOnly" 188 ⟨"UphillOnly$Ways", "streetAtOnce", "(LUphillOnly$Town;III)I"⟩, .fieldLink "UphillOnly" 191 "UphillOnly" "stepCount" "I", .methodLink "UphillOnly" 194 ⟨"UphillOnly", "canAllBe", "(I)Z"⟩, .methodLink "UphillOnly" 197 ⟨"UphillOnly", "higherThan", "(II)I"⟩, .fieldLink "UphillOnly" 200 "UphillOnly$Town" "errands" "I", .fieldLink "UphillOnly" 203 "UphillOnly" "KIND_OF" "[I", .fieldLink "UphillOnly" 206 "UphillOnly" "KIND_ABOVE" "[I", .constant "UphillOnly" 209 (1073741824)]
def lk_X4 : List Jvm.Cond := [.methodLink "UphillOnlyModel" 1 ⟨"java/lang/Object", "<init>", "()V"⟩, .fieldLink "UphillOnlyModel" 7 "UphillOnlyModel" "corners" "I", .fieldLink "UphillOnlyModel" 13 "UphillOnlyModel" "height" "[I", .fieldLink "UphillOnlyModel" 17 "UphillOnlyModel" "street" "[I", .fieldLink "UphillOnlyModel" 20 "UphillOnlyModel" "half" "I", .fieldLink "UphillOnlyModel" 23 "UphillOnlyModel" "errand" "[I", .fieldLink "UphillOnlyModel" 26 "UphillOnlyModel" "text" "[I", .fieldLink "UphillOnlyModel" 29 "UphillOnlyModel" "read" "[I", .fieldLink "UphillOnlyModel" 32 "UphillOnlyModel" "image" "[I", .fieldLink "UphillOnlyModel" 35 "UphillOnlyModel" "isKept" "[Z", .fieldLink "UphillOnlyModel" 39 "UphillOnlyModel" "path" "[I", .fieldLink "UphillOnlyModel" 42 "UphillOnlyModel" "step" "[I", .fieldLink "UphillOnlyModel" 45 "UphillOnlyModel" "rope" "I", .fieldLink "UphillOnlyModel" 48 "UphillOnlyModel" "at" "[I", .methodLink "UphillOnlyModel" 51 ⟨"UphillOnlyModel", "in", "(III)Z"⟩, .fieldLink "UphillOnlyModel" 55 "UphillOnlyModel" "streets" "I", .fieldLink "UphillOnlyModel" 58 "UphillOnlyModel" "stuck" "I", .fieldLink "UphillOnlyModel" 61 "UphillOnlyModel" "law" "I", .fieldLink "UphillOnlyModel" 64 "UphillOnlyModel" "errands" "I", .fieldLink "UphillOnlyModel" 67 "UphillOnlyModel" "bytes" "I", .constantLong "UphillOnlyModel" 70 (255), .fieldLink "UphillOnlyModel" 72 "UphillOnlyModel" "position" "I", .fieldLink "UphillOnlyModel" 75 "UphillOnlyModel" "tokenAt" "I", .fieldLink "UphillOnlyModel" 78 "UphillOnlyModel" "digits" "I", .fieldLink "UphillOnlyModel" 81 "UphillOnlyModel" "number" "I", .constantLong "UphillOnlyModel" 84 (-2), .fieldLink "UphillOnlyModel" 86 "UphillOnlyModel" "token" "J", .constantLong "UphillOnlyModel" 90 (27), .constantLong "UphillOnlyModel" 92 (96), .constantLong "UphillOnlyModel" 94 (-4), .constantLong "UphillOnlyModel" 96 (-1), .constantLong "UphillOnlyModel" 98 (-3), .fieldLink "UphillOnlyModel" 100 "UphillOnlyModel" "faultAt" "I", .methodLink "UphillOnlyModel" 103 ⟨"UphillOnlyModel", "nextToken", "()V"⟩, .methodLink "UphillOnlyModel" 106 ⟨"UphillOnlyModel", "fails", "()Z"⟩, .fieldLink "UphillOnlyModel" 110 "UphillOnlyModel" "readCorners" "I", .methodLink "UphillOnlyModel" 113 ⟨"UphillOnlyModel", "isNumber", "(III)Z"⟩, .methodLink "UphillOnlyModel" 116 ⟨"UphillOnlyModel", "isPlace", "(I)Z"⟩, .fieldLink "UphillOnlyModel" 120 "UphillOnlyModel" "readStreets" "I", .fieldLink "UphillOnlyModel" 123 "UphillOnlyModel" "readErrands" "I", .methodLink "UphillOnlyModel" 126 ⟨"UphillOnlyModel", "arePlaces", "(I)Z"⟩, .constantLong "UphillOnlyModel" 129 (8538916), .constantLong "UphillOnlyModel" 131 (6491892), .constantLong "UphillOnlyModel" 133 (10492029), .constantLong "UphillOnlyModel" 135 (38444009), .constantLong "UphillOnlyModel" 137 (583), .constantLong "UphillOnlyModel" 139 (114602), .constantLong "UphillOnlyModel" 141 (90302), .constantLong "UphillOnlyModel" 143 (405230), .constantLong "UphillOnlyModel" 145 (51382989), .constantLong "UphillOnlyModel" 147 (10506440), .constantLong "UphillOnlyModel" 149 (131360), .constantLong "UphillOnlyModel" 151 (158523), .constantLong "UphillOnlyModel" 153 (81665878), .constantLong "UphillOnlyModel" 155 (180392), .methodLink "UphillOnlyModel" 157 ⟨"UphillOnlyModel", "isStreetLine", "(I)Z"⟩, .methodLink "UphillOnlyModel" 160 ⟨"UphillOnlyModel", "isTown", "(I)Z"⟩, .methodLink "UphillOnlyModel" 163 ⟨"UphillOnlyModel", "isErrand", "(I)Z"⟩, .fieldLink "UphillOnlyModel" 166 "UphillOnlyModel" "readMany" "I", .methodLink "UphillOnlyModel" 169 ⟨"UphillOnlyModel", "isLine", "(I)Z"⟩, .methodLink "UphillOnlyModel" 172 ⟨"UphillOnlyModel", "isRead", "()Z"⟩, .methodLink "UphillOnlyModel" 175 ⟨"UphillOnlyModel", "plain", "()V"⟩, .methodLink "UphillOnlyModel" 178 ⟨"UphillOnlyModel", "doLine", "(I)V"⟩, .fieldLink "UphillOnlyModel" 182 "UphillOnlyModel" "stands" "I", .fieldLink "UphillOnlyModel" 185 "UphillOnlyModel" "time" "I", .fieldLink "UphillOnlyModel" 188 "UphillOnlyModel" "walked" "I", .fieldLink "UphillOnlyModel" 191 "UphillOnlyModel" "steps" "I", .methodLink "UphillOnlyModel" 194 ⟨"UphillOnlyModel", "has", "(II)Z"⟩, .methodLink "UphillOnlyModel" 198 ⟨"UphillOnlyModel", "isCorner", "(I)Z"⟩, .methodLink "UphillOnlyModel" 201 ⟨"UphillOnlyModel", "heightOf", "(II)I"⟩, .methodLink "UphillOnlyModel" 205 ⟨"UphillOnlyModel", "isStreet", "(I)Z"⟩, .methodLink "UphillOnlyModel" 208 ⟨"UphillOnlyModel", "may", "(III)Z"⟩, .methodLink "UphillOnlyModel" 211 ⟨"UphillOnlyModel", "sideOf", "(II)I"⟩, .methodLink "UphillOnlyModel" 214 ⟨"UphillOnlyModel", "canGo", "(III)Z"⟩, .constant "UphillOnlyModel" 217 (99999), .constant "UphillOnlyModel" 218 (10000000), .methodLink "UphillOnlyModel" 219 ⟨"UphillOnlyModel", "endOf", "(III)I"⟩, .methodLink "UphillOnlyModel" 223 ⟨"UphillOnlyModel", "soonestOf", "(III)I"⟩, .methodLink "UphillOnlyModel" 226 ⟨"UphillOnlyModel", "servedNow", "()I"⟩, .methodLink "UphillOnlyModel" 230 ⟨"UphillOnlyModel", "bits", "(I)I"⟩, .methodLink "UphillOnlyModel" 234 ⟨"UphillOnlyModel", "above", "(II)I"⟩]
def lk_J0 : List Jvm.Cond := [.fieldLink "java/lang/String" 9 "java/lang/String" "value" "[B", .methodLink "java/lang/String" 335 ⟨"java/lang/String", "coder", "()B"⟩, .methodLink "java/lang/String" 492 ⟨"java/lang/String", "isLatin1", "()Z"⟩, .methodLink "java/lang/String" 495 ⟨"java/lang/StringLatin1", "charAt", "([BI)C"⟩, .fieldLink "java/lang/String" 38 "java/lang/String" "COMPACT_STRINGS" "Z", .fieldLink "java/lang/String" 15 "java/lang/String" "coder" "B", .fieldLink "java/lang/String" 1053 "jdk/internal/util/Preconditions" "SIOOBE_FORMATTER" "Ljava/util/function/BiFunction;", .methodLink "java/lang/String" 1059 ⟨"jdk/internal/util/Preconditions", "checkIndex", "(IILjava/util/function/BiFunction;)I"⟩]
def lk_J1 : List Jvm.Cond := [.methodLink "java/lang/StringLatin1" 9 ⟨"java/lang/String", "checkIndex", "(II)V"⟩]
def lk_J3 : List Jvm.Cond := []
def lk_J6 : List Jvm.Cond := [.constant "java/lang/Integer" 265 (1431655765), .constant "java/lang/Integer" 266 (858993459), .constant "java/lang/Integer" 267 (252645135)]
def lk_L : List Jvm.Cond := [.classLink "UphillOnlyLaw" 7 "UphillOnly", .methodLink "UphillOnlyLaw" 9 ⟨"UphillOnly", "<init>", "()V"⟩, .classLink "UphillOnlyLaw" 10 "UphillOnlyModel", .methodLink "UphillOnlyLaw" 12 ⟨"UphillOnlyModel", "<init>", "()V"⟩, .constantLong "UphillOnlyLaw" 13 (4294967295), .methodLink "UphillOnlyLaw" 15 ⟨"UphillOnly", "write", "(JI)I"⟩, .methodLink "UphillOnlyLaw" 19 ⟨"UphillOnlyModel", "write", "(JI)I"⟩, .methodLink "UphillOnlyLaw" 20 ⟨"UphillOnly", "erase", "()I"⟩, .methodLink "UphillOnlyLaw" 24 ⟨"UphillOnlyModel", "erase", "()I"⟩, .methodLink "UphillOnlyLaw" 25 ⟨"UphillOnly", "fault", "()I"⟩, .methodLink "UphillOnlyLaw" 28 ⟨"UphillOnlyModel", "fault", "()I"⟩, .methodLink "UphillOnlyLaw" 29 ⟨"UphillOnly", "town", "()I"⟩, .methodLink "UphillOnlyLaw" 32 ⟨"UphillOnlyModel", "town", "()I"⟩, .methodLink "UphillOnlyLaw" 33 ⟨"UphillOnly", "corner", "(II)I"⟩, .methodLink "UphillOnlyLaw" 37 ⟨"UphillOnlyModel", "corner", "(II)I"⟩, .methodLink "UphillOnlyLaw" 38 ⟨"UphillOnly", "street", "(II)I"⟩, .methodLink "UphillOnlyLaw" 41 ⟨"UphillOnlyModel", "street", "(II)I"⟩, .methodLink "UphillOnlyLaw" 42 ⟨"UphillOnly", "as", "(II)I"⟩, .methodLink "UphillOnlyLaw" 45 ⟨"UphillOnlyModel", "as", "(II)I"⟩, .methodLink "UphillOnlyLaw" 46 ⟨"UphillOnly", "go", "(I)I"⟩, .methodLink "UphillOnlyLaw" 50 ⟨"UphillOnlyModel", "go", "(I)I"⟩, .methodLink "UphillOnlyLaw" 51 ⟨"UphillOnly", "rest", "(I)I"⟩, .methodLink "UphillOnlyLaw" 54 ⟨"UphillOnlyModel", "rest", "(I)I"⟩, .methodLink "UphillOnlyLaw" 55 ⟨"UphillOnly", "here", "(I)I"⟩, .methodLink "UphillOnlyLaw" 58 ⟨"UphillOnlyModel", "here", "(I)I"⟩, .methodLink "UphillOnlyLaw" 59 ⟨"UphillOnly", "keep", "(I)I"⟩, .methodLink "UphillOnlyLaw" 62 ⟨"UphillOnlyModel", "keep", "(I)I"⟩, .methodLink "UphillOnlyLaw" 63 ⟨"UphillOnly", "back", "(I)I"⟩, .methodLink "UphillOnlyLaw" 66 ⟨"UphillOnlyModel", "back", "(I)I"⟩, .methodLink "UphillOnlyLaw" 67 ⟨"UphillOnly", "reach", "(II)I"⟩, .methodLink "UphillOnlyLaw" 70 ⟨"UphillOnlyModel", "reach", "(II)I"⟩, .methodLink "UphillOnlyLaw" 71 ⟨"UphillOnly", "soonest", "(III)I"⟩, .methodLink "UphillOnlyLaw" 75 ⟨"UphillOnlyModel", "soonest", "(III)I"⟩, .methodLink "UphillOnlyLaw" 76 ⟨"UphillOnly", "home", "(II)I"⟩, .methodLink "UphillOnlyLaw" 79 ⟨"UphillOnlyModel", "home", "(II)I"⟩, .methodLink "UphillOnlyLaw" 80 ⟨"UphillOnly", "cut", "(I)I"⟩, .methodLink "UphillOnlyLaw" 83 ⟨"UphillOnlyModel", "cut", "(I)I"⟩, .methodLink "UphillOnlyLaw" 84 ⟨"UphillOnly", "served", "()I"⟩, .methodLink "UphillOnlyLaw" 87 ⟨"UphillOnlyModel", "served", "()I"⟩, .methodLink "UphillOnlyLaw" 88 ⟨"UphillOnly", "law", "(I)I"⟩, .methodLink "UphillOnlyLaw" 91 ⟨"UphillOnlyModel", "law", "(I)I"⟩, .methodLink "UphillOnlyLaw" 92 ⟨"UphillOnly", "rope", "(I)I"⟩, .methodLink "UphillOnlyLaw" 95 ⟨"UphillOnlyModel", "rope", "(I)I"⟩, .methodLink "UphillOnlyLaw" 96 ⟨"UphillOnly", "mended", "(I)I"⟩, .methodLink "UphillOnlyLaw" 99 ⟨"UphillOnlyModel", "mended", "(I)I"⟩, .methodLink "UphillOnlyLaw" 100 ⟨"UphillOnly", "walk", "(I)I"⟩, .methodLink "UphillOnlyLaw" 103 ⟨"UphillOnlyModel", "walk", "(I)I"⟩, .methodLink "UphillOnlyLaw" 104 ⟨"UphillOnly", "burn", "()I"⟩, .methodLink "UphillOnlyLaw" 107 ⟨"UphillOnlyModel", "burn", "()I"⟩, .methodLink "UphillOnlyLaw" 108 ⟨"UphillOnly", "judge", "(II)I"⟩, .methodLink "UphillOnlyLaw" 111 ⟨"UphillOnlyModel", "judge", "(II)I"⟩, .methodLink "UphillOnlyLaw" 112 ⟨"UphillOnly", "seen", "(III)I"⟩, .methodLink "UphillOnlyLaw" 115 ⟨"UphillOnlyModel", "seen", "(III)I"⟩, .methodLink "UphillOnlyLaw" 116 ⟨"UphillOnly", "forget", "()I"⟩, .methodLink "UphillOnlyLaw" 119 ⟨"UphillOnlyModel", "forget", "()I"⟩, .methodLink "UphillOnlyLaw" 120 ⟨"UphillOnly", "sure", "(III)I"⟩, .methodLink "UphillOnlyLaw" 123 ⟨"UphillOnlyModel", "sure", "(III)I"⟩, .methodLink "UphillOnlyLaw" 124 ⟨"UphillOnly", "count", "(I)I"⟩, .methodLink "UphillOnlyLaw" 127 ⟨"UphillOnlyModel", "count", "(I)I"⟩]
abbrev pm_cl : List vw_C := [(RX0, TX0, 7), (RX1, TX1, 14), (RX2, TX2, 2), (RX3, TX3, 14), (RX4, TX4, 32)]
end
section
/-! THE PURE MACHINE: the claim's own bytecode over numbered cells -/
abbrev pm_L : Type := List (Option Value)
/-- how many cells there are; references (0 null, k + 1 the cell k); ints; longs: by cell and slot -/
abbrev pm_Wo : Type := Nat × (Nat → Nat → Nat) × (Nat → Nat → Int32) × (Nat → Nat → Int64)
def pm_u {α : Type} (f : Nat → Nat → α) (c j : Nat) (v : α) : Nat → Nat → α := fun c' j' => if c' = c ∧ j' = j then v else f c' j'
/-- a new cell: all 0 -/
def pm_u0 {α : Type} [Zero α] (f : Nat → Nat → α) (c : Nat) : Nat → Nat → α := fun c' j => if c' = c then 0 else f c' j
/-- the cells in the order in which they are made: kind (0 .. 4 an object, 10 ints, 11 truth values) and size -/
def pm_sh : List (Nat × Nat) := [(3, 14), (0, 7), (10, 200), (2, 2), (10, 12), (10, 8), (1, 14), (10, 8), (10, 8), (10, 12), (10, 12), (10, 12), (10, 12), (10, 8), (10, 8), (1, 14), (10, 8), (10, 8), (10, 12), (10, 12), (10, 12), (10, 12), (10, 8), (10, 8), (10, 2), (10, 2), (10, 12), (10, 12), (10, 12), (10, 12), (4, 32), (10, 16), (10, 48), (10, 16), (10, 200), (10, 48), (10, 4), (11, 2), (10, 12), (10, 36), (10, 8)]
def pm_ty (ci k : Nat) : FieldType := match ci with
  | 0 => tyX0 k
  | 1 => tyX1 k
  | 2 => tyX2 k
  | 3 => tyX3 k
  | _ => tyX4 k
/-- the texts: entry, signs -/
def pm_tx : List (Nat × String × List Int32) := [(112, "paved", [112, 97, 118, 101, 100]), (114, "level", [108, 101, 118, 101, 108]), (116, "stair", [115, 116, 97, 105, 114]), (118, "bridge", [98, 114, 105, 100, 103, 101]), (120, "up", [117, 112]), (122, "even", [101, 118, 101, 110]), (124, "down", [100, 111, 119, 110]), (75, "errand", [101, 114, 114, 97, 110, 100]), (87, "idle", [105, 100, 108, 101]), (89, "stuck", [115, 116, 117, 99, 107]), (91, "free", [102, 114, 101, 101]), (97, "corner", [99, 111, 114, 110, 101, 114]), (102, "town", [116, 111, 119, 110]), (107, "half", [104, 97, 108, 102])]
def pm_tb (i : Nat) : List Int32 := match pm_tx[i]? with
  | some q => q.2.2
  | none => []
/-- rows of numbers that nobody writes -/
def pm_xa (X : Nat × (Nat → Int32)) (k : Nat) : Option (FieldType × Nat × (Nat → Int32)) :=
  if k = 900 then some (.int, 4, fun j => [1, 3, 2, 4].getD j 0) else if k = 901 then some (.int, 5, fun j => [-1, 0, 1, 0, 3].getD j 0) else if k = 999 then some (.int, X.1, X.2)
  else if 1100 ≤ k ∧ k < 1114 then some (.byte, (pm_tb (k - 1100)).length, fun j => (pm_tb (k - 1100)).getD j 0) else none
/-- statics: where they stand, what they hold -/
def pm_sn (i : Nat) : (String × String × String) × Value := match i with
  | 0 => (("java/lang/String", "COMPACT_STRINGS", "Z"), .int 1)
  | 1 => (("UphillOnly", "KIND_OF", "[I"), .ref 900)
  | 2 => (("UphillOnly", "KIND_ABOVE", "[I"), .ref 901)
  | _ => (("jdk/internal/util/Preconditions", "SIOOBE_FORMATTER", "Ljava/util/function/BiFunction;"), .ref 950)
def pm_gv (ty : FieldType) (R : Nat → Nat → Nat) (I : Nat → Nat → Int32) (J : Nat → Nat → Int64) (c j : Nat) : Value := match ty with
  | .int => .int (I c j)
  | .long => .long (J c j)
  | _ => match R c j with
    | 0 => .null
    | k + 1 => .ref k
/-- rows of a kind (10 ints; 11 truth values, bytes) that can be read -/
def pm_ra (X : Nat × (Nat → Int32)) (kd : Nat) (n : Nat) (I : Nat → Nat → Int32) (r : Nat) : Option (Nat × (Nat → Int32)) := match pm_sh[r]? with
  | some (k, N) => if k = kd ∧ r < n then some (N, I r) else none
  | none => match pm_xa X r with
    | some (.int, N, f) => if kd = 10 then some (N, f) else none
    | some (.byte, N, f) => if kd = 11 then some (N, f) else none
    | _ => none
def pm_nl (L : pm_L) (d : Nat) : Bool := match d with
  | 0 => true
  | d + 1 => match L[d]? with
    | some (some v) => v.category == 1
    | _ => true
def pm_at (tb : List pm_E) (pc : Nat) : Option pm_E := match tb with
  | [] => none
  | e :: t => if e.1 = pc then some e else pm_at t pc
/-- what changes the locals and the stack alone -/
def pm_s0 (e : pm_E) (L : pm_L) (S : List Value) : Option (pm_L × List Value) := match e with
  | (_, ins, _, a, b, d, c) => match ins with
    | .iconst _ => some (L, .int a :: S)
    | .bipush _ => some (L, .int a :: S)
    | .sipush _ => some (L, .int a :: S)
    | .ldc_w _ => some (L, .int a :: S)
    | .ldc _ => match b with
      | 0 => some (L, .int a :: S)
      | _ + 1 => some (L, .ref d :: S)
    | .ldc2_w _ => some (L, .long c :: S)
    | .lconst _ => some (L, .long c :: S)
    | .iload_n _ => match L[d]? with
      | some (some (.int x)) => some (L, .int x :: S)
      | _ => none
    | .iload _ => match L[d]? with
      | some (some (.int x)) => some (L, .int x :: S)
      | _ => none
    | .lload_n _ => match L[d]? with
      | some (some (.long x)) => some (L, .long x :: S)
      | _ => none
    | .aload_n _ => match L[d]? with
      | some (some (.ref x)) => if x = 950 then none else some (L, .ref x :: S)
      | _ => none
    | .aload _ => match L[d]? with
      | some (some (.ref x)) => if x = 950 then none else some (L, .ref x :: S)
      | _ => none
    | .istore_n _ => match S with
      | .int x :: r => if pm_nl L d = true then some (L.set d (some (.int x)), r) else none
      | _ => none
    | .istore _ => match S with
      | .int x :: r => if pm_nl L d = true then some (L.set d (some (.int x)), r) else none
      | _ => none
    | .astore_n _ => match S with
      | .ref x :: r => if pm_nl L d = true ∧ x ≠ 950 then some (L.set d (some (.ref x)), r) else none
      | _ => none
    | .iinc _ _ => match L[d]? with
      | some (some (.int x)) => if pm_nl L d = true then some (L.set d (some (.int (x + a))), S) else none
      | _ => none
    | .iadd => match S with
      | .int y :: .int x :: r => some (L, .int (x + y) :: r)
      | _ => none
    | .isub => match S with
      | .int y :: .int x :: r => some (L, .int (x - y) :: r)
      | _ => none
    | .imul => match S with
      | .int y :: .int x :: r => some (L, .int (x * y) :: r)
      | _ => none
    | .iand => match S with
      | .int y :: .int x :: r => some (L, .int (x &&& y) :: r)
      | _ => none
    | .ior => match S with
      | .int y :: .int x :: r => some (L, .int (x ||| y) :: r)
      | _ => none
    | .ixor => match S with
      | .int y :: .int x :: r => some (L, .int (x ^^^ y) :: r)
      | _ => none
    | .ishl => match S with
      | .int y :: .int x :: r => some (L, .int (x <<< (y &&& 31)) :: r)
      | _ => none
    | .ishr => match S with
      | .int y :: .int x :: r => some (L, .int (x >>> (y &&& 31)) :: r)
      | _ => none
    | .iushr => match S with
      | .int y :: .int x :: r => some (L, .int (x.toUInt32 >>> (y.toUInt32 &&& Int32.toUInt32 31)).toInt32 :: r)
      | _ => none
    | .idiv => match S with
      | .int y :: .int x :: r => if y = 0 then none else some (L, .int (x / y) :: r)
      | _ => none
    | .irem => match S with
      | .int y :: .int x :: r => if y = 0 then none else some (L, .int (x - x / y * y) :: r)
      | _ => none
    | .i2l => match S with
      | .int x :: r => some (L, .long x.toInt64 :: r)
      | _ => none
    | .l2i => match S with
      | .long x :: r => some (L, .int x.toInt32 :: r)
      | _ => none
    | .i2c => match S with
      | .int x :: r => some (L, .int (x.toUInt32 % 65536).toInt32 :: r)
      | _ => none
    | .ladd => match S with
      | .long y :: .long x :: r => some (L, .long (x + y) :: r)
      | _ => none
    | .lsub => match S with
      | .long y :: .long x :: r => some (L, .long (x - y) :: r)
      | _ => none
    | .lmul => match S with
      | .long y :: .long x :: r => some (L, .long (x * y) :: r)
      | _ => none
    | .land => match S with
      | .long y :: .long x :: r => some (L, .long (x &&& y) :: r)
      | _ => none
    | .lor => match S with
      | .long y :: .long x :: r => some (L, .long (x ||| y) :: r)
      | _ => none
    | .lshl => match S with
      | .int y :: .long x :: r => some (L, .long (x <<< (y.toInt64 &&& 63)) :: r)
      | _ => none
    | .lshr => match S with
      | .int y :: .long x :: r => some (L, .long (x >>> (y.toInt64 &&& 63)) :: r)
      | _ => none
    | .lcmp => match S with
      | .long y :: .long x :: r => some (L, .int (lg_cmp x y) :: r)
      | _ => none
    | .dup => match S with
      | .int x :: r => some (L, .int x :: .int x :: r)
      | .ref x :: r => some (L, .ref x :: .ref x :: r)
      | _ => none
    | .pop => match S with
      | .int _ :: r => some (L, r)
      | _ => none
    | _ => none
/-- where a table of ways leads -/
def pm_sw (x : Int32) (pc : Int) (k : Int) (offs : List Int) (b : Nat) : Nat := match offs with
  | [] => b
  | o :: t => if x = Int32.ofInt k then (pc + o).toNat else pm_sw x pc (k + 1) t b
def pm_s1 (e : pm_E) (S : List Value) : Option (Nat × List Value) := match e with
  | (pc, ins, nx, _, b, _, _) => match ins with
    | .goto _ => some (b, S)
    | .if_icmp cd _ => match S with
      | .int y :: .int x :: r => match cd with
        | .eq => some (if x = y then b else nx, r)
        | .ne => some (if x = y then nx else b, r)
        | .lt => some (if x < y then b else nx, r)
        | .ge => some (if y ≤ x then b else nx, r)
        | .gt => some (if y < x then b else nx, r)
        | .le => some (if x ≤ y then b else nx, r)
      | _ => none
    | .ifCond cd _ => match S with
      | .int x :: r => match cd with
        | .eq => some (if x = 0 then b else nx, r)
        | .ne => some (if x = 0 then nx else b, r)
        | .lt => some (if x < 0 then b else nx, r)
        | .ge => some (if 0 ≤ x then b else nx, r)
        | .gt => some (if 0 < x then b else nx, r)
        | .le => some (if x ≤ 0 then b else nx, r)
      | _ => none
    | .tableswitch _ lo _ offs => match S with
      | .int x :: r => some (pm_sw x pc lo offs.toList b, r)
      | _ => none
    | _ => none
/-- what reads or changes the cells -/
def pm_s2 (X : Nat × (Nat → Int32)) (e : pm_E) (S : List Value) (w : pm_Wo) : Option (List Value × pm_Wo) := match e with
  | (_, ins, _, _, b, d, _) => match w with
    | (n, R, I, J) => match ins with
      | .getfield _ => match S with
        | .ref r :: s => match pm_sh[r]? with
          | some (k, N) => if k = b ∧ r < n ∧ d < N ∧ b < 5 then some (pm_gv (pm_ty b d) R I J r d :: s, w) else none
          | none => if b = 9 ∧ 1000 ≤ r ∧ r < 1014 then (match d with
            | 0 => some (.ref (r + 100) :: s, w)
            | _ + 1 => some (.int 0 :: s, w)) else none
        | _ => none
      | .putfield _ => match S with
        | v :: .ref r :: s => match pm_sh[r]? with
          | some (k, N) => if k = b ∧ r < n ∧ d < N ∧ b < 5 then (match pm_ty b d, v with
            | .int, .int x => some (s, n, R, pm_u I r d x, J)
            | .long, .long x => some (s, n, R, I, pm_u J r d x)
            | .object _, .ref x => if x < 41 then some (s, n, pm_u R r d (x + 1), I, J) else none
            | .array _, .ref x => if x < 41 then some (s, n, pm_u R r d (x + 1), I, J) else none
            | _, _ => none) else none
          | none => none
        | _ => none
      | .iaload => match S with
        | .int i :: .ref r :: s => match pm_ra X 10 n I r with
          | some (N, f) => if 0 ≤ i ∧ i.toNatClampNeg < N then some (.int (f i.toNatClampNeg) :: s, w) else none
          | none => none
        | _ => none
      | .baload => match S with
        | .int i :: .ref r :: s => match pm_ra X 11 n I r with
          | some (N, f) => if 0 ≤ i ∧ i.toNatClampNeg < N then some (.int (f i.toNatClampNeg) :: s, w) else none
          | none => none
        | _ => none
      | .iastore => match S with
        | .int x :: .int i :: .ref r :: s => match pm_sh[r]? with
          | some (k, N) => if (k = 10 ∧ r < n) ∧ 0 ≤ i ∧ i.toNatClampNeg < N then some (s, n, R, pm_u I r i.toNatClampNeg x, J) else none
          | none => none
        | _ => none
      | .bastore => match S with
        | .int x :: .int i :: .ref r :: s => match pm_sh[r]? with
          | some (k, N) => if (k = 11 ∧ r < n) ∧ 0 ≤ i ∧ i.toNatClampNeg < N then some (s, n, R, pm_u I r i.toNatClampNeg (vp_nar .boolean x), J) else none
          | none => none
        | _ => none
      | .arraylength => match S with
        | .ref r :: s => match pm_sh[r]? with
          | some (k, N) => if (k = 10 ∨ k = 11) ∧ r < n then some (.int (Int32.ofNat N) :: s, w) else none
          | none => match pm_xa X r with
            | some q => some (.int (Int32.ofNat q.2.1) :: s, w)
            | none => none
        | _ => none
      | .getstatic _ => some ((pm_sn b).2 :: S, w)
      | .new _ => match pm_sh[n]? with
        | some (k, _) => if k = b ∧ b < 5 ∧ n < 41 then some (.ref n :: S, n + 1, pm_u0 R n, pm_u0 I n, pm_u0 J n) else none
        | none => none
      | .newarray at_ => match S with
        | .int x :: s => match pm_sh[n]? with
          | some (k, N) => if ((k = 10 ∧ at_ = .int) ∨ (k = 11 ∧ at_ = .boolean)) ∧ x = Int32.ofNat N ∧ n < 41 then some (.ref n :: s, n + 1, R, pm_u0 I n, J) else none
          | none => none
        | _ => none
      | .invokespecial _ => if b = 1000 then (match S with
        | .ref r :: s => if r = 950 ∨ 8 < (s.map fun v => v.category).sum then none else some (s, w)
        | _ => none) else none
      | .invokestatic _ => match S with
        | .int y :: .int x :: s => if 8 < (s.map fun v => v.category).sum then none else if b = 1001 then some (.int (if x < y then y else x) :: s, w) else if b = 1002 then some (.int (if y < x then y else x) :: s, w) else none
        | _ => none
      | _ => none
def pm_st (X : Nat × (Nat → Int32)) (e : pm_E) (L : pm_L) (S : List Value) (w : pm_Wo) : Option (Nat × pm_L × List Value × pm_Wo) := match e with
  | (pc, ins, nx, a, b, d, c) => match pm_s0 (pc, ins, nx, a, b, d, c) L S with
    | some (L', S') => some (nx, L', S', w)
    | none => match pm_s1 (pc, ins, nx, a, b, d, c) S with
      | some (pc', S') => some (pc', L, S', w)
      | none => match pm_s2 X (pc, ins, nx, a, b, d, c) S w with
        | some (S', w') => some (nx, L, S', w')
        | none => none
def pm_rt (ty : Option FieldType) (e : pm_E) (S : List Value) : Option (Option Value) := match e.2.1, S, ty with
  | .ireturn, [.int v], some t => if narrow t (.int v) = .int v then some (some (.int v)) else none
  | .return_, [], none => some none
  | _, _, _ => none
def pm_sp : List Value → pm_L
  | [] => []
  | v :: vs => if v.category = 2 then some v :: none :: pm_sp vs else some v :: pm_sp vs
def pm_en (mx : Nat) (vs : List Value) : pm_L := pm_sp vs ++ List.replicate (mx - (pm_sp vs).length) none
/-- the receiver is of the kind that the method is of -/
def pm_rc (n rc r : Nat) : Bool := match pm_sh[r]? with
  | some (k, _) => k == rc && Nat.ble (r + 1) n
  | none => rc == 9 && (Nat.ble 1000 r && Nat.ble (r + 1) 1014)
def pm_ca (e : pm_E) (S : List Value) (w : pm_Wo) : Option (pm_M × List Value × List Value) := match e with
  | (_, ins, _, _, b, _, _) => match pm_MT[b]? with
    | none => none
    | some M => match ins with
      | .invokevirtual _ => match S.drop M.2.2.1 with
        | .ref r :: rest => if (pm_rc w.1 M.2.2.2.1 r = true ∧ S.length = M.2.2.1 + (rest.length + 1)) ∧ (rest.map fun v => v.category).sum ≤ 8 ∧ (pm_sp (.ref r :: (S.take M.2.2.1).reverse)).length ≤ M.2.1 then some (M, .ref r :: (S.take M.2.2.1).reverse, rest) else none
        | _ => none
      | .invokespecial _ => match S.drop M.2.2.1 with
        | .ref r :: rest => if (M.2.2.2.1 = 21 ∧ r < 41 ∧ S.length = M.2.2.1 + (rest.length + 1)) ∧ (rest.map fun v => v.category).sum ≤ 8 ∧ (pm_sp (.ref r :: (S.take M.2.2.1).reverse)).length ≤ M.2.1 then some (M, .ref r :: (S.take M.2.2.1).reverse, rest) else none
        | _ => none
      | .invokestatic _ => if (M.2.2.2.1 = 20 ∧ M.2.2.1 ≤ S.length) ∧ ((S.drop M.2.2.1).map fun v => v.category).sum ≤ 8 ∧ (pm_sp (S.take M.2.2.1).reverse).length ≤ M.2.1 then some (M, (S.take M.2.2.1).reverse, S.drop M.2.2.1) else none
      | _ => none
def pm_ev (X : Nat × (Nat → Int32)) : Nat → (List pm_E × Option FieldType) → Nat → pm_L → List Value → pm_Wo → Option (Option Value × pm_Wo)
  | 0, _, _, _, _, _ => none
  | f + 1, tb, pc, L, S, w => match pm_at tb.1 pc with
    | none => none
    | some e => match pm_st X e L S w with
      | some (pc', L', S', w') => pm_ev X f tb pc' L' S' w'
      | none => match pm_rt tb.2 e S with
        | some o => some (o, w)
        | none => match pm_ca e S w with
          | none => none
          | some (M, As, rest) => match pm_ev X f M.1 0 (pm_en M.2.1 As) [] w with
            | none => none
            | some (o, w') => pm_ev X f tb e.2.2.1 L (o.toList ++ rest) w'
/-- from here the method comes to its end, with K of the answer and the cells -/
def pm_R (X : Nat × (Nat → Int32)) (tb : List pm_E × Option FieldType) (pc : Nat) (L : pm_L) (S : List Value) (w : pm_Wo) (K : Option Value → pm_Wo → Prop) : Prop := ∃ (f : Nat) (o : Option Value) (w' : pm_Wo), pm_ev X f tb pc L S w = some (o, w') ∧ K o w'
theorem pm_ev_add (X : Nat × (Nat → Int32)) : ∀ (f k : Nat) (tb : List pm_E × Option FieldType) (pc : Nat) (L : pm_L) (S : List Value) (w : pm_Wo) (r : Option Value × pm_Wo), pm_ev X f tb pc L S w = some r → pm_ev X (f + k) tb pc L S w = some r := by
  intro f
  induction f with
  | zero => intro k tb pc L S w r h; cases h
  | succ f ih =>
    intro k tb pc L S w r h
    rw [show f + 1 + k = (f + k) + 1 by omega]
    unfold pm_ev at h ⊢
    cases h1 : pm_at tb.1 pc with
    | none => rw [h1] at h; cases h
    | some e =>
      rw [h1] at h
      dsimp only at h ⊢
      cases h2 : pm_st X e L S w with
      | some q =>
        obtain ⟨pc', L', S', w'⟩ := q
        rw [h2] at h
        exact ih k tb pc' L' S' w' r h
      | none =>
        rw [h2] at h
        dsimp only at h ⊢
        cases h3 : pm_rt tb.2 e S with
        | some o => rw [h3] at h; exact h
        | none =>
          rw [h3] at h
          dsimp only at h ⊢
          cases h4 : pm_ca e S w with
          | none => rw [h4] at h; cases h
          | some q =>
            obtain ⟨M, As, rest⟩ := q
            rw [h4] at h
            dsimp only at h ⊢
            cases h5 : pm_ev X f M.1 0 (pm_en M.2.1 As) [] w with
            | none => rw [h5] at h; cases h
            | some q =>
              obtain ⟨o, w'⟩ := q
              rw [h5] at h
              rw [ih k M.1 0 (pm_en M.2.1 As) [] w (o, w') h5]
              exact ih k tb e.2.2.1 L (o.toList ++ rest) w' r h
section PMR
variable {X : Nat × (Nat → Int32)} {tb : List pm_E × Option FieldType} {pc pc' : Nat} {L L' : pm_L} {S S' : List Value} {w w' : pm_Wo} {K K1 : Option Value → pm_Wo → Prop} {e : pm_E}
/-- a step -/
theorem pm_s (h1 : pm_at tb.1 pc = some e) (h2 : pm_st X e L S w = some (pc', L', S', w')) (k : pm_R X tb pc' L' S' w' K) : pm_R X tb pc L S w K := by
  obtain ⟨f, o, w2, h, hk⟩ := k
  refine ⟨f + 1, o, w2, ?_, hk⟩
  unfold pm_ev
  rw [h1]
  dsimp only
  rw [h2]
  exact h
/-- the end -/
theorem pm_r {o : Option Value} (h1 : pm_at tb.1 pc = some e) (h2 : pm_st X e L S w = none) (h3 : pm_rt tb.2 e S = some o) (k : K o w) : pm_R X tb pc L S w K := by
  refine ⟨1, o, w, ?_, k⟩
  unfold pm_ev
  rw [h1]
  dsimp only
  rw [h2]
  dsimp only
  rw [h3]
/-- a step, but at none of some places -/
theorem pm_sx (st : List Nat) (h0 : st.contains pc = false) (h1 : pm_at tb.1 pc = some e) (h2 : pm_st X e L S w = some (pc', L', S', w')) (k : pm_R X tb pc' L' S' w' K) : pm_R X tb pc L S w K := pm_s h1 h2 k
/-- a call -/
theorem pm_c {M : pm_M} {As rest : List Value} {L0 : pm_L} {tb1 : List pm_E × Option FieldType} {pc0 nx b d : Nat} {ins : Instr} {a : Int32} {c : Int64} (h1 : pm_at tb.1 pc = some (pc0, ins, nx, a, b, d, c)) (h2 : pm_st X (pc0, ins, nx, a, b, d, c) L S w = none) (h3 : pm_rt tb.2 (pc0, ins, nx, a, b, d, c) S = none) (h4 : pm_ca (pc0, ins, nx, a, b, d, c) S w = some (M, As, rest)) (h5 : pm_en M.2.1 As = L0) (h6 : M.1 = tb1) (k1 : pm_R X tb1 0 L0 [] w K1) (k : ∀ (o : Option Value) (w' : pm_Wo), K1 o w' → pm_R X tb nx L (o.toList ++ rest) w' K) : pm_R X tb pc L S w K := by
  subst h5 h6
  obtain ⟨f1, o1, w1, g1, c1⟩ := k1
  obtain ⟨f2, o2, w2, g2, c2⟩ := k o1 w1 c1
  refine ⟨(f1 + f2) + 1, o2, w2, ?_, c2⟩
  unfold pm_ev
  rw [h1]
  dsimp only
  rw [h2]
  dsimp only
  rw [h3]
  dsimp only
  rw [h4]
  dsimp only
  rw [pm_ev_add X f1 f2 _ _ _ _ _ _ g1]
  dsimp only
  rw [Nat.add_comm f1 f2]
  exact pm_ev_add X f2 f1 _ _ _ _ _ _ g2
theorem pm_if {c : Prop} [Decidable c] {a b : Nat} (ht : c → pm_R X tb a L S w K) (hf : ¬ c → pm_R X tb b L S w K) : pm_R X tb (if c then a else b) L S w K := by
  by_cases h : c
  · rw [if_pos h]; exact ht h
  · rw [if_neg h]; exact hf h
theorem pm_mono (h : pm_R X tb pc L S w K1) (hk : ∀ o w', K1 o w' → K o w') : pm_R X tb pc L S w K := by
  obtain ⟨f, o, w', h, k⟩ := h
  exact ⟨f, o, w', h, hk o w' k⟩
/-- the places of a row -/
theorem pm_ial {pc0 nx b d : Nat} {a : Int32} {c : Int64} {n : Nat} {R : Nat → Nat → Nat} {I : Nat → Nat → Int32} {J : Nat → Nat → Int64} {i : Int32} {r N : Nat} {f : Nat → Int32} (h1 : pm_at tb.1 pc = some (pc0, .iaload, nx, a, b, d, c)) (h2 : pm_ra X 10 n I r = some (N, f)) (hi : 0 ≤ i ∧ i.toNatClampNeg < N) (k : pm_R X tb nx L (.int (f i.toNatClampNeg) :: S) (n, R, I, J) K) : pm_R X tb pc L (.int i :: .ref r :: S) (n, R, I, J) K := by
  refine pm_s h1 ?_ k
  simp only [pm_st, pm_s0, pm_s1, pm_s2, h2, if_pos hi]
theorem pm_bal {pc0 nx b d : Nat} {a : Int32} {c : Int64} {n : Nat} {R : Nat → Nat → Nat} {I : Nat → Nat → Int32} {J : Nat → Nat → Int64} {i : Int32} {r N : Nat} {f : Nat → Int32} (h1 : pm_at tb.1 pc = some (pc0, .baload, nx, a, b, d, c)) (h2 : pm_ra X 11 n I r = some (N, f)) (hi : 0 ≤ i ∧ i.toNatClampNeg < N) (k : pm_R X tb nx L (.int (f i.toNatClampNeg) :: S) (n, R, I, J) K) : pm_R X tb pc L (.int i :: .ref r :: S) (n, R, I, J) K := by
  refine pm_s h1 ?_ k
  simp only [pm_st, pm_s0, pm_s1, pm_s2, h2, if_pos hi]
theorem pm_ias {pc0 nx b d : Nat} {a : Int32} {c : Int64} {n : Nat} {R : Nat → Nat → Nat} {I : Nat → Nat → Int32} {J : Nat → Nat → Int64} {i x : Int32} {r N : Nat} (h1 : pm_at tb.1 pc = some (pc0, .iastore, nx, a, b, d, c)) (h2 : pm_sh[r]? = some (10, N)) (hr : Nat.ble (r + 1) n = true) (hi : 0 ≤ i ∧ i.toNatClampNeg < N) (k : pm_R X tb nx L S (n, R, pm_u I r i.toNatClampNeg x, J) K) : pm_R X tb pc L (.int x :: .int i :: .ref r :: S) (n, R, I, J) K := by
  refine pm_s h1 ?_ k
  have hr' : r < n := Nat.le_of_ble_eq_true hr
  simp only [pm_st, pm_s0, pm_s1, pm_s2, h2, if_pos (show ((True ∧ r < n) ∧ 0 ≤ i ∧ i.toNatClampNeg < N) from ⟨⟨trivial, hr'⟩, hi⟩)]
theorem pm_bas {pc0 nx b d : Nat} {a : Int32} {c : Int64} {n : Nat} {R : Nat → Nat → Nat} {I : Nat → Nat → Int32} {J : Nat → Nat → Int64} {i x : Int32} {r N : Nat} (h1 : pm_at tb.1 pc = some (pc0, .bastore, nx, a, b, d, c)) (h2 : pm_sh[r]? = some (11, N)) (hr : Nat.ble (r + 1) n = true) (hi : 0 ≤ i ∧ i.toNatClampNeg < N) (k : pm_R X tb nx L S (n, R, pm_u I r i.toNatClampNeg (vp_nar .boolean x), J) K) : pm_R X tb pc L (.int x :: .int i :: .ref r :: S) (n, R, I, J) K := by
  refine pm_s h1 ?_ k
  have hr' : r < n := Nat.le_of_ble_eq_true hr
  simp only [pm_st, pm_s0, pm_s1, pm_s2, h2, if_pos (show ((True ∧ r < n) ∧ 0 ≤ i ∧ i.toNatClampNeg < N) from ⟨⟨trivial, hr'⟩, hi⟩)]
theorem pm_dv {pc0 nx b d : Nat} {a : Int32} {c : Int64} {x y : Int32} (h1 : pm_at tb.1 pc = some (pc0, .idiv, nx, a, b, d, c)) (hy : ¬ y = 0) (k : pm_R X tb nx L (.int (x / y) :: S) w K) : pm_R X tb pc L (.int y :: .int x :: S) w K := by
  refine pm_s h1 ?_ k
  simp only [pm_st, pm_s0, if_neg hy]
theorem pm_rm {pc0 nx b d : Nat} {a : Int32} {c : Int64} {x y : Int32} (h1 : pm_at tb.1 pc = some (pc0, .irem, nx, a, b, d, c)) (hy : ¬ y = 0) (k : pm_R X tb nx L (.int (x - x / y * y) :: S) w K) : pm_R X tb pc L (.int y :: .int x :: S) w K := by
  refine pm_s h1 ?_ k
  simp only [pm_st, pm_s0, if_neg hy]
/-- the end with a number, whose kind asks more than that it is one -/
theorem pm_rz {pc0 nx b d : Nat} {a : Int32} {c : Int64} {ty : FieldType} {v : Int32} (h1 : pm_at tb.1 pc = some (pc0, .ireturn, nx, a, b, d, c)) (h2 : tb.2 = some ty) (hn : narrow ty (.int v) = .int v) (k : K (some (.int v)) w) : pm_R X tb pc L [.int v] w K := by
  refine pm_r h1 ?_ ?_ k
  · simp only [pm_st, pm_s0, pm_s1, pm_s2]
  · simp only [pm_rt, h2, if_pos hn]
/-- a call that answers a number -/
theorem pm_ci {M : pm_M} {As rest : List Value} {L0 : pm_L} {tb1 : List pm_E × Option FieldType} {pc0 nx b d : Nat} {ins : Instr} {a : Int32} {c : Int64} {P : Int32 → pm_Wo → Prop} (h1 : pm_at tb.1 pc = some (pc0, ins, nx, a, b, d, c)) (h2 : pm_st X (pc0, ins, nx, a, b, d, c) L S w = none) (h3 : pm_rt tb.2 (pc0, ins, nx, a, b, d, c) S = none) (h4 : pm_ca (pc0, ins, nx, a, b, d, c) S w = some (M, As, rest)) (h5 : pm_en M.2.1 As = L0) (h6 : M.1 = tb1) (k1 : pm_R X tb1 0 L0 [] w (fun o w' => ∃ v, o = some (.int v) ∧ P v w')) (k : ∀ (v : Int32) (w' : pm_Wo), P v w' → pm_R X tb nx L (.int v :: rest) w' K) : pm_R X tb pc L S w K :=
  pm_c h1 h2 h3 h4 h5 h6 k1 (fun o w' h => by obtain ⟨v, rfl, hp⟩ := h; exact k v w' hp)
theorem pm_cq {M : pm_M} {As rest : List Value} {L0 : pm_L} {tb1 : List pm_E × Option FieldType} {pc0 nx b d : Nat} {ins : Instr} {a : Int32} {c : Int64} {v : Int32} {w1 : pm_Wo} (h1 : pm_at tb.1 pc = some (pc0, ins, nx, a, b, d, c)) (h2 : pm_st X (pc0, ins, nx, a, b, d, c) L S w = none) (h3 : pm_rt tb.2 (pc0, ins, nx, a, b, d, c) S = none) (h4 : pm_ca (pc0, ins, nx, a, b, d, c) S w = some (M, As, rest)) (h5 : pm_en M.2.1 As = L0) (h6 : M.1 = tb1) (k1 : pm_R X tb1 0 L0 [] w (fun o w' => o = some (.int v) ∧ w' = w1)) (k : pm_R X tb nx L (.int v :: rest) w1 K) : pm_R X tb pc L S w K :=
  pm_c h1 h2 h3 h4 h5 h6 k1 (fun o w' h => by obtain ⟨rfl, rfl⟩ := h; exact k)
/-- a call that answers nothing -/
theorem pm_cv {M : pm_M} {As rest : List Value} {L0 : pm_L} {tb1 : List pm_E × Option FieldType} {pc0 nx b d : Nat} {ins : Instr} {a : Int32} {c : Int64} {P : pm_Wo → Prop} (h1 : pm_at tb.1 pc = some (pc0, ins, nx, a, b, d, c)) (h2 : pm_st X (pc0, ins, nx, a, b, d, c) L S w = none) (h3 : pm_rt tb.2 (pc0, ins, nx, a, b, d, c) S = none) (h4 : pm_ca (pc0, ins, nx, a, b, d, c) S w = some (M, As, rest)) (h5 : pm_en M.2.1 As = L0) (h6 : M.1 = tb1) (k1 : pm_R X tb1 0 L0 [] w (fun o w' => o = none ∧ P w')) (k : ∀ (w' : pm_Wo), P w' → pm_R X tb nx L rest w' K) : pm_R X tb pc L S w K :=
  pm_c h1 h2 h3 h4 h5 h6 k1 (fun o w' h => by obtain ⟨rfl, hp⟩ := h; exact k w' hp)
theorem pm_eqL (h : L = L') (k : pm_R X tb pc L' S w K) : pm_R X tb pc L S w K := h ▸ k
theorem pm_eqS (h : S = S') (k : pm_R X tb pc L S' w K) : pm_R X tb pc L S w K := h ▸ k
theorem pm_eqw (h : w = w') (k : pm_R X tb pc L S w' K) : pm_R X tb pc L S w K := h ▸ k
end PMR
/-- a loop that counts: cells and locals by how far it is and by a state -/
theorem pm_for {X : Nat × (Nat → Int32)} {tb : List pm_E × Option FieldType} {K : Option Value → pm_Wo → Prop} {St : Type} (hd : Nat) (cL : Nat → St → pm_L) (cw : Nat → St → pm_Wo) (Inv : Nat → St → Prop) (n : Nat)
    (hs : ∀ j s, j < n → Inv j s → (∀ s', Inv (j + 1) s' → pm_R X tb hd (cL (j + 1) s') [] (cw (j + 1) s') K) → pm_R X tb hd (cL j s) [] (cw j s) K)
    (hx : ∀ s, Inv n s → pm_R X tb hd (cL n s) [] (cw n s) K) : ∀ j s, j ≤ n → Inv j s → pm_R X tb hd (cL j s) [] (cw j s) K := by
  have key : ∀ k j s, j + k = n → Inv j s → pm_R X tb hd (cL j s) [] (cw j s) K := by
    intro k
    induction k with
    | zero =>
      intro j s hj hI
      have : j = n := by omega
      subst this
      exact hx s hI
    | succ k ih =>
      intro j s hj hI
      exact hs j s (by omega) hI (fun s' hI' => ih (j + 1) s' (by omega) hI')
  intro j s hj hI
  exact key (n - j) j s (by omega) hI
end
section
def pm_B : List Jvm.Cond := lw_tbl.filter goodWord
def pm_w (w : Jvm.Cond) : Bool := decide (w ∈ lw_tbl) && goodWord w
theorem pm_w_in {w : Jvm.Cond} (h : pm_w w = true) : w ∈ pm_B := by
  simp only [pm_w, Bool.and_eq_true, decide_eq_true_eq] at h
  exact List.mem_filter.mpr h
def pm_nmh (s : String) : Bool := !(s == "java/lang/invoke/MethodHandle") && !(s == "java/lang/invoke/VarHandle")
def pm_d (cc : ByteArray) (pc nx : Nat) (ins : Instr) (len : Nat) : Bool := decide (decode cc pc = .ok (ins, len)) && decide (nx = pc + len)
def pm_cn (b : Nat) : String := match pm_cl[b]? with
  | some (C, _, _) => C
  | none => ""
/-- what is asked of a method as one that is called -/
def pm_okY (M : pm_M) : Bool := match M with
  | ((_, rt), mx, np, rc, y, bytes, _, _) => pm_w (.initialized y.cls) && pm_w (.code y bytes mx rt) && pm_nmh y.cls && decide ((parseMethodDescriptor y.desc).map (fun d => d.parameters.length) = some np) && (if rc = 20 then pm_w (.static y) else if rc = 21 then (decide (y.name = "<init>") && decide (rt = none) && pm_w (.instanceMethod y)) else (pm_w (.instanceMethod y) && pm_w (.selects y.cls y y) && decide (rc = 9 ∧ y.cls = "java/lang/String" ∨ rc < 5 ∧ y.cls = pm_cn rc)))
/-- what is asked of a call -/
def pm_okC (lk : List Jvm.Cond) (own : String) (idx fr lo : Nat) (M : pm_M) : Bool := match M with
  | (_, mx, _, _, y, _, f, l) => decide (Jvm.Cond.methodLink own idx y ∈ lk) && decide (f + 1 ≤ fr) && decide (8 + (mx + 11) + l ≤ lo)
def pm_okF (lk : List Jvm.Cond) (own : String) (idx b d : Nat) : Bool := match pm_cl[b]? with
  | some (_, T, N) => decide (Jvm.Cond.fieldLink own idx (T d).1 (T d).2.1 (T d).2.2.1 ∈ lk) && decide (d < N)
  | none => false
def pm_fin (b d : Nat) : Bool := match pm_cl[b]? with
  | some (_, T, _) => (T d).2.2.2
  | none => false
def pm_dcl (b d : Nat) : String := match pm_cl[b]? with
  | some (_, T, _) => (T d).1
  | none => ""
def pm_cN (b : Nat) : Nat := match pm_cl[b]? with
  | some (_, _, N) => N
  | none => 0
def pm_okE (lk : List Jvm.Cond) (own : String) (cc : ByteArray) (mx fr lo : Nat) (ini : Bool) (e : pm_E) : Bool := match e with
  | (pc, ins, nx, a, b, d, c) => match ins with
    | .iconst i => pm_d cc pc nx (.iconst i) 1 && decide (Int32.ofInt i = a)
    | .bipush i => pm_d cc pc nx (.bipush i) 2 && decide ((Int8.ofInt i).toInt32 = a)
    | .sipush i => pm_d cc pc nx (.sipush i) 3 && decide ((Int16.ofInt i).toInt32 = a)
    | .ldc_w i => pm_d cc pc nx (.ldc_w i) 3 && decide (Jvm.Cond.constant own i a ∈ lk)
    | .ldc i => pm_d cc pc nx (.ldc i) 2 && (match b with
      | 0 => decide (Jvm.Cond.constant own i a ∈ lk)
      | k + 1 => decide (own = "UphillOnly$Script") && decide ((pm_tx[k]?).map (fun q => q.1) = some i) && decide (d = 1000 + k) && decide (k < 14))
    | .ldc2_w i => pm_d cc pc nx (.ldc2_w i) 3 && decide (Jvm.Cond.constantLong own i c ∈ lk)
    | .lconst i => pm_d cc pc nx (.lconst i) 1 && decide (Int64.ofNat (i : Nat) = c)
    | .iload_n k => pm_d cc pc nx (.iload_n k) 1 && decide ((k : Nat) = d)
    | .iload k => pm_d cc pc nx (.iload k) 2 && decide (k = d)
    | .lload_n k => pm_d cc pc nx (.lload_n k) 1 && decide ((k : Nat) = d)
    | .aload_n k => pm_d cc pc nx (.aload_n k) 1 && decide ((k : Nat) = d)
    | .aload k => pm_d cc pc nx (.aload k) 2 && decide (k = d)
    | .istore_n k => pm_d cc pc nx (.istore_n k) 1 && decide ((k : Nat) = d) && decide (d < mx)
    | .istore k => pm_d cc pc nx (.istore k) 2 && decide (k = d) && decide (d < mx)
    | .astore_n k => pm_d cc pc nx (.astore_n k) 1 && decide ((k : Nat) = d) && decide (d < mx)
    | .iinc k i => pm_d cc pc nx (.iinc k i) 3 && decide (k = d) && decide (d < mx) && decide (Int32.ofInt i = a)
    | .iadd => pm_d cc pc nx .iadd 1
    | .isub => pm_d cc pc nx .isub 1
    | .imul => pm_d cc pc nx .imul 1
    | .iand => pm_d cc pc nx .iand 1
    | .ior => pm_d cc pc nx .ior 1
    | .ixor => pm_d cc pc nx .ixor 1
    | .ishl => pm_d cc pc nx .ishl 1
    | .ishr => pm_d cc pc nx .ishr 1
    | .iushr => pm_d cc pc nx .iushr 1
    | .idiv => pm_d cc pc nx .idiv 1
    | .irem => pm_d cc pc nx .irem 1
    | .i2l => pm_d cc pc nx .i2l 1
    | .l2i => pm_d cc pc nx .l2i 1
    | .i2c => pm_d cc pc nx .i2c 1
    | .ladd => pm_d cc pc nx .ladd 1
    | .lsub => pm_d cc pc nx .lsub 1
    | .lmul => pm_d cc pc nx .lmul 1
    | .land => pm_d cc pc nx .land 1
    | .lor => pm_d cc pc nx .lor 1
    | .lshl => pm_d cc pc nx .lshl 1
    | .lshr => pm_d cc pc nx .lshr 1
    | .lcmp => pm_d cc pc nx .lcmp 1
    | .dup => pm_d cc pc nx .dup 1
    | .pop => pm_d cc pc nx .pop 1
    | .goto o => pm_d cc pc nx (.goto o) 3 && decide ((pc : Int) + o = (b : Int))
    | .if_icmp k o => pm_d cc pc nx (.if_icmp k o) 3 && decide ((pc : Int) + o = (b : Int))
    | .ifCond k o => pm_d cc pc nx (.ifCond k o) 3 && decide ((pc : Int) + o = (b : Int))
    | .tableswitch df l h offs => decide (decode cc pc = .ok (.tableswitch df l h offs, nx - pc)) && decide ((pc : Int) + df = (b : Int)) && decide (h = l + offs.toList.length - 1) && decide (-1000 ≤ l ∧ offs.toList.length ≤ 1000 ∧ l ≤ 1000) && offs.toList.all (fun o => decide (0 ≤ (pc : Int) + o))
    | .getfield i => pm_d cc pc nx (.getfield i) 3 && (if b = 9 then (match d with
      | 0 => decide (Jvm.Cond.fieldLink own i "java/lang/String" "value" "[B" ∈ lk)
      | _ + 1 => decide (Jvm.Cond.fieldLink own i "java/lang/String" "coder" "B" ∈ lk)) else pm_okF lk own i b d)
    | .putfield i => pm_d cc pc nx (.putfield i) 3 && pm_okF lk own i b d && (!(pm_fin b d) || (ini && decide (pm_dcl b d = own)))
    | .iaload => pm_d cc pc nx .iaload 1
    | .baload => pm_d cc pc nx .baload 1
    | .iastore => pm_d cc pc nx .iastore 1
    | .bastore => pm_d cc pc nx .bastore 1
    | .arraylength => pm_d cc pc nx .arraylength 1
    | .getstatic i => pm_d cc pc nx (.getstatic i) 3 && decide (b < 4) && decide (Jvm.Cond.fieldLink own i (pm_sn b).1.1 (pm_sn b).1.2.1 (pm_sn b).1.2.2 ∈ lk)
    | .new i => pm_d cc pc nx (.new i) 3 && decide (b < 5) && decide (Jvm.Cond.classLink own i (pm_cn b) ∈ lk) && pm_w (.instantiable (pm_cn b) (pm_cN b)) && pm_w (.initialized (pm_cn b))
    | .newarray t => pm_d cc pc nx (.newarray t) 2 && pm_w (.arrayClass (newarray.typeOf t))
    | .invokespecial i => pm_d cc pc nx (.invokespecial i) 3 && (if b = 1000 then (decide (Jvm.Cond.methodLink own i objectInit ∈ lk) && pm_w (.instanceMethod objectInit) && pm_w (.code objectInit ⟨#[0xb1]⟩ 1 none) && decide (1 ≤ fr) && decide (20 ≤ lo)) else (match pm_MT[b]? with
      | some M => pm_okC lk own i fr lo M
      | none => false))
    | .invokevirtual i => pm_d cc pc nx (.invokevirtual i) 3 && (match pm_MT[b]? with
      | some M => pm_okC lk own i fr lo M
      | none => false)
    | .invokestatic i => pm_d cc pc nx (.invokestatic i) 3 && (if b = 1001 then (decide (Jvm.Cond.methodLink own i Lib.Math.max.name ∈ lk) && pm_w (.static Lib.Math.max.name) && pm_w (.initialized "java/lang/Math") && pm_w (.code Lib.Math.max.name Lib.Math.max.code 2 (some .int)) && decide (1 ≤ fr) && decide (21 ≤ lo)) else if b = 1002 then (decide (Jvm.Cond.methodLink own i Lib.Math.min.name ∈ lk) && pm_w (.static Lib.Math.min.name) && pm_w (.initialized "java/lang/Math") && pm_w (.code Lib.Math.min.name Lib.Math.min.code 2 (some .int)) && decide (1 ≤ fr) && decide (21 ≤ lo)) else (match pm_MT[b]? with
      | some M => pm_okC lk own i fr lo M
      | none => false))
    | .ireturn => pm_d cc pc nx .ireturn 1
    | .return_ => pm_d cc pc nx .return_ 1
    | _ => false
def pm_okM (lk : List Jvm.Cond) (M : pm_M) : Bool := match M with
  | ((tb, _), mx, _, _, y, bytes, f, l) => tb.all (pm_okE lk y.cls bytes mx f l (y.name == "<init>")) && plainName y.cls
end
section
theorem pm_all_app {α : Type} {f : α → Bool} {a b : List α} (h1 : a.all f = true) (h2 : b.all f = true) : (a ++ b).all f = true := by rw [List.all_append, h1, h2]; rfl
theorem pm_okM_of {lk : List Jvm.Cond} {M : pm_M} (h1 : M.1.1.all (pm_okE lk M.2.2.2.2.1.cls M.2.2.2.2.2.1 M.2.1 M.2.2.2.2.2.2.1 M.2.2.2.2.2.2.2 (M.2.2.2.2.1.name == "<init>")) = true) (h2 : plainName M.2.2.2.2.1.cls = true) : pm_okM lk M = true := by show (_ && _) = true; rw [h1, h2]; rfl
theorem lk_X0_ok : lk_X0.all pm_w = true := by decide +kernel
theorem lk_X1_ok : lk_X1.all pm_w = true := by decide +kernel
theorem lk_X2_ok : lk_X2.all pm_w = true := by decide +kernel
theorem lk_X3_ok : lk_X3.all pm_w = true := by decide +kernel
theorem lk_X4_ok : lk_X4.all pm_w = true := by decide +kernel
theorem lk_J0_ok : lk_J0.all pm_w = true := by decide +kernel
theorem lk_J1_ok : lk_J1.all pm_w = true := by decide +kernel
theorem lk_J3_ok : lk_J3.all pm_w = true := by decide +kernel
theorem lk_J6_ok : lk_J6.all pm_w = true := by decide +kernel
theorem lk_L_ok : lk_L.all pm_w = true := by decide +kernel
theorem ok_X0_init : pm_okM lk_X0 mm_X0_init = true := by decide +kernel
theorem ok_X0_append : pm_okM lk_X0 mm_X0_append = true := by decide +kernel
theorem ok_X0_firstFault : pm_okM lk_X0 mm_X0_firstFault = true := by decide +kernel
theorem ok_X0_advance : pm_okM lk_X0 mm_X0_advance = true := by decide +kernel
theorem ok_X0_sortAt : pm_okM lk_X0 mm_X0_sortAt = true := by decide +kernel
theorem ok_X0_isWord : pm_okM lk_X0 mm_X0_isWord = true := by decide +kernel
theorem ok_X0_takeLine_0 : tb_X0_takeLine_0.all (pm_okE lk_X0 yX0_takeLine.cls cX0_takeLine 4 6 127 (yX0_takeLine.name == "<init>")) = true := by decide +kernel
theorem ok_X0_takeLine_1 : tb_X0_takeLine_1.all (pm_okE lk_X0 yX0_takeLine.cls cX0_takeLine 4 6 127 (yX0_takeLine.name == "<init>")) = true := by decide +kernel
theorem ok_X0_takeLine : pm_okM lk_X0 mm_X0_takeLine = true := pm_okM_of (pm_all_app ok_X0_takeLine_0 (ok_X0_takeLine_1)) (by decide +kernel)
theorem ok_X0_streetKindTold : pm_okM lk_X0 mm_X0_streetKindTold = true := by decide +kernel
theorem ok_X0_lawTold : pm_okM lk_X0 mm_X0_lawTold = true := by decide +kernel
theorem ok_X0_takeStreet : pm_okM lk_X0 mm_X0_takeStreet = true := by decide +kernel
theorem ok_X0_takeErrand : pm_okM lk_X0 mm_X0_takeErrand = true := by decide +kernel
theorem ok_X0_takeScrew : pm_okM lk_X0 mm_X0_takeScrew = true := by decide +kernel
theorem ok_X0_takeHeights : pm_okM lk_X0 mm_X0_takeHeights = true := by decide +kernel
theorem ok_X0_takeTown : pm_okM lk_X0 mm_X0_takeTown = true := by decide +kernel
theorem ok_X0_takeHalf : pm_okM lk_X0 mm_X0_takeHalf = true := by decide +kernel
theorem ok_X0_takeNumber : pm_okM lk_X0 mm_X0_takeNumber = true := by decide +kernel
theorem ok_X1_init : pm_okM lk_X1 mm_X1_init = true := by decide +kernel
theorem ok_X1_beginWith : pm_okM lk_X1 mm_X1_beginWith = true := by decide +kernel
theorem ok_X1_copyFrom_0 : tb_X1_copyFrom_0.all (pm_okE lk_X1 yX1_copyFrom.cls cX1_copyFrom 3 0 0 (yX1_copyFrom.name == "<init>")) = true := by decide +kernel
theorem ok_X1_copyFrom_1 : tb_X1_copyFrom_1.all (pm_okE lk_X1 yX1_copyFrom.cls cX1_copyFrom 3 0 0 (yX1_copyFrom.name == "<init>")) = true := by decide +kernel
theorem ok_X1_copyFrom : pm_okM lk_X1 mm_X1_copyFrom = true := pm_okM_of (pm_all_app ok_X1_copyFrom_0 (ok_X1_copyFrom_1)) (by decide +kernel)
theorem ok_X1_hasCorner : pm_okM lk_X1 mm_X1_hasCorner = true := by decide +kernel
theorem ok_X1_hasStreet : pm_okM lk_X1 mm_X1_hasStreet = true := by decide +kernel
theorem ok_X1_setHeights : pm_okM lk_X1 mm_X1_setHeights = true := by decide +kernel
theorem ok_X1_addStreet : pm_okM lk_X1 mm_X1_addStreet = true := by decide +kernel
theorem ok_X1_addErrand : pm_okM lk_X1 mm_X1_addErrand = true := by decide +kernel
theorem ok_X1_heightOf : pm_okM lk_X1 mm_X1_heightOf = true := by decide +kernel
theorem ok_X1_halvesBefore : pm_okM lk_X1 mm_X1_halvesBefore = true := by decide +kernel
theorem ok_X1_leadsFrom : pm_okM lk_X1 mm_X1_leadsFrom = true := by decide +kernel
theorem ok_X1_otherEnd : pm_okM lk_X1 mm_X1_otherEnd = true := by decide +kernel
theorem ok_X1_openings_0 : tb_X1_openings_0.all (pm_okE lk_X1 yX1_openings.cls cX1_openings 8 2 45 (yX1_openings.name == "<init>")) = true := by decide +kernel
theorem ok_X1_openings_1 : tb_X1_openings_1.all (pm_okE lk_X1 yX1_openings.cls cX1_openings 8 2 45 (yX1_openings.name == "<init>")) = true := by decide +kernel
theorem ok_X1_openings : pm_okM lk_X1 mm_X1_openings = true := pm_okM_of (pm_all_app ok_X1_openings_0 (ok_X1_openings_1)) (by decide +kernel)
theorem ok_X1_mayBeTaken : pm_okM lk_X1 mm_X1_mayBeTaken = true := by decide +kernel
theorem ok_X2_init : pm_okM lk_X2 mm_X2_init = true := by decide +kernel
theorem ok_X2_layAsItIs : pm_okM lk_X2 mm_X2_layAsItIs = true := by decide +kernel
theorem ok_X2_lay : pm_okM lk_X2 mm_X2_lay = true := by decide +kernel
end
section
theorem ok_X2_spread : pm_okM lk_X2 mm_X2_spread = true := by decide +kernel
theorem ok_X2_earliestBeside : pm_okM lk_X2 mm_X2_earliestBeside = true := by decide +kernel
theorem ok_X2_goOnFrom : pm_okM lk_X2 mm_X2_goOnFrom = true := by decide +kernel
theorem ok_X2_beginOf_0 : tb_X2_beginOf_0.all (pm_okE lk_X2 yX2_beginOf.cls cX2_beginOf 10 1 21 (yX2_beginOf.name == "<init>")) = true := by decide +kernel
theorem ok_X2_beginOf_1 : tb_X2_beginOf_1.all (pm_okE lk_X2 yX2_beginOf.cls cX2_beginOf 10 1 21 (yX2_beginOf.name == "<init>")) = true := by decide +kernel
theorem ok_X2_beginOf : pm_okM lk_X2 mm_X2_beginOf = true := pm_okM_of (pm_all_app ok_X2_beginOf_0 (ok_X2_beginOf_1)) (by decide +kernel)
theorem ok_X2_canBeginAt : pm_okM lk_X2 mm_X2_canBeginAt = true := by decide +kernel
theorem ok_X2_streetAtOnce : pm_okM lk_X2 mm_X2_streetAtOnce = true := by decide +kernel
theorem ok_X2_arrival : pm_okM lk_X2 mm_X2_arrival = true := by decide +kernel
theorem ok_X2_thereBy : pm_okM lk_X2 mm_X2_thereBy = true := by decide +kernel
theorem ok_X2_servedErrands : pm_okM lk_X2 mm_X2_servedErrands = true := by decide +kernel
theorem ok_X2_servesAll : pm_okM lk_X2 mm_X2_servesAll = true := by decide +kernel
theorem ok_X2_serves : pm_okM lk_X2 mm_X2_serves = true := by decide +kernel
theorem ok_X3_init : pm_okM lk_X3 mm_X3_init = true := by decide +kernel
theorem ok_X3_write : pm_okM lk_X3 mm_X3_write = true := by decide +kernel
theorem ok_X3_erase : pm_okM lk_X3 mm_X3_erase = true := by decide +kernel
theorem ok_X3_fault : pm_okM lk_X3 mm_X3_fault = true := by decide +kernel
theorem ok_X3_town : pm_okM lk_X3 mm_X3_town = true := by decide +kernel
theorem ok_X3_corner : pm_okM lk_X3 mm_X3_corner = true := by decide +kernel
theorem ok_X3_street : pm_okM lk_X3 mm_X3_street = true := by decide +kernel
theorem ok_X3_as : pm_okM lk_X3 mm_X3_as = true := by decide +kernel
theorem ok_X3_go_0 : tb_X3_go_0.all (pm_okE lk_X3 yX3_go.cls cX3_go 2 5 117 (yX3_go.name == "<init>")) = true := by decide +kernel
theorem ok_X3_go_1 : tb_X3_go_1.all (pm_okE lk_X3 yX3_go.cls cX3_go 2 5 117 (yX3_go.name == "<init>")) = true := by decide +kernel
theorem ok_X3_go : pm_okM lk_X3 mm_X3_go = true := pm_okM_of (pm_all_app ok_X3_go_0 (ok_X3_go_1)) (by decide +kernel)
theorem ok_X3_rest : pm_okM lk_X3 mm_X3_rest = true := by decide +kernel
theorem ok_X3_here : pm_okM lk_X3 mm_X3_here = true := by decide +kernel
theorem ok_X3_keep : pm_okM lk_X3 mm_X3_keep = true := by decide +kernel
theorem ok_X3_back : pm_okM lk_X3 mm_X3_back = true := by decide +kernel
theorem ok_X3_reach : pm_okM lk_X3 mm_X3_reach = true := by decide +kernel
theorem ok_X3_soonest : pm_okM lk_X3 mm_X3_soonest = true := by decide +kernel
theorem ok_X3_home : pm_okM lk_X3 mm_X3_home = true := by decide +kernel
theorem ok_X3_cut : pm_okM lk_X3 mm_X3_cut = true := by decide +kernel
theorem ok_X3_served : pm_okM lk_X3 mm_X3_served = true := by decide +kernel
theorem ok_X3_law : pm_okM lk_X3 mm_X3_law = true := by decide +kernel
theorem ok_X3_rope_0 : tb_X3_rope_0.all (pm_okE lk_X3 yX3_rope.cls cX3_rope 6 6 148 (yX3_rope.name == "<init>")) = true := by decide +kernel
end
section
theorem ok_X3_rope_1 : tb_X3_rope_1.all (pm_okE lk_X3 yX3_rope.cls cX3_rope 6 6 148 (yX3_rope.name == "<init>")) = true := by decide +kernel
theorem ok_X3_rope : pm_okM lk_X3 mm_X3_rope = true := pm_okM_of (pm_all_app ok_X3_rope_0 (ok_X3_rope_1)) (by decide +kernel)
theorem ok_X3_mended_0 : tb_X3_mended_0.all (pm_okE lk_X3 yX3_mended.cls cX3_mended 5 6 147 (yX3_mended.name == "<init>")) = true := by decide +kernel
theorem ok_X3_mended_1 : tb_X3_mended_1.all (pm_okE lk_X3 yX3_mended.cls cX3_mended 5 6 147 (yX3_mended.name == "<init>")) = true := by decide +kernel
theorem ok_X3_mended : pm_okM lk_X3 mm_X3_mended = true := pm_okM_of (pm_all_app ok_X3_mended_0 (ok_X3_mended_1)) (by decide +kernel)
theorem ok_X3_walk : pm_okM lk_X3 mm_X3_walk = true := by decide +kernel
theorem ok_X3_burn : pm_okM lk_X3 mm_X3_burn = true := by decide +kernel
theorem ok_X3_judge_0 : tb_X3_judge_0.all (pm_okE lk_X3 yX3_judge.cls cX3_judge 6 5 117 (yX3_judge.name == "<init>")) = true := by decide +kernel
theorem ok_X3_judge_1 : tb_X3_judge_1.all (pm_okE lk_X3 yX3_judge.cls cX3_judge 6 5 117 (yX3_judge.name == "<init>")) = true := by decide +kernel
theorem ok_X3_judge : pm_okM lk_X3 mm_X3_judge = true := pm_okM_of (pm_all_app ok_X3_judge_0 (ok_X3_judge_1)) (by decide +kernel)
theorem ok_X3_seen : pm_okM lk_X3 mm_X3_seen = true := by decide +kernel
theorem ok_X3_forget : pm_okM lk_X3 mm_X3_forget = true := by decide +kernel
theorem ok_X3_sure : pm_okM lk_X3 mm_X3_sure = true := by decide +kernel
theorem ok_X3_count : pm_okM lk_X3 mm_X3_count = true := by decide +kernel
theorem ok_X3_startAnew : pm_okM lk_X3 mm_X3_startAnew = true := by decide +kernel
theorem ok_X3_isHalf : pm_okM lk_X3 mm_X3_isHalf = true := by decide +kernel
theorem ok_X3_isBegin : pm_okM lk_X3 mm_X3_isBegin = true := by decide +kernel
theorem ok_X3_isUnder : pm_okM lk_X3 mm_X3_isUnder = true := by decide +kernel
theorem ok_X3_cornersReached : pm_okM lk_X3 mm_X3_cornersReached = true := by decide +kernel
theorem ok_X3_higherThan : pm_okM lk_X3 mm_X3_higherThan = true := by decide +kernel
theorem ok_X3_canAllBe : pm_okM lk_X3 mm_X3_canAllBe = true := by decide +kernel
theorem ok_X4_init : pm_okM lk_X4 mm_X4_init = true := by decide +kernel
theorem ok_X4_in : pm_okM lk_X4 mm_X4_in = true := by decide +kernel
theorem ok_X4_has : pm_okM lk_X4 mm_X4_has = true := by decide +kernel
theorem ok_X4_isCorner : pm_okM lk_X4 mm_X4_isCorner = true := by decide +kernel
theorem ok_X4_isStreet : pm_okM lk_X4 mm_X4_isStreet = true := by decide +kernel
theorem ok_X4_plain : pm_okM lk_X4 mm_X4_plain = true := by decide +kernel
theorem ok_X4_write : pm_okM lk_X4 mm_X4_write = true := by decide +kernel
theorem ok_X4_erase : pm_okM lk_X4 mm_X4_erase = true := by decide +kernel
theorem ok_X4_nextToken_0 : tb_X4_nextToken_0.all (pm_okE lk_X4 yX4_nextToken.cls cX4_nextToken 1 1 22 (yX4_nextToken.name == "<init>")) = true := by decide +kernel
theorem ok_X4_nextToken_1 : tb_X4_nextToken_1.all (pm_okE lk_X4 yX4_nextToken.cls cX4_nextToken 1 1 22 (yX4_nextToken.name == "<init>")) = true := by decide +kernel
theorem ok_X4_nextToken_2 : tb_X4_nextToken_2.all (pm_okE lk_X4 yX4_nextToken.cls cX4_nextToken 1 1 22 (yX4_nextToken.name == "<init>")) = true := by decide +kernel
theorem ok_X4_nextToken_3 : tb_X4_nextToken_3.all (pm_okE lk_X4 yX4_nextToken.cls cX4_nextToken 1 1 22 (yX4_nextToken.name == "<init>")) = true := by decide +kernel
theorem ok_X4_nextToken : pm_okM lk_X4 mm_X4_nextToken = true := pm_okM_of (pm_all_app ok_X4_nextToken_0 (pm_all_app ok_X4_nextToken_1 (pm_all_app ok_X4_nextToken_2 (ok_X4_nextToken_3)))) (by decide +kernel)
theorem ok_X4_fails : pm_okM lk_X4 mm_X4_fails = true := by decide +kernel
theorem ok_X4_isNumber : pm_okM lk_X4 mm_X4_isNumber = true := by decide +kernel
theorem ok_X4_isPlace : pm_okM lk_X4 mm_X4_isPlace = true := by decide +kernel
theorem ok_X4_arePlaces : pm_okM lk_X4 mm_X4_arePlaces = true := by decide +kernel
theorem ok_X4_isTown : pm_okM lk_X4 mm_X4_isTown = true := by decide +kernel
theorem ok_X4_isStreetLine : pm_okM lk_X4 mm_X4_isStreetLine = true := by decide +kernel
theorem ok_X4_isErrand : pm_okM lk_X4 mm_X4_isErrand = true := by decide +kernel
theorem ok_X4_isLine_0 : tb_X4_isLine_0.all (pm_okE lk_X4 yX4_isLine.cls cX4_isLine 4 6 128 (yX4_isLine.name == "<init>")) = true := by decide +kernel
end
section
theorem ok_X4_isLine_1 : tb_X4_isLine_1.all (pm_okE lk_X4 yX4_isLine.cls cX4_isLine 4 6 128 (yX4_isLine.name == "<init>")) = true := by decide +kernel
theorem ok_X4_isLine_2 : tb_X4_isLine_2.all (pm_okE lk_X4 yX4_isLine.cls cX4_isLine 4 6 128 (yX4_isLine.name == "<init>")) = true := by decide +kernel
theorem ok_X4_isLine_3 : tb_X4_isLine_3.all (pm_okE lk_X4 yX4_isLine.cls cX4_isLine 4 6 128 (yX4_isLine.name == "<init>")) = true := by decide +kernel
theorem ok_X4_isLine : pm_okM lk_X4 mm_X4_isLine = true := pm_okM_of (pm_all_app ok_X4_isLine_0 (pm_all_app ok_X4_isLine_1 (pm_all_app ok_X4_isLine_2 (ok_X4_isLine_3)))) (by decide +kernel)
theorem ok_X4_isRead_0 : tb_X4_isRead_0.all (pm_okE lk_X4 yX4_isRead.cls cX4_isRead 2 7 151 (yX4_isRead.name == "<init>")) = true := by decide +kernel
theorem ok_X4_isRead_1 : tb_X4_isRead_1.all (pm_okE lk_X4 yX4_isRead.cls cX4_isRead 2 7 151 (yX4_isRead.name == "<init>")) = true := by decide +kernel
theorem ok_X4_isRead : pm_okM lk_X4 mm_X4_isRead = true := pm_okM_of (pm_all_app ok_X4_isRead_0 (ok_X4_isRead_1)) (by decide +kernel)
theorem ok_X4_fault : pm_okM lk_X4 mm_X4_fault = true := by decide +kernel
theorem ok_X4_doLine_0 : tb_X4_doLine_0.all (pm_okE lk_X4 yX4_doLine.cls cX4_doLine 4 1 21 (yX4_doLine.name == "<init>")) = true := by decide +kernel
theorem ok_X4_doLine_1 : tb_X4_doLine_1.all (pm_okE lk_X4 yX4_doLine.cls cX4_doLine 4 1 21 (yX4_doLine.name == "<init>")) = true := by decide +kernel
theorem ok_X4_doLine_2 : tb_X4_doLine_2.all (pm_okE lk_X4 yX4_doLine.cls cX4_doLine 4 1 21 (yX4_doLine.name == "<init>")) = true := by decide +kernel
theorem ok_X4_doLine : pm_okM lk_X4 mm_X4_doLine = true := pm_okM_of (pm_all_app ok_X4_doLine_0 (pm_all_app ok_X4_doLine_1 (ok_X4_doLine_2))) (by decide +kernel)
theorem ok_X4_town : pm_okM lk_X4 mm_X4_town = true := by decide +kernel
theorem ok_X4_heightOf : pm_okM lk_X4 mm_X4_heightOf = true := by decide +kernel
theorem ok_X4_corner : pm_okM lk_X4 mm_X4_corner = true := by decide +kernel
theorem ok_X4_street : pm_okM lk_X4 mm_X4_street = true := by decide +kernel
theorem ok_X4_may_0 : tb_X4_may_0.all (pm_okE lk_X4 yX4_may.cls cX4_may 5 2 43 (yX4_may.name == "<init>")) = true := by decide +kernel
theorem ok_X4_may_1 : tb_X4_may_1.all (pm_okE lk_X4 yX4_may.cls cX4_may 5 2 43 (yX4_may.name == "<init>")) = true := by decide +kernel
theorem ok_X4_may : pm_okM lk_X4 mm_X4_may = true := pm_okM_of (pm_all_app ok_X4_may_0 (ok_X4_may_1)) (by decide +kernel)
theorem ok_X4_as_0 : tb_X4_as_0.all (pm_okE lk_X4 yX4_as.cls cX4_as 8 3 67 (yX4_as.name == "<init>")) = true := by decide +kernel
theorem ok_X4_as_1 : tb_X4_as_1.all (pm_okE lk_X4 yX4_as.cls cX4_as 8 3 67 (yX4_as.name == "<init>")) = true := by decide +kernel
theorem ok_X4_as : pm_okM lk_X4 mm_X4_as = true := pm_okM_of (pm_all_app ok_X4_as_0 (ok_X4_as_1)) (by decide +kernel)
theorem ok_X4_sideOf : pm_okM lk_X4 mm_X4_sideOf = true := by decide +kernel
theorem ok_X4_canGo : pm_okM lk_X4 mm_X4_canGo = true := by decide +kernel
theorem ok_X4_go_0 : tb_X4_go_0.all (pm_okE lk_X4 yX4_go.cls cX4_go 2 4 91 (yX4_go.name == "<init>")) = true := by decide +kernel
theorem ok_X4_go_1 : tb_X4_go_1.all (pm_okE lk_X4 yX4_go.cls cX4_go 2 4 91 (yX4_go.name == "<init>")) = true := by decide +kernel
theorem ok_X4_go : pm_okM lk_X4 mm_X4_go = true := pm_okM_of (pm_all_app ok_X4_go_0 (ok_X4_go_1)) (by decide +kernel)
theorem ok_X4_rest : pm_okM lk_X4 mm_X4_rest = true := by decide +kernel
theorem ok_X4_here : pm_okM lk_X4 mm_X4_here = true := by decide +kernel
theorem ok_X4_keep : pm_okM lk_X4 mm_X4_keep = true := by decide +kernel
theorem ok_X4_back : pm_okM lk_X4 mm_X4_back = true := by decide +kernel
theorem ok_X4_reach_0 : tb_X4_reach_0.all (pm_okE lk_X4 yX4_reach.cls cX4_reach 9 3 67 (yX4_reach.name == "<init>")) = true := by decide +kernel
theorem ok_X4_reach_1 : tb_X4_reach_1.all (pm_okE lk_X4 yX4_reach.cls cX4_reach 9 3 67 (yX4_reach.name == "<init>")) = true := by decide +kernel
theorem ok_X4_reach_2 : tb_X4_reach_2.all (pm_okE lk_X4 yX4_reach.cls cX4_reach 9 3 67 (yX4_reach.name == "<init>")) = true := by decide +kernel
theorem ok_X4_reach : pm_okM lk_X4 mm_X4_reach = true := pm_okM_of (pm_all_app ok_X4_reach_0 (pm_all_app ok_X4_reach_1 (ok_X4_reach_2))) (by decide +kernel)
theorem ok_X4_endOf_0 : tb_X4_endOf_0.all (pm_okE lk_X4 yX4_endOf.cls cX4_endOf 8 3 67 (yX4_endOf.name == "<init>")) = true := by decide +kernel
theorem ok_X4_endOf_1 : tb_X4_endOf_1.all (pm_okE lk_X4 yX4_endOf.cls cX4_endOf 8 3 67 (yX4_endOf.name == "<init>")) = true := by decide +kernel
theorem ok_X4_endOf : pm_okM lk_X4 mm_X4_endOf = true := pm_okM_of (pm_all_app ok_X4_endOf_0 (ok_X4_endOf_1)) (by decide +kernel)
end
section
theorem ok_X4_soonestOf_0 : tb_X4_soonestOf_0.all (pm_okE lk_X4 yX4_soonestOf.cls cX4_soonestOf 11 4 94 (yX4_soonestOf.name == "<init>")) = true := by decide +kernel
theorem ok_X4_soonestOf_1 : tb_X4_soonestOf_1.all (pm_okE lk_X4 yX4_soonestOf.cls cX4_soonestOf 11 4 94 (yX4_soonestOf.name == "<init>")) = true := by decide +kernel
theorem ok_X4_soonestOf_2 : tb_X4_soonestOf_2.all (pm_okE lk_X4 yX4_soonestOf.cls cX4_soonestOf 11 4 94 (yX4_soonestOf.name == "<init>")) = true := by decide +kernel
theorem ok_X4_soonestOf : pm_okM lk_X4 mm_X4_soonestOf = true := pm_okM_of (pm_all_app ok_X4_soonestOf_0 (pm_all_app ok_X4_soonestOf_1 (ok_X4_soonestOf_2))) (by decide +kernel)
theorem ok_X4_soonest : pm_okM lk_X4 mm_X4_soonest = true := by decide +kernel
theorem ok_X4_home : pm_okM lk_X4 mm_X4_home = true := by decide +kernel
theorem ok_X4_cut_0 : tb_X4_cut_0.all (pm_okE lk_X4 yX4_cut.cls cX4_cut 5 5 124 (yX4_cut.name == "<init>")) = true := by decide +kernel
theorem ok_X4_cut_1 : tb_X4_cut_1.all (pm_okE lk_X4 yX4_cut.cls cX4_cut 5 5 124 (yX4_cut.name == "<init>")) = true := by decide +kernel
theorem ok_X4_cut : pm_okM lk_X4 mm_X4_cut = true := pm_okM_of (pm_all_app ok_X4_cut_0 (ok_X4_cut_1)) (by decide +kernel)
theorem ok_X4_servedNow : pm_okM lk_X4 mm_X4_servedNow = true := by decide +kernel
theorem ok_X4_bits : pm_okM lk_X4 mm_X4_bits = true := by decide +kernel
theorem ok_X4_served : pm_okM lk_X4 mm_X4_served = true := by decide +kernel
theorem ok_X4_law : pm_okM lk_X4 mm_X4_law = true := by decide +kernel
theorem ok_X4_rope : pm_okM lk_X4 mm_X4_rope = true := by decide +kernel
theorem ok_X4_mended_0 : tb_X4_mended_0.all (pm_okE lk_X4 yX4_mended.cls cX4_mended 5 6 146 (yX4_mended.name == "<init>")) = true := by decide +kernel
theorem ok_X4_mended_1 : tb_X4_mended_1.all (pm_okE lk_X4 yX4_mended.cls cX4_mended 5 6 146 (yX4_mended.name == "<init>")) = true := by decide +kernel
theorem ok_X4_mended : pm_okM lk_X4 mm_X4_mended = true := pm_okM_of (pm_all_app ok_X4_mended_0 (ok_X4_mended_1)) (by decide +kernel)
theorem ok_X4_walk : pm_okM lk_X4 mm_X4_walk = true := by decide +kernel
theorem ok_X4_burn : pm_okM lk_X4 mm_X4_burn = true := by decide +kernel
theorem ok_X4_judge_0 : tb_X4_judge_0.all (pm_okE lk_X4 yX4_judge.cls cX4_judge 8 4 91 (yX4_judge.name == "<init>")) = true := by decide +kernel
theorem ok_X4_judge_1 : tb_X4_judge_1.all (pm_okE lk_X4 yX4_judge.cls cX4_judge 8 4 91 (yX4_judge.name == "<init>")) = true := by decide +kernel
theorem ok_X4_judge : pm_okM lk_X4 mm_X4_judge = true := pm_okM_of (pm_all_app ok_X4_judge_0 (ok_X4_judge_1)) (by decide +kernel)
theorem ok_X4_seen_0 : tb_X4_seen_0.all (pm_okE lk_X4 yX4_seen.cls cX4_seen 4 2 43 (yX4_seen.name == "<init>")) = true := by decide +kernel
theorem ok_X4_seen_1 : tb_X4_seen_1.all (pm_okE lk_X4 yX4_seen.cls cX4_seen 4 2 43 (yX4_seen.name == "<init>")) = true := by decide +kernel
theorem ok_X4_seen : pm_okM lk_X4 mm_X4_seen = true := pm_okM_of (pm_all_app ok_X4_seen_0 (ok_X4_seen_1)) (by decide +kernel)
theorem ok_X4_forget : pm_okM lk_X4 mm_X4_forget = true := by decide +kernel
theorem ok_X4_above_0 : tb_X4_above_0.all (pm_okE lk_X4 yX4_above.cls cX4_above 7 1 21 (yX4_above.name == "<init>")) = true := by decide +kernel
theorem ok_X4_above_1 : tb_X4_above_1.all (pm_okE lk_X4 yX4_above.cls cX4_above 7 1 21 (yX4_above.name == "<init>")) = true := by decide +kernel
theorem ok_X4_above : pm_okM lk_X4 mm_X4_above = true := pm_okM_of (pm_all_app ok_X4_above_0 (ok_X4_above_1)) (by decide +kernel)
theorem ok_X4_sure : pm_okM lk_X4 mm_X4_sure = true := by decide +kernel
theorem ok_X4_count : pm_okM lk_X4 mm_X4_count = true := by decide +kernel
theorem ok_J6_bitCount_0f7a4 : pm_okM lk_J6 mm_J6_bitCount_0f7a4 = true := by decide +kernel
theorem ok_J0_length_8abf5 : pm_okM lk_J0 mm_J0_length_8abf5 = true := by decide +kernel
theorem ok_J0_charAt_5068e : pm_okM lk_J0 mm_J0_charAt_5068e = true := by decide +kernel
theorem ok_J0_coder_7d493 : pm_okM lk_J0 mm_J0_coder_7d493 = true := by decide +kernel
theorem ok_J0_isLatin1_aae02 : pm_okM lk_J0 mm_J0_isLatin1_aae02 = true := by decide +kernel
theorem ok_J0_checkIndex_df160 : pm_okM lk_J0 mm_J0_checkIndex_df160 = true := by decide +kernel
theorem ok_J1_charAt_3b067 : pm_okM lk_J1 mm_J1_charAt_3b067 = true := by decide +kernel
theorem ok_J3_checkIndex_8e157 : pm_okM lk_J3 mm_J3_checkIndex_8e157 = true := by decide +kernel
theorem ok_L_law_0 : tb_L_law_0.all (pm_okE lk_L x.cls code 4 9 193 (x.name == "<init>")) = true := by decide +kernel
theorem ok_L_law_1 : tb_L_law_1.all (pm_okE lk_L x.cls code 4 9 193 (x.name == "<init>")) = true := by decide +kernel
end
section
theorem ok_L_law_2 : tb_L_law_2.all (pm_okE lk_L x.cls code 4 9 193 (x.name == "<init>")) = true := by decide +kernel
theorem ok_L_law_3 : tb_L_law_3.all (pm_okE lk_L x.cls code 4 9 193 (x.name == "<init>")) = true := by decide +kernel
theorem ok_L_law_4 : tb_L_law_4.all (pm_okE lk_L x.cls code 4 9 193 (x.name == "<init>")) = true := by decide +kernel
theorem ok_L_law_5 : tb_L_law_5.all (pm_okE lk_L x.cls code 4 9 193 (x.name == "<init>")) = true := by decide +kernel
theorem ok_L_law_6 : tb_L_law_6.all (pm_okE lk_L x.cls code 4 9 193 (x.name == "<init>")) = true := by decide +kernel
theorem ok_L_law_7 : tb_L_law_7.all (pm_okE lk_L x.cls code 4 9 193 (x.name == "<init>")) = true := by decide +kernel
theorem ok_L_law_8 : tb_L_law_8.all (pm_okE lk_L x.cls code 4 9 193 (x.name == "<init>")) = true := by decide +kernel
theorem ok_L_law_9 : tb_L_law_9.all (pm_okE lk_L x.cls code 4 9 193 (x.name == "<init>")) = true := by decide +kernel
theorem ok_L_law : pm_okM lk_L mm_L_law = true := pm_okM_of (pm_all_app ok_L_law_0 (pm_all_app ok_L_law_1 (pm_all_app ok_L_law_2 (pm_all_app ok_L_law_3 (pm_all_app ok_L_law_4 (pm_all_app ok_L_law_5 (pm_all_app ok_L_law_6 (pm_all_app ok_L_law_7 (pm_all_app ok_L_law_8 (ok_L_law_9)))))))))) (by decide +kernel)
end
section
theorem oy_X0_init : pm_okY mm_X0_init = true := by decide +kernel
theorem oy_X0_append : pm_okY mm_X0_append = true := by decide +kernel
theorem oy_X0_firstFault : pm_okY mm_X0_firstFault = true := by decide +kernel
theorem oy_X0_advance : pm_okY mm_X0_advance = true := by decide +kernel
theorem oy_X0_sortAt : pm_okY mm_X0_sortAt = true := by decide +kernel
theorem oy_X0_isWord : pm_okY mm_X0_isWord = true := by decide +kernel
theorem oy_X0_takeLine : pm_okY mm_X0_takeLine = true := by decide +kernel
theorem oy_X0_streetKindTold : pm_okY mm_X0_streetKindTold = true := by decide +kernel
theorem oy_X0_lawTold : pm_okY mm_X0_lawTold = true := by decide +kernel
theorem oy_X0_takeStreet : pm_okY mm_X0_takeStreet = true := by decide +kernel
theorem oy_X0_takeErrand : pm_okY mm_X0_takeErrand = true := by decide +kernel
theorem oy_X0_takeScrew : pm_okY mm_X0_takeScrew = true := by decide +kernel
theorem oy_X0_takeHeights : pm_okY mm_X0_takeHeights = true := by decide +kernel
theorem oy_X0_takeTown : pm_okY mm_X0_takeTown = true := by decide +kernel
theorem oy_X0_takeHalf : pm_okY mm_X0_takeHalf = true := by decide +kernel
theorem oy_X0_takeNumber : pm_okY mm_X0_takeNumber = true := by decide +kernel
theorem oy_X1_init : pm_okY mm_X1_init = true := by decide +kernel
theorem oy_X1_beginWith : pm_okY mm_X1_beginWith = true := by decide +kernel
theorem oy_X1_copyFrom : pm_okY mm_X1_copyFrom = true := by decide +kernel
theorem oy_X1_hasCorner : pm_okY mm_X1_hasCorner = true := by decide +kernel
theorem oy_X1_hasStreet : pm_okY mm_X1_hasStreet = true := by decide +kernel
theorem oy_X1_setHeights : pm_okY mm_X1_setHeights = true := by decide +kernel
theorem oy_X1_addStreet : pm_okY mm_X1_addStreet = true := by decide +kernel
theorem oy_X1_addErrand : pm_okY mm_X1_addErrand = true := by decide +kernel
theorem oy_X1_heightOf : pm_okY mm_X1_heightOf = true := by decide +kernel
theorem oy_X1_halvesBefore : pm_okY mm_X1_halvesBefore = true := by decide +kernel
theorem oy_X1_leadsFrom : pm_okY mm_X1_leadsFrom = true := by decide +kernel
theorem oy_X1_otherEnd : pm_okY mm_X1_otherEnd = true := by decide +kernel
theorem oy_X1_openings : pm_okY mm_X1_openings = true := by decide +kernel
theorem oy_X1_mayBeTaken : pm_okY mm_X1_mayBeTaken = true := by decide +kernel
theorem oy_X2_init : pm_okY mm_X2_init = true := by decide +kernel
theorem oy_X2_layAsItIs : pm_okY mm_X2_layAsItIs = true := by decide +kernel
theorem oy_X2_lay : pm_okY mm_X2_lay = true := by decide +kernel
theorem oy_X2_spread : pm_okY mm_X2_spread = true := by decide +kernel
theorem oy_X2_earliestBeside : pm_okY mm_X2_earliestBeside = true := by decide +kernel
theorem oy_X2_goOnFrom : pm_okY mm_X2_goOnFrom = true := by decide +kernel
theorem oy_X2_beginOf : pm_okY mm_X2_beginOf = true := by decide +kernel
theorem oy_X2_canBeginAt : pm_okY mm_X2_canBeginAt = true := by decide +kernel
theorem oy_X2_streetAtOnce : pm_okY mm_X2_streetAtOnce = true := by decide +kernel
theorem oy_X2_arrival : pm_okY mm_X2_arrival = true := by decide +kernel
theorem oy_X2_thereBy : pm_okY mm_X2_thereBy = true := by decide +kernel
theorem oy_X2_servedErrands : pm_okY mm_X2_servedErrands = true := by decide +kernel
theorem oy_X2_servesAll : pm_okY mm_X2_servesAll = true := by decide +kernel
theorem oy_X2_serves : pm_okY mm_X2_serves = true := by decide +kernel
theorem oy_X3_init : pm_okY mm_X3_init = true := by decide +kernel
theorem oy_X3_write : pm_okY mm_X3_write = true := by decide +kernel
theorem oy_X3_erase : pm_okY mm_X3_erase = true := by decide +kernel
theorem oy_X3_fault : pm_okY mm_X3_fault = true := by decide +kernel
theorem oy_X3_town : pm_okY mm_X3_town = true := by decide +kernel
theorem oy_X3_corner : pm_okY mm_X3_corner = true := by decide +kernel
theorem oy_X3_street : pm_okY mm_X3_street = true := by decide +kernel
theorem oy_X3_as : pm_okY mm_X3_as = true := by decide +kernel
theorem oy_X3_go : pm_okY mm_X3_go = true := by decide +kernel
theorem oy_X3_rest : pm_okY mm_X3_rest = true := by decide +kernel
theorem oy_X3_here : pm_okY mm_X3_here = true := by decide +kernel
theorem oy_X3_keep : pm_okY mm_X3_keep = true := by decide +kernel
theorem oy_X3_back : pm_okY mm_X3_back = true := by decide +kernel
theorem oy_X3_reach : pm_okY mm_X3_reach = true := by decide +kernel
theorem oy_X3_soonest : pm_okY mm_X3_soonest = true := by decide +kernel
theorem oy_X3_home : pm_okY mm_X3_home = true := by decide +kernel
theorem oy_X3_cut : pm_okY mm_X3_cut = true := by decide +kernel
theorem oy_X3_served : pm_okY mm_X3_served = true := by decide +kernel
theorem oy_X3_law : pm_okY mm_X3_law = true := by decide +kernel
theorem oy_X3_rope : pm_okY mm_X3_rope = true := by decide +kernel
theorem oy_X3_mended : pm_okY mm_X3_mended = true := by decide +kernel
theorem oy_X3_walk : pm_okY mm_X3_walk = true := by decide +kernel
theorem oy_X3_burn : pm_okY mm_X3_burn = true := by decide +kernel
theorem oy_X3_judge : pm_okY mm_X3_judge = true := by decide +kernel
theorem oy_X3_seen : pm_okY mm_X3_seen = true := by decide +kernel
theorem oy_X3_forget : pm_okY mm_X3_forget = true := by decide +kernel
theorem oy_X3_sure : pm_okY mm_X3_sure = true := by decide +kernel
theorem oy_X3_count : pm_okY mm_X3_count = true := by decide +kernel
theorem oy_X3_startAnew : pm_okY mm_X3_startAnew = true := by decide +kernel
theorem oy_X3_isHalf : pm_okY mm_X3_isHalf = true := by decide +kernel
theorem oy_X3_isBegin : pm_okY mm_X3_isBegin = true := by decide +kernel
theorem oy_X3_isUnder : pm_okY mm_X3_isUnder = true := by decide +kernel
theorem oy_X3_cornersReached : pm_okY mm_X3_cornersReached = true := by decide +kernel
theorem oy_X3_higherThan : pm_okY mm_X3_higherThan = true := by decide +kernel
theorem oy_X3_canAllBe : pm_okY mm_X3_canAllBe = true := by decide +kernel
theorem oy_X4_init : pm_okY mm_X4_init = true := by decide +kernel
theorem oy_X4_in : pm_okY mm_X4_in = true := by decide +kernel
theorem oy_X4_has : pm_okY mm_X4_has = true := by decide +kernel
theorem oy_X4_isCorner : pm_okY mm_X4_isCorner = true := by decide +kernel
theorem oy_X4_isStreet : pm_okY mm_X4_isStreet = true := by decide +kernel
theorem oy_X4_plain : pm_okY mm_X4_plain = true := by decide +kernel
theorem oy_X4_write : pm_okY mm_X4_write = true := by decide +kernel
theorem oy_X4_erase : pm_okY mm_X4_erase = true := by decide +kernel
theorem oy_X4_nextToken : pm_okY mm_X4_nextToken = true := by decide +kernel
theorem oy_X4_fails : pm_okY mm_X4_fails = true := by decide +kernel
theorem oy_X4_isNumber : pm_okY mm_X4_isNumber = true := by decide +kernel
theorem oy_X4_isPlace : pm_okY mm_X4_isPlace = true := by decide +kernel
theorem oy_X4_arePlaces : pm_okY mm_X4_arePlaces = true := by decide +kernel
theorem oy_X4_isTown : pm_okY mm_X4_isTown = true := by decide +kernel
theorem oy_X4_isStreetLine : pm_okY mm_X4_isStreetLine = true := by decide +kernel
theorem oy_X4_isErrand : pm_okY mm_X4_isErrand = true := by decide +kernel
theorem oy_X4_isLine : pm_okY mm_X4_isLine = true := by decide +kernel
theorem oy_X4_isRead : pm_okY mm_X4_isRead = true := by decide +kernel
theorem oy_X4_fault : pm_okY mm_X4_fault = true := by decide +kernel
theorem oy_X4_doLine : pm_okY mm_X4_doLine = true := by decide +kernel
theorem oy_X4_town : pm_okY mm_X4_town = true := by decide +kernel
theorem oy_X4_heightOf : pm_okY mm_X4_heightOf = true := by decide +kernel
theorem oy_X4_corner : pm_okY mm_X4_corner = true := by decide +kernel
theorem oy_X4_street : pm_okY mm_X4_street = true := by decide +kernel
theorem oy_X4_may : pm_okY mm_X4_may = true := by decide +kernel
theorem oy_X4_as : pm_okY mm_X4_as = true := by decide +kernel
theorem oy_X4_sideOf : pm_okY mm_X4_sideOf = true := by decide +kernel
theorem oy_X4_canGo : pm_okY mm_X4_canGo = true := by decide +kernel
theorem oy_X4_go : pm_okY mm_X4_go = true := by decide +kernel
theorem oy_X4_rest : pm_okY mm_X4_rest = true := by decide +kernel
theorem oy_X4_here : pm_okY mm_X4_here = true := by decide +kernel
theorem oy_X4_keep : pm_okY mm_X4_keep = true := by decide +kernel
theorem oy_X4_back : pm_okY mm_X4_back = true := by decide +kernel
theorem oy_X4_reach : pm_okY mm_X4_reach = true := by decide +kernel
theorem oy_X4_endOf : pm_okY mm_X4_endOf = true := by decide +kernel
theorem oy_X4_soonestOf : pm_okY mm_X4_soonestOf = true := by decide +kernel
theorem oy_X4_soonest : pm_okY mm_X4_soonest = true := by decide +kernel
theorem oy_X4_home : pm_okY mm_X4_home = true := by decide +kernel
theorem oy_X4_cut : pm_okY mm_X4_cut = true := by decide +kernel
theorem oy_X4_servedNow : pm_okY mm_X4_servedNow = true := by decide +kernel
theorem oy_X4_bits : pm_okY mm_X4_bits = true := by decide +kernel
theorem oy_X4_served : pm_okY mm_X4_served = true := by decide +kernel
theorem oy_X4_law : pm_okY mm_X4_law = true := by decide +kernel
theorem oy_X4_rope : pm_okY mm_X4_rope = true := by decide +kernel
theorem oy_X4_mended : pm_okY mm_X4_mended = true := by decide +kernel
theorem oy_X4_walk : pm_okY mm_X4_walk = true := by decide +kernel
theorem oy_X4_burn : pm_okY mm_X4_burn = true := by decide +kernel
theorem oy_X4_judge : pm_okY mm_X4_judge = true := by decide +kernel
theorem oy_X4_seen : pm_okY mm_X4_seen = true := by decide +kernel
theorem oy_X4_forget : pm_okY mm_X4_forget = true := by decide +kernel
theorem oy_X4_above : pm_okY mm_X4_above = true := by decide +kernel
theorem oy_X4_sure : pm_okY mm_X4_sure = true := by decide +kernel
theorem oy_X4_count : pm_okY mm_X4_count = true := by decide +kernel
theorem oy_J6_bitCount_0f7a4 : pm_okY mm_J6_bitCount_0f7a4 = true := by decide +kernel
theorem oy_J0_length_8abf5 : pm_okY mm_J0_length_8abf5 = true := by decide +kernel
theorem oy_J0_charAt_5068e : pm_okY mm_J0_charAt_5068e = true := by decide +kernel
theorem oy_J0_coder_7d493 : pm_okY mm_J0_coder_7d493 = true := by decide +kernel
theorem oy_J0_isLatin1_aae02 : pm_okY mm_J0_isLatin1_aae02 = true := by decide +kernel
theorem oy_J0_checkIndex_df160 : pm_okY mm_J0_checkIndex_df160 = true := by decide +kernel
theorem oy_J1_charAt_3b067 : pm_okY mm_J1_charAt_3b067 = true := by decide +kernel
theorem oy_J3_checkIndex_8e157 : pm_okY mm_J3_checkIndex_8e157 = true := by decide +kernel
def pm_gd (M : pm_M) : Prop := ∃ lk : List Jvm.Cond, lk.all pm_w = true ∧ pm_okM lk M = true
theorem pm_gd_L : pm_gd mm_L_law := ⟨lk_L, lk_L_ok, ok_L_law⟩
set_option maxRecDepth 100000 in
theorem pm_MT_gd : ∀ M ∈ pm_MT, pm_gd M ∧ pm_okY M = true := List.forall_mem_cons.mpr ⟨⟨⟨lk_X0, lk_X0_ok, ok_X0_init⟩, oy_X0_init⟩, List.forall_mem_cons.mpr ⟨⟨⟨lk_X0, lk_X0_ok, ok_X0_append⟩, oy_X0_append⟩, List.forall_mem_cons.mpr ⟨⟨⟨lk_X0, lk_X0_ok, ok_X0_firstFault⟩, oy_X0_firstFault⟩, List.forall_mem_cons.mpr ⟨⟨⟨lk_X0, lk_X0_ok, ok_X0_advance⟩, oy_X0_advance⟩, List.forall_mem_cons.mpr ⟨⟨⟨lk_X0, lk_X0_ok, ok_X0_sortAt⟩, oy_X0_sortAt⟩, List.forall_mem_cons.mpr ⟨⟨⟨lk_X0, lk_X0_ok, ok_X0_isWord⟩, oy_X0_isWord⟩, List.forall_mem_cons.mpr ⟨⟨⟨lk_X0, lk_X0_ok, ok_X0_takeLine⟩, oy_X0_takeLine⟩, List.forall_mem_cons.mpr ⟨⟨⟨lk_X0, lk_X0_ok, ok_X0_streetKindTold⟩, oy_X0_streetKindTold⟩, List.forall_mem_cons.mpr ⟨⟨⟨lk_X0, lk_X0_ok, ok_X0_lawTold⟩, oy_X0_lawTold⟩, List.forall_mem_cons.mpr ⟨⟨⟨lk_X0, lk_X0_ok, ok_X0_takeStreet⟩, oy_X0_takeStreet⟩, List.forall_mem_cons.mpr ⟨⟨⟨lk_X0, lk_X0_ok, ok_X0_takeErrand⟩, oy_X0_takeErrand⟩, List.forall_mem_cons.mpr ⟨⟨⟨lk_X0, lk_X0_ok, ok_X0_takeScrew⟩, oy_X0_takeScrew⟩, List.forall_mem_cons.mpr ⟨⟨⟨lk_X0, lk_X0_ok, ok_X0_takeHeights⟩, oy_X0_takeHeights⟩, List.forall_mem_cons.mpr ⟨⟨⟨lk_X0, lk_X0_ok, ok_X0_takeTown⟩, oy_X0_takeTown⟩, List.forall_mem_cons.mpr ⟨⟨⟨lk_X0, lk_X0_ok, ok_X0_takeHalf⟩, oy_X0_takeHalf⟩, List.forall_mem_cons.mpr ⟨⟨⟨lk_X0, lk_X0_ok, ok_X0_takeNumber⟩, oy_X0_takeNumber⟩, List.forall_mem_cons.mpr ⟨⟨⟨lk_X1, lk_X1_ok, ok_X1_init⟩, oy_X1_init⟩, List.forall_mem_cons.mpr ⟨⟨⟨lk_X1, lk_X1_ok, ok_X1_beginWith⟩, oy_X1_beginWith⟩, List.forall_mem_cons.mpr ⟨⟨⟨lk_X1, lk_X1_ok, ok_X1_copyFrom⟩, oy_X1_copyFrom⟩, List.forall_mem_cons.mpr ⟨⟨⟨lk_X1, lk_X1_ok, ok_X1_hasCorner⟩, oy_X1_hasCorner⟩, List.forall_mem_cons.mpr ⟨⟨⟨lk_X1, lk_X1_ok, ok_X1_hasStreet⟩, oy_X1_hasStreet⟩, List.forall_mem_cons.mpr ⟨⟨⟨lk_X1, lk_X1_ok, ok_X1_setHeights⟩, oy_X1_setHeights⟩, List.forall_mem_cons.mpr ⟨⟨⟨lk_X1, lk_X1_ok, ok_X1_addStreet⟩, oy_X1_addStreet⟩, List.forall_mem_cons.mpr ⟨⟨⟨lk_X1, lk_X1_ok, ok_X1_addErrand⟩, oy_X1_addErrand⟩, List.forall_mem_cons.mpr ⟨⟨⟨lk_X1, lk_X1_ok, ok_X1_heightOf⟩, oy_X1_heightOf⟩, List.forall_mem_cons.mpr ⟨⟨⟨lk_X1, lk_X1_ok, ok_X1_halvesBefore⟩, oy_X1_halvesBefore⟩, List.forall_mem_cons.mpr ⟨⟨⟨lk_X1, lk_X1_ok, ok_X1_leadsFrom⟩, oy_X1_leadsFrom⟩, List.forall_mem_cons.mpr ⟨⟨⟨lk_X1, lk_X1_ok, ok_X1_otherEnd⟩, oy_X1_otherEnd⟩, List.forall_mem_cons.mpr ⟨⟨⟨lk_X1, lk_X1_ok, ok_X1_openings⟩, oy_X1_openings⟩, List.forall_mem_cons.mpr ⟨⟨⟨lk_X1, lk_X1_ok, ok_X1_mayBeTaken⟩, oy_X1_mayBeTaken⟩, List.forall_mem_cons.mpr ⟨⟨⟨lk_X2, lk_X2_ok, ok_X2_init⟩, oy_X2_init⟩, List.forall_mem_cons.mpr ⟨⟨⟨lk_X2, lk_X2_ok, ok_X2_layAsItIs⟩, oy_X2_layAsItIs⟩, List.forall_mem_cons.mpr ⟨⟨⟨lk_X2, lk_X2_ok, ok_X2_lay⟩, oy_X2_lay⟩, List.forall_mem_cons.mpr ⟨⟨⟨lk_X2, lk_X2_ok, ok_X2_spread⟩, oy_X2_spread⟩, List.forall_mem_cons.mpr ⟨⟨⟨lk_X2, lk_X2_ok, ok_X2_earliestBeside⟩, oy_X2_earliestBeside⟩, List.forall_mem_cons.mpr ⟨⟨⟨lk_X2, lk_X2_ok, ok_X2_goOnFrom⟩, oy_X2_goOnFrom⟩, List.forall_mem_cons.mpr ⟨⟨⟨lk_X2, lk_X2_ok, ok_X2_beginOf⟩, oy_X2_beginOf⟩, List.forall_mem_cons.mpr ⟨⟨⟨lk_X2, lk_X2_ok, ok_X2_canBeginAt⟩, oy_X2_canBeginAt⟩, List.forall_mem_cons.mpr ⟨⟨⟨lk_X2, lk_X2_ok, ok_X2_streetAtOnce⟩, oy_X2_streetAtOnce⟩, List.forall_mem_cons.mpr ⟨⟨⟨lk_X2, lk_X2_ok, ok_X2_arrival⟩, oy_X2_arrival⟩, List.forall_mem_cons.mpr ⟨⟨⟨lk_X2, lk_X2_ok, ok_X2_thereBy⟩, oy_X2_thereBy⟩, List.forall_mem_cons.mpr ⟨⟨⟨lk_X2, lk_X2_ok, ok_X2_servedErrands⟩, oy_X2_servedErrands⟩, List.forall_mem_cons.mpr ⟨⟨⟨lk_X2, lk_X2_ok, ok_X2_servesAll⟩, oy_X2_servesAll⟩, List.forall_mem_cons.mpr ⟨⟨⟨lk_X2, lk_X2_ok, ok_X2_serves⟩, oy_X2_serves⟩, List.forall_mem_cons.mpr ⟨⟨⟨lk_X3, lk_X3_ok, ok_X3_init⟩, oy_X3_init⟩, List.forall_mem_cons.mpr ⟨⟨⟨lk_X3, lk_X3_ok, ok_X3_write⟩, oy_X3_write⟩, List.forall_mem_cons.mpr ⟨⟨⟨lk_X3, lk_X3_ok, ok_X3_erase⟩, oy_X3_erase⟩, List.forall_mem_cons.mpr ⟨⟨⟨lk_X3, lk_X3_ok, ok_X3_fault⟩, oy_X3_fault⟩, List.forall_mem_cons.mpr ⟨⟨⟨lk_X3, lk_X3_ok, ok_X3_town⟩, oy_X3_town⟩, List.forall_mem_cons.mpr ⟨⟨⟨lk_X3, lk_X3_ok, ok_X3_corner⟩, oy_X3_corner⟩, List.forall_mem_cons.mpr ⟨⟨⟨lk_X3, lk_X3_ok, ok_X3_street⟩, oy_X3_street⟩, List.forall_mem_cons.mpr ⟨⟨⟨lk_X3, lk_X3_ok, ok_X3_as⟩, oy_X3_as⟩, List.forall_mem_cons.mpr ⟨⟨⟨lk_X3, lk_X3_ok, ok_X3_go⟩, oy_X3_go⟩, List.forall_mem_cons.mpr ⟨⟨⟨lk_X3, lk_X3_ok, ok_X3_rest⟩, oy_X3_rest⟩, List.forall_mem_cons.mpr ⟨⟨⟨lk_X3, lk_X3_ok, ok_X3_here⟩, oy_X3_here⟩, List.forall_mem_cons.mpr ⟨⟨⟨lk_X3, lk_X3_ok, ok_X3_keep⟩, oy_X3_keep⟩, List.forall_mem_cons.mpr ⟨⟨⟨lk_X3, lk_X3_ok, ok_X3_back⟩, oy_X3_back⟩, List.forall_mem_cons.mpr ⟨⟨⟨lk_X3, lk_X3_ok, ok_X3_reach⟩, oy_X3_reach⟩, List.forall_mem_cons.mpr ⟨⟨⟨lk_X3, lk_X3_ok, ok_X3_soonest⟩, oy_X3_soonest⟩, List.forall_mem_cons.mpr ⟨⟨⟨lk_X3, lk_X3_ok, ok_X3_home⟩, oy_X3_home⟩, List.forall_mem_cons.mpr ⟨⟨⟨lk_X3, lk_X3_ok, ok_X3_cut⟩, oy_X3_cut⟩, List.forall_mem_cons.mpr ⟨⟨⟨lk_X3, lk_X3_ok, ok_X3_served⟩, oy_X3_served⟩, List.forall_mem_cons.mpr ⟨⟨⟨lk_X3, lk_X3_ok, ok_X3_law⟩, oy_X3_law⟩, List.forall_mem_cons.mpr ⟨⟨⟨lk_X3, lk_X3_ok, ok_X3_rope⟩, oy_X3_rope⟩, List.forall_mem_cons.mpr ⟨⟨⟨lk_X3, lk_X3_ok, ok_X3_mended⟩, oy_X3_mended⟩, List.forall_mem_cons.mpr ⟨⟨⟨lk_X3, lk_X3_ok, ok_X3_walk⟩, oy_X3_walk⟩, List.forall_mem_cons.mpr ⟨⟨⟨lk_X3, lk_X3_ok, ok_X3_burn⟩, oy_X3_burn⟩, List.forall_mem_cons.mpr ⟨⟨⟨lk_X3, lk_X3_ok, ok_X3_judge⟩, oy_X3_judge⟩, List.forall_mem_cons.mpr ⟨⟨⟨lk_X3, lk_X3_ok, ok_X3_seen⟩, oy_X3_seen⟩, List.forall_mem_cons.mpr ⟨⟨⟨lk_X3, lk_X3_ok, ok_X3_forget⟩, oy_X3_forget⟩, List.forall_mem_cons.mpr ⟨⟨⟨lk_X3, lk_X3_ok, ok_X3_sure⟩, oy_X3_sure⟩, List.forall_mem_cons.mpr ⟨⟨⟨lk_X3, lk_X3_ok, ok_X3_count⟩, oy_X3_count⟩, List.forall_mem_cons.mpr ⟨⟨⟨lk_X3, lk_X3_ok, ok_X3_startAnew⟩, oy_X3_startAnew⟩, List.forall_mem_cons.mpr ⟨⟨⟨lk_X3, lk_X3_ok, ok_X3_isHalf⟩, oy_X3_isHalf⟩, List.forall_mem_cons.mpr ⟨⟨⟨lk_X3, lk_X3_ok, ok_X3_isBegin⟩, oy_X3_isBegin⟩, List.forall_mem_cons.mpr ⟨⟨⟨lk_X3, lk_X3_ok, ok_X3_isUnder⟩, oy_X3_isUnder⟩, List.forall_mem_cons.mpr ⟨⟨⟨lk_X3, lk_X3_ok, ok_X3_cornersReached⟩, oy_X3_cornersReached⟩, List.forall_mem_cons.mpr ⟨⟨⟨lk_X3, lk_X3_ok, ok_X3_higherThan⟩, oy_X3_higherThan⟩, List.forall_mem_cons.mpr ⟨⟨⟨lk_X3, lk_X3_ok, ok_X3_canAllBe⟩, oy_X3_canAllBe⟩, List.forall_mem_cons.mpr ⟨⟨⟨lk_X4, lk_X4_ok, ok_X4_init⟩, oy_X4_init⟩, List.forall_mem_cons.mpr ⟨⟨⟨lk_X4, lk_X4_ok, ok_X4_in⟩, oy_X4_in⟩, List.forall_mem_cons.mpr ⟨⟨⟨lk_X4, lk_X4_ok, ok_X4_has⟩, oy_X4_has⟩, List.forall_mem_cons.mpr ⟨⟨⟨lk_X4, lk_X4_ok, ok_X4_isCorner⟩, oy_X4_isCorner⟩, List.forall_mem_cons.mpr ⟨⟨⟨lk_X4, lk_X4_ok, ok_X4_isStreet⟩, oy_X4_isStreet⟩, List.forall_mem_cons.mpr ⟨⟨⟨lk_X4, lk_X4_ok, ok_X4_plain⟩, oy_X4_plain⟩, List.forall_mem_cons.mpr ⟨⟨⟨lk_X4, lk_X4_ok, ok_X4_write⟩, oy_X4_write⟩, List.forall_mem_cons.mpr ⟨⟨⟨lk_X4, lk_X4_ok, ok_X4_erase⟩, oy_X4_erase⟩, List.forall_mem_cons.mpr ⟨⟨⟨lk_X4, lk_X4_ok, ok_X4_nextToken⟩, oy_X4_nextToken⟩, List.forall_mem_cons.mpr ⟨⟨⟨lk_X4, lk_X4_ok, ok_X4_fails⟩, oy_X4_fails⟩, List.forall_mem_cons.mpr ⟨⟨⟨lk_X4, lk_X4_ok, ok_X4_isNumber⟩, oy_X4_isNumber⟩, List.forall_mem_cons.mpr ⟨⟨⟨lk_X4, lk_X4_ok, ok_X4_isPlace⟩, oy_X4_isPlace⟩, List.forall_mem_cons.mpr ⟨⟨⟨lk_X4, lk_X4_ok, ok_X4_arePlaces⟩, oy_X4_arePlaces⟩, List.forall_mem_cons.mpr ⟨⟨⟨lk_X4, lk_X4_ok, ok_X4_isTown⟩, oy_X4_isTown⟩, List.forall_mem_cons.mpr ⟨⟨⟨lk_X4, lk_X4_ok, ok_X4_isStreetLine⟩, oy_X4_isStreetLine⟩, List.forall_mem_cons.mpr ⟨⟨⟨lk_X4, lk_X4_ok, ok_X4_isErrand⟩, oy_X4_isErrand⟩, List.forall_mem_cons.mpr ⟨⟨⟨lk_X4, lk_X4_ok, ok_X4_isLine⟩, oy_X4_isLine⟩, List.forall_mem_cons.mpr ⟨⟨⟨lk_X4, lk_X4_ok, ok_X4_isRead⟩, oy_X4_isRead⟩, List.forall_mem_cons.mpr ⟨⟨⟨lk_X4, lk_X4_ok, ok_X4_fault⟩, oy_X4_fault⟩, List.forall_mem_cons.mpr ⟨⟨⟨lk_X4, lk_X4_ok, ok_X4_doLine⟩, oy_X4_doLine⟩, List.forall_mem_cons.mpr ⟨⟨⟨lk_X4, lk_X4_ok, ok_X4_town⟩, oy_X4_town⟩, List.forall_mem_cons.mpr ⟨⟨⟨lk_X4, lk_X4_ok, ok_X4_heightOf⟩, oy_X4_heightOf⟩, List.forall_mem_cons.mpr ⟨⟨⟨lk_X4, lk_X4_ok, ok_X4_corner⟩, oy_X4_corner⟩, List.forall_mem_cons.mpr ⟨⟨⟨lk_X4, lk_X4_ok, ok_X4_street⟩, oy_X4_street⟩, List.forall_mem_cons.mpr ⟨⟨⟨lk_X4, lk_X4_ok, ok_X4_may⟩, oy_X4_may⟩, List.forall_mem_cons.mpr ⟨⟨⟨lk_X4, lk_X4_ok, ok_X4_as⟩, oy_X4_as⟩, List.forall_mem_cons.mpr ⟨⟨⟨lk_X4, lk_X4_ok, ok_X4_sideOf⟩, oy_X4_sideOf⟩, List.forall_mem_cons.mpr ⟨⟨⟨lk_X4, lk_X4_ok, ok_X4_canGo⟩, oy_X4_canGo⟩, List.forall_mem_cons.mpr ⟨⟨⟨lk_X4, lk_X4_ok, ok_X4_go⟩, oy_X4_go⟩, List.forall_mem_cons.mpr ⟨⟨⟨lk_X4, lk_X4_ok, ok_X4_rest⟩, oy_X4_rest⟩, List.forall_mem_cons.mpr ⟨⟨⟨lk_X4, lk_X4_ok, ok_X4_here⟩, oy_X4_here⟩, List.forall_mem_cons.mpr ⟨⟨⟨lk_X4, lk_X4_ok, ok_X4_keep⟩, oy_X4_keep⟩, List.forall_mem_cons.mpr ⟨⟨⟨lk_X4, lk_X4_ok, ok_X4_back⟩, oy_X4_back⟩, List.forall_mem_cons.mpr ⟨⟨⟨lk_X4, lk_X4_ok, ok_X4_reach⟩, oy_X4_reach⟩, List.forall_mem_cons.mpr ⟨⟨⟨lk_X4, lk_X4_ok, ok_X4_endOf⟩, oy_X4_endOf⟩, List.forall_mem_cons.mpr ⟨⟨⟨lk_X4, lk_X4_ok, ok_X4_soonestOf⟩, oy_X4_soonestOf⟩, List.forall_mem_cons.mpr ⟨⟨⟨lk_X4, lk_X4_ok, ok_X4_soonest⟩, oy_X4_soonest⟩, List.forall_mem_cons.mpr ⟨⟨⟨lk_X4, lk_X4_ok, ok_X4_home⟩, oy_X4_home⟩, List.forall_mem_cons.mpr ⟨⟨⟨lk_X4, lk_X4_ok, ok_X4_cut⟩, oy_X4_cut⟩, List.forall_mem_cons.mpr ⟨⟨⟨lk_X4, lk_X4_ok, ok_X4_servedNow⟩, oy_X4_servedNow⟩, List.forall_mem_cons.mpr ⟨⟨⟨lk_X4, lk_X4_ok, ok_X4_bits⟩, oy_X4_bits⟩, List.forall_mem_cons.mpr ⟨⟨⟨lk_X4, lk_X4_ok, ok_X4_served⟩, oy_X4_served⟩, List.forall_mem_cons.mpr ⟨⟨⟨lk_X4, lk_X4_ok, ok_X4_law⟩, oy_X4_law⟩, List.forall_mem_cons.mpr ⟨⟨⟨lk_X4, lk_X4_ok, ok_X4_rope⟩, oy_X4_rope⟩, List.forall_mem_cons.mpr ⟨⟨⟨lk_X4, lk_X4_ok, ok_X4_mended⟩, oy_X4_mended⟩, List.forall_mem_cons.mpr ⟨⟨⟨lk_X4, lk_X4_ok, ok_X4_walk⟩, oy_X4_walk⟩, List.forall_mem_cons.mpr ⟨⟨⟨lk_X4, lk_X4_ok, ok_X4_burn⟩, oy_X4_burn⟩, List.forall_mem_cons.mpr ⟨⟨⟨lk_X4, lk_X4_ok, ok_X4_judge⟩, oy_X4_judge⟩, List.forall_mem_cons.mpr ⟨⟨⟨lk_X4, lk_X4_ok, ok_X4_seen⟩, oy_X4_seen⟩, List.forall_mem_cons.mpr ⟨⟨⟨lk_X4, lk_X4_ok, ok_X4_forget⟩, oy_X4_forget⟩, List.forall_mem_cons.mpr ⟨⟨⟨lk_X4, lk_X4_ok, ok_X4_above⟩, oy_X4_above⟩, List.forall_mem_cons.mpr ⟨⟨⟨lk_X4, lk_X4_ok, ok_X4_sure⟩, oy_X4_sure⟩, List.forall_mem_cons.mpr ⟨⟨⟨lk_X4, lk_X4_ok, ok_X4_count⟩, oy_X4_count⟩, List.forall_mem_cons.mpr ⟨⟨⟨lk_J6, lk_J6_ok, ok_J6_bitCount_0f7a4⟩, oy_J6_bitCount_0f7a4⟩, List.forall_mem_cons.mpr ⟨⟨⟨lk_J0, lk_J0_ok, ok_J0_length_8abf5⟩, oy_J0_length_8abf5⟩, List.forall_mem_cons.mpr ⟨⟨⟨lk_J0, lk_J0_ok, ok_J0_charAt_5068e⟩, oy_J0_charAt_5068e⟩, List.forall_mem_cons.mpr ⟨⟨⟨lk_J0, lk_J0_ok, ok_J0_coder_7d493⟩, oy_J0_coder_7d493⟩, List.forall_mem_cons.mpr ⟨⟨⟨lk_J0, lk_J0_ok, ok_J0_isLatin1_aae02⟩, oy_J0_isLatin1_aae02⟩, List.forall_mem_cons.mpr ⟨⟨⟨lk_J0, lk_J0_ok, ok_J0_checkIndex_df160⟩, oy_J0_checkIndex_df160⟩, List.forall_mem_cons.mpr ⟨⟨⟨lk_J1, lk_J1_ok, ok_J1_charAt_3b067⟩, oy_J1_charAt_3b067⟩, List.forall_mem_cons.mpr ⟨⟨⟨lk_J3, lk_J3_ok, ok_J3_checkIndex_8e157⟩, oy_J3_checkIndex_8e157⟩, fun _ h => absurd h List.not_mem_nil⟩⟩⟩⟩⟩⟩⟩⟩⟩⟩⟩⟩⟩⟩⟩⟩⟩⟩⟩⟩⟩⟩⟩⟩⟩⟩⟩⟩⟩⟩⟩⟩⟩⟩⟩⟩⟩⟩⟩⟩⟩⟩⟩⟩⟩⟩⟩⟩⟩⟩⟩⟩⟩⟩⟩⟩⟩⟩⟩⟩⟩⟩⟩⟩⟩⟩⟩⟩⟩⟩⟩⟩⟩⟩⟩⟩⟩⟩⟩⟩⟩⟩⟩⟩⟩⟩⟩⟩⟩⟩⟩⟩⟩⟩⟩⟩⟩⟩⟩⟩⟩⟩⟩⟩⟩⟩⟩⟩⟩⟩⟩⟩⟩⟩⟩⟩⟩⟩⟩⟩⟩⟩⟩⟩⟩⟩⟩⟩⟩⟩⟩⟩⟩⟩⟩⟩⟩⟩⟩⟩
end
section
/-! WHAT THE PURE MACHINE SAYS, THE MACHINE DOES -/
def pm_rv (ρ : Nat → Nat) (ν : Value) : Value → Value
  | .ref k => if k = 950 then ν else .ref (ρ k)
  | v => v
def pm_ll (ρ : Nat → Nat) (ν : Value) (L : pm_L) : List (Nat × Value) := L.zipIdx.filterMap (fun q => q.1.map (fun v => (q.2, pm_rv ρ ν v)))
theorem pm_ll_mem {ρ : Nat → Nat} {ν : Value} {L : pm_L} {i : Nat} {u : Value} : (i, u) ∈ pm_ll ρ ν L ↔ ∃ v, L[i]? = some (some v) ∧ u = pm_rv ρ ν v := by
  unfold pm_ll
  rw [List.mem_filterMap]
  constructor
  · rintro ⟨⟨ov, j⟩, hm, he⟩
    rw [List.mem_zipIdx_iff_getElem?] at hm
    cases ov with
    | none => simp at he
    | some v =>
      simp only [Option.map_some, Option.some.injEq, Prod.mk.injEq] at he
      obtain ⟨rfl, rfl⟩ := he
      exact ⟨v, hm, rfl⟩
  · rintro ⟨v, hv, rfl⟩
    exact ⟨(some v, i), List.mem_zipIdx_iff_getElem?.mpr hv, rfl⟩
theorem pm_ll_get {ρ : Nat → Nat} {ν : Value} {L : pm_L} {ls : Array Slot} {mx i : Nat} {v : Value} (hl : lv_has ls mx (pm_ll ρ ν L)) (h : L[i]? = some (some v)) : ls[i]? = some (.val (pm_rv ρ ν v)) := hl.2.2 (i, pm_rv ρ ν v) (pm_ll_mem.mpr ⟨v, h, rfl⟩)
theorem pm_rv_cat {ρ : Nat → Nat} {ν : Value} (hν : ν.category = 1) (v : Value) : (pm_rv ρ ν v).category = v.category := by
  cases v <;> try rfl
  rename_i k
  show (if k = 950 then ν else .ref (ρ k)).category = 1
  split
  · exact hν
  · rfl
theorem pm_ll_set {ρ : Nat → Nat} {ν : Value} {L : pm_L} {ls' : Array Slot} {mx d : Nat} {v : Value} (hν : ν.category = 1) (hn : pm_nl L d = true) (hl : lv_has ls' mx ((d, pm_rv ρ ν v) :: (pm_ll ρ ν L).filter (fun q => !(q.1 == d) && !(q.1 + 1 == d && q.2.category == 2)))) : lv_has ls' mx (pm_ll ρ ν (L.set d (some v))) := by
  refine ⟨hl.1, hl.2.1, ?_⟩
  rintro ⟨i, u⟩ hq
  obtain ⟨w, hw, rfl⟩ := pm_ll_mem.mp hq
  by_cases hi : i = d
  · subst hi
    rw [List.getElem?_set] at hw
    simp only [if_true] at hw
    split at hw
    · cases hw
      exact hl.2.2 _ List.mem_cons_self
    · cases hw
  · rw [List.getElem?_set_ne (fun q => hi q.symm)] at hw
    refine hl.2.2 (i, pm_rv ρ ν w) (List.mem_cons_of_mem _ (List.mem_filter.mpr ⟨pm_ll_mem.mpr ⟨w, hw, rfl⟩, ?_⟩))
    have h1 : (i == d) = false := by simpa using hi
    simp only [h1, Bool.not_false, Bool.true_and, Bool.not_eq_true', Bool.and_eq_false_iff, beq_eq_false_iff_ne, ne_eq]
    by_cases h2 : i + 1 = d
    · right
      subst h2
      unfold pm_nl at hn
      simp only [hw] at hn
      rw [pm_rv_cat hν]
      have h3 : w.category = 1 := by simpa using hn
      omega
    · exact Or.inl h2
theorem pm_lk_in {lk : List Jvm.Cond} {w : Jvm.Cond} (h : lk.all pm_w = true) (hm : w ∈ lk) : w ∈ pm_B := pm_w_in (List.all_eq_true.mp h w hm)
section PMS
variable {p : Program} {l : Launch} {e : Env} {R : Room} {s : State} {m : MethodId} {args : Array Value} {below : List Frame} {meth : Method} {c : Code} {H : Heap} {locs : List Loc} {cells slots : Nat} {Q : State → Prop}
variable {ρ : Nat → Nat} {ν : Value} {lk : List Jvm.Cond} {own : String} {cc : ByteArray} {mx fr lo : Nat} {ini : Bool} {E : pm_E} {L L' : pm_L} {S S' : List Value} {ls : Array Slot}
set_option maxHeartbeats 4000000 in
set_option maxRecDepth 100000 in
theorem pm_s0_ok (hx : p.tables.exec = Jvm.exec) (hb : c.code = cc) (hown : s.vm.findClass own = some m.cls) (hts : ∀ w ∈ pm_B, w.before args s = true) (hlk : lk.all pm_w = true) (hok : pm_okE lk own cc mx fr lo ini E = true)
    (hstr : ∀ i, i < 14 → ∀ q, pm_tx[i]? = some q → vk_R "UphillOnly$Script" q.1 q.2.1 (ρ (1000 + i)) s) (hν : ν.category = 1) (h : pm_s0 E L S = some (L', S')) (hl : lv_has ls mx (pm_ll ρ ν L))
    (k : ∀ ls' : Array Slot, lv_has ls' mx (pm_ll ρ ν L') → W p l e R s m args below meth c H locs cells slots Q (F0 m E.2.2.1 ls' (S'.map (pm_rv ρ ν)))) : W p l e R s m args below meth c H locs cells slots Q (F0 m E.1 ls (S.map (pm_rv ρ ν))) := by
  obtain ⟨pc, ins, nx, a, b, d, c64⟩ := E
  cases ins
  case iconst i =>
    simp only [pm_okE, pm_d, Bool.and_eq_true, decide_eq_true_eq] at hok
    obtain ⟨⟨hd, rfl⟩, hv⟩ := hok
    cases h
    exact lv_iconst hx hb hd hv (k ls hl)
  case bipush i =>
    simp only [pm_okE, pm_d, Bool.and_eq_true, decide_eq_true_eq] at hok
    obtain ⟨⟨hd, rfl⟩, hv⟩ := hok
    cases h
    exact lv_bipush hx hb hd hv (k ls hl)
  case sipush i =>
    simp only [pm_okE, pm_d, Bool.and_eq_true, decide_eq_true_eq] at hok
    obtain ⟨⟨hd, rfl⟩, hv⟩ := hok
    cases h
    exact lv_sipush hx hb hd hv (k ls hl)
  case ldc_w i =>
    simp only [pm_okE, pm_d, Bool.and_eq_true, decide_eq_true_eq] at hok
    obtain ⟨⟨hd, rfl⟩, hv⟩ := hok
    cases h
    exact lv_ldcw hx hb hown (hts _ (pm_lk_in hlk hv)) hd (k ls hl)
  case ldc i =>
    cases b with
    | zero =>
      simp only [pm_okE, pm_d, Bool.and_eq_true, decide_eq_true_eq] at hok
      obtain ⟨⟨hd, rfl⟩, hv⟩ := hok
      cases h
      exact lv_ldc hx hb hown (hts _ (pm_lk_in hlk hv)) hd (k ls hl)
    | succ q =>
      simp only [pm_okE, pm_d, Bool.and_eq_true, decide_eq_true_eq] at hok
      obtain ⟨⟨hd, rfl⟩, ⟨⟨rfl, hi⟩, rfl⟩, hq⟩ := hok
      cases h
      cases ht : pm_tx[q]? with
      | none => rw [ht] at hi; cases hi
      | some z =>
        rw [ht] at hi
        cases hi
        have hk := k ls hl
        have e1 : pm_rv ρ ν (.ref (1000 + q)) = .ref (ρ (1000 + q)) := if_neg (show ¬ (1000 + q = 950) by omega)
        rw [List.map_cons, e1] at hk
        exact va_ldcS hx hb hown (hstr q hq z ht) hd hk
  case ldc2_w i =>
    simp only [pm_okE, pm_d, Bool.and_eq_true, decide_eq_true_eq] at hok
    obtain ⟨⟨hd, rfl⟩, hv⟩ := hok
    cases h
    exact lv_ldc2 hx hb hown (hts _ (pm_lk_in hlk hv)) hd (k ls hl)
  case lconst i =>
    simp only [pm_okE, pm_d, Bool.and_eq_true, decide_eq_true_eq] at hok
    obtain ⟨⟨hd, rfl⟩, hv⟩ := hok
    cases h
    exact lv_lconst hx hb hd hv (k ls hl)
  case iload_n i =>
    simp only [pm_okE, pm_d, Bool.and_eq_true, decide_eq_true_eq] at hok
    obtain ⟨⟨hd, rfl⟩, hv⟩ := hok
    simp only [pm_s0] at h
    split at h
    next v hL =>
      cases h
      exact lv_iload_n hx hb hd hv (pm_ll_get hl hL) (k ls hl)
    next => cases h
  case iload i =>
    simp only [pm_okE, pm_d, Bool.and_eq_true, decide_eq_true_eq] at hok
    obtain ⟨⟨hd, rfl⟩, hv⟩ := hok
    simp only [pm_s0] at h
    split at h
    next v hL =>
      cases h
      subst hv
      exact lv_iload hx hb hd (pm_ll_get hl hL) (k ls hl)
    next => cases h
  case lload_n i =>
    simp only [pm_okE, pm_d, Bool.and_eq_true, decide_eq_true_eq] at hok
    obtain ⟨⟨hd, rfl⟩, hv⟩ := hok
    simp only [pm_s0] at h
    split at h
    next v hL =>
      cases h
      exact lv_lload_n hx hb hd hv (pm_ll_get hl hL) (k ls hl)
    next => cases h
  case aload_n i =>
    simp only [pm_okE, pm_d, Bool.and_eq_true, decide_eq_true_eq] at hok
    obtain ⟨⟨hd, rfl⟩, hv⟩ := hok
    simp only [pm_s0] at h
    split at h
    next v hL =>
      split at h
      next => cases h
      next hne =>
        cases h
        have e1 : pm_rv ρ ν (.ref v) = .ref (ρ v) := if_neg hne
        have hk := k ls hl
        rw [List.map_cons, e1] at hk
        have hg := pm_ll_get hl hL
        rw [e1] at hg
        exact lv_aload_n hx hb hd hv hg hk
    next => cases h
  case aload i =>
    simp only [pm_okE, pm_d, Bool.and_eq_true, decide_eq_true_eq] at hok
    obtain ⟨⟨hd, rfl⟩, hv⟩ := hok
    simp only [pm_s0] at h
    split at h
    next v hL =>
      split at h
      next => cases h
      next hne =>
        cases h
        have e1 : pm_rv ρ ν (.ref v) = .ref (ρ v) := if_neg hne
        have hk := k ls hl
        rw [List.map_cons, e1] at hk
        have hg := pm_ll_get hl hL
        rw [e1] at hg
        subst hv
        exact lv_aload hx hb hd hg hk
    next => cases h
  case istore_n i =>
    simp only [pm_okE, pm_d, Bool.and_eq_true, decide_eq_true_eq] at hok
    obtain ⟨⟨⟨hd, rfl⟩, hv⟩, hm⟩ := hok
    simp only [pm_s0] at h
    split at h
    next x r =>
      split at h
      next hnl =>
        cases h
        exact lv_istore_n hx hb hd hv hl hm rfl (fun ls1 hl1 => k ls1 (pm_ll_set (v := .int x) hν hnl hl1))
      next => cases h
    next => cases h
  case istore i =>
    simp only [pm_okE, pm_d, Bool.and_eq_true, decide_eq_true_eq] at hok
    obtain ⟨⟨⟨hd, rfl⟩, hv⟩, hm⟩ := hok
    simp only [pm_s0] at h
    split at h
    next x r =>
      split at h
      next hnl =>
        cases h
        subst hv
        exact lv_istore hx hb hd hl hm rfl (fun ls1 hl1 => k ls1 (pm_ll_set (v := .int x) hν hnl hl1))
      next => cases h
    next => cases h
  case astore_n i =>
    simp only [pm_okE, pm_d, Bool.and_eq_true, decide_eq_true_eq] at hok
    obtain ⟨⟨⟨hd, rfl⟩, hv⟩, hm⟩ := hok
    simp only [pm_s0] at h
    split at h
    next x r =>
      split at h
      next hnl =>
        cases h
        have e1 : pm_rv ρ ν (.ref x) = .ref (ρ x) := if_neg hnl.2
        have hs := pm_ll_set (ρ := ρ) (ν := ν) (L := L) (mx := mx) (d := d) (v := .ref x) (ls' := ls) hν hnl.1
        rw [List.map_cons, e1]
        refine lv_astore_n hx hb hd hv hl hm rfl (fun ls1 hl1 => k ls1 (pm_ll_set (v := .ref x) hν hnl.1 (by rw [e1]; exact hl1)))
      next => cases h
    next => cases h
  case iinc i n =>
    simp only [pm_okE, pm_d, Bool.and_eq_true, decide_eq_true_eq] at hok
    obtain ⟨⟨⟨⟨hd, rfl⟩, hv⟩, hm⟩, ha⟩ := hok
    simp only [pm_s0] at h
    split at h
    next x hL =>
      split at h
      next hnl =>
        cases h
        subst hv
        obtain ⟨q, hq⟩ := List.getElem?_of_mem (pm_ll_mem.mpr ⟨_, hL, rfl⟩ : (i, pm_rv ρ ν (.int x)) ∈ pm_ll ρ ν L)
        exact lv_iinc hx hb hd hl (k := q) (x := x) hq (by rw [ha]) hm rfl (fun ls1 hl1 => k ls1 (pm_ll_set (v := .int (x + a)) hν hnl hl1))
      next => cases h
    next => cases h
  case iadd =>
    simp only [pm_okE, pm_d, Bool.and_eq_true, decide_eq_true_eq] at hok
    obtain ⟨hd, rfl⟩ := hok
    simp only [pm_s0] at h
    split at h
    next y x r =>
      cases h
      exact lv_iadd hx hb hd (k ls hl)
    next => cases h
  case isub =>
    simp only [pm_okE, pm_d, Bool.and_eq_true, decide_eq_true_eq] at hok
    obtain ⟨hd, rfl⟩ := hok
    simp only [pm_s0] at h
    split at h
    next y x r =>
      cases h
      exact lv_isub hx hb hd (k ls hl)
    next => cases h
  case imul =>
    simp only [pm_okE, pm_d, Bool.and_eq_true, decide_eq_true_eq] at hok
    obtain ⟨hd, rfl⟩ := hok
    simp only [pm_s0] at h
    split at h
    next y x r =>
      cases h
      exact lv_imul hx hb hd (k ls hl)
    next => cases h
  case iand =>
    simp only [pm_okE, pm_d, Bool.and_eq_true, decide_eq_true_eq] at hok
    obtain ⟨hd, rfl⟩ := hok
    simp only [pm_s0] at h
    split at h
    next y x r =>
      cases h
      exact lv_iand hx hb hd (k ls hl)
    next => cases h
  case ior =>
    simp only [pm_okE, pm_d, Bool.and_eq_true, decide_eq_true_eq] at hok
    obtain ⟨hd, rfl⟩ := hok
    simp only [pm_s0] at h
    split at h
    next y x r =>
      cases h
      exact lv_ior hx hb hd (k ls hl)
    next => cases h
  case ixor =>
    simp only [pm_okE, pm_d, Bool.and_eq_true, decide_eq_true_eq] at hok
    obtain ⟨hd, rfl⟩ := hok
    simp only [pm_s0] at h
    split at h
    next y x r =>
      cases h
      exact lv_ixor hx hb hd (k ls hl)
    next => cases h
  case ishl =>
    simp only [pm_okE, pm_d, Bool.and_eq_true, decide_eq_true_eq] at hok
    obtain ⟨hd, rfl⟩ := hok
    simp only [pm_s0] at h
    split at h
    next y x r =>
      cases h
      exact lv_ishl hx hb hd (k ls hl)
    next => cases h
  case ishr =>
    simp only [pm_okE, pm_d, Bool.and_eq_true, decide_eq_true_eq] at hok
    obtain ⟨hd, rfl⟩ := hok
    simp only [pm_s0] at h
    split at h
    next y x r =>
      cases h
      exact lv_ishr hx hb hd (k ls hl)
    next => cases h
  case ladd =>
    simp only [pm_okE, pm_d, Bool.and_eq_true, decide_eq_true_eq] at hok
    obtain ⟨hd, rfl⟩ := hok
    simp only [pm_s0] at h
    split at h
    next y x r =>
      cases h
      exact lv_ladd hx hb hd (k ls hl)
    next => cases h
  case lsub =>
    simp only [pm_okE, pm_d, Bool.and_eq_true, decide_eq_true_eq] at hok
    obtain ⟨hd, rfl⟩ := hok
    simp only [pm_s0] at h
    split at h
    next y x r =>
      cases h
      exact lv_lsub hx hb hd (k ls hl)
    next => cases h
  case lmul =>
    simp only [pm_okE, pm_d, Bool.and_eq_true, decide_eq_true_eq] at hok
    obtain ⟨hd, rfl⟩ := hok
    simp only [pm_s0] at h
    split at h
    next y x r =>
      cases h
      exact lv_lmul hx hb hd (k ls hl)
    next => cases h
  case land =>
    simp only [pm_okE, pm_d, Bool.and_eq_true, decide_eq_true_eq] at hok
    obtain ⟨hd, rfl⟩ := hok
    simp only [pm_s0] at h
    split at h
    next y x r =>
      cases h
      exact lv_land hx hb hd (k ls hl)
    next => cases h
  case lor =>
    simp only [pm_okE, pm_d, Bool.and_eq_true, decide_eq_true_eq] at hok
    obtain ⟨hd, rfl⟩ := hok
    simp only [pm_s0] at h
    split at h
    next y x r =>
      cases h
      exact lv_lor hx hb hd (k ls hl)
    next => cases h
  case iushr =>
    simp only [pm_okE, pm_d, Bool.and_eq_true, decide_eq_true_eq] at hok
    obtain ⟨hd, rfl⟩ := hok
    simp only [pm_s0] at h
    split at h
    next y x r =>
      cases h
      exact lv_iushr hx hb hd rfl (k ls hl)
    next => cases h
  case lshl =>
    simp only [pm_okE, pm_d, Bool.and_eq_true, decide_eq_true_eq] at hok
    obtain ⟨hd, rfl⟩ := hok
    simp only [pm_s0] at h
    split at h
    next y x r =>
      cases h
      exact lv_lshl hx hb hd rfl (k ls hl)
    next => cases h
  case lshr =>
    simp only [pm_okE, pm_d, Bool.and_eq_true, decide_eq_true_eq] at hok
    obtain ⟨hd, rfl⟩ := hok
    simp only [pm_s0] at h
    split at h
    next y x r =>
      cases h
      exact lv_lshr hx hb hd rfl (k ls hl)
    next => cases h
  case lcmp =>
    simp only [pm_okE, pm_d, Bool.and_eq_true, decide_eq_true_eq] at hok
    obtain ⟨hd, rfl⟩ := hok
    simp only [pm_s0] at h
    split at h
    next y x r =>
      cases h
      exact W.lcmp hx hb hd (k ls hl)
    next => cases h
  case idiv =>
    simp only [pm_okE, pm_d, Bool.and_eq_true, decide_eq_true_eq] at hok
    obtain ⟨hd, rfl⟩ := hok
    simp only [pm_s0] at h
    split at h
    next y x r =>
      split at h
      next => cases h
      next hne =>
        cases h
        exact lv_idiv hx hb hd hne (k ls hl)
    next => cases h
  case irem =>
    simp only [pm_okE, pm_d, Bool.and_eq_true, decide_eq_true_eq] at hok
    obtain ⟨hd, rfl⟩ := hok
    simp only [pm_s0] at h
    split at h
    next y x r =>
      split at h
      next => cases h
      next hne =>
        cases h
        exact lv_irem hx hb hd hne (k ls hl)
    next => cases h
  case i2l =>
    simp only [pm_okE, pm_d, Bool.and_eq_true, decide_eq_true_eq] at hok
    obtain ⟨hd, rfl⟩ := hok
    simp only [pm_s0] at h
    split at h
    next x r =>
      cases h
      exact lv_i2l hx hb hd rfl (k ls hl)
    next => cases h
  case l2i =>
    simp only [pm_okE, pm_d, Bool.and_eq_true, decide_eq_true_eq] at hok
    obtain ⟨hd, rfl⟩ := hok
    simp only [pm_s0] at h
    split at h
    next x r =>
      cases h
      exact lv_l2i hx hb hd rfl (k ls hl)
    next => cases h
  case i2c =>
    simp only [pm_okE, pm_d, Bool.and_eq_true, decide_eq_true_eq] at hok
    obtain ⟨hd, rfl⟩ := hok
    simp only [pm_s0] at h
    split at h
    next x r =>
      cases h
      exact lv_i2c hx hb hd rfl (k ls hl)
    next => cases h
  case dup =>
    simp only [pm_okE, pm_d, Bool.and_eq_true, decide_eq_true_eq] at hok
    obtain ⟨hd, rfl⟩ := hok
    simp only [pm_s0] at h
    split at h
    next x r =>
      cases h
      exact lv_dup hx hb hd rfl (k ls hl)
    next x r =>
      cases h
      exact lv_dup hx hb hd (pm_rv_cat hν (.ref x)) (k ls hl)
    next => cases h
  case pop =>
    simp only [pm_okE, pm_d, Bool.and_eq_true, decide_eq_true_eq] at hok
    obtain ⟨hd, rfl⟩ := hok
    simp only [pm_s0] at h
    split at h
    next x r =>
      cases h
      exact lv_pop hx hb hd rfl (k ls hl)
    next => cases h
  all_goals (simp only [pm_s0] at h; cases h)
theorem pm_sw_spec (x : Int32) (pc b : Nat) : ∀ (offs : List Int) (k : Int), -1000 ≤ k → k + offs.length ≤ 3000 → (∀ o ∈ offs, 0 ≤ (pc : Int) + o) → (x.toInt < k ∨ k + offs.length ≤ x.toInt → pm_sw x pc k offs b = b) ∧ (k ≤ x.toInt → x.toInt < k + offs.length → ∃ o, offs[(x.toInt - k).toNat]? = some o ∧ (pc : Int) + o = (pm_sw x pc k offs b : Nat)) := by
  intro offs
  induction offs with
  | nil =>
    intro k h1 h2 h3
    refine ⟨fun _ => rfl, fun h4 h5 => ?_⟩
    simp at h5
    omega
  | cons o t ih =>
    intro k h1 h2 h3
    have hlen : ((o :: t).length : Int) = t.length + 1 := by simp
    rw [hlen] at h2
    obtain ⟨i1, i2⟩ := ih (k + 1) (by omega) (by omega) (fun q hq => h3 q (List.mem_cons_of_mem _ hq))
    have hko : (Int32.ofInt k).toInt = k := Int32.toInt_ofInt_of_le (by omega) (by omega)
    refine ⟨fun h4 => ?_, fun h4 h5 => ?_⟩
    · rw [hlen] at h4
      unfold pm_sw
      rw [if_neg (fun q => by rw [q, hko] at h4; omega)]
      exact i1 (by omega)
    · rw [hlen] at h5
      unfold pm_sw
      by_cases hq : x = Int32.ofInt k
      · rw [if_pos hq]
        have he : x.toInt = k := by rw [hq, hko]
        refine ⟨o, by rw [he, Int.sub_self]; rfl, ?_⟩
        rw [Int.toNat_of_nonneg (h3 o List.mem_cons_self)]
      · rw [if_neg hq]
        have hne : x.toInt ≠ k := fun z => hq (Int32.toInt_inj.mp (by rw [hko]; exact z))
        obtain ⟨o', g1, g2⟩ := i2 (by omega) (by omega)
        refine ⟨o', ?_, g2⟩
        rw [show (x.toInt - k).toNat = (x.toInt - (k + 1)).toNat + 1 by omega]
        exact g1
set_option maxHeartbeats 4000000 in
set_option maxRecDepth 100000 in
theorem pm_s1_ok {pc' : Nat} (hx : p.tables.exec = Jvm.exec) (hb : c.code = cc) (hok : pm_okE lk own cc mx fr lo ini E = true) (h : pm_s1 E S = some (pc', S'))
    (k : W p l e R s m args below meth c H locs cells slots Q (F0 m pc' ls (S'.map (pm_rv ρ ν)))) : W p l e R s m args below meth c H locs cells slots Q (F0 m E.1 ls (S.map (pm_rv ρ ν))) := by
  obtain ⟨pc, ins, nx, a, b, d, c64⟩ := E
  cases ins
  case goto off =>
    simp only [pm_okE, pm_d, Bool.and_eq_true, decide_eq_true_eq] at hok
    obtain ⟨⟨hd, rfl⟩, ht⟩ := hok
    cases h
    exact lv_goto hx hb hd ht k
  case if_icmp cd off =>
    simp only [pm_okE, pm_d, Bool.and_eq_true, decide_eq_true_eq] at hok
    obtain ⟨⟨hd, rfl⟩, ht⟩ := hok
    simp only [pm_s1] at h
    split at h
    next y x r =>
      cases cd
      case eq =>
        cases h
        exact lv_icmp_eq hx hb hd ht (fun q => by rw [if_pos q] at k; exact k) (fun q => by rw [if_neg q] at k; exact k)
      case ne =>
        cases h
        exact lv_icmp_ne hx hb hd ht (fun q => by rw [if_neg q] at k; exact k) (fun q => by rw [if_pos q] at k; exact k)
      case lt =>
        cases h
        exact lv_icmp_lt hx hb hd ht (fun q => by rw [if_pos q] at k; exact k) (fun q => by rw [if_neg q] at k; exact k)
      case ge =>
        cases h
        exact lv_icmp_ge hx hb hd ht (fun q => by rw [if_pos q] at k; exact k) (fun q => by rw [if_neg q] at k; exact k)
      case gt =>
        cases h
        exact lv_icmp_gt hx hb hd ht (fun q => by rw [if_pos q] at k; exact k) (fun q => by rw [if_neg q] at k; exact k)
      case le =>
        cases h
        exact lv_icmp_le hx hb hd ht (fun q => by rw [if_pos q] at k; exact k) (fun q => by rw [if_neg q] at k; exact k)
    next => cases h
  case ifCond cd off =>
    simp only [pm_okE, pm_d, Bool.and_eq_true, decide_eq_true_eq] at hok
    obtain ⟨⟨hd, rfl⟩, ht⟩ := hok
    simp only [pm_s1] at h
    split at h
    next x r =>
      cases cd
      case eq =>
        cases h
        exact lv_if_eq hx hb hd ht (fun q => by rw [if_pos q] at k; exact k) (fun q => by rw [if_neg q] at k; exact k)
      case ne =>
        cases h
        exact lv_if_ne hx hb hd ht (fun q => by rw [if_neg q] at k; exact k) (fun q => by rw [if_pos q] at k; exact k)
      case lt =>
        cases h
        exact lv_if_lt hx hb hd ht (fun q => by rw [if_pos q] at k; exact k) (fun q => by rw [if_neg q] at k; exact k)
      case ge =>
        cases h
        exact lv_if_ge hx hb hd ht (fun q => by rw [if_pos q] at k; exact k) (fun q => by rw [if_neg q] at k; exact k)
      case gt =>
        cases h
        exact lv_if_gt hx hb hd ht (fun q => by rw [if_pos q] at k; exact k) (fun q => by rw [if_neg q] at k; exact k)
      case le =>
        cases h
        exact lv_if_le hx hb hd ht (fun q => by rw [if_pos q] at k; exact k) (fun q => by rw [if_neg q] at k; exact k)
    next => cases h
  case tableswitch df l9 h9 offs =>
    simp only [pm_okE, Bool.and_eq_true, decide_eq_true_eq] at hok
    obtain ⟨⟨⟨⟨hd, hdf⟩, hh⟩, hr⟩, ho⟩ := hok
    simp only [pm_s1] at h
    split at h
    next x r =>
      cases h
      have ho' : ∀ o ∈ offs.toList, 0 ≤ (pc : Int) + o := fun o hm => by simpa using List.all_eq_true.mp ho o hm
      obtain ⟨g1, g2⟩ := pm_sw_spec x pc b offs.toList l9 (by omega) (by omega) ho'
      by_cases h1 : x.toInt < l9 ∨ h9 < x.toInt
      · rw [g1 (by omega)] at k
        exact lv_tableOut hx hb hd h1 hdf k
      · obtain ⟨o, e1, e2⟩ := g2 (by omega) (by omega)
        exact lv_tableIn hx hb hd (by omega) (by omega) (by rw [← Array.getElem?_toList]; exact e1) e2 k
    next => cases h
  all_goals (simp only [pm_s1] at h; cases h)
end PMS
end
section
/-! the cells as the machine has them -/
section PMH
variable (aI aZ : ClassId) (base : Nat) (ρ : Nat → Nat) (ν : Value)
def pm_el (R : Nat → Nat → Nat) (I : Nat → Nat → Int32) (J : Nat → Nat → Int64) (c : Nat) : va_E := match pm_sh[c]? with
  | some (k, N) => if k < 5 then .inr (k, (List.range N).map (fun j => pm_rv ρ ν (pm_gv (pm_ty k j) R I J c j))) else .inl (if k = 10 then aI else aZ, N, .inl (I c))
  | none => .inl (aI, 0, .inl (I c))
def pm_ws (w : pm_Wo) : va_W := (List.range w.1).map (fun c => (base + c, pm_el aI aZ ρ ν w.2.1 w.2.2.1 w.2.2.2 c))
def pm_HW (D : va_G) (w : pm_Wo) (H : Heap) : Prop := va_P D pm_cl (pm_ws aI aZ base ρ ν w) H ∧ w.1 ≤ 41
end PMH
section PMI
variable {aI aZ : ClassId} {base : Nat} {ρ : Nat → Nat} {ν : Value} {n : Nat} {R : Nat → Nat → Nat} {I : Nat → Nat → Int32} {J : Nat → Nat → Int64}
theorem pm_ws_get {w : pm_Wo} {c : Nat} (h : c < w.1) : (pm_ws aI aZ base ρ ν w)[c]? = some (base + c, pm_el aI aZ ρ ν w.2.1 w.2.2.1 w.2.2.2 c) := by
  unfold pm_ws
  rw [List.getElem?_map, List.getElem?_range h]
  rfl
theorem pm_ws_len {w : pm_Wo} : (pm_ws aI aZ base ρ ν w).length = w.1 := by simp [pm_ws]
theorem pm_ws_D {w : pm_Wo} : va_D (fun q => base ≤ q) (pm_ws aI aZ base ρ ν w) := by
  have key : ∀ (i : Nat) (p : Nat × va_E), (pm_ws aI aZ base ρ ν w)[i]? = some p → p.1 = base + i := by
    intro i p hp
    have hi : i < w.1 := by
      have := (List.getElem?_eq_some_iff.mp hp).1
      rwa [pm_ws_len] at this
    rw [pm_ws_get hi] at hp
    cases hp
    rfl
  refine ⟨fun i j p q hp hq he => ?_, fun k q hq => ?_⟩
  · rw [key i p hp, key j q hq] at he
    omega
  · rw [key k q hq]
    exact Nat.le_add_right _ _
theorem pm_u_same {α : Type} {f : Nat → Nat → α} {c j : Nat} {v : α} : pm_u f c j v c j = v := if_pos ⟨rfl, rfl⟩
theorem pm_u_cell {α : Type} {f : Nat → Nat → α} {c j : Nat} {v : α} {c' : Nat} (h : c' ≠ c) : pm_u f c j v c' = f c' := by
  funext j'
  exact if_neg (fun q => h q.1)
theorem pm_u_slot {α : Type} {f : Nat → Nat → α} {c j : Nat} {v : α} {c' j' : Nat} (h : j' ≠ j) : pm_u f c j v c' j' = f c' j' := if_neg (fun q => h q.2)
theorem pm_gv_I {ty : FieldType} {c j c' j' : Nat} {x : Int32} (h : c' = c → j' ≠ j) : pm_gv ty R (pm_u I c j x) J c' j' = pm_gv ty R I J c' j' := by
  have e : pm_u I c j x c' j' = I c' j' := if_neg (fun q => h q.1 q.2)
  unfold pm_gv
  split
  · rw [e]
  · rfl
  · rfl
theorem pm_gv_J {ty : FieldType} {c j c' j' : Nat} {x : Int64} (h : c' = c → j' ≠ j) : pm_gv ty R I (pm_u J c j x) c' j' = pm_gv ty R I J c' j' := by
  have e : pm_u J c j x c' j' = J c' j' := if_neg (fun q => h q.1 q.2)
  unfold pm_gv
  split
  · rfl
  · rw [e]
  · rfl
theorem pm_gv_R {ty : FieldType} {c j c' j' : Nat} {x : Nat} (h : c' = c → j' ≠ j) : pm_gv ty (pm_u R c j x) I J c' j' = pm_gv ty R I J c' j' := by
  have e : pm_u R c j x c' j' = R c' j' := if_neg (fun q => h q.1 q.2)
  unfold pm_gv
  split
  · rfl
  · rfl
  · rw [e]
/-- cells that agree but in one: the list with that one set -/
theorem pm_ws_set {R' : Nat → Nat → Nat} {I' : Nat → Nat → Int32} {J' : Nat → Nat → Int64} {c : Nat} {x : va_E} (h1 : pm_el aI aZ ρ ν R' I' J' c = x) (h2 : ∀ c', c' ≠ c → pm_el aI aZ ρ ν R' I' J' c' = pm_el aI aZ ρ ν R I J c') : (pm_ws aI aZ base ρ ν (n, R, I, J)).set c (base + c, x) = pm_ws aI aZ base ρ ν (n, R', I', J') := by
  apply List.ext_getElem?
  intro i
  rw [List.getElem?_set]
  by_cases hi : i < n
  · rw [pm_ws_get (w := (n, R', I', J')) hi]
    by_cases hc : c = i
    · subst hc
      rw [if_pos rfl, if_pos (by rw [pm_ws_len]; exact hi), ← h1]
    · rw [if_neg hc, pm_ws_get (w := (n, R, I, J)) hi, h2 i (fun q => hc q.symm)]
  · have e1 : ∀ w : pm_Wo, w.1 = n → (pm_ws aI aZ base ρ ν w)[i]? = none := fun w hw => by
      rw [List.getElem?_eq_none]
      rw [pm_ws_len, hw]
      omega
    rw [e1 (n, R', I', J') rfl, e1 (n, R, I, J) rfl, pm_ws_len]
    split
    · rw [if_neg (by show ¬ c < n; omega)]
    · rfl
theorem pm_el_obj {c k N : Nat} (h : pm_sh[c]? = some (k, N)) (hk : k < 5) : pm_el aI aZ ρ ν R I J c = .inr (k, (List.range N).map (fun j => pm_rv ρ ν (pm_gv (pm_ty k j) R I J c j))) := by
  unfold pm_el
  rw [h]
  exact if_pos hk
theorem pm_el_arr {c k N : Nat} (h : pm_sh[c]? = some (k, N)) (hk : ¬ k < 5) : pm_el aI aZ ρ ν R I J c = .inl (if k = 10 then aI else aZ, N, .inl (I c)) := by
  unfold pm_el
  rw [h]
  exact if_neg hk
theorem pm_el_cong {R' : Nat → Nat → Nat} {I' : Nat → Nat → Int32} {J' : Nat → Nat → Int64} {c : Nat} (hR : R' c = R c) (hI : I' c = I c) (hJ : J' c = J c) : pm_el aI aZ ρ ν R' I' J' c = pm_el aI aZ ρ ν R I J c := by
  unfold pm_el pm_gv
  rw [hR, hI, hJ]
/-- an object with one slot set -/
theorem pm_el_put {R' : Nat → Nat → Nat} {I' : Nat → Nat → Int32} {J' : Nat → Nat → Int64} {c k N d : Nat} {v : Value} (h : pm_sh[c]? = some (k, N)) (hk : k < 5) (h1 : pm_gv (pm_ty k d) R' I' J' c d = v) (h2 : ∀ j, j ≠ d → pm_gv (pm_ty k j) R' I' J' c j = pm_gv (pm_ty k j) R I J c j) :
    pm_el aI aZ ρ ν R' I' J' c = .inr (k, ((List.range N).map (fun j => pm_rv ρ ν (pm_gv (pm_ty k j) R I J c j))).set d (pm_rv ρ ν v)) := by
  rw [pm_el_obj h hk]
  congr 2
  apply List.ext_getElem?
  intro i
  rw [List.getElem?_set]
  by_cases hi : i < N
  · rw [List.getElem?_map, List.getElem?_range hi]
    by_cases hd : d = i
    · subst hd
      rw [if_pos rfl, if_pos (by simpa using hi), ← h1]
      rfl
    · rw [if_neg hd, List.getElem?_map, List.getElem?_range hi]
      simp only [Option.map_some, h2 i (fun q => hd q.symm)]
  · have e1 : ∀ f : Nat → Value, ((List.range N).map f)[i]? = none := fun f => by
      rw [List.getElem?_eq_none]
      simp
      omega
    rw [e1, e1]
    split
    · rw [if_neg (by simp; omega)]
    · rfl
/-- one cell more -/
theorem pm_ws_push {R' : Nat → Nat → Nat} {I' : Nat → Nat → Int32} {J' : Nat → Nat → Int64} {x : va_E} (h1 : pm_el aI aZ ρ ν R' I' J' n = x) (h2 : ∀ c', c' ≠ n → pm_el aI aZ ρ ν R' I' J' c' = pm_el aI aZ ρ ν R I J c') : pm_ws aI aZ base ρ ν (n, R, I, J) ++ [(base + n, x)] = pm_ws aI aZ base ρ ν (n + 1, R', I', J') := by
  unfold pm_ws
  rw [List.range_succ, List.map_append, List.map_cons, List.map_nil, h1]
  congr 1
  apply List.map_congr_left
  intro c hc
  have : c < n := by simpa using hc
  rw [h2 c (by omega)]
end PMI
theorem pm_cl_ok (b : Nat) (q : vw_C) (h : pm_cl[b]? = some q) : (∀ w ∈ u_ws q.1 q.2.1 q.2.2, w ∈ pm_B) ∧ (∀ k, k < q.2.2 → parseFieldDescriptor (q.2.1 k).2.2.1 = some (pm_ty b k)) ∧ ∀ a, a < q.2.2 → ∀ b, b < q.2.2 → a ≠ b → (q.2.1 a).2.1 ≠ (q.2.1 b).2.1 := by
  have key : ∀ ws : List Jvm.Cond, ws.all pm_w = true → ∀ w ∈ ws, w ∈ pm_B := fun ws hw w hm => pm_w_in (List.all_eq_true.mp hw w hm)
  match b, h with
  | 0, h => cases h; exact ⟨key _ (by decide +kernel), tyX0_ok, nmX0⟩
  | 1, h => cases h; exact ⟨key _ (by decide +kernel), tyX1_ok, nmX1⟩
  | 2, h => cases h; exact ⟨key _ (by decide +kernel), tyX2_ok, nmX2⟩
  | 3, h => cases h; exact ⟨key _ (by decide +kernel), tyX3_ok, nmX3⟩
  | 4, h => cases h; exact ⟨key _ (by decide +kernel), tyX4_ok, nmX4⟩
  | n + 5, h => simp [pm_cl] at h
theorem pm_sh_ok : ∀ q ∈ pm_sh, q.1 < 5 ∧ (∃ z, pm_cl[q.1]? = some z ∧ z.2.2 = q.2) ∨ q.1 = 10 ∨ q.1 = 11 := by
  have h : pm_sh.all (fun q => (decide (q.1 < 5) && decide ((pm_cl[q.1]?).map (fun z => z.2.2) = some q.2)) || (q.1 == 10 || q.1 == 11)) = true := by decide +kernel
  intro q hq
  have := List.all_eq_true.mp h q hq
  simp only [Bool.or_eq_true, Bool.and_eq_true, decide_eq_true_eq, beq_iff_eq] at this
  rcases this with ⟨h1, h2⟩ | h3
  · left
    refine ⟨h1, ?_⟩
    cases hz : pm_cl[q.1]? with
    | none => rw [hz] at h2; cases h2
    | some z => rw [hz] at h2; exact ⟨z, rfl, Option.some.inj h2⟩
  · exact Or.inr h3
theorem pm_sh_len : pm_sh.length = 41 := by decide +kernel
end
section
/-- what stands outside the cells: rows, statics, texts -/
def pm_XE (X : Nat × (Nat → Int32)) (ρ : Nat → Nat) (ν : Value) (A : Nat → Prop) (U : State) (H : Heap) : Prop :=
  (∀ k q, pm_xa X k = some q → va_T q.1 (ρ k) q.2.1 (fun j => .int (q.2.2 j)) A U H) ∧
  (∀ i, i < 4 → va_Z (pm_sn i).1.1 (pm_sn i).1.2.1 (pm_sn i).1.2.2 (pm_rv ρ ν (pm_sn i).2) A U H) ∧
  (∀ i, i < 14 → va_O "java/lang/String" (ρ (1000 + i)) A U H ∧ va_OF "java/lang/String" "coder" "B" (.int 0) (ρ (1000 + i)) A U H ∧ va_OF "java/lang/String" "value" "[B" (.ref (ρ (1000 + i + 100))) (ρ (1000 + i)) A U H) ∧
  (∀ i, i < 14 → ∀ q, pm_tx[i]? = some q → vk_R "UphillOnly$Script" q.1 q.2.1 (ρ (1000 + i)) U)
theorem pm_XE.moved {X : Nat × (Nat → Int32)} {ρ : Nat → Nat} {ν : Value} {A : Nat → Prop} {u U : State} {H H1 : Heap} (h : pm_XE X ρ ν A u H) (hW : u.WarmedH U.vm) (hq : ∀ a : Nat, a < H.size → ¬ A a → H1[a]? = H[a]?) : pm_XE X ρ ν A U H1 :=
  ⟨fun k q hk => ((h.1 k q hk).kept hq).moved hW.alike, fun i hi => ((h.2.1 i hi).kept hq).moved hW.alike, fun i hi => ⟨((h.2.2.1 i hi).1.kept hq).moved hW.alike, ((h.2.2.1 i hi).2.1.kept hq).moved hW.alike, ((h.2.2.1 i hi).2.2.kept hq).moved hW.alike⟩, fun i hi q hk => (h.2.2.2 i hi q hk).warm hW⟩
def pm_ss (n : Nat) : Nat := ((pm_sh.take n).map (fun q => q.2)).sum
theorem pm_ss_succ {n k N : Nat} (h : pm_sh[n]? = some (k, N)) : pm_ss (n + 1) = pm_ss n + N := by
  unfold pm_ss
  rw [List.take_add_one, h]
  simp
theorem pm_sh_lt {r k N : Nat} (h : pm_sh[r]? = some (k, N)) : r < 41 := by
  have := (List.getElem?_eq_some_iff.mp h).1
  rwa [pm_sh_len] at this
theorem pm_sh_N {r k N : Nat} (h : pm_sh[r]? = some (k, N)) : N ≤ 200 := by
  have h1 : pm_sh.all (fun q => decide (q.2 ≤ 200)) = true := by decide +kernel
  simpa using List.all_eq_true.mp h1 _ (List.mem_of_getElem? h)
theorem pm_ty_cases (b j : Nat) : pm_ty b j = .int ∨ pm_ty b j = .long ∨ (∃ t, pm_ty b j = .array t) ∨ ∃ t, pm_ty b j = .object t := by
  unfold pm_ty
  split
  · unfold tyX0; split <;> simp
  · unfold tyX1; split <;> simp
  · unfold tyX2; split <;> simp
  · unfold tyX3; split <;> simp
  · unfold tyX4; split <;> simp
theorem pm_str (r : Nat) (h1 : 1000 ≤ r) (h2 : r < 1014) : ∃ i : Nat, i < 14 ∧ r = 1000 + i := ⟨r - 1000, by omega, by omega⟩
section PMT
variable {p : Program} {l : Launch} {e : Env} {R : Room} {s : State} {m : MethodId} {args : Array Value} {below : List Frame} {meth : Method} {c : Code} {H : Heap} {locs : List Loc} {cells slots : Nat} {Q : State → Prop}
variable {X : Nat × (Nat → Int32)} {D : va_G} {aI aZ : ClassId} {base n0 : Nat} {ρ : Nat → Nat} {ν : Value} {lk : List Jvm.Cond} {own : String} {cc : ByteArray} {mx fr lo : Nat} {ini : Bool} {E : pm_E} {L L' : pm_L} {S S' : List Value} {ls : Array Slot} {w w' : pm_Wo}
/-- how large the heap is: as many cells as there are -/
theorem pm_sz {g : JFrame} (hH : pm_HW aI aZ base ρ ν D w H) (hS : va_S (fun q => base ≤ q) s.heap H locs) (h0 : s.heap.size = base + n0) (hc : cells = w.1 - n0) (hn : n0 ≤ w.1) (k : H.size = base + w.1 → W p l e R s m args below meth c H locs cells slots Q g) : W p l e R s m args below meth c H locs cells slots Q g := by
  intro T hT Z
  refine k ?_ T hT Z
  have h1 : H.size ≤ s.heap.size + cells := by rw [← hT]; exact Z.heapSize
  have h2 : base + w.1 ≤ H.size := by
    by_cases hz : w.1 = n0
    · rw [hz, ← h0]; exact hS.1
    · have h3 := (hH.1 (w.1 - 1) _ (pm_ws_get (show w.1 - 1 < w.1 by omega))).lt
      dsimp only at h3
      omega
  omega
set_option maxHeartbeats 4000000 in
set_option maxRecDepth 100000 in
theorem pm_s2_ok (hx : p.tables.exec = Jvm.exec) (hb : c.code = cc) (hml : c.maxLocals = mx) (hsl : ls.size = mx) (hown : s.vm.findClass own = some m.cls) (hts : ∀ w ∈ pm_B, w.before args s = true) (hlk : lk.all pm_w = true) (hok : pm_okE lk own cc mx fr lo ini E = true) (hR : fr ≤ R.frames ∧ lo ≤ R.locals) (hini : ini = true → meth.name = "<init>")
    (hK : va_K D pm_cl [(aI, .int), (aZ, .boolean)] s) (hXE : pm_XE X ρ ν (fun q => base ≤ q) s s.heap) (hρ : ∀ k, k < 41 → ρ k = base + k) (hν : ν.category = 1)
    (hH : pm_HW aI aZ base ρ ν D w H) (hS : va_S (fun q => base ≤ q) s.heap H locs) (h0 : s.heap.size = base + n0) (hc : cells = w.1 - n0) (hn : n0 ≤ w.1) (h : pm_s2 X E S w = some (S', w')) (hrc : cells + (w'.1 - w.1) ≤ R.cells) (hrs : slots + (pm_ss w'.1 - pm_ss w.1) ≤ R.slots)
    (k : ∀ (H' : Heap) (locs' : List Loc), pm_HW aI aZ base ρ ν D w' H' → va_S (fun q => base ≤ q) s.heap H' locs' → W p l e R s m args below meth c H' locs' (cells + (w'.1 - w.1)) (slots + (pm_ss w'.1 - pm_ss w.1)) Q (F0 m E.2.2.1 ls (S'.map (pm_rv ρ ν)))) : W p l e R s m args below meth c H locs cells slots Q (F0 m E.1 ls (S.map (pm_rv ρ ν))) := by
  obtain ⟨pc, ins, nx, a, b, d, c64⟩ := E
  obtain ⟨n, R0, I, J⟩ := w
  have hrr : ∀ r : Nat, r < 41 → pm_rv ρ ν (.ref r) = .ref (base + r) := fun r hr => by
    show (if r = 950 then ν else .ref (ρ r)) = _
    rw [if_neg (show ¬ r = 950 by omega), hρ r hr]
  have hrx : ∀ r : Nat, r ≠ 950 → pm_rv ρ ν (.ref r) = .ref (ρ r) := fun r hr => if_neg hr
  have hA : ∀ q, s.heap.size ≤ q → (fun q => base ≤ q) q := fun q hq => by show base ≤ q; omega
  have hD := pm_ws_D (aI := aI) (aZ := aZ) (base := base) (ρ := ρ) (ν := ν) (w := (n, R0, I, J))
  cases ins
  case getfield i =>
    simp only [pm_okE, pm_d, Bool.and_eq_true, decide_eq_true_eq] at hok
    obtain ⟨⟨hd, rfl⟩, hok⟩ := hok
    simp only [pm_s2] at h
    split at h
    next r s9 =>
      split at h
      next k9 N hsh =>
        split at h
        next hcd =>
          obtain ⟨rfl, hr, hdN, hb5⟩ := hcd
          cases h
          rw [if_neg (by omega)] at hok
          rcases pm_sh_ok _ (List.mem_of_getElem? hsh) with ⟨-, z, hz, hzN⟩ | hh
          · obtain ⟨C, T, N'⟩ := z
            dsimp only at hzN
            subst hzN
            simp only [pm_okF, hz, Bool.and_eq_true, decide_eq_true_eq] at hok
            rw [List.map_cons, hrr r (pm_sh_lt hsh)]
            have hk := k H locs hH hS
            simp only [Nat.sub_self, Nat.add_zero, List.map_cons] at hk
            have he := pm_ws_get (aI := aI) (aZ := aZ) (base := base) (ρ := ρ) (ν := ν) (w := (n, R0, I, J)) (c := r) hr
            rw [pm_el_obj hsh hb5] at he
            exact va_get (D := D) hx hb hts (pm_cl_ok _ _ hz).1 hown hK hH.1 r he hz d hdN (hts _ (pm_lk_in hlk hok.1)) (fun _ h9 => h9) (by rw [List.getElem?_map, List.getElem?_range hdN]; rfl) hd hk
          · dsimp only at hh; omega
        next => cases h
      next hsh =>
        split at h
        next hcd =>
          obtain ⟨hb9, hr1, hr2⟩ := hcd
          subst hb9
          obtain ⟨i9, hi9, rfl⟩ := pm_str r hr1 hr2
          rw [if_pos rfl] at hok
          obtain ⟨g1, g2, g3⟩ := hXE.2.2.1 i9 hi9
          rw [List.map_cons, hrx (1000 + i9) (by omega)]
          cases d with
          | zero =>
            cases h
            have hk := k H locs hH hS
            simp only [Nat.sub_self, Nat.add_zero, List.map_cons] at hk
            rw [hrx (1000 + i9 + 100) (by omega)] at hk
            exact vk_getf hx hb g3 hS hown (hts _ (pm_lk_in hlk (by simpa using hok))) (fun _ h9 => h9) hd hk
          | succ d =>
            cases h
            have hk := k H locs hH hS
            simp only [Nat.sub_self, Nat.add_zero, List.map_cons] at hk
            exact vk_getf hx hb g2 hS hown (hts _ (pm_lk_in hlk (by simpa using hok))) (fun _ h9 => h9) hd hk
        next => cases h
    next => cases h
  case putfield i =>
    simp only [pm_okE, pm_d, Bool.and_eq_true, decide_eq_true_eq] at hok
    obtain ⟨⟨⟨hd, rfl⟩, hok⟩, hfn⟩ := hok
    simp only [pm_s2] at h
    split at h
    next v r s9 =>
      split at h
      next k9 N hsh =>
        split at h
        next hcd =>
          obtain ⟨rfl, hr, hdN, hb5⟩ := hcd
          rcases pm_sh_ok _ (List.mem_of_getElem? hsh) with ⟨-, z, hz, hzN⟩ | hh
          · obtain ⟨C, T, N'⟩ := z
            dsimp only at hzN
            subst hzN
            simp only [pm_okF, hz, Bool.and_eq_true, decide_eq_true_eq] at hok
            rw [List.map_cons, List.map_cons, hrr r (pm_sh_lt hsh)]
            have he := pm_ws_get (aI := aI) (aZ := aZ) (base := base) (ρ := ρ) (ν := ν) (w := (n, R0, I, J)) (c := r) hr
            rw [pm_el_obj hsh hb5] at he
            have hpd := (pm_cl_ok _ _ hz).2.1 d hdN
            have hput : ∀ (R1 : Nat → Nat → Nat) (I1 : Nat → Nat → Int32) (J1 : Nat → Nat → Int64), narrow (pm_ty k9 d) (pm_rv ρ ν v) = pm_rv ρ ν v → fits (pm_ty k9 d) (pm_rv ρ ν v) = true → pm_gv (pm_ty k9 d) R1 I1 J1 r d = v → (∀ c' j, c' = r → j ≠ d → ∀ ty, pm_gv ty R1 I1 J1 c' j = pm_gv ty R0 I J c' j) → (∀ c', c' ≠ r → R1 c' = R0 c' ∧ I1 c' = I c' ∧ J1 c' = J c') → w' = (n, R1, I1, J1) → S' = s9 → W p l e R s m args below meth c H locs cells slots Q (F0 m pc ls (pm_rv ρ ν v :: .ref (base + r) :: s9.map (pm_rv ρ ν))) := by
              intro R1 I1 J1 hnar hfit hg1 hg2 hg3 hw hs
              subst hw hs
              have hset : (pm_ws aI aZ base ρ ν (n, R0, I, J)).set r (base + r, .inr (k9, ((List.range N').map (fun j => pm_rv ρ ν (pm_gv (pm_ty k9 j) R0 I J r j))).set d (pm_rv ρ ν v))) = pm_ws aI aZ base ρ ν (n, R1, I1, J1) := pm_ws_set (pm_el_put hsh hb5 hg1 (fun j hj => hg2 r j rfl hj _)) (fun c' hc' => pm_el_cong (hg3 c' hc').1 (hg3 c' hc').2.1 (hg3 c' hc').2.2)
              have kk : ∀ (H1 : Heap) (locs1 : List Loc), va_P D pm_cl ((pm_ws aI aZ base ρ ν (n, R0, I, J)).set r (base + r, .inr (k9, ((List.range N').map (fun j => pm_rv ρ ν (pm_gv (pm_ty k9 j) R0 I J r j))).set d (pm_rv ρ ν v)))) H1 → va_D (fun q => base ≤ q) ((pm_ws aI aZ base ρ ν (n, R0, I, J)).set r (base + r, .inr (k9, ((List.range N').map (fun j => pm_rv ρ ν (pm_gv (pm_ty k9 j) R0 I J r j))).set d (pm_rv ρ ν v)))) → va_S (fun q => base ≤ q) s.heap H1 locs1 → W p l e R s m args below meth c H1 locs1 cells slots Q (F0 m (pc + 3) ls (S'.map (pm_rv ρ ν))) := by
                intro H1 locs1 hP1 hD1 hS1
                rw [hset] at hP1
                have hk := k H1 locs1 ⟨hP1, hH.2⟩ hS1
                simp only [Nat.sub_self, Nat.add_zero] at hk
                exact hk
              cases hf : (T d).2.2.2 with
              | false => exact va_put (D := D) hx hb hts (pm_cl_ok _ _ hz).1 (pm_ty k9) (pm_cl_ok _ _ hz).2.1 (pm_cl_ok _ _ hz).2.2 hown hK hH.1 hD hS r he hz d hdN (hts _ (pm_lk_in hlk hok.1)) (fun _ h9 => h9) hf hpd hnar hfit (by simpa using hdN) hd kk
              | true =>
                have hfn' : ini = true ∧ (T d).1 = own := by
                  simpa [pm_fin, pm_dcl, hz, hf] using hfn
                exact va_putF (D := D) hx hb hts (pm_cl_ok _ _ hz).1 (pm_ty k9) (pm_cl_ok _ _ hz).2.1 (pm_cl_ok _ _ hz).2.2 hown hK hH.1 hD hS r he hz d hdN (hts _ (pm_lk_in hlk hok.1)) (fun _ h9 => h9) hf (hini hfn'.1) hfn'.2 hpd hnar hfit (by simpa using hdN) hd kk
            split at h
            next x hty =>
              cases h
              refine hput R0 (pm_u I r d x) J ?_ ?_ ?_ (fun c' j hc hj ty => pm_gv_I (fun _ => hj)) (fun c' hc' => ⟨rfl, pm_u_cell hc', rfl⟩) rfl rfl
              · rw [hty]; rfl
              · rw [hty]; rfl
              · rw [hty]; show Value.int (pm_u I r d x r d) = _; rw [pm_u_same]
            next x hty =>
              cases h
              refine hput R0 I (pm_u J r d x) ?_ ?_ ?_ (fun c' j hc hj ty => pm_gv_J (fun _ => hj)) (fun c' hc' => ⟨rfl, rfl, pm_u_cell hc'⟩) rfl rfl
              · rw [hty]; rfl
              · rw [hty]; rfl
              · rw [hty]; show Value.long (pm_u J r d x r d) = _; rw [pm_u_same]
            next nm x hty =>
              split at h
              next hx41 =>
                cases h
                refine hput (pm_u R0 r d (x + 1)) I J ?_ ?_ ?_ (fun c' j hc hj ty => pm_gv_R (fun _ => hj)) (fun c' hc' => ⟨pm_u_cell hc', rfl, rfl⟩) rfl rfl
                · rw [hty, hrr x hx41]; rfl
                · rw [hty, hrr x hx41]; rfl
                · rw [hty]; show (match pm_u R0 r d (x + 1) r d with | 0 => Value.null | k + 1 => Value.ref k) = _; rw [pm_u_same]
              next => cases h
            next nm x hty =>
              split at h
              next hx41 =>
                cases h
                refine hput (pm_u R0 r d (x + 1)) I J ?_ ?_ ?_ (fun c' j hc hj ty => pm_gv_R (fun _ => hj)) (fun c' hc' => ⟨pm_u_cell hc', rfl, rfl⟩) rfl rfl
                · rw [hty, hrr x hx41]; rfl
                · rw [hty, hrr x hx41]; rfl
                · rw [hty]; show (match pm_u R0 r d (x + 1) r d with | 0 => Value.null | k + 1 => Value.ref k) = _; rw [pm_u_same]
              next => cases h
            next => cases h
          · dsimp only at hh; omega
        next => cases h
      next => cases h
    next => cases h
  case iaload =>
    simp only [pm_okE, pm_d, Bool.and_eq_true, decide_eq_true_eq] at hok
    obtain ⟨hd, rfl⟩ := hok
    simp only [pm_s2] at h
    split at h
    next i r s9 =>
      split at h
      next N f hra =>
        split at h
        next hi =>
          cases h
          have hin : vp_in i N := fun q => by rcases q with q | q; exact absurd hi.1 (Int32.not_le.mpr q); omega
          have hk := k H locs hH hS
          simp only [Nat.sub_self, Nat.add_zero, List.map_cons] at hk
          unfold pm_ra at hra
          split at hra
          next k9 N9 hsh =>
            split at hra
            next hcd =>
              cases hra
              obtain ⟨rfl, hr⟩ := hcd
              have he := pm_ws_get (aI := aI) (aZ := aZ) (base := base) (ρ := ρ) (ν := ν) (w := (n, R0, I, J)) (c := r) hr
              rw [pm_el_arr hsh (by omega)] at he
              rw [List.map_cons, List.map_cons, hrr r (pm_sh_lt hsh)]
              exact va_iald hx hb hK hH.1 r 0 he rfl hin hd hk
            next => cases hra
          next hsh =>
            split at hra
            next N9 f9 hxa =>
              simp only [if_true] at hra
              cases hra
              have hT := hXE.1 r _ hxa
              have hr9 : r ≠ 950 := fun q => by rw [q] at hxa; simp [pm_xa] at hxa
              rw [List.map_cons, List.map_cons, hrx r hr9]
              exact va_ti hx hb hT hS hin rfl hd hk
            next => simp at hra
            next => cases hra
        next => cases h
      next => cases h
    next => cases h
  case baload =>
    simp only [pm_okE, pm_d, Bool.and_eq_true, decide_eq_true_eq] at hok
    obtain ⟨hd, rfl⟩ := hok
    simp only [pm_s2] at h
    split at h
    next i r s9 =>
      split at h
      next N f hra =>
        split at h
        next hi =>
          cases h
          have hin : vp_in i N := fun q => by rcases q with q | q; exact absurd hi.1 (Int32.not_le.mpr q); omega
          have hk := k H locs hH hS
          simp only [Nat.sub_self, Nat.add_zero, List.map_cons] at hk
          unfold pm_ra at hra
          split at hra
          next k9 N9 hsh =>
            split at hra
            next hcd =>
              cases hra
              obtain ⟨rfl, hr⟩ := hcd
              have he := pm_ws_get (aI := aI) (aZ := aZ) (base := base) (ρ := ρ) (ν := ν) (w := (n, R0, I, J)) (c := r) hr
              rw [pm_el_arr hsh (by omega)] at he
              rw [List.map_cons, List.map_cons, hrr r (pm_sh_lt hsh)]
              exact va_zald hx hb hK hH.1 r 1 he rfl hin hd hk
            next => cases hra
          next hsh =>
            split at hra
            next => simp at hra
            next N9 f9 hxa =>
              simp only [if_true] at hra
              cases hra
              have hT := hXE.1 r _ hxa
              have hr9 : r ≠ 950 := fun q => by rw [q] at hxa; simp [pm_xa] at hxa
              rw [List.map_cons, List.map_cons, hrx r hr9]
              exact va_tb hx hb hT hS hin rfl hd hk
            next => cases hra
        next => cases h
      next => cases h
    next => cases h
  case iastore =>
    simp only [pm_okE, pm_d, Bool.and_eq_true, decide_eq_true_eq] at hok
    obtain ⟨hd, rfl⟩ := hok
    simp only [pm_s2] at h
    split at h
    next x i r s9 =>
      split at h
      next k9 N hsh =>
        split at h
        next hcd =>
          obtain ⟨⟨rfl, hr⟩, hi⟩ := hcd
          cases h
          have hin : vp_in i N := fun q => by rcases q with q | q; exact absurd hi.1 (Int32.not_le.mpr q); omega
          have he := pm_ws_get (aI := aI) (aZ := aZ) (base := base) (ρ := ρ) (ν := ν) (w := (n, R0, I, J)) (c := r) hr
          rw [pm_el_arr hsh (by omega)] at he
          rw [List.map_cons, List.map_cons, List.map_cons, hrr r (pm_sh_lt hsh)]
          refine va_iast hx hb hK hH.1 hD hS r 0 he rfl hin hd (fun H1 locs1 hP1 hD1 hS1 => ?_)
          have hset : (pm_ws aI aZ base ρ ν (n, R0, I, J)).set r (base + r, .inl (aI, N, .inl (upd (I r) i.toNatClampNeg x))) = pm_ws aI aZ base ρ ν (n, R0, pm_u I r i.toNatClampNeg x, J) := by
            refine pm_ws_set ?_ (fun c' hc' => pm_el_cong rfl (pm_u_cell hc') rfl)
            rw [pm_el_arr hsh (by omega)]
            congr 4
            funext j
            simp only [pm_u, upd, true_and]
          rw [show (if (10 : Nat) = 10 then aI else aZ) = aI from if_pos rfl, hset] at hP1
          have hk := k H1 locs1 ⟨hP1, hH.2⟩ hS1
          simp only [Nat.sub_self, Nat.add_zero] at hk
          exact hk
        next => cases h
      next => cases h
    next => cases h
  case bastore =>
    simp only [pm_okE, pm_d, Bool.and_eq_true, decide_eq_true_eq] at hok
    obtain ⟨hd, rfl⟩ := hok
    simp only [pm_s2] at h
    split at h
    next x i r s9 =>
      split at h
      next k9 N hsh =>
        split at h
        next hcd =>
          obtain ⟨⟨rfl, hr⟩, hi⟩ := hcd
          cases h
          have hin : vp_in i N := fun q => by rcases q with q | q; exact absurd hi.1 (Int32.not_le.mpr q); omega
          have he := pm_ws_get (aI := aI) (aZ := aZ) (base := base) (ρ := ρ) (ν := ν) (w := (n, R0, I, J)) (c := r) hr
          rw [pm_el_arr hsh (by omega)] at he
          rw [List.map_cons, List.map_cons, List.map_cons, hrr r (pm_sh_lt hsh)]
          refine va_zast hx hb hK hH.1 hD hS r 1 he rfl hin hd (fun H1 locs1 hP1 hD1 hS1 => ?_)
          have hset : (pm_ws aI aZ base ρ ν (n, R0, I, J)).set r (base + r, .inl (aZ, N, .inl (upd (I r) i.toNatClampNeg (vp_nar .boolean x)))) = pm_ws aI aZ base ρ ν (n, R0, pm_u I r i.toNatClampNeg (vp_nar .boolean x), J) := by
            refine pm_ws_set ?_ (fun c' hc' => pm_el_cong rfl (pm_u_cell hc') rfl)
            rw [pm_el_arr hsh (by omega)]
            congr 4
            funext j
            simp only [pm_u, upd, true_and]
          rw [show (if (11 : Nat) = 10 then aI else aZ) = aZ from if_neg (by decide), hset] at hP1
          have hk := k H1 locs1 ⟨hP1, hH.2⟩ hS1
          simp only [Nat.sub_self, Nat.add_zero] at hk
          exact hk
        next => cases h
      next => cases h
    next => cases h
  case arraylength =>
    simp only [pm_okE, pm_d, Bool.and_eq_true, decide_eq_true_eq] at hok
    obtain ⟨hd, rfl⟩ := hok
    simp only [pm_s2] at h
    split at h
    next r s9 =>
      split at h
      next k9 N hsh =>
        split at h
        next hcd =>
          obtain ⟨hkk, hr⟩ := hcd
          cases h
          have hk := k H locs hH hS
          simp only [Nat.sub_self, Nat.add_zero, List.map_cons] at hk
          have he := pm_ws_get (aI := aI) (aZ := aZ) (base := base) (ρ := ρ) (ν := ν) (w := (n, R0, I, J)) (c := r) hr
          rw [pm_el_arr hsh (by omega)] at he
          rw [List.map_cons, hrr r (pm_sh_lt hsh)]
          rcases hkk with rfl | rfl
          · exact va_alen hx hb hK hH.1 r 0 he rfl rfl hd hk
          · exact va_alen hx hb hK hH.1 r 1 he rfl rfl hd hk
        next => cases h
      next hsh =>
        split at h
        next q hxa =>
          cases h
          have hT := hXE.1 r _ hxa
          have hr9 : r ≠ 950 := fun q => by rw [q] at hxa; simp [pm_xa] at hxa
          have hk := k H locs hH hS
          simp only [Nat.sub_self, Nat.add_zero, List.map_cons] at hk
          rw [List.map_cons, hrx r hr9]
          exact va_tlen hx hb hT hS rfl hd hk
        next => cases h
    next => cases h
  case getstatic i =>
    simp only [pm_okE, pm_d, Bool.and_eq_true, decide_eq_true_eq] at hok
    obtain ⟨⟨⟨hd, rfl⟩, hb4⟩, hl⟩ := hok
    simp only [pm_s2] at h
    cases h
    have hk := k H locs hH hS
    simp only [Nat.sub_self, Nat.add_zero, List.map_cons] at hk
    exact va_gets hx hb (hXE.2.1 b hb4) hS hown (hts _ (pm_lk_in hlk hl)) (fun _ h9 => h9) hd hk
  case new i =>
    simp only [pm_okE, pm_d, Bool.and_eq_true, decide_eq_true_eq] at hok
    obtain ⟨⟨⟨⟨⟨hd, rfl⟩, hb5⟩, hl⟩, hin1⟩, hin2⟩ := hok
    simp only [pm_s2] at h
    split at h
    next k9 N hsh =>
      split at h
      next hcd =>
        obtain ⟨rfl, -, hn41⟩ := hcd
        cases h
        rcases pm_sh_ok _ (List.mem_of_getElem? hsh) with ⟨-, z, hz, hzN⟩ | hh
        · obtain ⟨C, T, N'⟩ := z
          dsimp only at hzN
          subst hzN
          have e1 : pm_cn k9 = C := by unfold pm_cn; rw [hz]
          have e2 : pm_cN k9 = N' := by unfold pm_cN; rw [hz]
          rw [e1] at hl hin1 hin2
          rw [e2] at hin1
          have e3 : pm_ss (n + 1) - pm_ss n = N' := by rw [pm_ss_succ hsh]; omega
          have e4 : n + 1 - n = 1 := by omega
          dsimp only at hrc hrs k
          rw [e3] at hrs k
          rw [e4] at hrc k
          refine va_new (D := D) (ci := k9) (fs := (List.range N').map (fun j => pm_rv ρ ν (pm_gv (pm_ty k9 j) (pm_u0 R0 n) (pm_u0 I n) (pm_u0 J n) n j))) hx hb hts (pm_cl_ok _ _ hz).1 (pm_ty k9) (pm_cl_ok _ _ hz).2.1 hown (hts _ (pm_lk_in hlk hl)) (hts _ (pm_w_in hin1)) (hts _ (pm_w_in hin2)) hK hH.1 hD hS hA hz ?_ hrc hrs hd (fun q H1 hP1 hD1 hS1 => ?_)
          · intro j hj
            show _ = vp_V _ j
            unfold vp_V
            rw [List.getD_eq_getElem?_getD, List.getElem?_map, List.getElem?_range hj]
            show defaultValue (pm_ty k9 j) = pm_rv ρ ν (pm_gv (pm_ty k9 j) (pm_u0 R0 n) (pm_u0 I n) (pm_u0 J n) n j)
            have a1 : pm_u0 R0 n n j = 0 := if_pos rfl
            have a2 : pm_u0 I n n j = 0 := if_pos rfl
            have a3 : pm_u0 J n n j = 0 := if_pos rfl
            unfold pm_gv
            rw [a1, a2, a3]
            have hty : pm_ty k9 j = .int ∨ pm_ty k9 j = .long ∨ (∃ t, pm_ty k9 j = .array t) ∨ ∃ t, pm_ty k9 j = .object t := pm_ty_cases k9 j
            rcases hty with ht | ht | ⟨t, ht⟩ | ⟨t, ht⟩ <;> rw [ht] <;> rfl
          · intro T9 hT9 Z9
            have hz1 : H1.size ≤ s.heap.size + (cells + 1) := by rw [← hT9]; exact Z9.heapSize
            have hql := (hP1 n (q, .inr (k9, (List.range N').map (fun j => pm_rv ρ ν (pm_gv (pm_ty k9 j) (pm_u0 R0 n) (pm_u0 I n) (pm_u0 J n) n j)))) (by rw [List.getElem?_append_right (by rw [pm_ws_len]; exact Nat.le_refl _), pm_ws_len]; simp)).lt
            have hqb := hD1.2 n (q, .inr (k9, (List.range N').map (fun j => pm_rv ρ ν (pm_gv (pm_ty k9 j) (pm_u0 R0 n) (pm_u0 I n) (pm_u0 J n) n j)))) (by rw [List.getElem?_append_right (by rw [pm_ws_len]; exact Nat.le_refl _), pm_ws_len]; simp)
            dsimp only at hql hqb hc hn
            have hq : q = base + n := by
              by_cases hlt : q - base < n
              · have hne := hD1.1 n (q - base) (q, .inr (k9, (List.range N').map (fun j => pm_rv ρ ν (pm_gv (pm_ty k9 j) (pm_u0 R0 n) (pm_u0 I n) (pm_u0 J n) n j)))) _ (by rw [List.getElem?_append_right (by rw [pm_ws_len]; exact Nat.le_refl _), pm_ws_len]; simp) (by rw [List.getElem?_append_left (by rw [pm_ws_len]; exact hlt)]; exact pm_ws_get hlt) (by show q = base + (q - base); omega)
                omega
              · omega
            subst hq
            rw [pm_ws_push (R' := pm_u0 R0 n) (I' := pm_u0 I n) (J' := pm_u0 J n) (pm_el_obj hsh hb5) (fun c' hc' => pm_el_cong (funext fun j => if_neg hc') (funext fun j => if_neg hc') (funext fun j => if_neg hc'))] at hP1
            have hk := k H1 locs ⟨hP1, by show n + 1 ≤ 41; omega⟩ hS1
            rw [List.map_cons, hrr n hn41] at hk
            exact hk T9 hT9 Z9
        · dsimp only at hh; omega
      next => cases h
    next => cases h
  case newarray t =>
    simp only [pm_okE, pm_d, Bool.and_eq_true, decide_eq_true_eq] at hok
    obtain ⟨⟨hd, rfl⟩, hin1⟩ := hok
    simp only [pm_s2] at h
    split at h
    next x s9 =>
      split at h
      next k9 N hsh =>
        split at h
        next hcd =>
          obtain ⟨hkt, rfl, hn41⟩ := hcd
          cases h
          have e3 : pm_ss (n + 1) - pm_ss n = N := by rw [pm_ss_succ hsh]; omega
          have e4 : n + 1 - n = 1 := by omega
          dsimp only at hrc hrs k
          rw [e3] at hrs k
          rw [e4] at hrc k
          have hN : N ≤ 200 := pm_sh_N hsh
          have hty : newarray.typeOf t = .int ∧ k9 = 10 ∨ newarray.typeOf t = .boolean ∧ k9 = 11 := by
            rcases hkt with ⟨rfl, rfl⟩ | ⟨rfl, rfl⟩
            · exact Or.inl ⟨rfl, rfl⟩
            · exact Or.inr ⟨rfl, rfl⟩
          have hcl : (Int32.ofNat N).toNatClampNeg = N := nI_clamp (by omega)
          have hnn : ¬ Int32.ofNat N < 0 := nI_pos (by omega)
          have hk5 : ¬ k9 < 5 := by omega
          have cell0 : ∀ cA : ClassId, vp_cell cA (N, .inl (fun _ => 0)) = arrV cA N (fun _ => defaultValue (newarray.typeOf t)) := by
            intro cA
            rw [vp_cell_i]
            rcases hty with ⟨h9, -⟩ | ⟨h9, -⟩ <;> rw [h9] <;> rfl
          refine va_newa (D := D) hx hb (hts _ (pm_w_in hin1)) rfl hK hH.1 hD hS hA (a0 := (N, .inl (fun _ => 0))) cell0 hnn hcl ?_ hrc hrs hd (fun q cA H1 hK1 hP1 hD1 hS1 => ?_)
          · rcases hty with ⟨h9, -⟩ | ⟨h9, -⟩ <;> rw [h9] <;> simp [componentBytes] <;> omega
          · have hcA : cA = if k9 = 10 then aI else aZ := by
              have g1 := (hK1.2 2 (cA, newarray.typeOf t) rfl).2
              rcases hty with ⟨h9, rfl⟩ | ⟨h9, rfl⟩
              · have g2 := (hK.2 0 (aI, .int) rfl).2
                rw [h9] at g1
                exact Option.some.inj (g1.symm.trans g2)
              · have g2 := (hK.2 1 (aZ, .boolean) rfl).2
                rw [h9] at g1
                exact Option.some.inj (g1.symm.trans g2)
            intro T9 hT9 Z9
            have hz1 : H1.size ≤ s.heap.size + (cells + 1) := by rw [← hT9]; exact Z9.heapSize
            have hq9 : (pm_ws aI aZ base ρ ν (n, R0, I, J) ++ [(q, Sum.inl (cA, N, Sum.inl (fun _ => (0 : Int32))))])[n]? = some (q, Sum.inl (cA, N, Sum.inl (fun _ => (0 : Int32)))) := by rw [List.getElem?_append_right (by rw [pm_ws_len]; exact Nat.le_refl _), pm_ws_len]; simp
            have hql := (hP1 n _ hq9).lt
            have hqb := hD1.2 n _ hq9
            dsimp only at hql hqb hc hn
            have hq : q = base + n := by
              by_cases hlt : q - base < n
              · have hne := hD1.1 n (q - base) _ _ hq9 (by rw [List.getElem?_append_left (by rw [pm_ws_len]; exact hlt)]; exact pm_ws_get hlt) (by show q = base + (q - base); omega)
                omega
              · omega
            subst hq
            rw [pm_ws_push (R' := R0) (I' := pm_u0 I n) (J' := J) (by rw [pm_el_arr hsh hk5, hcA]; congr 4; funext j; exact if_pos rfl) (fun c' hc' => pm_el_cong rfl (funext fun j => if_neg hc') rfl)] at hP1
            have hk := k H1 locs ⟨hP1, by show n + 1 ≤ 41; omega⟩ hS1
            rw [List.map_cons, hrr n hn41] at hk
            exact hk T9 hT9 Z9
        next => cases h
      next => cases h
    next => cases h
  case invokespecial i =>
    simp only [pm_s2] at h
    split at h
    next hb1 =>
      simp only [pm_okE, pm_d, Bool.and_eq_true, decide_eq_true_eq] at hok
      rw [if_pos hb1] at hok
      simp only [Bool.and_eq_true, decide_eq_true_eq] at hok
      obtain ⟨⟨hd, rfl⟩, ⟨⟨⟨o1, o2⟩, o3⟩, o4⟩, o5⟩ := hok
      split at h
      next r s9 =>
        split at h
        next => cases h
        next hne =>
          have h9 : (List.map (fun v => v.category) (s9.map (pm_rv ρ ν))).sum ≤ 8 := by
            rw [List.map_map, show ((fun v : Value => v.category) ∘ pm_rv ρ ν) = (fun v => v.category) from funext fun v => pm_rv_cat hν v]
            have : ¬ 8 < (s9.map fun v => v.category).sum := fun q => hne (Or.inr q)
            omega
          cases h
          have hk := k H locs hH hS
          simp only [Nat.sub_self, Nat.add_zero] at hk
          rw [List.map_cons, hrx r (fun q => hne (Or.inl q))]
          refine W.objInit hx hb hown (hts _ (pm_lk_in hlk o1)) (hts _ (pm_w_in o2)) (hts _ (pm_w_in o3)) rfl (by rw [hml]; exact hsl) rfl hd (by omega) ?_ hk
          show 2 * 0 + (List.map (fun v => v.category) (S'.map (pm_rv ρ ν))).sum + 12 ≤ R.locals
          omega
      next => cases h
    next => cases h
  case invokestatic i =>
    simp only [pm_s2] at h
    split at h
    next y x s9 =>
      split at h
      next => cases h
      next hcat =>
        have h9 : (List.map (fun v => v.category) (s9.map (pm_rv ρ ν))).sum ≤ 8 := by
          rw [List.map_map, show ((fun v : Value => v.category) ∘ pm_rv ρ ν) = (fun v => v.category) from funext fun v => pm_rv_cat hν v]
          omega
        split at h
        next hb1 =>
          simp only [pm_okE, pm_d, Bool.and_eq_true, decide_eq_true_eq] at hok
          rw [if_pos hb1] at hok
          simp only [Bool.and_eq_true, decide_eq_true_eq] at hok
          obtain ⟨⟨hd, rfl⟩, ⟨⟨⟨⟨o1, o2⟩, o3⟩, o4⟩, o5⟩, o6⟩ := hok
          cases h
          have hk := k H locs hH hS
          simp only [Nat.sub_self, Nat.add_zero] at hk hrc hrs
          exact va_mmax hx hb (hml.trans hsl.symm) hown (hts _ (pm_lk_in hlk o1)) (hts _ (pm_w_in o2)) (hts _ (pm_w_in o3)) (hts _ (pm_w_in o4)) (by omega) (by omega) hrc hrs hd hk
        next hb1 =>
          split at h
          next hb2 =>
            simp only [pm_okE, pm_d, Bool.and_eq_true, decide_eq_true_eq] at hok
            rw [if_neg hb1, if_pos hb2] at hok
            simp only [Bool.and_eq_true, decide_eq_true_eq] at hok
            obtain ⟨⟨hd, rfl⟩, ⟨⟨⟨⟨o1, o2⟩, o3⟩, o4⟩, o5⟩, o6⟩ := hok
            cases h
            have hk := k H locs hH hS
            simp only [Nat.sub_self, Nat.add_zero] at hk hrc hrs
            exact va_mmin hx hb (hml.trans hsl.symm) hown (hts _ (pm_lk_in hlk o1)) (hts _ (pm_w_in o2)) (hts _ (pm_w_in o3)) (hts _ (pm_w_in o4)) (by omega) (by omega) hrc hrs hd hk
          next => cases h
    next => cases h
  all_goals (simp only [pm_s2] at h; cases h)
end PMT
end
section
theorem pm_ss_mono {a b : Nat} (h : a ≤ b) : pm_ss a ≤ pm_ss b := by
  induction h with
  | refl => exact Nat.le_refl _
  | step h ih =>
    refine Nat.le_trans ih ?_
    rename_i m
    unfold pm_ss
    rw [List.take_add_one, List.map_append, List.sum_append]
    exact Nat.le_add_right _ _
theorem pm_s2_n {X : Nat × (Nat → Int32)} {E : pm_E} {S S' : List Value} {w w' : pm_Wo} (h : pm_s2 X E S w = some (S', w')) : w.1 ≤ w'.1 := by
  obtain ⟨pc, ins, nx, a, b, d, c64⟩ := E
  obtain ⟨n, R0, I, J⟩ := w
  cases ins <;> simp only [pm_s2] at h <;> (repeat' split at h) <;> (cases h) <;> (first | exact Nat.le_refl _ | exact Nat.le_succ _)
theorem pm_st_cases {X : Nat × (Nat → Int32)} {E : pm_E} {L L' : pm_L} {S S' : List Value} {w w' : pm_Wo} {pc' : Nat} (h : pm_st X E L S w = some (pc', L', S', w')) : (pm_s0 E L S = some (L', S') ∧ pc' = E.2.2.1 ∧ w' = w) ∨ (pm_s1 E S = some (pc', S') ∧ L' = L ∧ w' = w) ∨ (pm_s2 X E S w = some (S', w') ∧ pc' = E.2.2.1 ∧ L' = L) := by
  obtain ⟨pc, ins, nx, a, b, d, c64⟩ := E
  unfold pm_st at h
  dsimp only at h
  split at h
  next q hq => cases h; exact Or.inl ⟨hq, rfl, rfl⟩
  next =>
    split at h
    next q hq => cases h; exact Or.inr (Or.inl ⟨hq, rfl, rfl⟩)
    next =>
      split at h
      next q hq => cases h; exact Or.inr (Or.inr ⟨hq, rfl, rfl⟩)
      next => cases h
theorem pm_ev_n {X : Nat × (Nat → Int32)} : ∀ (f : Nat) (tb : List pm_E × Option FieldType) (pc : Nat) (L : pm_L) (S : List Value) (w : pm_Wo) (o : Option Value) (w' : pm_Wo), pm_ev X f tb pc L S w = some (o, w') → w.1 ≤ w'.1 := by
  intro f
  induction f with
  | zero => intro tb pc L S w o w' h; cases h
  | succ f ih =>
    intro tb pc L S w o w' h
    unfold pm_ev at h
    split at h
    next => cases h
    next e he =>
      split at h
      next pc' L' S' w1 hs =>
        have h1 := ih _ _ _ _ _ _ _ h
        have h2 : w.1 ≤ w1.1 := by
          rcases pm_st_cases hs with ⟨-, -, rfl⟩ | ⟨-, -, rfl⟩ | ⟨h2, -, -⟩
          · exact Nat.le_refl _
          · exact Nat.le_refl _
          · exact pm_s2_n h2
        exact Nat.le_trans h2 h1
      next =>
        split at h
        next => cases h; exact Nat.le_refl _
        next =>
          split at h
          next => cases h
          next M As rest hca =>
            split at h
            next => cases h
            next o1 w1 h1 => exact Nat.le_trans (ih _ _ _ _ _ _ _ h1) (ih _ _ _ _ _ _ _ h)
/-- words of a method -/
def pm_wd (M : pm_M) : List Jvm.Cond := .code M.2.2.2.2.1 M.2.2.2.2.2.1 M.2.1 M.1.2 :: pm_B
theorem pm_wd_good {M : pm_M} (h : pm_okY M = true) : GoodIn pm_B (pm_wd M) := by
  obtain ⟨⟨tb, rt⟩, mx, np, rc, y, bytes, f, l⟩ := M
  simp only [pm_okY, Bool.and_eq_true] at h
  intro w hw
  have key : ∀ w ∈ pm_B, w ∈ pm_B ∧ ((w.onTables && w.keeps) = true ∨ ∃ ty, w = .arrayClass ty) := fun w hw => ⟨hw, good_of_word (List.mem_filter.mp hw).2⟩
  rcases List.mem_cons.mp hw with rfl | hw
  · exact key _ (pm_w_in h.1.1.1.2)
  · exact key _ hw
def pm_rd (M : pm_M) (pc' : Nat) (o : Option Value) : Prop := match o with
  | some v => decode M.2.2.2.2.2.1 pc' = .ok (.ireturn, 1) ∧ ∃ (ty : FieldType) (x : Int32), M.1.2 = some ty ∧ v = .int x ∧ narrow ty (.int x) = .int x
  | none => decode M.2.2.2.2.2.1 pc' = .ok (.return_, 1) ∧ M.1.2 = none
theorem pm_en_mem {ρ : Nat → Nat} {ν : Value} (hν : ν.category = 1) : ∀ (vs : List Value) (pre : pm_L) (suf : pm_L) (i : Nat) (v : Value), (∀ z ∈ suf, z = none) → (pre ++ pm_sp vs ++ suf)[i]? = some (some v) → pre.length ≤ i → (i, pm_rv ρ ν v) ∈ lv_args pre.length (vs.map (pm_rv ρ ν)) := by
  intro vs
  induction vs with
  | nil =>
    intro pre suf i v hs h hi
    simp only [pm_sp, List.append_nil] at h
    rw [List.getElem?_append_right hi] at h
    have := hs _ (List.mem_of_getElem? h)
    cases this
  | cons u vs ih =>
    intro pre suf i v hs h hi
    simp only [List.map_cons, lv_args]
    rw [pm_rv_cat hν]
    by_cases hc : u.category = 2
    · rw [if_pos hc]
      have e1 : pm_sp (u :: vs) = [some u, none] ++ pm_sp vs := by simp [pm_sp, hc]
      rw [e1] at h
      by_cases h1 : i = pre.length
      · subst h1
        rw [List.append_assoc, List.getElem?_append_right (Nat.le_refl _), Nat.sub_self] at h
        simp at h
        subst h
        exact List.mem_cons_self
      · by_cases h2 : i = pre.length + 1
        · subst h2
          rw [List.append_assoc, List.getElem?_append_right (by omega), show pre.length + 1 - pre.length = 1 by omega] at h
          simp at h
        · have e2 : pre ++ ([some u, none] ++ pm_sp vs) ++ suf = (pre ++ [some u, none]) ++ pm_sp vs ++ suf := by simp
          rw [e2] at h
          have h3 := ih (pre ++ [some u, none]) suf i v hs h (by simp; omega)
          simp only [List.length_append, List.length_cons, List.length_nil] at h3
          exact List.mem_cons_of_mem _ h3
    · rw [if_neg hc]
      have e1 : pm_sp (u :: vs) = [some u] ++ pm_sp vs := by simp [pm_sp, hc]
      rw [e1] at h
      by_cases h1 : i = pre.length
      · subst h1
        rw [List.append_assoc, List.getElem?_append_right (Nat.le_refl _), Nat.sub_self] at h
        simp at h
        subst h
        exact List.mem_cons_self
      · have e2 : pre ++ ([some u] ++ pm_sp vs) ++ suf = (pre ++ [some u]) ++ pm_sp vs ++ suf := by simp
        rw [e2] at h
        have h3 := ih (pre ++ [some u]) suf i v hs h (by simp; omega)
        simp only [List.length_append, List.length_cons, List.length_nil] at h3
        exact List.mem_cons_of_mem _ h3
theorem pm_sp_len {ρ : Nat → Nat} {ν : Value} (hν : ν.category = 1) : ∀ vs : List Value, (lg_sl (vs.map (pm_rv ρ ν))).length = (pm_sp vs).length := by
  intro vs
  induction vs with
  | nil => rfl
  | cons u vs ih =>
    simp only [List.map_cons, lg_sl, List.flatMap_cons, List.length_append, pm_sp]
    rw [pm_rv_cat hν]
    have ih' : (List.flatMap (fun v : Value => if v.category = 2 then [Slot.val v, Slot.second] else [Slot.val v]) (vs.map (pm_rv ρ ν))).length = (pm_sp vs).length := ih
    rw [ih']
    by_cases hc : u.category = 2
    · rw [if_pos hc, if_pos hc]; simp; omega
    · rw [if_neg hc, if_neg hc]; simp; omega
theorem pm_entry {ρ : Nat → Nat} {ν : Value} (hν : ν.category = 1) {vs : List Value} {mx : Nat} (h : (pm_sp vs).length ≤ mx) : lv_has ((lg_sl (vs.map (pm_rv ρ ν)) ++ List.replicate (mx - (lg_sl (vs.map (pm_rv ρ ν))).length) Slot.unset).toArray) mx (pm_ll ρ ν (pm_en mx vs)) := by
  have h1 := lv_entry (vs.map (pm_rv ρ ν)) (n := mx) (by rw [pm_sp_len hν]; exact h)
  refine ⟨h1.1, h1.2.1, ?_⟩
  rintro ⟨i, u⟩ hq
  obtain ⟨v, hv, rfl⟩ := pm_ll_mem.mp hq
  refine h1.2.2 (i, pm_rv ρ ν v) ?_
  exact pm_en_mem hν vs [] (List.replicate (mx - (pm_sp vs).length) none) i v (fun z hz => List.eq_of_mem_replicate hz) hv (Nat.zero_le _)
/-- behind a call -/
theorem pm_call {p : Program} {l : Launch} {e : Env} {R : Room} {s : State} {m : MethodId} {args : Array Value} {below : List Frame} {meth : Method} {c : Code} {H : Heap} {locs : List Loc} {cells slots : Nat} {Q : State → Prop} {pc : Nat} {ls : Array Slot} {st0 rest : List Value} {A : Nat → Prop} {H0 : Heap} {mc ms : Nat} {v : Option Value} {B : State → Prop}
    (hr : va_Run p l e R s m args below meth c H locs cells slots mc ms (F0 m pc ls st0) rest (fun st oc t => (oc = .returned v ∧ B t) ∧ va_F A st t) A) (hS : va_S A H0 H locs)
    (kk : ∀ (t : State) (H1 : Heap) (locs1 : List Loc), t.heap = H1 → B t → va_S A H0 H1 locs1 → W p l e R s m args below meth c H1 locs1 (cells + mc) (slots + ms) Q (F0 m (pc + 3) ls (v.toList ++ rest))) : W p l e R s m args below meth c H locs cells slots Q (F0 m pc ls st0) := by
  intro T hT Z
  obtain ⟨v', st₀, t, T', L, h0, Z', hL, e1, e2, ⟨⟨hv, hB⟩, hz, hk⟩, st⟩ := hr T hT Z
  cases hv
  rw [h0] at hz hk
  have hS1 : va_S A H0 T'.heap (locs ++ L) := by
    refine ⟨Nat.le_trans hS.1 (by rw [e1]; exact hz), fun q h1 h2 => ?_, fun q hq => ?_⟩
    · rw [e1, hk q (Nat.lt_of_lt_of_le h1 hS.1) h2]
      exact hS.2.1 q h1 h2
    · rcases List.mem_append.mp hq with h | h
      · exact hS.2.2 q h
      · exact hL q h
  obtain ⟨t2, a1, b1⟩ := kk t T'.heap (locs ++ L) e1.symm hB hS1 T' rfl Z'
  exact ⟨t2, st t2 a1, b1⟩
section PMB
variable {l : Launch} {X : Nat × (Nat → Int32)} {D : va_G} {aI aZ : ClassId} {base : Nat} {ρ : Nat → Nat} {ν : Value}
/-- what a run of the pure machine says of the machine, from any place of a method on -/
def pm_BD (l : Launch) (X : Nat × (Nat → Int32)) (D : va_G) (aI aZ : ClassId) (base : Nat) (ρ : Nat → Nat) (ν : Value) (M : pm_M) (pc : Nat) (L : pm_L) (S : List Value) (w : pm_Wo) (o : Option Value) (w' : pm_Wo) : Prop :=
  ∀ (p : Program) (e : Env) (R : Room) (s : State) (m : MethodId) (args : Array Value) (below : List Frame) (meth : Method) (c : Code) (H : Heap) (locs : List Loc) (cells slots : Nat) (Q : State → Prop) (ls : Array Slot) (n0 : Nat),
    p.tables.exec = Jvm.exec → c.code = M.2.2.2.2.2.1 → c.maxLocals = M.2.1 → s.vm.findClass M.2.2.2.2.1.cls = some m.cls → (∀ w ∈ pm_B, w.before args s = true) → ((M.2.2.2.2.1.name == "<init>") = true → meth.name = "<init>") → (M.2.2.2.2.2.2.1 ≤ R.frames ∧ M.2.2.2.2.2.2.2 ≤ R.locals) →
    va_K D pm_cl [(aI, .int), (aZ, .boolean)] s → pm_XE X ρ ν (fun q => base ≤ q) s s.heap → s.heap.size = base + n0 → pm_HW aI aZ base ρ ν D w H → va_S (fun q => base ≤ q) s.heap H locs → lv_has ls M.2.1 (pm_ll ρ ν L) → cells = w.1 - n0 → n0 ≤ w.1 → slots = pm_ss w.1 - pm_ss n0 → w'.1 - n0 ≤ R.cells → pm_ss w'.1 - pm_ss n0 ≤ R.slots →
    (∀ (H' : Heap) (locs' : List Loc) (ls' : Array Slot) (pc' : Nat), pm_HW aI aZ base ρ ν D w' H' → va_S (fun q => base ≤ q) s.heap H' locs' → pm_rd M pc' o → W p l e R s m args below meth c H' locs' (w'.1 - n0) (pm_ss w'.1 - pm_ss n0) Q (F0 m pc' ls' (o.map (pm_rv ρ ν)).toList)) →
    W p l e R s m args below meth c H locs cells slots Q (F0 m pc ls (S.map (pm_rv ρ ν)))
def pm_Pc (X : Nat × (Nat → Int32)) (D : va_G) (aI aZ : ClassId) (base : Nat) (ρ : Nat → Nat) (ν : Value) (w : pm_Wo) (vs : List Value) : Array Value → State → Prop := va_Pc (vs.map (pm_rv ρ ν)) (fun U => U.heap.size = base + w.1 ∧ pm_HW aI aZ base ρ ν D w U.heap ∧ va_K D pm_cl [(aI, .int), (aZ, .boolean)] U ∧ pm_XE X ρ ν (fun q => base ≤ q) U U.heap)
def pm_Qc (D : va_G) (aI aZ : ClassId) (base : Nat) (ρ : Nat → Nat) (ν : Value) (w' : pm_Wo) (o : Option Value) : Array Value → State → Outcome → State → Prop := fun _ st oc t => (oc = .returned (o.map (pm_rv ρ ν)) ∧ pm_HW aI aZ base ρ ν D w' t.heap) ∧ va_F (fun q => base ≤ q) st t
set_option maxHeartbeats 4000000 in
theorem pm_met {M : pm_M} {vs : List Value} {w w' : pm_Wo} {o : Option Value} (hν : ν.category = 1) (hg : pm_gd M) (hen : (pm_sp vs).length ≤ M.2.1) (hB : pm_BD l X D aI aZ base ρ ν M 0 (pm_en M.2.1 vs) [] w o w') :
    Met l M.2.2.2.2.1 (pm_wd M) ({ frames := M.2.2.2.2.2.2.1, cells := w'.1 - w.1, slots := pm_ss w'.1 - pm_ss w.1, locals := M.2.2.2.2.2.2.2 }) (pm_Pc X D aI aZ base ρ ν w vs) (pm_Qc D aI aZ base ρ ν w' o) (w'.1 - w.1) (pm_ss w'.1 - pm_ss w.1) (fun q => base ≤ q) := by
  obtain ⟨lk, hlk, hok⟩ := hg
  have hpl : plainName M.2.2.2.2.1.cls = true := by
    obtain ⟨⟨tb, rt⟩, mx, np, rc, y, bytes, f, l⟩ := M
    simp only [pm_okM, Bool.and_eq_true] at hok
    exact hok.2
  refine Met.ofW (cc := M.2.2.2.2.2.1) (maxL := M.2.1) (ret := M.1.2) hpl rfl ?_
  intro p e s m args below meth c s₁ B hml hv
  obtain ⟨rfl, hsz, hH, hK, hXE⟩ := hv
  have hts := atoms_spec (ws := pm_wd M) B.pre
  rw [lg_entry_eq]
  have hr := B.returns
  have hlocks := B.notSynchronized
  refine hB p e _ s m _ below meth c s.heap [] 0 0 _ _ w.1 B.exec B.bytes hml (findClass_of_methodNamed B.named) (fun w hw => hts w (List.mem_cons_of_mem _ hw)) ?_ ⟨Nat.le_refl _, Nat.le_refl _⟩ hK hXE hsz hH va_S.rf (pm_entry hν hen) (by omega) (Nat.le_refl _) (by omega) (Nat.le_refl _) (Nat.le_refl _) ?_
  · intro hi
    rw [(name_of_methodNamed B.named B.method).1]
    simpa using hi
  · intro H' locs' ls' pc' hH' hS' hrd
    cases o with
    | none =>
      obtain ⟨hd, hrt⟩ := hrd
      rw [hrt] at hr
      exact W.vret B.exec B.bytes hr (fun t ht hW => ⟨⟨rfl, by rw [ht]; exact hH'⟩, hS'.F ht⟩) hS'.2.2 hd
    | some v =>
      obtain ⟨hd, ty, x, hrt, rfl, hn⟩ := hrd
      rw [hrt] at hr
      exact W.zret B.exec B.bytes hr hn (fun t ht hW => ⟨⟨rfl, by rw [ht]; exact hH'⟩, hS'.F ht⟩) hS'.2.2 hd
theorem pm_blind {w : pm_Wo} {vs : List Value} : FrameBlind (pm_Pc X D aI aZ base ρ ν w vs) := fun a U g mk q => ⟨q.1, q.2.1, q.2.2.1, va_K.moved (u := U) (U := U.calling g mk a) (Vm.Alike.refl U.vm) q.2.2.2.1, pm_XE.moved (u := U) (U := U.calling g mk a) q.2.2.2.2 (State.WarmedH.refl U) (fun _ _ _ => rfl)⟩
end PMB
end
section
section PMC
variable {l : Launch} {X : Nat × (Nat → Int32)} {D : va_G} {aI aZ : ClassId} {base : Nat} {ρ : Nat → Nat} {ν : Value}
theorem pm_cats {ρ : Nat → Nat} {ν : Value} (hν : ν.category = 1) (rest : List Value) : (List.map (fun v => v.category) (rest.map (pm_rv ρ ν))).sum = (rest.map fun v => v.category).sum := by
  rw [List.map_map, show ((fun v : Value => v.category) ∘ pm_rv ρ ν) = (fun v => v.category) from funext fun v => pm_rv_cat hν v]
theorem pm_at_mem {tb : List pm_E} {pc : Nat} {E : pm_E} (h : pm_at tb pc = some E) : E ∈ tb ∧ E.1 = pc := by
  induction tb with
  | nil => cases h
  | cons e t ih =>
    unfold pm_at at h
    split at h
    next hq => cases h; exact ⟨List.mem_cons_self, hq⟩
    next => exact ⟨List.mem_cons_of_mem _ (ih h).1, (ih h).2⟩
set_option maxHeartbeats 4000000 in
set_option maxRecDepth 100000 in
theorem pm_body (hρ : ∀ k, k < 41 → ρ k = base + k) (hν : ν.category = 1) : ∀ (f : Nat) (M : pm_M) (pc : Nat) (L : pm_L) (S : List Value) (w : pm_Wo) (o : Option Value) (w' : pm_Wo), pm_gd M → pm_ev X f M.1 pc L S w = some (o, w') → pm_BD l X D aI aZ base ρ ν M pc L S w o w' := by
  intro f
  induction f with
  | zero => intro M pc L S w o w' hg h; cases h
  | succ f ih =>
    intro M pc L S w o w' hg h
    intro p e R s m args below meth c H locs cells slots Q ls n0 hx hb hml hown hts hini hR hK hXE h0 hH hS hl hc hn hsl hrc hrs hret
    obtain ⟨lk, hlk, hok⟩ := id hg
    unfold pm_ev at h
    split at h
    next => cases h
    next E hE =>
      obtain ⟨hEm, hEpc⟩ := pm_at_mem hE
      have hokE : pm_okE lk M.2.2.2.2.1.cls M.2.2.2.2.2.1 M.2.1 M.2.2.2.2.2.2.1 M.2.2.2.2.2.2.2 (M.2.2.2.2.1.name == "<init>") E = true := by
        obtain ⟨⟨tb, rt⟩, mx, np, rc, y, bytes, fr, lo⟩ := M
        simp only [pm_okM, Bool.and_eq_true] at hok
        exact List.all_eq_true.mp hok.1 E hEm
      subst hEpc
      split at h
      next pc' L' S' w1 hs =>
        have hmono := pm_ev_n f _ _ _ _ _ _ _ h
        have hB := ih M pc' L' S' w1 o w' hg h
        rcases pm_st_cases hs with ⟨h1, rfl, rfl⟩ | ⟨h1, rfl, rfl⟩ | ⟨h1, rfl, rfl⟩
        · exact pm_s0_ok hx hb hown hts hlk hokE hXE.2.2.2 hν h1 hl (fun ls' hl' => hB p e R s m args below meth c H locs cells slots Q ls' n0 hx hb hml hown hts hini hR hK hXE h0 hH hS hl' hc hn hsl hrc hrs hret)
        · exact pm_s1_ok hx hb hokE h1 (hB p e R s m args below meth c H locs cells slots Q ls n0 hx hb hml hown hts hini hR hK hXE h0 hH hS hl hc hn hsl hrc hrs hret)
        · have hn1 := pm_s2_n h1
          have hm1 := pm_ss_mono hn1
          have hm2 := pm_ss_mono hmono
          have hm3 := pm_ss_mono hn
          refine pm_s2_ok hx hb hml hl.1 hown hts hlk hokE hR hini hK hXE hρ hν hH hS h0 hc hn h1 (by omega) (by omega) (fun H' locs' hH' hS' => ?_)
          exact hB p e R s m args below meth c H' locs' _ _ Q ls n0 hx hb hml hown hts hini hR hK hXE h0 hH' hS' hl (by omega) (by omega) (by omega) hrc hrs hret
      next hst =>
        split at h
        next o1 hrt =>
          cases h
          obtain ⟨pc, ins, nx, a, b, d, c64⟩ := E
          unfold pm_rt at hrt
          have hk := hret H locs ls pc hH hS
          have e1 : cells = w.1 - n0 := hc
          split at hrt
          next v t h2 h3 =>
            split at hrt
            next hnar =>
              cases hrt
              have h2 : ins = .ireturn := h2
              subst h2
              simp only [pm_okE, pm_d, Bool.and_eq_true, decide_eq_true_eq] at hokE
              rw [hc, hsl]
              exact hk ⟨hokE.1, t, v, h3, rfl, hnar⟩
            next => cases hrt
          next h2 h3 =>
            cases hrt
            have h2 : ins = .return_ := h2
            subst h2
            simp only [pm_okE, pm_d, Bool.and_eq_true, decide_eq_true_eq] at hokE
            rw [hc, hsl]
            exact hk ⟨hokE.1, h3⟩
          next => cases hrt
        next hrt =>
          split at h
          next => cases h
          next M1 As rest hca =>
            split at h
            next => cases h
            next o1 w1 h1 =>
              have hmono := pm_ev_n f _ _ _ _ _ _ _ h
              have hn1 := pm_ev_n f _ _ _ _ _ _ _ h1
              have hm1 := pm_ss_mono hn1
              have hm2 := pm_ss_mono hmono
              have hm3 := pm_ss_mono hn
              have hB := ih M E.2.2.1 L (o1.toList ++ rest) w1 o w' hg h
              refine pm_sz hH hS h0 hc hn (fun hsz => ?_)
              obtain ⟨pc, ins, nx, a, b, d, c64⟩ := E
              unfold pm_ca at hca
              dsimp only at hca
              split at hca
              next => cases hca
              next M2 hM2 =>
                obtain ⟨hg2, hy2⟩ := pm_MT_gd M2 (List.mem_of_getElem? hM2)
                have hcall : M2 = M1 → (pm_sp As).length ≤ M1.2.1 → ∀ (rm : Room), rm = { frames := M1.2.2.2.2.2.2.1, cells := w1.1 - w.1, slots := pm_ss w1.1 - pm_ss w.1, locals := M1.2.2.2.2.2.2.2 } → Met l M1.2.2.2.2.1 (pm_wd M1) rm (pm_Pc X D aI aZ base ρ ν w As) (pm_Qc D aI aZ base ρ ν w1 o1) (w1.1 - w.1) (pm_ss w1.1 - pm_ss w.1) (fun q => base ≤ q) := by
                  intro he hlen rm hrm
                  subst he hrm
                  exact pm_met hν hg2 hlen (ih _ _ _ _ _ _ _ hg2 h1)
                have hcb : ∀ idx : Nat, pm_okC lk M.2.2.2.2.1.cls idx M.2.2.2.2.2.2.1 M.2.2.2.2.2.2.2 M2 = true → CallB R s args M.2.2.2.2.1.cls idx M2.2.2.2.2.1 M2.2.2.2.2.2.1 M2.2.1 M2.1.2 (pm_wd M2) { frames := M2.2.2.2.2.2.2.1, cells := w1.1 - w.1, slots := pm_ss w1.1 - pm_ss w.1, locals := M2.2.2.2.2.2.2.2 } (w1.1 - w.1) (pm_ss w1.1 - pm_ss w.1) M2.2.2.1 := by
                  intro idx hC
                  have hG := pm_wd_good hy2
                  obtain ⟨⟨tb2, rt2⟩, mx2, np2, rc2, y2, bytes2, fr2, lo2⟩ := M2
                  simp only [pm_okC, Bool.and_eq_true, decide_eq_true_eq] at hC
                  simp only [pm_okY, pm_nmh, Bool.and_eq_true, decide_eq_true_eq] at hy2
                  refine callB_of np2 hts hG rfl rfl rfl (hts _ (pm_w_in hy2.1.1.1.1)) (hts _ (pm_lk_in hlk hC.1.1)) ⟨?_, ?_, hy2.1.2⟩ ⟨?_, ?_⟩
                  · have := hy2.1.1.2.1; simpa using this
                  · have := hy2.1.1.2.2; simpa using this
                  · dsimp only; omega
                  · dsimp only; omega
                have hgo : ∀ (H1 : Heap) (locs1 : List Loc), pm_HW aI aZ base ρ ν D w1 H1 → va_S (fun q => base ≤ q) s.heap H1 locs1 → W p l e R s m args below meth c H1 locs1 (cells + (w1.1 - w.1)) (slots + (pm_ss w1.1 - pm_ss w.1)) Q (F0 m nx ls ((o1.map (pm_rv ρ ν)).toList ++ rest.map (pm_rv ρ ν))) := by
                  intro H1 locs1 hH1 hS1
                  have hk := hB p e R s m args below meth c H1 locs1 (cells + (w1.1 - w.1)) (slots + (pm_ss w1.1 - pm_ss w.1)) Q ls n0 hx hb hml hown hts hini hR hK hXE h0 hH1 hS1 hl (by omega) (by omega) (by omega) hrc hrs hret
                  rw [List.map_append] at hk
                  have e9 : (o1.toList).map (pm_rv ρ ν) = (o1.map (pm_rv ρ ν)).toList := by cases o1 <;> rfl
                  rw [e9] at hk
                  exact hk
                have hf : cells + (w1.1 - w.1) ≤ R.cells ∧ slots + (pm_ss w1.1 - pm_ss w.1) ≤ R.slots := ⟨by omega, by omega⟩
                have hU : ∀ U : State, U.heap = H → s.WarmedH U.vm → pm_Pc X D aI aZ base ρ ν w As (As.map (pm_rv ρ ν)).toArray U := fun U hU hW => ⟨rfl, by rw [hU]; exact hsz, by rw [hU]; exact hH, va_K.moved hW.alike hK, by rw [hU]; exact hXE.moved hW hS.2.1⟩
                split at hca
                next idx =>
                  split at hca
                  next r rest9 hdr =>
                    split at hca
                    next hcd =>
                      cases hca
                      obtain ⟨⟨hrc9, hlen⟩, hcat, hsp⟩ := hcd
                      simp only [pm_okE, pm_d, Bool.and_eq_true, decide_eq_true_eq] at hokE
                      obtain ⟨⟨hd, rfl⟩, hokC⟩ := hokE
                      rw [hM2] at hokC
                      dsimp only at hokC
                      have hS0 : S = S.take M1.2.2.1 ++ (.ref r :: rest) := by rw [← hdr, List.take_append_drop]
                      have htl : (S.take M1.2.2.1).length = M1.2.2.1 := by rw [List.length_take]; omega
                      have hcl3 : ((Jvm.Cond.instanceMethod M1.2.2.2.2.1).before args s = true ∧ (Jvm.Cond.selects M1.2.2.2.2.1.cls M1.2.2.2.2.1 M1.2.2.2.2.1).before args s = true) ∧ (M1.2.2.2.1 = 9 ∧ M1.2.2.2.2.1.cls = "java/lang/String" ∨ M1.2.2.2.1 < 5 ∧ M1.2.2.2.2.1.cls = pm_cn M1.2.2.2.1) := by
                        have hr20 : M1.2.2.2.1 < 20 := by
                          unfold pm_rc at hrc9
                          split at hrc9
                          next k9 N9 hsh =>
                            simp only [Bool.and_eq_true, beq_iff_eq] at hrc9
                            have h11 := pm_sh_ok _ (List.mem_of_getElem? hsh)
                            rcases h11 with ⟨h11, -⟩ | h11
                            · dsimp only at h11; omega
                            · dsimp only at h11; omega
                          next =>
                            simp only [Bool.and_eq_true, beq_iff_eq] at hrc9
                            omega
                        obtain ⟨⟨tb2, rt2⟩, mx2, np2, rc2, y2, bytes2, fr2, lo2⟩ := M1
                        dsimp only at hr20
                        simp only [pm_okY, Bool.and_eq_true, decide_eq_true_eq] at hy2
                        have h9 := hy2.2
                        rw [if_neg (show ¬ rc2 = 20 by omega), if_neg (show ¬ rc2 = 21 by omega)] at h9
                        simp only [Bool.and_eq_true, decide_eq_true_eq] at h9
                        exact ⟨⟨hts _ (pm_w_in h9.1.1), hts _ (pm_w_in h9.1.2)⟩, h9.2⟩
                      obtain ⟨hym, hcl⟩ := hcl3
                      have hrv : ∃ rr : Nat, pm_rv ρ ν (.ref r) = .ref rr ∧ ∃ cellB : Cell, H[rr]? = some cellB ∧ cellB.vm.isStatics = false ∧ s.vm.findClass M1.2.2.2.2.1.cls = some cellB.cls := by
                        unfold pm_rc at hrc9
                        split at hrc9
                        next k9 N9 hsh =>
                          simp only [Bool.and_eq_true, beq_iff_eq, Nat.ble_eq] at hrc9
                          obtain ⟨rfl, hrn⟩ := hrc9
                          have h41 := pm_sh_lt hsh
                          refine ⟨base + r, by show (if r = 950 then ν else .ref (ρ r)) = _; rw [if_neg (fun q => by rw [q] at h41; exact absurd h41 (by decide)), hρ r h41], ?_⟩
                          rcases hcl with ⟨h9, -⟩ | ⟨h9, hcn⟩
                          · rcases pm_sh_ok _ (List.mem_of_getElem? hsh) with ⟨q1, -⟩ | q1
                            · dsimp only at q1; omega
                            · dsimp only at q1; omega
                          · rcases pm_sh_ok _ (List.mem_of_getElem? hsh) with ⟨-, z, hz, hzN⟩ | q1
                            · have he := pm_ws_get (aI := aI) (aZ := aZ) (base := base) (ρ := ρ) (ν := ν) (w := w) (c := r) (by omega)
                              rw [pm_el_obj hsh h9] at he
                              have h10 := va_recv hK hH.1 hz he
                              rw [hcn, show pm_cn M1.2.2.2.1 = z.1 by unfold pm_cn; rw [hz]]
                              exact h10
                            · dsimp only at q1; omega
                        next hsh =>
                          simp only [Bool.and_eq_true, beq_iff_eq, Nat.ble_eq] at hrc9
                          obtain ⟨h9, h10, h11⟩ := hrc9
                          obtain ⟨i9, hi9, rfl⟩ := pm_str r h10 (by omega)
                          refine ⟨ρ (1000 + i9), if_neg (show ¬ (1000 + i9 = 950) by omega), ?_⟩
                          rcases hcl with ⟨-, hcn⟩ | ⟨h12, -⟩
                          · rw [hcn]
                            obtain ⟨cell, g1, g2, g3, -⟩ := (hXE.2.2.1 i9 hi9).1.kept hS.2.1
                            exact ⟨cell, g1, g2, g3⟩
                          · omega
                      obtain ⟨rr, hrr, hrecv⟩ := hrv
                      have hU' : ∀ U : State, U.heap = H → s.WarmedH U.vm → pm_Pc X D aI aZ base ρ ν w (.ref r :: (S.take M1.2.2.1).reverse) (Value.ref rr :: (S.take M1.2.2.1).reverse.map (pm_rv ρ ν)).toArray U := fun U h9 h10 => by
                        have h11 := hU U h9 h10
                        rw [List.map_cons, hrr] at h11
                        exact h11
                      refine pm_call (v := o1.map (pm_rv ρ ν)) (B := fun t => pm_HW aI aZ base ρ ν D w1 t.heap) (va_runV (As := (S.take M1.2.2.1).reverse.map (pm_rv ρ ν)) (rest := rest.map (pm_rv ρ ν)) (b := rr) ⟨hx, hb, hml, hown, hts⟩ (hcall rfl hsp _ rfl) ⟨hcb idx hokC, hym.1, hym.2⟩ ⟨pm_blind, hrecv, hU'⟩ rfl (by rw [List.length_map, List.length_reverse, htl]) hl.1 ?_ (lv_room (by rw [pm_cats hν]; exact hcat)) hd hf) hS (fun t H1 locs1 ht hB1 hS1 => hgo H1 locs1 (by rw [← ht]; exact hB1) hS1)
                      show S.map (pm_rv ρ ν) = _
                      rw [← List.map_reverse, List.reverse_reverse, ← hrr, ← List.map_cons, ← List.map_append, ← hS0]
                    next => cases hca
                  next => cases hca
                next idx =>
                  split at hca
                  next r rest9 hdr =>
                    split at hca
                    next hcd =>
                      cases hca
                      obtain ⟨⟨hrc9, h41, hlen⟩, hcat, hsp⟩ := hcd
                      have hb1000 : b ≠ 1000 := fun q => by
                        rw [q] at hM2
                        have := (List.getElem?_eq_some_iff.mp hM2).1
                        exact absurd this (by decide)
                      simp only [pm_okE, pm_d, Bool.and_eq_true, decide_eq_true_eq] at hokE
                      obtain ⟨⟨hd, rfl⟩, hokC⟩ := hokE
                      rw [if_neg hb1000, hM2] at hokC
                      dsimp only at hokC
                      have hS0 : S = S.take M1.2.2.1 ++ (.ref r :: rest) := by rw [← hdr, List.take_append_drop]
                      have htl : (S.take M1.2.2.1).length = M1.2.2.1 := by rw [List.length_take]; omega
                      have hrr : pm_rv ρ ν (.ref r) = .ref (base + r) := by
                        show (if r = 950 then ν else .ref (ρ r)) = _
                        rw [if_neg (fun q => by rw [q] at h41; exact absurd h41 (by decide)), hρ r h41]
                      have hU' : ∀ U : State, U.heap = H → s.WarmedH U.vm → pm_Pc X D aI aZ base ρ ν w (.ref r :: (S.take M1.2.2.1).reverse) (Value.ref (base + r) :: (S.take M1.2.2.1).reverse.map (pm_rv ρ ν)).toArray U := fun U h9 h10 => by
                        have h11 := hU U h9 h10
                        rw [List.map_cons, hrr] at h11
                        exact h11
                      have hyi : M1.1.2 = none ∧ M1.2.2.2.2.1.name = "<init>" ∧ (Jvm.Cond.instanceMethod M1.2.2.2.2.1).before args s = true := by
                        obtain ⟨⟨tb2, rt2⟩, mx2, np2, rc2, y2, bytes2, fr2, lo2⟩ := M1
                        dsimp only at hrc9
                        simp only [pm_okY, Bool.and_eq_true, decide_eq_true_eq] at hy2
                        have h9 := hy2.2
                        rw [if_neg (show ¬ rc2 = 20 by omega), if_pos hrc9] at h9
                        simp only [Bool.and_eq_true, decide_eq_true_eq] at h9
                        exact ⟨h9.1.2, h9.1.1, hts _ (pm_w_in h9.2)⟩
                      have hcb1 := hcb idx hokC
                      rw [hyi.1] at hcb1
                      refine pm_call (v := o1.map (pm_rv ρ ν)) (B := fun t => pm_HW aI aZ base ρ ν D w1 t.heap) (va_runI (As := (S.take M1.2.2.1).reverse.map (pm_rv ρ ν)) (rest := rest.map (pm_rv ρ ν)) (b := base + r) ⟨hx, hb, hml, hown, hts⟩ (hcall rfl hsp _ rfl) ⟨hcb1, hyi.2.1, hyi.2.2⟩ ⟨pm_blind, hU'⟩ rfl (by rw [List.length_map, List.length_reverse, htl]) hl.1 ?_ (lv_room (by rw [pm_cats hν]; exact hcat)) hd hf) hS (fun t H1 locs1 ht hB1 hS1 => hgo H1 locs1 (by rw [← ht]; exact hB1) hS1)
                      show S.map (pm_rv ρ ν) = _
                      rw [← List.map_reverse, List.reverse_reverse, ← hrr, ← List.map_cons, ← List.map_append, ← hS0]
                    next => cases hca
                  next => cases hca
                next idx =>
                  split at hca
                  next hcd =>
                    cases hca
                    obtain ⟨⟨hrc9, hlen⟩, hcat, hsp⟩ := hcd
                    have hbb : b < 1000 := by
                      have := (List.getElem?_eq_some_iff.mp hM2).1
                      exact Nat.lt_trans this (by decide)
                    simp only [pm_okE, pm_d, Bool.and_eq_true, decide_eq_true_eq] at hokE
                    obtain ⟨⟨hd, rfl⟩, hokC⟩ := hokE
                    rw [if_neg (show ¬ b = 1001 by omega), if_neg (show ¬ b = 1002 by omega), hM2] at hokC
                    dsimp only at hokC
                    have htl : (S.take M1.2.2.1).length = M1.2.2.1 := by rw [List.length_take]; omega
                    have hyi : (Jvm.Cond.static M1.2.2.2.2.1).before args s = true := by
                      obtain ⟨⟨tb2, rt2⟩, mx2, np2, rc2, y2, bytes2, fr2, lo2⟩ := M1
                      dsimp only at hrc9
                      simp only [pm_okY, Bool.and_eq_true, decide_eq_true_eq] at hy2
                      have h9 := hy2.2
                      rw [if_pos hrc9] at h9
                      exact hts _ (pm_w_in h9)
                    refine pm_call (v := o1.map (pm_rv ρ ν)) (B := fun t => pm_HW aI aZ base ρ ν D w1 t.heap) (va_runS (As := (S.take M1.2.2.1).reverse.map (pm_rv ρ ν)) (rest := (S.drop M1.2.2.1).map (pm_rv ρ ν)) ⟨hx, hb, hml, hown, hts⟩ (hcall rfl hsp _ rfl) ⟨hcb idx hokC, hyi⟩ ⟨pm_blind, hU⟩ rfl (by rw [List.length_map, List.length_reverse, htl]) hl.1 ?_ (lv_room (by rw [pm_cats hν]; exact hcat)) hd hf) hS (fun t H1 locs1 ht hB1 hS1 => hgo H1 locs1 (by rw [← ht]; exact hB1) hS1)
                    show S.map (pm_rv ρ ν) = _
                    rw [← List.map_reverse, List.reverse_reverse, ← List.map_append, List.take_append_drop]
                  next => cases hca
                next => cases hca
end PMC
end
section
/-! THE CLAIM OUT OF ONE WALK OF THE LAW'S BODY. Your part is whole_start (and what it stands on); all else here is the same for every law, but numbers. -/
def R_law : String := "UphillOnlyLaw"
def lw_P (b : Addr) (xs : List Int32) (args : Array Value) (s : State) : Prop := args = #[.ref b] ∧ s.IntsAt b xs ∧ xs.length ≤ 2048 ∧ (Jvm.Cond.and given_1 narrow_1).before args s = true
def lw_Q (_ : Array Value) (s : State) (o : Outcome) (t : State) : Prop := o = .returned (some (.int 1)) ∧ Framed s o t [] 41 905
def lw_Z (below : List Frame) (a : Array Value) (s : State) : State → Prop := fun t => ∃ o, t.status = .running ∧ Ended t below o ∧ lw_Q a s o t
/-- the law's own end, with 1 on the stack, nothing written that was there before, its room as the claim has it -/
theorem lw_ret {p : Program} {l : Launch} {e : Env} {s : State} {m : MethodId} {below : List Frame} {meth : Method} {c : Code} {b : Nat} (hx : p.tables.exec = Jvm.exec) (hb : c.code = code) (hr : meth.sig.returnType = ret) (hlocks : meth.locks = false) {pc : Nat} {H : Heap} {ls : Array Slot} (hdg : decode code pc = .ok (.ireturn, 1)) : W p l e room_1 s m #[Value.ref b] below meth c H [] 41 905 (lw_Z below #[Value.ref b] s) (F0 m pc ls [.int 1]) := by
  intro T hT X
  obtain ⟨fs, hret, hrun, hended, hW, hframe⟩ := X.leave (v := some (.int 1)) (hlocks := hlocks) (fun h => by rw [hr] at h; cases h)
  have hmeth' : T.vm.method? m = some meth := X.method'
  refine ⟨T.setFrames fs, ?_, .returned (some (.int 1)), hrun, hended, rfl, ⟨_, rfl⟩, hW, hframe⟩
  jvm_step X.here [X.here.top, hx, hb, hdg, hmeth', hr, ret, narrow_b1]
  (try refine ⟨rfl, ?_⟩); (try refine ⟨rfl, ?_⟩)
  first | (intro acts; rw [hret _ acts rfl rfl rfl]) | rw [hret _ _ rfl rfl rfl]
  exact Steps.refl _
/-- what holds at the law's entry: the machine, the code, the tables' words (any of lw_tbl by 'hts w (by decide +kernel)'), the script of L ints xs at the cell b, what the Statement gives of the start (any of its parts by flat_of_before) -/
def lw_At (p : Program) (s : State) (m : MethodId) (meth : Method) (c : Code) (b L : Nat) (xs : Nat → Int32) : Prop :=
  p.tables.exec = Jvm.exec ∧ c.code = code ∧ meth.sig.returnType = ret ∧ c.maxLocals = 4 ∧ s.vm.findClass R_law = some m.cls ∧ (∀ w ∈ lw_tbl, w.before #[Value.ref b] s = true) ∧ va_X b L xs s s.heap ∧ b < s.heap.size ∧ meth.locks = false ∧ (Jvm.Cond.and given_1 narrow_1).before #[Value.ref b] s = true
end
section
def pm_fl : List Jvm.Cond := flatC (Jvm.Cond.and given_1 narrow_1)
def pm_tk (i : Nat) : Nat := match pm_tx[i]? with
  | some q => q.1
  | none => 0
def pm_tm (i : Nat) : Term := .string "UphillOnly$Script" (pm_tk i)
def pm_ln : List Nat := pm_tx.map (fun q => q.2.2.length)
def pm_by : List (List Int32) := pm_tx.map (fun q => q.2.2)
theorem pm_all14 {P : Nat → Prop} [DecidablePred P] (h : (List.range 14).all (fun i => decide (P i)) = true) : ∀ i, i < 14 → P i := fun i hi => by simpa using List.all_eq_true.mp h i (List.mem_range.mpr hi)
theorem pm_f1 : ∀ i, i < 14 → Jvm.Cond.exactly (pm_tm i) "java/lang/String" ∈ pm_fl := pm_all14 (by decide +kernel)
theorem pm_f2 : ∀ i, i < 14 → Jvm.Cond.eq (.field (pm_tm i) "java/lang/String" "coder" "B") (.int 0) ∈ pm_fl := pm_all14 (by decide +kernel)
theorem pm_f3 : ∀ i, i < 14 → Jvm.Cond.arrayOf (.field (pm_tm i) "java/lang/String" "value" "[B") .byte ∈ pm_fl := pm_all14 (by decide +kernel)
theorem pm_f4 : ∀ i, i < 14 → Jvm.Cond.eq (.length (.field (pm_tm i) "java/lang/String" "value" "[B")) (.int (Int32.ofNat (pm_ln.getD i 0))) ∈ pm_fl := pm_all14 (by decide +kernel)
theorem pm_f5 : ∀ i, i < 14 → ∀ j, j < pm_ln.getD i 0 → Jvm.Cond.eq (.elem (.field (pm_tm i) "java/lang/String" "value" "[B") (.int (Int32.ofNat j))) (.int ((pm_by.getD i []).getD j 0)) ∈ pm_fl := by
  have h : ∀ i, i < 14 → (List.range (pm_ln.getD i 0)).all (fun j => decide (Jvm.Cond.eq (.elem (.field (pm_tm i) "java/lang/String" "value" "[B") (.int (Int32.ofNat j))) (.int ((pm_by.getD i []).getD j 0)) ∈ pm_fl)) = true := pm_all14 (by decide +kernel)
  intro i hi j hj
  simpa using List.all_eq_true.mp (h i hi) j (List.mem_range.mpr hj)
theorem pm_f6_0 : (List.range 14).all (fun j => decide (j ≤ 0) || decide (Jvm.Cond.not (Jvm.Cond.eq (pm_tm 0) (pm_tm j)) ∈ pm_fl)) = true := by decide +kernel
theorem pm_f6_1 : (List.range 14).all (fun j => decide (j ≤ 1) || decide (Jvm.Cond.not (Jvm.Cond.eq (pm_tm 1) (pm_tm j)) ∈ pm_fl)) = true := by decide +kernel
theorem pm_f6_2 : (List.range 14).all (fun j => decide (j ≤ 2) || decide (Jvm.Cond.not (Jvm.Cond.eq (pm_tm 2) (pm_tm j)) ∈ pm_fl)) = true := by decide +kernel
theorem pm_f6_3 : (List.range 14).all (fun j => decide (j ≤ 3) || decide (Jvm.Cond.not (Jvm.Cond.eq (pm_tm 3) (pm_tm j)) ∈ pm_fl)) = true := by decide +kernel
theorem pm_f6_4 : (List.range 14).all (fun j => decide (j ≤ 4) || decide (Jvm.Cond.not (Jvm.Cond.eq (pm_tm 4) (pm_tm j)) ∈ pm_fl)) = true := by decide +kernel
theorem pm_f6_5 : (List.range 14).all (fun j => decide (j ≤ 5) || decide (Jvm.Cond.not (Jvm.Cond.eq (pm_tm 5) (pm_tm j)) ∈ pm_fl)) = true := by decide +kernel
theorem pm_f6_6 : (List.range 14).all (fun j => decide (j ≤ 6) || decide (Jvm.Cond.not (Jvm.Cond.eq (pm_tm 6) (pm_tm j)) ∈ pm_fl)) = true := by decide +kernel
theorem pm_f6_7 : (List.range 14).all (fun j => decide (j ≤ 7) || decide (Jvm.Cond.not (Jvm.Cond.eq (pm_tm 7) (pm_tm j)) ∈ pm_fl)) = true := by decide +kernel
theorem pm_f6_8 : (List.range 14).all (fun j => decide (j ≤ 8) || decide (Jvm.Cond.not (Jvm.Cond.eq (pm_tm 8) (pm_tm j)) ∈ pm_fl)) = true := by decide +kernel
theorem pm_f6_9 : (List.range 14).all (fun j => decide (j ≤ 9) || decide (Jvm.Cond.not (Jvm.Cond.eq (pm_tm 9) (pm_tm j)) ∈ pm_fl)) = true := by decide +kernel
theorem pm_f6_10 : (List.range 14).all (fun j => decide (j ≤ 10) || decide (Jvm.Cond.not (Jvm.Cond.eq (pm_tm 10) (pm_tm j)) ∈ pm_fl)) = true := by decide +kernel
theorem pm_f6_11 : (List.range 14).all (fun j => decide (j ≤ 11) || decide (Jvm.Cond.not (Jvm.Cond.eq (pm_tm 11) (pm_tm j)) ∈ pm_fl)) = true := by decide +kernel
theorem pm_f6_12 : (List.range 14).all (fun j => decide (j ≤ 12) || decide (Jvm.Cond.not (Jvm.Cond.eq (pm_tm 12) (pm_tm j)) ∈ pm_fl)) = true := by decide +kernel
theorem pm_f6_13 : (List.range 14).all (fun j => decide (j ≤ 13) || decide (Jvm.Cond.not (Jvm.Cond.eq (pm_tm 13) (pm_tm j)) ∈ pm_fl)) = true := by decide +kernel
theorem pm_f6_all : ∀ i, i < 14 → (List.range 14).all (fun j => decide (j ≤ i) || decide (Jvm.Cond.not (Jvm.Cond.eq (pm_tm i) (pm_tm j)) ∈ pm_fl)) = true := by
  intro i hi
  rcases (show i = 0 ∨ i = 1 ∨ i = 2 ∨ i = 3 ∨ i = 4 ∨ i = 5 ∨ i = 6 ∨ i = 7 ∨ i = 8 ∨ i = 9 ∨ i = 10 ∨ i = 11 ∨ i = 12 ∨ i = 13 by omega) with rfl | rfl | rfl | rfl | rfl | rfl | rfl | rfl | rfl | rfl | rfl | rfl | rfl | rfl
  · exact pm_f6_0
  · exact pm_f6_1
  · exact pm_f6_2
  · exact pm_f6_3
  · exact pm_f6_4
  · exact pm_f6_5
  · exact pm_f6_6
  · exact pm_f6_7
  · exact pm_f6_8
  · exact pm_f6_9
  · exact pm_f6_10
  · exact pm_f6_11
  · exact pm_f6_12
  · exact pm_f6_13
theorem pm_f6 : ∀ i j, i < 14 → j < 14 → i ≠ j → Jvm.Cond.not (Jvm.Cond.eq (pm_tm i) (pm_tm j)) ∈ pm_fl ∨ Jvm.Cond.not (Jvm.Cond.eq (pm_tm j) (pm_tm i)) ∈ pm_fl := by
  have key : ∀ i j, i < 14 → j < 14 → i < j → Jvm.Cond.not (Jvm.Cond.eq (pm_tm i) (pm_tm j)) ∈ pm_fl := by
    intro i j hi hj hlt
    have h1 := List.all_eq_true.mp (pm_f6_all i hi) j (List.mem_range.mpr hj)
    simp only [Bool.or_eq_true, decide_eq_true_eq] at h1
    rcases h1 with h1 | h1
    · omega
    · exact h1
  intro i j hi hj hne
  rcases Nat.lt_or_gt_of_ne hne with h | h
  · exact Or.inl (key i j hi hj h)
  · exact Or.inr (key j i hj hi h)
theorem pm_f7 : ∀ i, i < 14 → ∀ q, pm_tx[i]? = some q → Jvm.Cond.stringRef "UphillOnly$Script" q.1 q.2.1 ∈ lw_tbl := by
  have h : ∀ i, i < 14 → (match pm_tx[i]? with | some q => decide (Jvm.Cond.stringRef "UphillOnly$Script" q.1 q.2.1 ∈ lw_tbl) | none => true) = true := pm_all14 (by decide +kernel)
  intro i hi q hq
  have h1 := h i hi
  rw [hq] at h1
  simpa using h1
theorem pm_f8 : ∀ i, i < 4 → Jvm.Cond.laysStatic (pm_sn i).1.1 (pm_sn i).1.2.1 (pm_sn i).1.2.2 ∈ lw_tbl ∧ Jvm.Cond.initialized (pm_sn i).1.1 ∈ lw_tbl := by
  have h : (List.range 4).all (fun i => decide (Jvm.Cond.laysStatic (pm_sn i).1.1 (pm_sn i).1.2.1 (pm_sn i).1.2.2 ∈ lw_tbl) && decide (Jvm.Cond.initialized (pm_sn i).1.1 ∈ lw_tbl)) = true := by decide +kernel
  intro i hi
  simpa using List.all_eq_true.mp h i (List.mem_range.mpr hi)
theorem pm_f9 : ∀ b, b < 5 → Jvm.Cond.instantiable (pm_cn b) (pm_cN b) ∈ lw_tbl := by
  have h : (List.range 5).all (fun b => decide (Jvm.Cond.instantiable (pm_cn b) (pm_cN b) ∈ lw_tbl)) = true := by decide +kernel
  intro i hi
  simpa using List.all_eq_true.mp h i (List.mem_range.mpr hi)
theorem pm_arrK {args : Array Value} {s : State} {ty : FieldType} (hty : ∀ k : String, ty ≠ .object k) (h : (Jvm.Cond.arrayClass ty).before args s = true) : ∃ cA : ClassId, ArrOfT s cA ty ∧ s.vm.findClass ("[" ++ ty.toString) = some cA := by
  obtain ⟨cA, kA, comp, h1, h2, h3⟩ := Cond.arrayClass_spec h
  exact ⟨cA, fun n z => ⟨fun k h => (by cases h), kA, h2, comp, h3⟩, h1⟩
end
section
set_option maxHeartbeats 4000000 in
set_option maxRecDepth 100000 in
theorem pm_start {p : Program} {e : Env} {s : State} {m : MethodId} {below : List Frame} {meth : Method} {c : Code} (l : Launch) {b L : Nat} {xs : Nat → Int32} (hpure : pm_R (L, xs) mm_L_law.1 0 [some (.ref 999), none, none, none] [] (0, fun _ _ => 0, fun _ _ => 0, fun _ _ => 0) (fun o w => o = some (.int 1) ∧ w.1 = 41)) (C0 : lw_At p s m meth c b L xs) : W p l e room_1 s m #[Value.ref b] below meth c s.heap [] 0 0 (lw_Z below #[Value.ref b] s) (entryFrame m ([Value.ref b] : List Value).toArray 4) := by
  obtain ⟨hx, hb, hr, hml, hown, hts, hX, hbl, hlocks, hgv⟩ := C0
  have hfl : ∀ q ∈ pm_fl, q.before #[Value.ref b] s = true := flat_of_before _ hgv
  have hB : ∀ w ∈ pm_B, w.before #[Value.ref b] s = true := fun w hw => hts w (List.mem_filter.mp hw).1
  have hA : ∀ a : Nat, a < s.heap.size → ¬ (fun q => s.heap.size ≤ q) a := fun a ha => Nat.not_le.mpr ha
  -- the objects
  have hk0 : ∀ k : Nat, ∃ z : ClassId × (Nat → Nat), ∀ q, pm_cl[k]? = some q → u_Kn s q.1 q.2.1 q.2.2 z.1 z.2 := by
    intro k
    cases hq : pm_cl[k]? with
    | none => exact ⟨(0, fun _ => 0), fun q h => by cases h⟩
    | some q =>
      have hk5 : k < 5 := (List.getElem?_eq_some_iff.mp hq).1
      have e1 : pm_cn k = q.1 := by unfold pm_cn; rw [hq]
      have e2 : pm_cN k = q.2.2 := by unfold pm_cN; rw [hq]
      have h9 := hts _ (pm_f9 k hk5)
      rw [e1, e2] at h9
      obtain ⟨cC, iS, h⟩ := u_known hB (pm_cl_ok k q hq).1 h9
      exact ⟨(cC, iS), fun q' h' => by cases h'; exact h⟩
  obtain ⟨dK, hdK⟩ := Classical.axiomOfChoice hk0
  -- the rows' kinds
  obtain ⟨aI, hI1, hI2⟩ := pm_arrK (fun k h => by cases h) (hts (.arrayClass .int) (by decide +kernel))
  obtain ⟨aZ, hZ1, hZ2⟩ := pm_arrK (fun k h => by cases h) (hts (.arrayClass .boolean) (by decide +kernel))
  have hK : va_K (fun k => (dK k).1, fun k => (dK k).2) pm_cl [(aI, .int), (aZ, .boolean)] s := by
    refine ⟨fun k q hq => hdK k q hq, fun k q hq => ?_⟩
    match k, hq with
    | 0, hq => cases hq; exact ⟨hI1, hI2⟩
    | 1, hq => cases hq; exact ⟨hZ1, hZ2⟩
    | k + 2, hq => simp at hq
  -- texts
  obtain ⟨adK, adV, hT, hTe⟩ := vk_Sof (N := 14) (tm := pm_tm) (len := pm_ln) (byt := pm_by) (A := fun q => s.heap.size ≤ q) (args := #[Value.ref b]) (s := s) (pm_all14 (by decide +kernel)) (fun i hi => hfl _ (pm_f1 i hi)) (fun i hi => hfl _ (pm_f2 i hi)) (fun i hi => hfl _ (pm_f3 i hi)) (fun i hi => hfl _ (pm_f4 i hi)) (fun i hi j hj => hfl _ (pm_f5 i hi j hj)) (fun i j hi hj hne => (pm_f6 i j hi hj hne).imp (hfl _) (hfl _)) hA
  -- statics
  obtain ⟨tO, hO1, hO2⟩ := va_Tof (args := #[Value.ref b]) (s := s) (tm := .static "UphillOnly" "KIND_OF" "[I") (ty := .int) (N := 4) (f := fun j => .int ([1, 3, 2, 4].getD j 0)) (A := fun q => s.heap.size ≤ q) (by decide) (hfl _ (by decide +kernel)) (va_eqt (hfl _ (by decide +kernel))) (fun j hj => va_eqt (hfl _ (by rcases (show j = 0 ∨ j = 1 ∨ j = 2 ∨ j = 3 by omega) with rfl | rfl | rfl | rfl <;> decide +kernel))) hA
  obtain ⟨tA, hA1, hA2⟩ := va_Tof (args := #[Value.ref b]) (s := s) (tm := .static "UphillOnly" "KIND_ABOVE" "[I") (ty := .int) (N := 5) (f := fun j => .int ([-1, 0, 1, 0, 3].getD j 0)) (A := fun q => s.heap.size ≤ q) (by decide) (hfl _ (by decide +kernel)) (va_eqt (hfl _ (by decide +kernel))) (fun j hj => va_eqt (hfl _ (by rcases (show j = 0 ∨ j = 1 ∨ j = 2 ∨ j = 3 ∨ j = 4 by omega) with rfl | rfl | rfl | rfl | rfl <;> decide +kernel))) hA
  have hCS : (Term.static "java/lang/String" "COMPACT_STRINGS" "Z").eval #[Value.ref b] s none [] s = some (.int 1) := va_eqi (hfl _ (by decide +kernel))
  have hSI : ∃ ν : Value, (Term.static "jdk/internal/util/Preconditions" "SIOOBE_FORMATTER" "Ljava/util/function/BiFunction;").eval #[Value.ref b] s none [] s = some ν ∧ ν.category = 1 := by
    have h := hfl (.isRef (.static "jdk/internal/util/Preconditions" "SIOOBE_FORMATTER" "Ljava/util/function/BiFunction;")) (by decide +kernel)
    cases hv : (Term.static "jdk/internal/util/Preconditions" "SIOOBE_FORMATTER" "Ljava/util/function/BiFunction;").eval #[Value.ref b] s none [] s with
    | none => simp [Cond.before, Cond.holds, Cond.value, hv] at h
    | some v =>
      refine ⟨v, rfl, ?_⟩
      cases v <;> first | rfl | (simp [Cond.before, Cond.holds, Cond.value, hv] at h)
  obtain ⟨ν, hν1, hν⟩ := hSI
  obtain ⟨ρ, hρ⟩ : ∃ ρ : Nat → Nat, ρ = fun k => if k < 41 then s.heap.size + k else if k = 900 then tO else if k = 901 then tA else if k = 999 then b else if 1000 ≤ k ∧ k < 1014 then adK (k - 1000) else if 1100 ≤ k ∧ k < 1114 then adV (k - 1100) else 0 := ⟨_, rfl⟩
  have r0 : ∀ k, k < 41 → ρ k = s.heap.size + k := fun k hk => by rw [hρ]; exact if_pos hk
  have r1 : ρ 900 = tO := by rw [hρ]; rfl
  have r2 : ρ 901 = tA := by rw [hρ]; rfl
  have r3 : ρ 999 = b := by rw [hρ]; rfl
  have r4 : ∀ i, i < 14 → ρ (1000 + i) = adK i := fun i hi => by
    rw [hρ]
    simp only
    rw [if_neg (by omega), if_neg (by omega), if_neg (by omega), if_neg (by omega), if_pos (by omega), show 1000 + i - 1000 = i by omega]
  have r5 : ∀ i, i < 14 → ρ (1100 + i) = adV i := fun i hi => by
    rw [hρ]
    simp only
    rw [if_neg (by omega), if_neg (by omega), if_neg (by omega), if_neg (by omega), if_neg (by omega), if_pos (by omega), show 1100 + i - 1100 = i by omega]
  have hXE : pm_XE (L, xs) ρ ν (fun q => s.heap.size ≤ q) s s.heap := by
    refine ⟨fun k q hk => ?_, fun i hi => ?_, fun i hi => ?_, fun i hi q hq => ?_⟩
    · unfold pm_xa at hk
      split at hk
      next h9 => subst h9; cases hk; rw [r1]; exact hO2
      next =>
        split at hk
        next h9 => subst h9; cases hk; rw [r2]; exact hA2
        next =>
          split at hk
          next h9 =>
            subst h9
            cases hk
            rw [r3]
            obtain ⟨scr, g1, g2, g3, g4, g5⟩ := hX
            exact ⟨scr, g1, g2, g3, Nat.le_of_eq g4.symm, by rw [g4], g5, hA b hbl⟩
          next =>
            split at hk
            next h9 =>
              cases hk
              have h14 : k - 1100 < 14 := by omega
              have hh := (hT.1 (k - 1100) h14).2.2.2
              rw [← r5 _ h14, show 1100 + (k - 1100) = k by omega] at hh
              have e1 : ∀ i, i < 14 → pm_ln.getD i 0 = (pm_tb i).length := pm_all14 (by decide +kernel)
              have e2 : ∀ i, i < 14 → pm_by.getD i [] = pm_tb i := pm_all14 (by decide +kernel)
              rw [e1 _ h14, e2 _ h14] at hh
              exact hh
            next => cases hk
    · obtain ⟨f1, f2⟩ := pm_f8 i hi
      refine va_Zof (hts _ f1) (hts _ f2) ?_ hA
      rcases (show i = 0 ∨ i = 1 ∨ i = 2 ∨ i = 3 by omega) with rfl | rfl | rfl | rfl
      · exact hCS
      · show _ = some (pm_rv ρ ν (.ref 900))
        rw [show pm_rv ρ ν (.ref 900) = .ref (ρ 900) from rfl, r1]
        exact hO1
      · show _ = some (pm_rv ρ ν (.ref 901))
        rw [show pm_rv ρ ν (.ref 901) = .ref (ρ 901) from rfl, r2]
        exact hA1
      · exact hν1
    · obtain ⟨g1, g2, g3, g4⟩ := hT.1 i hi
      rw [r4 i hi, show 1000 + i + 100 = 1100 + i by omega, r5 i hi]
      exact ⟨g1, g2, g3⟩
    · rw [r4 i hi]
      have e1 : pm_tm i = .string "UphillOnly$Script" q.1 := by unfold pm_tm pm_tk; rw [hq]
      have h9 := hTe i hi
      rw [e1] at h9
      exact vk_R.of (hts _ (pm_f7 i hi q hq)) h9
  obtain ⟨f, o, w', hev, rfl, hn⟩ := hpure
  have hBD := pm_body (l := l) (D := (fun k => (dK k).1, fun k => (dK k).2)) (aI := aI) (aZ := aZ) (base := s.heap.size) r0 hν f mm_L_law 0 _ [] _ _ w' pm_gd_L hev
  rw [lg_entry_eq]
  have hl := pm_entry (ρ := ρ) (ν := ν) hν (vs := [.ref 999]) (mx := 4) (by decide)
  have e9 : ([Value.ref 999] : List Value).map (pm_rv ρ ν) = [.ref b] := by
    show [pm_rv ρ ν (.ref 999)] = _
    rw [show pm_rv ρ ν (.ref 999) = .ref (ρ 999) from rfl, r3]
  rw [e9] at hl
  refine hBD p e room_1 s m #[Value.ref b] below meth c s.heap [] 0 0 _ _ 0 hx hb hml hown hB (fun h => absurd h (by decide)) ⟨by decide, by decide⟩ hK hXE rfl ⟨fun k q h => (by cases h), Nat.zero_le _⟩ va_S.rf hl rfl (Nat.le_refl _) rfl (by rw [hn]; decide) (by rw [hn]; decide +kernel) ?_
  intro H' locs' ls' pc' hH' hS' hrd
  obtain ⟨hd, -⟩ := hrd
  rw [hn, show pm_ss 41 - pm_ss 0 = 905 by decide +kernel]
  exact va_forget (fun q hq => hS'.2.2 q hq) (lw_ret hx hb hr hlocks hd)
end
section
/-! the references, once all is made: c the town that stands (6 or 15) -/
def sy_rt (c : Nat) : List (List Nat) := [[2, 4, c + 1, 22 - c, 0, 0, 25, 26, 27, 0, 28, 29, 30, 0], [3], [], [5, 6], [], [], [0, 8, 9, 0, 0, 10, 11, 12, 13, 0, 0, 0, 14, 15], [], [], [], [], [], [], [], [], [0, 17, 18, 0, 0, 19, 20, 21, 22, 0, 0, 0, 23, 24], [], [], [], [], [], [], [], [], [], [], [], [], [], [], [0, 32, 0, 0, 33, 0, 0, 0, 34, 0, 35, 0, 0, 0, 0, 0, 0, 0, 0, 0, 0, 36, 0, 0, 37, 38, 0, 39, 0, 40, 0, 41]]
def sy_R (c : Nat) : Nat → Nat → Nat := fun a j => ((sy_rt c).getD a []).getD j 0
/-- the town at T is the one that al tells -/
def sy_T (T : Nat) (I : Nat → Nat → Int32) (al : Nat → Nat → Nat) : Prop :=
  (I T 0 = nI (al 0 0) ∧ I T 3 = nI (al 3 0) ∧ I T 4 = nI (al 4 0) ∧ I T 9 = nI (al 9 0) ∧ I T 10 = nI (al 10 0) ∧ I T 11 = nI (al 11 0)) ∧ (∀ i, i < 8 → I (T + 1) i = nI (al 1 i) ∧ I (T + 2) i = nI (al 2 i)) ∧ (∀ i, i < 12 → I (T + 3) i = nI (al 5 i) ∧ I (T + 4) i = nI (al 6 i) ∧ I (T + 5) i = nI (al 7 i) ∧ I (T + 6) i = nI (al 8 i)) ∧ (∀ i, i < 8 → I (T + 7) i = nI (al 12 i) ∧ I (T + 8) i = nI (al 13 i))
def sy_TM (I : Nat → Nat → Int32) (al : Nat → Nat → Nat) : Prop :=
  (I 30 0 = nI (al 0 0) ∧ I 30 2 = nI (al 3 0) ∧ I 30 3 = nI (al 4 0) ∧ I 30 6 = nI (al 9 0) ∧ I 30 5 = nI (al 10 0) ∧ I 30 7 = nI (al 11 0)) ∧ (∀ i, i < 8 → I 31 (2 * i) = nI (al 1 i) ∧ I 31 (2 * i + 1) = nI (al 2 i)) ∧ (∀ i, i < 12 → I 32 (4 * i) = nI (al 5 i) ∧ I 32 (4 * i + 1) = nI (al 6 i) ∧ I 32 (4 * i + 2) = nI (al 7 i) ∧ I 32 (4 * i + 3) = nI (al 8 i)) ∧ (∀ i, i < 8 → I 33 (2 * i) = nI (al 12 i) ∧ I 33 (2 * i + 1) = nI (al 13 i))
def sy_C (c : Nat) (I : Nat → Nat → Int32) (al : Nat → Nat → Nat) : Prop :=
  sy_T c I al ∧ (I 1 1 = nI (al 20 0) ∧ ∀ i, i < 200 → I 2 i = nI (al 21 i)) ∧ (I 0 4 = nI (al 22 0) ∧ I 0 5 = nI (al 23 0)) ∧ (∀ k, k < 2 → I 24 k = nI (al 24 k) ∧ I 25 k = if al 26 k = 0 then -1 else nI (al 25 k)) ∧ (I 0 9 = nI (al 27 0) ∧ ∀ i, i < 12 → I 26 i = nI (al 28 i)) ∧ (I 0 13 = nI (al 29 0) ∧ ∀ i, i < 12 → I 27 i = nI (al 30 i) ∧ I 28 i = nI (al 31 i) ∧ I 29 i = nI (al 32 i))
def sy_M (I : Nat → Nat → Int32) (al : Nat → Nat → Nat) : Prop :=
  sy_TM I al ∧ (I 30 9 = nI (al 20 0) ∧ ∀ i, i < 200 → I 34 i = nI (al 21 i)) ∧ (I 30 22 = nI (al 22 0) ∧ I 30 23 = nI (al 23 0)) ∧ (∀ k, k < 2 → I 36 (2 * k) = nI (al 24 k) ∧ I 36 (2 * k + 1) = nI (al 25 k) ∧ I 37 k = nI (al 26 k)) ∧ (I 30 26 = nI (al 27 0) ∧ ∀ i, i < 12 → I 38 i = nI (al 28 i)) ∧ (I 30 28 = nI (al 29 0) ∧ ∀ i, i < 12 → I 39 (3 * i) = nI (al 30 i) ∧ I 39 (3 * i + 1) = nI (al 31 i) ∧ I 39 (3 * i + 2) = nI (al 32 i)) ∧ I 30 30 = -1
/-- what a town is like -/
def sy_WT (al : Nat → Nat → Nat) : Prop :=
  (2 ≤ al 0 0 ∧ al 0 0 ≤ 8) ∧ (∀ i, i < 8 → al 1 i ≤ 99 ∧ al 2 i ≤ 99) ∧ al 3 0 < 2 ^ al 0 0 ∧ al 4 0 ≤ 12 ∧ (∀ i, i < al 4 0 → (al 5 i < al 0 0 ∧ al 6 i < al 0 0 ∧ al 5 i ≠ al 6 i) ∧ al 7 i ≤ 3 ∧ 1 ≤ al 8 i ∧ al 8 i ≤ 99) ∧ (10 ≤ al 9 0 ∧ al 9 0 ≤ 999) ∧ al 10 0 ≤ 2 ∧ al 11 0 ≤ 8 ∧ (∀ i, i < al 11 0 → al 12 i < al 0 0 ∧ al 13 i < al 0 0 ∧ al 12 i ≠ al 13 i)
def sy_W (al : Nat → Nat → Nat) : Prop :=
  sy_WT al ∧ (al 20 0 ≤ 200 ∧ ∀ i, i < 200 → al 21 i ≤ 255) ∧ (al 22 0 < al 0 0 ∧ al 23 0 ≤ 99999) ∧ (∀ k, k < 2 → al 26 k ≤ 1 ∧ (al 26 k = 1 → al 24 k < al 0 0 ∧ al 25 k ≤ 99999)) ∧ (al 27 0 ≤ 12 ∧ ∀ i, i < al 27 0 → al 28 i < al 0 0) ∧ (al 29 0 ≤ 12 ∧ ∀ i, i < al 29 0 → al 30 i < al 0 0 ∧ al 31 i < al 0 0 ∧ al 32 i ≤ 1 ∧ al 30 i ≠ al 31 i)
theorem sy_T.cong {T : Nat} {I I' : Nat → Nat → Int32} {al : Nat → Nat → Nat} (h : sy_T T I al) (hI : ∀ a, T ≤ a → a ≤ T + 8 → I' a = I a) : sy_T T I' al := by
  unfold sy_T at h ⊢
  rw [hI T (by omega) (by omega), hI (T + 1) (by omega) (by omega), hI (T + 2) (by omega) (by omega), hI (T + 3) (by omega) (by omega), hI (T + 4) (by omega) (by omega), hI (T + 5) (by omega) (by omega), hI (T + 6) (by omega) (by omega), hI (T + 7) (by omega) (by omega), hI (T + 8) (by omega) (by omega)]
  exact h
theorem sy_C.cong {c : Nat} {I I' : Nat → Nat → Int32} {al : Nat → Nat → Nat} (hc : c = 6 ∨ c = 15) (h : sy_C c I al) (hI : ∀ a, a < 30 → I' a = I a) : sy_C c I' al := by
  have h1 : sy_T c I' al := h.1.cong (fun a _ _ => hI a (by omega))
  refine ⟨h1, ?_⟩
  have h2 := h.2
  rw [hI 0 (by omega), hI 1 (by omega), hI 2 (by omega), hI 24 (by omega), hI 25 (by omega), hI 26 (by omega), hI 27 (by omega), hI 28 (by omega), hI 29 (by omega)]
  exact h2
theorem sy_M.cong {I I' : Nat → Nat → Int32} {al : Nat → Nat → Nat} (h : sy_M I al) (hI : ∀ a, 30 ≤ a → I' a = I a) : sy_M I' al := by
  unfold sy_M sy_TM at h ⊢
  rw [hI 30 (by omega), hI 31 (by omega), hI 32 (by omega), hI 33 (by omega), hI 34 (by omega), hI 36 (by omega), hI 37 (by omega), hI 38 (by omega), hI 39 (by omega)]
  exact h
/-- what a method of the system does: its answer, and what it makes of the state -/
def sy_Cm (X : Nat × (Nat → Int32)) (M : pm_M) (L : pm_L) (r : Int32) (al al' : Nat → Nat → Nat) : Prop := ∀ (c : Nat) (I : Nat → Nat → Int32) (J : Nat → Nat → Int64), (c = 6 ∨ c = 15) → sy_C c I al → pm_R X M.1 0 L [] (41, sy_R c, I, J) (fun o w => o = some (.int r) ∧ ∃ c' I', (c' = 6 ∨ c' = 15) ∧ w = (41, sy_R c', I', J) ∧ sy_C c' I' al' ∧ ∀ a, 30 ≤ a → I' a = I a)
def sy_Mm (X : Nat × (Nat → Int32)) (M : pm_M) (L : pm_L) (r : Int32) (al al' : Nat → Nat → Nat) : Prop := ∀ (c : Nat) (I : Nat → Nat → Int32) (J : Nat → Nat → Int64), (c = 6 ∨ c = 15) → sy_M I al → pm_R X M.1 0 L [] (41, sy_R c, I, J) (fun o w => o = some (.int r) ∧ ∃ I' J', w = (41, sy_R c, I', J') ∧ sy_M I' al' ∧ ∀ a, a < 30 → I' a = I a)
/-- both sides at one -/
def sy_Op (X : Nat × (Nat → Int32)) (Mc Mm : pm_M) (as : pm_L) (al : Nat → Nat → Nat) : Prop := ∃ (r : Int32) (al' : Nat → Nat → Nat), sy_W al' ∧ sy_Cm X Mc (some (.ref 0) :: as ++ List.replicate (Mc.2.1 - (as.length + 1)) none) r al al' ∧ sy_Mm X Mm (some (.ref 30) :: as ++ List.replicate (Mm.2.1 - (as.length + 1)) none) r al al'
/-! numbers -/
theorem rg {x : Int32} {lo hi : Nat} (h1 : ¬ x < nI lo) (h2 : ¬ nI hi < x) (h : hi < 2 ^ 31) (hl : lo < 2 ^ 31) : ∃ k, lo ≤ k ∧ k ≤ hi ∧ x = nI k := by
  have a1 : (nI lo).toInt ≤ x.toInt := Int32.le_iff_toInt_le.mp (Int32.not_lt.mp h1)
  have a2 : x.toInt ≤ (nI hi).toInt := Int32.le_iff_toInt_le.mp (Int32.not_lt.mp h2)
  rw [nI_toInt hl] at a1
  rw [nI_toInt h] at a2
  refine ⟨x.toInt.toNat, by omega, by omega, Int32.toInt_inj.mp ?_⟩
  rw [nI_toInt (by omega)]
  omega
theorem nI_lt' {a b : Nat} (ha : a < 2 ^ 31) (hb : b < 2 ^ 31) : (nI a < nI b) = (a < b) := propext (nI_ltI ha hb)
theorem nI_le' {a b : Nat} (ha : a < 2 ^ 31) (hb : b < 2 ^ 31) : (nI a ≤ nI b) = (a ≤ b) := propext (nI_leI ha hb)
theorem nI_eq' {a b : Nat} (ha : a < 2 ^ 31) (hb : b < 2 ^ 31) : (nI a = nI b) = (a = b) := propext (nI_eq ha hb)
theorem sy_idx {k N : Nat} (h : k < N) (hN : N < 2 ^ 31) : (0 : Int32) ≤ nI k ∧ (nI k).toNatClampNeg < N := ⟨nI_pos' (by omega), by rw [nI_clamp (by omega)]; exact h⟩
end
section
theorem pm_eqp {X : Nat × (Nat → Int32)} {tb : List pm_E × Option FieldType} {pc pc' : Nat} {L : pm_L} {S : List Value} {w : pm_Wo} {K : Option Value → pm_Wo → Prop} (h : pc = pc') (k : pm_R X tb pc' L S w K) : pm_R X tb pc L S w K := h ▸ k
theorem pm_ifT {X : Nat × (Nat → Int32)} {tb : List pm_E × Option FieldType} {L : pm_L} {S : List Value} {w : pm_Wo} {K : Option Value → pm_Wo → Prop} {c : Prop} [Decidable c] {a b : Nat} (h : c) (k : pm_R X tb a L S w K) : pm_R X tb (if c then a else b) L S w K := by rw [if_pos h]; exact k
theorem pm_ifF {X : Nat × (Nat → Int32)} {tb : List pm_E × Option FieldType} {L : pm_L} {S : List Value} {w : pm_Wo} {K : Option Value → pm_Wo → Prop} {c : Prop} [Decidable c] {a b : Nat} (h : ¬ c) (k : pm_R X tb b L S w K) : pm_R X tb (if c then a else b) L S w K := by rw [if_neg h]; exact k
theorem pm_uG {f : Nat → Nat → Int32} {k j : Nat} {v : Int32} {a : Nat} (ha : 30 ≤ a) (hk : Nat.blt k 30 = true) : pm_u f k j v a = f a := pm_u_cell (by have : k < 30 := Nat.le_of_ble_eq_true hk; omega)
theorem pm_uL {f : Nat → Nat → Int32} {k j : Nat} {v : Int32} {a : Nat} (ha : a < 30) (hk : Nat.ble 30 k = true) : pm_u f k j v a = f a := pm_u_cell (by have : 30 ≤ k := Nat.le_of_ble_eq_true hk; omega)
section SM
variable {X : Nat × (Nat → Int32)} {al al' : Nat → Nat → Nat} {c : Nat} {I I' : Nat → Nat → Int32} {J J' : Nat → Nat → Int64} {r v : Int32}
theorem cl_0 (hc : c = 6 ∨ c = 15) (h : sy_C c I al) (e : v = r) : some (Value.int v) = some (.int r) ∧ ∃ c' I', (c' = 6 ∨ c' = 15) ∧ ((41, sy_R c, I, J) : pm_Wo) = (41, sy_R c', I', J) ∧ sy_C c' I' al ∧ ∀ a, 30 ≤ a → I' a = I a := ⟨by rw [e], c, I, hc, rfl, h, fun _ _ => rfl⟩
theorem cl_1 (hc : c = 6 ∨ c = 15) (h : sy_C c I' al') (hI : ∀ a, 30 ≤ a → I' a = I a) (e : v = r) : some (Value.int v) = some (.int r) ∧ ∃ c' I1, (c' = 6 ∨ c' = 15) ∧ ((41, sy_R c, I', J) : pm_Wo) = (41, sy_R c', I1, J) ∧ sy_C c' I1 al' ∧ ∀ a, 30 ≤ a → I1 a = I a := ⟨by rw [e], c, I', hc, rfl, h, hI⟩
theorem ml_0 (h : sy_M I al) (e : v = r) : some (Value.int v) = some (.int r) ∧ ∃ I' J', ((41, sy_R c, I, J) : pm_Wo) = (41, sy_R c, I', J') ∧ sy_M I' al ∧ ∀ a, a < 30 → I' a = I a := ⟨by rw [e], I, J, rfl, h, fun _ _ => rfl⟩
theorem ml_1 (h : sy_M I' al') (hI : ∀ a, a < 30 → I' a = I a) (e : v = r) : some (Value.int v) = some (.int r) ∧ ∃ I1 J1, ((41, sy_R c, I', J') : pm_Wo) = (41, sy_R c, I1, J1) ∧ sy_M I1 al' ∧ ∀ a, a < 30 → I1 a = I a := ⟨by rw [e], I', J', rfl, h, hI⟩
end SM
/-! the model's 'in' -/
theorem md_in1 {X : Nat × (Nat → Int32)} {w : pm_Wo} {v a b : Int32} (h1 : a ≤ v) (h2 : v ≤ b) : pm_R X mm_X4_in.1 0 [some (.int v), some (.int a), some (.int b)] [] w (fun o w' => o = some (.int 1) ∧ w' = w) := by
  have h3 : ¬ v < a := Int32.not_lt.mpr h1
  have h4 : ¬ b < v := Int32.not_lt.mpr h2
  (repeat' first | refine pm_s rfl rfl ?_ | refine pm_ifT (by assumption) ?_ | refine pm_ifF (by assumption) ?_ | refine pm_ial rfl rfl (by assumption) ?_ | refine pm_ias rfl rfl rfl (by assumption) ?_ | refine pm_r rfl rfl rfl ?_ | refine pm_rz rfl rfl rfl ?_)
  exact ⟨rfl, rfl⟩
theorem md_in0 {X : Nat × (Nat → Int32)} {w : pm_Wo} {v a b : Int32} (h : v < a ∨ b < v) : pm_R X mm_X4_in.1 0 [some (.int v), some (.int a), some (.int b)] [] w (fun o w' => o = some (.int 0) ∧ w' = w) := by
  by_cases h1 : v < a
  · (repeat' first | refine pm_s rfl rfl ?_ | refine pm_ifT (by assumption) ?_ | refine pm_ifF (by assumption) ?_ | refine pm_ial rfl rfl (by assumption) ?_ | refine pm_ias rfl rfl rfl (by assumption) ?_ | refine pm_r rfl rfl rfl ?_ | refine pm_rz rfl rfl rfl ?_)
    exact ⟨rfl, rfl⟩
  · have h2 : b < v := h.resolve_left h1
    (repeat' first | refine pm_s rfl rfl ?_ | refine pm_ifT (by assumption) ?_ | refine pm_ifF (by assumption) ?_ | refine pm_ial rfl rfl (by assumption) ?_ | refine pm_ias rfl rfl rfl (by assumption) ?_ | refine pm_r rfl rfl rfl ?_ | refine pm_rz rfl rfl rfl ?_)
    exact ⟨rfl, rfl⟩
set_option maxHeartbeats 4000000 in
set_option maxRecDepth 100000 in
theorem op_rest {X : Nat × (Nat → Int32)} {al : Nat → Nat → Nat} (hW : sy_W al) (n : Int32) : sy_Op X mm_X3_rest mm_X4_rest [some (.int n)] al := by
  have h23 := hW.2.2.1.2
  by_cases h1 : n < 1
  · refine ⟨-3, al, hW, ?_, ?_⟩
    · intro c I J hc hC
      (repeat' first | refine pm_s rfl rfl ?_ | refine pm_ifT (by assumption) ?_ | refine pm_ifF (by assumption) ?_ | refine pm_ial rfl rfl (by assumption) ?_ | refine pm_ias rfl rfl rfl (by assumption) ?_ | refine pm_r rfl rfl rfl ?_ | refine pm_rz rfl rfl rfl ?_)
      exact cl_0 hc hC rfl
    · intro c I J hc hC
      (repeat' first | refine pm_s rfl rfl ?_ | refine pm_ifT (by assumption) ?_ | refine pm_ifF (by assumption) ?_ | refine pm_ial rfl rfl (by assumption) ?_ | refine pm_ias rfl rfl rfl (by assumption) ?_ | refine pm_r rfl rfl rfl ?_ | refine pm_rz rfl rfl rfl ?_)
      refine pm_cq rfl rfl rfl rfl rfl rfl (md_in0 (Or.inl h1)) ?_
      (repeat' first | refine pm_s rfl rfl ?_ | refine pm_ifT (by assumption) ?_ | refine pm_ifF (by assumption) ?_ | refine pm_ial rfl rfl (by assumption) ?_ | refine pm_ias rfl rfl rfl (by assumption) ?_ | refine pm_r rfl rfl rfl ?_ | refine pm_rz rfl rfl rfl ?_)
      exact ml_0 hC rfl
  by_cases h2 : 9999 < n
  · have h2' : ¬ n ≤ 9999 := Int32.not_le.mpr h2
    refine ⟨-3, al, hW, ?_, ?_⟩
    · intro c I J hc hC
      (repeat' first | refine pm_s rfl rfl ?_ | refine pm_ifT (by assumption) ?_ | refine pm_ifF (by assumption) ?_ | refine pm_ial rfl rfl (by assumption) ?_ | refine pm_ias rfl rfl rfl (by assumption) ?_ | refine pm_r rfl rfl rfl ?_ | refine pm_rz rfl rfl rfl ?_)
      exact cl_0 hc hC rfl
    · intro c I J hc hC
      (repeat' first | refine pm_s rfl rfl ?_ | refine pm_ifT (by assumption) ?_ | refine pm_ifF (by assumption) ?_ | refine pm_ial rfl rfl (by assumption) ?_ | refine pm_ias rfl rfl rfl (by assumption) ?_ | refine pm_r rfl rfl rfl ?_ | refine pm_rz rfl rfl rfl ?_)
      refine pm_cq rfl rfl rfl rfl rfl rfl (md_in0 (Or.inr h2)) ?_
      (repeat' first | refine pm_s rfl rfl ?_ | refine pm_ifT (by assumption) ?_ | refine pm_ifF (by assumption) ?_ | refine pm_ial rfl rfl (by assumption) ?_ | refine pm_ias rfl rfl rfl (by assumption) ?_ | refine pm_r rfl rfl rfl ?_ | refine pm_rz rfl rfl rfl ?_)
      exact ml_0 hC rfl
  have h1' : 1 ≤ n := Int32.not_lt.mp h1
  have h2' : n ≤ 9999 := Int32.not_lt.mp h2
  obtain ⟨k, hk1, hk2, rfl⟩ := rg (lo := 1) (hi := 9999) h1 h2 (by decide) (by decide)
  by_cases h3 : al 23 0 + k ≤ 99999
  · have hle : nI (al 23 0) + nI k ≤ 99999 := by rw [nI_add]; exact (nI_leI (b := 99999) (by omega) (by decide)).mpr h3
    refine ⟨nI (al 23 0 + k), pm_u al 23 0 (al 23 0 + k), ?_, ?_, ?_⟩
    · simpa [sy_W, sy_WT, pm_u, h3, h23] using hW
    · intro c I J hc hC
      have e5 : I 0 5 = nI (al 23 0) := hC.2.2.1.2
      rw [← e5] at hle
      (repeat' first | refine pm_s rfl rfl ?_ | refine pm_ifT (by assumption) ?_ | refine pm_ifF (by assumption) ?_ | refine pm_ial rfl rfl (by assumption) ?_ | refine pm_ias rfl rfl rfl (by assumption) ?_ | refine pm_r rfl rfl rfl ?_ | refine pm_rz rfl rfl rfl ?_)
      refine cl_1 hc ?_ (fun a ha => ?_) ?_
      · rcases hc with rfl | rfl <;> simpa [sy_C, sy_T, pm_u, e5, nI_add] using hC
      · (repeat rw [pm_uG ha rfl])
      · rw [pm_u_same, e5, nI_add]
    · intro c I J hc hC
      have e5 : I 30 23 = nI (al 23 0) := hC.2.2.1.2
      rw [← e5] at hle
      (repeat' first | refine pm_s rfl rfl ?_ | refine pm_ifT (by assumption) ?_ | refine pm_ifF (by assumption) ?_ | refine pm_ial rfl rfl (by assumption) ?_ | refine pm_ias rfl rfl rfl (by assumption) ?_ | refine pm_r rfl rfl rfl ?_ | refine pm_rz rfl rfl rfl ?_)
      refine pm_cq rfl rfl rfl rfl rfl rfl (md_in1 h1' h2') ?_
      (repeat' first | refine pm_s rfl rfl ?_ | refine pm_ifT (by assumption) ?_ | refine pm_ifF (by assumption) ?_ | refine pm_ial rfl rfl (by assumption) ?_ | refine pm_ias rfl rfl rfl (by assumption) ?_ | refine pm_r rfl rfl rfl ?_ | refine pm_rz rfl rfl rfl ?_)
      refine ml_1 ?_ (fun a ha => ?_) ?_
      · simpa [sy_M, sy_TM, pm_u, e5, nI_add] using hC
      · (repeat rw [pm_uL ha rfl])
      · rw [pm_u_same, e5, nI_add]
  · have hle : ¬ nI (al 23 0) + nI k ≤ 99999 := by rw [nI_add]; exact fun q => h3 ((nI_leI (b := 99999) (by omega) (by decide)).mp q)
    refine ⟨-5, al, hW, ?_, ?_⟩
    · intro c I J hc hC
      have e5 : I 0 5 = nI (al 23 0) := hC.2.2.1.2
      rw [← e5] at hle
      (repeat' first | refine pm_s rfl rfl ?_ | refine pm_ifT (by assumption) ?_ | refine pm_ifF (by assumption) ?_ | refine pm_ial rfl rfl (by assumption) ?_ | refine pm_ias rfl rfl rfl (by assumption) ?_ | refine pm_r rfl rfl rfl ?_ | refine pm_rz rfl rfl rfl ?_)
      exact cl_0 hc hC rfl
    · intro c I J hc hC
      have e5 : I 30 23 = nI (al 23 0) := hC.2.2.1.2
      rw [← e5] at hle
      (repeat' first | refine pm_s rfl rfl ?_ | refine pm_ifT (by assumption) ?_ | refine pm_ifF (by assumption) ?_ | refine pm_ial rfl rfl (by assumption) ?_ | refine pm_ias rfl rfl rfl (by assumption) ?_ | refine pm_r rfl rfl rfl ?_ | refine pm_rz rfl rfl rfl ?_)
      refine pm_cq rfl rfl rfl rfl rfl rfl (md_in1 h1' h2') ?_
      (repeat' first | refine pm_s rfl rfl ?_ | refine pm_ifT (by assumption) ?_ | refine pm_ifF (by assumption) ?_ | refine pm_ial rfl rfl (by assumption) ?_ | refine pm_ias rfl rfl rfl (by assumption) ?_ | refine pm_r rfl rfl rfl ?_ | refine pm_rz rfl rfl rfl ?_)
      exact ml_0 hC rfl

theorem sw_out {x : Int32} {pc b : Nat} {offs : List Int} (h : x < 0 ∨ nI offs.length ≤ x) (hl : offs.length ≤ 100) (ho : offs.all (fun o => decide (0 ≤ (pc : Int) + o)) = true) : pm_sw x pc 0 offs b = b := by
  have ho' : ∀ o ∈ offs, 0 ≤ (pc : Int) + o := fun o hm => by simpa using List.all_eq_true.mp ho o hm
  refine (pm_sw_spec x pc b offs 0 (by omega) (by omega) ho').1 ?_
  rcases h with h | h
  · left
    simpa using Int32.lt_iff_toInt_lt.mp h
  · right
    have := Int32.le_iff_toInt_le.mp h
    rw [nI_toInt (by omega)] at this
    omega
set_option maxHeartbeats 4000000 in
set_option maxRecDepth 100000 in
theorem op_erase {X : Nat × (Nat → Int32)} {al : Nat → Nat → Nat} (hW : sy_W al) : sy_Op X mm_X3_erase mm_X4_erase [] al := by
  refine ⟨nI (al 20 0), pm_u al 20 0 0, ?_, ?_, ?_⟩
  · obtain ⟨w1, w2, w3, w4, w5, w6⟩ := hW
    exact ⟨by simpa [sy_WT, pm_u] using w1, ⟨by simp [pm_u], by simpa [pm_u] using w2.2⟩, by simpa [pm_u] using w3, by simpa [pm_u] using w4, by simpa [pm_u] using w5, by simpa [pm_u] using w6⟩
  · intro c I J hc hC
    have e1 : I 1 1 = nI (al 20 0) := hC.2.1.1
    (repeat' first | refine pm_s rfl rfl ?_ | refine pm_ifT (by assumption) ?_ | refine pm_ifF (by assumption) ?_ | refine pm_ial rfl rfl (by assumption) ?_ | refine pm_ias rfl rfl rfl (by assumption) ?_ | refine pm_r rfl rfl rfl ?_ | refine pm_rz rfl rfl rfl ?_)
    refine cl_1 hc ?_ (fun a ha => ?_) e1
    · rcases hc with rfl | rfl <;> simpa [sy_C, sy_T, pm_u, e1, nI_0] using hC
    · (repeat rw [pm_uG ha rfl])
  · intro c I J hc hC
    have e1 : I 30 9 = nI (al 20 0) := hC.2.1.1
    (repeat' first | refine pm_s rfl rfl ?_ | refine pm_ifT (by assumption) ?_ | refine pm_ifF (by assumption) ?_ | refine pm_ial rfl rfl (by assumption) ?_ | refine pm_ias rfl rfl rfl (by assumption) ?_ | refine pm_r rfl rfl rfl ?_ | refine pm_rz rfl rfl rfl ?_)
    refine ml_1 ?_ (fun a ha => ?_) e1
    · simpa [sy_M, sy_TM, pm_u, e1, nI_0] using hC
    · (repeat rw [pm_uL ha rfl])
set_option maxHeartbeats 4000000 in
set_option maxRecDepth 100000 in
theorem op_burn {X : Nat × (Nat → Int32)} {al : Nat → Nat → Nat} (hW : sy_W al) : sy_Op X mm_X3_burn mm_X4_burn [] al := by
  refine ⟨nI (al 27 0), pm_u al 27 0 0, ?_, ?_, ?_⟩
  · obtain ⟨w1, w2, w3, w4, w5, w6⟩ := hW
    exact ⟨by simpa [sy_WT, pm_u] using w1, by simpa [pm_u] using w2, by simpa [pm_u] using w3, by simpa [pm_u] using w4, by simp [pm_u], by simpa [pm_u] using w6⟩
  · intro c I J hc hC
    have e1 : I 0 9 = nI (al 27 0) := hC.2.2.2.2.1.1
    (repeat' first | refine pm_s rfl rfl ?_ | refine pm_ifT (by assumption) ?_ | refine pm_ifF (by assumption) ?_ | refine pm_ial rfl rfl (by assumption) ?_ | refine pm_ias rfl rfl rfl (by assumption) ?_ | refine pm_r rfl rfl rfl ?_ | refine pm_rz rfl rfl rfl ?_)
    refine cl_1 hc ?_ (fun a ha => ?_) e1
    · rcases hc with rfl | rfl <;> simpa [sy_C, sy_T, pm_u, e1, nI_0] using hC
    · (repeat rw [pm_uG ha rfl])
  · intro c I J hc hC
    have e1 : I 30 26 = nI (al 27 0) := hC.2.2.2.2.1.1
    (repeat' first | refine pm_s rfl rfl ?_ | refine pm_ifT (by assumption) ?_ | refine pm_ifF (by assumption) ?_ | refine pm_ial rfl rfl (by assumption) ?_ | refine pm_ias rfl rfl rfl (by assumption) ?_ | refine pm_r rfl rfl rfl ?_ | refine pm_rz rfl rfl rfl ?_)
    refine ml_1 ?_ (fun a ha => ?_) e1
    · simpa [sy_M, sy_TM, pm_u, e1, nI_0] using hC
    · (repeat rw [pm_uL ha rfl])

set_option maxHeartbeats 4000000 in
set_option maxRecDepth 100000 in
theorem op_forget {X : Nat × (Nat → Int32)} {al : Nat → Nat → Nat} (hW : sy_W al) : sy_Op X mm_X3_forget mm_X4_forget [] al := by
  refine ⟨nI (al 29 0), pm_u al 29 0 0, ?_, ?_, ?_⟩
  · obtain ⟨w1, w2, w3, w4, w5, w6⟩ := hW
    exact ⟨by simpa [sy_WT, pm_u] using w1, by simpa [pm_u] using w2, by simpa [pm_u] using w3, by simpa [pm_u] using w4, by simpa [pm_u] using w5, by simp [pm_u]⟩
  · intro c I J hc hC
    have e1 : I 0 13 = nI (al 29 0) := hC.2.2.2.2.2.1
    (repeat' first | refine pm_s rfl rfl ?_ | refine pm_ifT (by assumption) ?_ | refine pm_ifF (by assumption) ?_ | refine pm_ial rfl rfl (by assumption) ?_ | refine pm_ias rfl rfl rfl (by assumption) ?_ | refine pm_r rfl rfl rfl ?_ | refine pm_rz rfl rfl rfl ?_)
    refine cl_1 hc ?_ (fun a ha => ?_) e1
    · rcases hc with rfl | rfl <;> simpa [sy_C, sy_T, pm_u, e1, nI_0] using hC
    · (repeat rw [pm_uG ha rfl])
  · intro c I J hc hC
    have e1 : I 30 28 = nI (al 29 0) := hC.2.2.2.2.2.1.1
    (repeat' first | refine pm_s rfl rfl ?_ | refine pm_ifT (by assumption) ?_ | refine pm_ifF (by assumption) ?_ | refine pm_ial rfl rfl (by assumption) ?_ | refine pm_ias rfl rfl rfl (by assumption) ?_ | refine pm_r rfl rfl rfl ?_ | refine pm_rz rfl rfl rfl ?_)
    refine ml_1 ?_ (fun a ha => ?_) e1
    · simpa [sy_M, sy_TM, pm_u, e1, nI_0] using hC
    · (repeat rw [pm_uL ha rfl])
set_option maxHeartbeats 4000000 in
set_option maxRecDepth 100000 in
theorem op_keep {X : Nat × (Nat → Int32)} {al : Nat → Nat → Nat} (hW : sy_W al) (k : Int32) : sy_Op X mm_X3_keep mm_X4_keep [some (.int k)] al := by
  rcases pk_ix k (n := 2) (by decide) with h | h | ⟨j, hj, rfl⟩
  · refine ⟨-2, al, hW, ?_, ?_⟩
    · intro c I J hc hC
      (repeat' first | refine pm_s rfl rfl ?_ | refine pm_ifT (by assumption) ?_ | refine pm_ifF (by assumption) ?_ | refine pm_ial rfl rfl (by assumption) ?_ | refine pm_ias rfl rfl rfl (by assumption) ?_ | refine pm_r rfl rfl rfl ?_ | refine pm_rz rfl rfl rfl ?_)
      exact cl_0 hc hC rfl
    · intro c I J hc hC
      (repeat' first | refine pm_s rfl rfl ?_ | refine pm_ifT (by assumption) ?_ | refine pm_ifF (by assumption) ?_ | refine pm_ial rfl rfl (by assumption) ?_ | refine pm_ias rfl rfl rfl (by assumption) ?_ | refine pm_r rfl rfl rfl ?_ | refine pm_rz rfl rfl rfl ?_)
      refine pm_cq rfl rfl rfl rfl rfl rfl (md_in0 (Or.inl h)) ?_
      (repeat' first | refine pm_s rfl rfl ?_ | refine pm_ifT (by assumption) ?_ | refine pm_ifF (by assumption) ?_ | refine pm_ial rfl rfl (by assumption) ?_ | refine pm_ias rfl rfl rfl (by assumption) ?_ | refine pm_r rfl rfl rfl ?_ | refine pm_rz rfl rfl rfl ?_)
      exact ml_0 hC rfl
  · have h' : (1 : Int32) < k := by
      have := Int32.le_iff_toInt_le.mp h
      rw [nI_toInt (by decide)] at this
      exact Int32.lt_iff_toInt_lt.mpr (by show (1 : Int) < _; omega)
    have h0 : ¬ k < 0 := fun q => by
      have := Int32.lt_iff_toInt_lt.mp q
      have h9 := Int32.lt_iff_toInt_lt.mp h'
      have e0 : (0 : Int32).toInt = 0 := rfl
      have e1 : (1 : Int32).toInt = 1 := rfl
      omega
    have h2 : (2 : Int32) ≤ k := h
    have h3 : ¬ k < 2 := Int32.not_lt.mpr h
    refine ⟨-2, al, hW, ?_, ?_⟩
    · intro c I J hc hC
      (repeat' first | refine pm_s rfl rfl ?_ | refine pm_ifT (by assumption) ?_ | refine pm_ifF (by assumption) ?_ | refine pm_ial rfl rfl (by assumption) ?_ | refine pm_ias rfl rfl rfl (by assumption) ?_ | refine pm_r rfl rfl rfl ?_ | refine pm_rz rfl rfl rfl ?_)
      exact cl_0 hc hC rfl
    · intro c I J hc hC
      (repeat' first | refine pm_s rfl rfl ?_ | refine pm_ifT (by assumption) ?_ | refine pm_ifF (by assumption) ?_ | refine pm_ial rfl rfl (by assumption) ?_ | refine pm_ias rfl rfl rfl (by assumption) ?_ | refine pm_r rfl rfl rfl ?_ | refine pm_rz rfl rfl rfl ?_)
      refine pm_cq rfl rfl rfl rfl rfl rfl (md_in0 (Or.inr h')) ?_
      (repeat' first | refine pm_s rfl rfl ?_ | refine pm_ifT (by assumption) ?_ | refine pm_ifF (by assumption) ?_ | refine pm_ial rfl rfl (by assumption) ?_ | refine pm_ias rfl rfl rfl (by assumption) ?_ | refine pm_r rfl rfl rfl ?_ | refine pm_rz rfl rfl rfl ?_)
      exact ml_0 hC rfl
  · refine ⟨nI (al 23 0), pm_u (pm_u (pm_u al 24 j (al 22 0)) 25 j (al 23 0)) 26 j 1, ?_, ?_, ?_⟩
    · obtain ⟨w1, w2, w3, w4, w5, w6⟩ := hW
      refine ⟨by simpa [sy_WT, pm_u] using w1, by simpa [pm_u] using w2, by simpa [pm_u] using w3, ?_, by simpa [pm_u] using w5, by simpa [pm_u] using w6⟩
      intro k hk
      by_cases hkj : k = j
      · subst hkj
        simp [pm_u]
        exact w3
      · have := w4 k hk
        simpa [pm_u, hkj] using this
    · intro c I J hc hC
      have e4 : I 0 4 = nI (al 22 0) := hC.2.2.1.1
      have e5 : I 0 5 = nI (al 23 0) := hC.2.2.1.2
      have hi := sy_idx hj (by decide)
      have h0 : ¬ nI j < 0 := nI_pos (by omega)
      have h2 : ¬ (2 : Int32) ≤ nI j := nI_ge hj (by decide)
      have h3 : nI j < 2 := nI_lt hj (by decide)
      (repeat' first | refine pm_s rfl rfl ?_ | refine pm_ifT (by assumption) ?_ | refine pm_ifF (by assumption) ?_ | refine pm_ial rfl rfl (by assumption) ?_ | refine pm_ias rfl rfl rfl (by assumption) ?_ | refine pm_r rfl rfl rfl ?_ | refine pm_rz rfl rfl rfl ?_)
      refine cl_1 hc ?_ (fun a ha => ?_) ?_
      · rw [nI_clamp (by omega)]
        obtain ⟨c1, c2, c3, c4, c5, c6⟩ := hC
        refine ⟨by rcases hc with rfl | rfl <;> simpa [sy_T, pm_u] using c1, by simpa [pm_u] using c2, by simpa [pm_u] using c3, ?_, by simpa [pm_u] using c5, by simpa [pm_u] using c6⟩
        intro k hk
        by_cases hkj : k = j
        · subst hkj
          simp [pm_u, e4, e5]
        · have := c4 k hk
          simpa [pm_u, hkj] using this
      · (repeat rw [pm_uG ha rfl])
      · simp [pm_u, e5]
    · intro c I J hc hC
      have e4 : I 30 22 = nI (al 22 0) := hC.2.2.1.1
      have e5 : I 30 23 = nI (al 23 0) := hC.2.2.1.2
      have hi := sy_idx hj (by decide)
      have i1 : (0 : Int32) ≤ 2 * nI j ∧ (2 * nI j).toNatClampNeg < 4 := by rw [show (2 : Int32) = nI 2 from rfl, pk_mul]; exact sy_idx (by omega) (by decide)
      have i2 : (0 : Int32) ≤ 2 * nI j + 1 ∧ (2 * nI j + 1).toNatClampNeg < 4 := by rw [show (2 : Int32) = nI 2 from rfl, pk_mul, nI_1]; exact sy_idx (by omega) (by decide)
      (repeat' first | refine pm_s rfl rfl ?_ | refine pm_ifT (by assumption) ?_ | refine pm_ifF (by assumption) ?_ | refine pm_ial rfl rfl (by assumption) ?_ | refine pm_ias rfl rfl rfl (by assumption) ?_ | refine pm_r rfl rfl rfl ?_ | refine pm_rz rfl rfl rfl ?_)
      refine pm_cq rfl rfl rfl rfl rfl rfl (md_in1 (nI_pos' (by omega)) (nI_le (b := 1) (by omega) (by decide))) ?_
      (repeat' first | refine pm_s rfl rfl ?_ | refine pm_ifT (by assumption) ?_ | refine pm_ifF (by assumption) ?_ | refine pm_ial rfl rfl (by assumption) ?_ | refine pm_ias rfl rfl rfl (by assumption) ?_ | refine pm_r rfl rfl rfl ?_ | refine pm_rz rfl rfl rfl ?_)
      refine pm_bas rfl rfl rfl hi ?_
      (repeat' first | refine pm_s rfl rfl ?_ | refine pm_ifT (by assumption) ?_ | refine pm_ifF (by assumption) ?_ | refine pm_ial rfl rfl (by assumption) ?_ | refine pm_ias rfl rfl rfl (by assumption) ?_ | refine pm_r rfl rfl rfl ?_ | refine pm_rz rfl rfl rfl ?_)
      refine ml_1 ?_ (fun a ha => ?_) ?_
      · have t1 : (2 * nI j).toNatClampNeg = 2 * j := by rw [show (2 : Int32) = nI 2 from rfl, pk_mul, nI_clamp (by omega)]
        have t2 : (2 * nI j + 1).toNatClampNeg = 2 * j + 1 := by rw [show (2 : Int32) = nI 2 from rfl, pk_mul, nI_1, nI_clamp (by omega)]
        rw [nI_clamp (by omega), t1, t2]
        obtain ⟨c1, c2, c3, c4, c5, c6⟩ := hC
        refine ⟨by simpa [sy_TM, pm_u] using c1, by simpa [pm_u] using c2, by simpa [pm_u] using c3, ?_, by simpa [pm_u] using c5, by simpa [pm_u] using c6⟩
        intro k hk
        by_cases hkj : k = j
        · subst hkj
          simp [pm_u, e4, e5]
          rfl
        · have := c4 k hk
          have g1 : ¬ 2 * k = 2 * j + 1 := by omega
          have g2 : ¬ 2 * k + 1 = 2 * j := by omega
          have g3 : ¬ 2 * k = 2 * j := by omega
          simpa [pm_u, hkj, g1, g2, g3] using this
      · (repeat rw [pm_uL ha rfl])
      · simp [pm_u, e5]
end
section
section SN
variable {X : Nat × (Nat → Int32)} {al al' : Nat → Nat → Nat} {R : Nat → Nat → Nat} {I I' : Nat → Nat → Int32} {J J' : Nat → Nat → Int64}
theorem lt_of_nle {n : Nat} (hn : n < 2 ^ 30) {a : Int32} (h : nI n ≤ a) : nI n - 1 < a := by
  refine Int32.lt_iff_toInt_lt.mpr ?_
  rw [show (1 : Int32) = nI 1 from rfl, pk_sub_toInt hn (by decide)]
  have := Int32.le_iff_toInt_le.mp h
  rw [nI_toInt (by omega)] at this
  omega
theorem le_of_klt {n k : Nat} (hn : n < 2 ^ 30) (h : k < n) : nI k ≤ nI n - 1 := by
  refine Int32.le_iff_toInt_le.mpr ?_
  rw [show (1 : Int32) = nI 1 from rfl, pk_sub_toInt hn (by decide), nI_toInt (by omega)]
  omega
/-- a number that is no place of a row of n -/
theorem no_ix {n : Nat} (hn : n < 2 ^ 30) {a : Int32} (h : a < 0 ∨ nI n ≤ a) : a < 0 ∨ ¬ a < 0 ∧ nI n ≤ a ∧ ¬ a < nI n := by
  rcases h with h | h
  · exact Or.inl h
  · refine Or.inr ⟨fun q => ?_, h, Int32.not_lt.mpr h⟩
    have h1 := Int32.le_iff_toInt_le.mp h
    have h2 := Int32.lt_iff_toInt_lt.mp q
    rw [nI_toInt (by omega)] at h1
    have e0 : (0 : Int32).toInt = 0 := rfl
    omega
theorem tw_has1 {T n k : Nat} (hT : T = 6 ∨ T = 15) (e : I T 0 = nI n) (hn : n ≤ 8) (hk : k < n) : pm_R X mm_X1_hasCorner.1 0 [some (.ref T), some (.int (nI k))] [] (41, R, I, J) (fun o w' => o = some (.int 1) ∧ w' = (41, R, I, J)) := by
  have h1 : ¬ nI k < 0 := nI_pos (by omega)
  have h2 : ¬ I T 0 ≤ nI k := by rw [e]; exact nI_ge hk (by omega)
  have h3 : ¬ (8 : Int32) ≤ nI k := nI_ge (b := 8) (by omega) (by decide)
  rcases hT with rfl | rfl
  · (repeat' first | refine pm_s rfl rfl ?_ | refine pm_ifT (by assumption) ?_ | refine pm_ifF (by assumption) ?_ | refine pm_ial rfl rfl (by assumption) ?_ | refine pm_ias rfl rfl rfl (by assumption) ?_ | refine pm_r rfl rfl rfl ?_ | refine pm_rz rfl rfl rfl ?_)
    exact ⟨rfl, rfl⟩
  · (repeat' first | refine pm_s rfl rfl ?_ | refine pm_ifT (by assumption) ?_ | refine pm_ifF (by assumption) ?_ | refine pm_ial rfl rfl (by assumption) ?_ | refine pm_ias rfl rfl rfl (by assumption) ?_ | refine pm_r rfl rfl rfl ?_ | refine pm_rz rfl rfl rfl ?_)
    exact ⟨rfl, rfl⟩
theorem tw_has0 {T n : Nat} {a : Int32} (hT : T = 6 ∨ T = 15) (e : I T 0 = nI n) (hn : n ≤ 8) (h : a < 0 ∨ nI n ≤ a) : pm_R X mm_X1_hasCorner.1 0 [some (.ref T), some (.int a)] [] (41, R, I, J) (fun o w' => o = some (.int 0) ∧ w' = (41, R, I, J)) := by
  rw [← e] at h
  by_cases h1 : a < 0
  · rcases hT with rfl | rfl
    · (repeat' first | refine pm_s rfl rfl ?_ | refine pm_ifT (by assumption) ?_ | refine pm_ifF (by assumption) ?_ | refine pm_ial rfl rfl (by assumption) ?_ | refine pm_ias rfl rfl rfl (by assumption) ?_ | refine pm_r rfl rfl rfl ?_ | refine pm_rz rfl rfl rfl ?_)
      exact ⟨rfl, rfl⟩
    · (repeat' first | refine pm_s rfl rfl ?_ | refine pm_ifT (by assumption) ?_ | refine pm_ifF (by assumption) ?_ | refine pm_ial rfl rfl (by assumption) ?_ | refine pm_ias rfl rfl rfl (by assumption) ?_ | refine pm_r rfl rfl rfl ?_ | refine pm_rz rfl rfl rfl ?_)
      exact ⟨rfl, rfl⟩
  · have h2 := h.resolve_left h1
    rcases hT with rfl | rfl
    · (repeat' first | refine pm_s rfl rfl ?_ | refine pm_ifT (by assumption) ?_ | refine pm_ifF (by assumption) ?_ | refine pm_ial rfl rfl (by assumption) ?_ | refine pm_ias rfl rfl rfl (by assumption) ?_ | refine pm_r rfl rfl rfl ?_ | refine pm_rz rfl rfl rfl ?_)
      exact ⟨rfl, rfl⟩
    · (repeat' first | refine pm_s rfl rfl ?_ | refine pm_ifT (by assumption) ?_ | refine pm_ifF (by assumption) ?_ | refine pm_ial rfl rfl (by assumption) ?_ | refine pm_ias rfl rfl rfl (by assumption) ?_ | refine pm_r rfl rfl rfl ?_ | refine pm_rz rfl rfl rfl ?_)
      exact ⟨rfl, rfl⟩
theorem tw_hst1 {T n k : Nat} (hT : T = 6 ∨ T = 15) (e : I T 4 = nI n) (hn : n ≤ 12) (hk : k < n) : pm_R X mm_X1_hasStreet.1 0 [some (.ref T), some (.int (nI k))] [] (41, R, I, J) (fun o w' => o = some (.int 1) ∧ w' = (41, R, I, J)) := by
  have h1 : ¬ nI k < 0 := nI_pos (by omega)
  have h2 : ¬ I T 4 ≤ nI k := by rw [e]; exact nI_ge hk (by omega)
  have h3 : ¬ (12 : Int32) ≤ nI k := nI_ge (b := 12) (by omega) (by decide)
  rcases hT with rfl | rfl
  · (repeat' first | refine pm_s rfl rfl ?_ | refine pm_ifT (by assumption) ?_ | refine pm_ifF (by assumption) ?_ | refine pm_ial rfl rfl (by assumption) ?_ | refine pm_ias rfl rfl rfl (by assumption) ?_ | refine pm_r rfl rfl rfl ?_ | refine pm_rz rfl rfl rfl ?_)
    exact ⟨rfl, rfl⟩
  · (repeat' first | refine pm_s rfl rfl ?_ | refine pm_ifT (by assumption) ?_ | refine pm_ifF (by assumption) ?_ | refine pm_ial rfl rfl (by assumption) ?_ | refine pm_ias rfl rfl rfl (by assumption) ?_ | refine pm_r rfl rfl rfl ?_ | refine pm_rz rfl rfl rfl ?_)
    exact ⟨rfl, rfl⟩
theorem tw_hst0 {T n : Nat} {a : Int32} (hT : T = 6 ∨ T = 15) (e : I T 4 = nI n) (hn : n ≤ 12) (h : a < 0 ∨ nI n ≤ a) : pm_R X mm_X1_hasStreet.1 0 [some (.ref T), some (.int a)] [] (41, R, I, J) (fun o w' => o = some (.int 0) ∧ w' = (41, R, I, J)) := by
  rw [← e] at h
  by_cases h1 : a < 0
  · rcases hT with rfl | rfl
    · (repeat' first | refine pm_s rfl rfl ?_ | refine pm_ifT (by assumption) ?_ | refine pm_ifF (by assumption) ?_ | refine pm_ial rfl rfl (by assumption) ?_ | refine pm_ias rfl rfl rfl (by assumption) ?_ | refine pm_r rfl rfl rfl ?_ | refine pm_rz rfl rfl rfl ?_)
      exact ⟨rfl, rfl⟩
    · (repeat' first | refine pm_s rfl rfl ?_ | refine pm_ifT (by assumption) ?_ | refine pm_ifF (by assumption) ?_ | refine pm_ial rfl rfl (by assumption) ?_ | refine pm_ias rfl rfl rfl (by assumption) ?_ | refine pm_r rfl rfl rfl ?_ | refine pm_rz rfl rfl rfl ?_)
      exact ⟨rfl, rfl⟩
  · have h2 := h.resolve_left h1
    rcases hT with rfl | rfl
    · (repeat' first | refine pm_s rfl rfl ?_ | refine pm_ifT (by assumption) ?_ | refine pm_ifF (by assumption) ?_ | refine pm_ial rfl rfl (by assumption) ?_ | refine pm_ias rfl rfl rfl (by assumption) ?_ | refine pm_r rfl rfl rfl ?_ | refine pm_rz rfl rfl rfl ?_)
      exact ⟨rfl, rfl⟩
    · (repeat' first | refine pm_s rfl rfl ?_ | refine pm_ifT (by assumption) ?_ | refine pm_ifF (by assumption) ?_ | refine pm_ial rfl rfl (by assumption) ?_ | refine pm_ias rfl rfl rfl (by assumption) ?_ | refine pm_r rfl rfl rfl ?_ | refine pm_rz rfl rfl rfl ?_)
      exact ⟨rfl, rfl⟩
theorem md_isC1 {n k : Nat} (e : I 30 0 = nI n) (hn : n ≤ 8) (hk : k < n) : pm_R X mm_X4_isCorner.1 0 [some (.ref 30), some (.int (nI k))] [] (41, R, I, J) (fun o w' => o = some (.int 1) ∧ w' = (41, R, I, J)) := by
  (repeat' first | refine pm_s rfl rfl ?_ | refine pm_ifT (by assumption) ?_ | refine pm_ifF (by assumption) ?_ | refine pm_ial rfl rfl (by assumption) ?_ | refine pm_ias rfl rfl rfl (by assumption) ?_ | refine pm_r rfl rfl rfl ?_ | refine pm_rz rfl rfl rfl ?_)
  refine pm_cq rfl rfl rfl rfl rfl rfl (md_in1 (nI_pos' (by omega)) (by rw [e]; exact le_of_klt (by omega) hk)) ?_
  (repeat' first | refine pm_s rfl rfl ?_ | refine pm_ifT (by assumption) ?_ | refine pm_ifF (by assumption) ?_ | refine pm_ial rfl rfl (by assumption) ?_ | refine pm_ias rfl rfl rfl (by assumption) ?_ | refine pm_r rfl rfl rfl ?_ | refine pm_rz rfl rfl rfl ?_)
  exact ⟨rfl, rfl⟩
theorem md_isC0 {n : Nat} {a : Int32} (e : I 30 0 = nI n) (hn : n ≤ 8) (h : a < 0 ∨ nI n ≤ a) : pm_R X mm_X4_isCorner.1 0 [some (.ref 30), some (.int a)] [] (41, R, I, J) (fun o w' => o = some (.int 0) ∧ w' = (41, R, I, J)) := by
  (repeat' first | refine pm_s rfl rfl ?_ | refine pm_ifT (by assumption) ?_ | refine pm_ifF (by assumption) ?_ | refine pm_ial rfl rfl (by assumption) ?_ | refine pm_ias rfl rfl rfl (by assumption) ?_ | refine pm_r rfl rfl rfl ?_ | refine pm_rz rfl rfl rfl ?_)
  refine pm_cq rfl rfl rfl rfl rfl rfl (md_in0 (h.imp id (fun q => by rw [e]; exact lt_of_nle (by omega) q))) ?_
  (repeat' first | refine pm_s rfl rfl ?_ | refine pm_ifT (by assumption) ?_ | refine pm_ifF (by assumption) ?_ | refine pm_ial rfl rfl (by assumption) ?_ | refine pm_ias rfl rfl rfl (by assumption) ?_ | refine pm_r rfl rfl rfl ?_ | refine pm_rz rfl rfl rfl ?_)
  exact ⟨rfl, rfl⟩
theorem md_isS1 {n k : Nat} (e : I 30 3 = nI n) (hn : n ≤ 12) (hk : k < n) : pm_R X mm_X4_isStreet.1 0 [some (.ref 30), some (.int (nI k))] [] (41, R, I, J) (fun o w' => o = some (.int 1) ∧ w' = (41, R, I, J)) := by
  (repeat' first | refine pm_s rfl rfl ?_ | refine pm_ifT (by assumption) ?_ | refine pm_ifF (by assumption) ?_ | refine pm_ial rfl rfl (by assumption) ?_ | refine pm_ias rfl rfl rfl (by assumption) ?_ | refine pm_r rfl rfl rfl ?_ | refine pm_rz rfl rfl rfl ?_)
  refine pm_cq rfl rfl rfl rfl rfl rfl (md_in1 (nI_pos' (by omega)) (by rw [e]; exact le_of_klt (by omega) hk)) ?_
  (repeat' first | refine pm_s rfl rfl ?_ | refine pm_ifT (by assumption) ?_ | refine pm_ifF (by assumption) ?_ | refine pm_ial rfl rfl (by assumption) ?_ | refine pm_ias rfl rfl rfl (by assumption) ?_ | refine pm_r rfl rfl rfl ?_ | refine pm_rz rfl rfl rfl ?_)
  exact ⟨rfl, rfl⟩
theorem md_isS0 {n : Nat} {a : Int32} (e : I 30 3 = nI n) (hn : n ≤ 12) (h : a < 0 ∨ nI n ≤ a) : pm_R X mm_X4_isStreet.1 0 [some (.ref 30), some (.int a)] [] (41, R, I, J) (fun o w' => o = some (.int 0) ∧ w' = (41, R, I, J)) := by
  (repeat' first | refine pm_s rfl rfl ?_ | refine pm_ifT (by assumption) ?_ | refine pm_ifF (by assumption) ?_ | refine pm_ial rfl rfl (by assumption) ?_ | refine pm_ias rfl rfl rfl (by assumption) ?_ | refine pm_r rfl rfl rfl ?_ | refine pm_rz rfl rfl rfl ?_)
  refine pm_cq rfl rfl rfl rfl rfl rfl (md_in0 (h.imp id (fun q => by rw [e]; exact lt_of_nle (by omega) q))) ?_
  (repeat' first | refine pm_s rfl rfl ?_ | refine pm_ifT (by assumption) ?_ | refine pm_ifF (by assumption) ?_ | refine pm_ial rfl rfl (by assumption) ?_ | refine pm_ias rfl rfl rfl (by assumption) ?_ | refine pm_r rfl rfl rfl ?_ | refine pm_rz rfl rfl rfl ?_)
  exact ⟨rfl, rfl⟩
end SN
set_option maxHeartbeats 4000000 in
set_option maxRecDepth 100000 in
theorem op_back {X : Nat × (Nat → Int32)} {al : Nat → Nat → Nat} (hW : sy_W al) (k : Int32) : sy_Op X mm_X3_back mm_X4_back [some (.int k)] al := by
  rcases pk_ix k (n := 2) (by decide) with h | h | ⟨j, hj, rfl⟩
  · refine ⟨-2, al, hW, ?_, ?_⟩
    · intro c I J hc hC
      (repeat' first | refine pm_s rfl rfl ?_ | refine pm_ifT (by assumption) ?_ | refine pm_ifF (by assumption) ?_ | refine pm_ial rfl rfl (by assumption) ?_ | refine pm_ias rfl rfl rfl (by assumption) ?_ | refine pm_r rfl rfl rfl ?_ | refine pm_rz rfl rfl rfl ?_)
      exact cl_0 hc hC rfl
    · intro c I J hc hC
      (repeat' first | refine pm_s rfl rfl ?_ | refine pm_ifT (by assumption) ?_ | refine pm_ifF (by assumption) ?_ | refine pm_ial rfl rfl (by assumption) ?_ | refine pm_ias rfl rfl rfl (by assumption) ?_ | refine pm_r rfl rfl rfl ?_ | refine pm_rz rfl rfl rfl ?_)
      refine pm_cq rfl rfl rfl rfl rfl rfl (md_in0 (Or.inl h)) ?_
      (repeat' first | refine pm_s rfl rfl ?_ | refine pm_ifT (by assumption) ?_ | refine pm_ifF (by assumption) ?_ | refine pm_ial rfl rfl (by assumption) ?_ | refine pm_ias rfl rfl rfl (by assumption) ?_ | refine pm_r rfl rfl rfl ?_ | refine pm_rz rfl rfl rfl ?_)
      exact ml_0 hC rfl
  · rcases no_ix (n := 2) (by decide) (Or.inr h) with h0 | ⟨h0, h2, h3⟩
    · exact absurd h0 (fun q => by have := no_ix (n := 2) (by decide) (Or.inr h); rcases this with z | z; exact absurd (Int32.le_trans (nI_pos' (n := 2) (by decide)) h) (Int32.not_le.mpr z); exact z.1 q)
    · have h2 : (2 : Int32) ≤ k := h2
      have h3 : ¬ k < 2 := h3
      refine ⟨-2, al, hW, ?_, ?_⟩
      · intro c I J hc hC
        (repeat' first | refine pm_s rfl rfl ?_ | refine pm_ifT (by assumption) ?_ | refine pm_ifF (by assumption) ?_ | refine pm_ial rfl rfl (by assumption) ?_ | refine pm_ias rfl rfl rfl (by assumption) ?_ | refine pm_r rfl rfl rfl ?_ | refine pm_rz rfl rfl rfl ?_)
        exact cl_0 hc hC rfl
      · intro c I J hc hC
        (repeat' first | refine pm_s rfl rfl ?_ | refine pm_ifT (by assumption) ?_ | refine pm_ifF (by assumption) ?_ | refine pm_ial rfl rfl (by assumption) ?_ | refine pm_ias rfl rfl rfl (by assumption) ?_ | refine pm_r rfl rfl rfl ?_ | refine pm_rz rfl rfl rfl ?_)
        refine pm_cq rfl rfl rfl rfl rfl rfl (md_in0 (Or.inr (lt_of_nle (n := 2) (by decide) h))) ?_
        (repeat' first | refine pm_s rfl rfl ?_ | refine pm_ifT (by assumption) ?_ | refine pm_ifF (by assumption) ?_ | refine pm_ial rfl rfl (by assumption) ?_ | refine pm_ias rfl rfl rfl (by assumption) ?_ | refine pm_r rfl rfl rfl ?_ | refine pm_rz rfl rfl rfl ?_)
        exact ml_0 hC rfl
  · have hi := sy_idx hj (N := 2) (by decide)
    have h0 : ¬ nI j < 0 := nI_pos (by omega)
    have h2 : ¬ (2 : Int32) ≤ nI j := nI_ge hj (by decide)
    have h3 : nI j < 2 := nI_lt hj (by decide)
    have i1 : (0 : Int32) ≤ 2 * nI j ∧ (2 * nI j).toNatClampNeg < 4 := by rw [show (2 : Int32) = nI 2 from rfl, pk_mul]; exact sy_idx (by omega) (by decide)
    have i2 : (0 : Int32) ≤ 2 * nI j + 1 ∧ (2 * nI j + 1).toNatClampNeg < 4 := by rw [show (2 : Int32) = nI 2 from rfl, pk_mul, nI_1]; exact sy_idx (by omega) (by decide)
    have t0 : (nI j).toNatClampNeg = j := nI_clamp (by omega)
    have t1 : (2 * nI j).toNatClampNeg = 2 * j := by rw [show (2 : Int32) = nI 2 from rfl, pk_mul, nI_clamp (by omega)]
    have t2 : (2 * nI j + 1).toNatClampNeg = 2 * j + 1 := by rw [show (2 : Int32) = nI 2 from rfl, pk_mul, nI_1, nI_clamp (by omega)]
    obtain ⟨w1, w2, w3, w4, w5, w6⟩ := id hW
    by_cases hf : al 26 j = 0
    · refine ⟨-4, al, hW, ?_, ?_⟩
      · intro c I J hc hC
        have e6 : I 25 (nI j).toNatClampNeg = -1 := by rw [t0, (hC.2.2.2.1 j hj).2, if_pos hf]
        (repeat' first | refine pm_s rfl rfl ?_ | refine pm_ifT (by assumption) ?_ | refine pm_ifF (by assumption) ?_ | refine pm_ial rfl rfl (by assumption) ?_ | refine pm_ias rfl rfl rfl (by assumption) ?_ | refine pm_r rfl rfl rfl ?_ | refine pm_rz rfl rfl rfl ?_)
        exact cl_0 hc hC rfl
      · intro c I J hc hC
        have e6 : I 37 (nI j).toNatClampNeg = 0 := by rw [t0, (hC.2.2.2.1 j hj).2.2, hf]; rfl
        (repeat' first | refine pm_s rfl rfl ?_ | refine pm_ifT (by assumption) ?_ | refine pm_ifF (by assumption) ?_ | refine pm_ial rfl rfl (by assumption) ?_ | refine pm_ias rfl rfl rfl (by assumption) ?_ | refine pm_r rfl rfl rfl ?_ | refine pm_rz rfl rfl rfl ?_)
        refine pm_cq rfl rfl rfl rfl rfl rfl (md_in1 (nI_pos' (by omega)) (nI_le (b := 1) (by omega) (by decide))) ?_
        (repeat' first | refine pm_s rfl rfl ?_ | refine pm_ifT (by assumption) ?_ | refine pm_ifF (by assumption) ?_ | refine pm_ial rfl rfl (by assumption) ?_ | refine pm_ias rfl rfl rfl (by assumption) ?_ | refine pm_r rfl rfl rfl ?_ | refine pm_rz rfl rfl rfl ?_)
        refine pm_bal rfl rfl hi ?_
        (repeat' first | refine pm_s rfl rfl ?_ | refine pm_ifT (by assumption) ?_ | refine pm_ifF (by assumption) ?_ | refine pm_ial rfl rfl (by assumption) ?_ | refine pm_ias rfl rfl rfl (by assumption) ?_ | refine pm_r rfl rfl rfl ?_ | refine pm_rz rfl rfl rfl ?_)
        exact ml_0 hC rfl
    · have hf1 : al 26 j = 1 := by have := (w4 j hj).1; omega
      have hkk := (w4 j hj).2 hf1
      refine ⟨nI (al 25 j), pm_u (pm_u al 22 0 (al 24 j)) 23 0 (al 25 j), ?_, ?_, ?_⟩
      · exact ⟨by simpa [sy_WT, pm_u] using w1, by simpa [pm_u] using w2, by simpa [pm_u] using hkk, by simpa [pm_u] using w4, by simpa [pm_u] using w5, by simpa [pm_u] using w6⟩
      · intro c I J hc hC
        have q1 : I 24 j = nI (al 24 j) := (hC.2.2.2.1 j hj).1
        have q2 : I 25 j = nI (al 25 j) := by rw [(hC.2.2.2.1 j hj).2, if_neg hf]
        have e6 : ¬ I 25 (nI j).toNatClampNeg = -1 := by
          rw [t0, q2]
          intro z
          have := congrArg Int32.toInt z
          rw [nI_toInt (by omega)] at this
          have e1 : (-1 : Int32).toInt = -1 := rfl
          omega
        (repeat' first | refine pm_s rfl rfl ?_ | refine pm_ifT (by assumption) ?_ | refine pm_ifF (by assumption) ?_ | refine pm_ial rfl rfl (by assumption) ?_ | refine pm_ias rfl rfl rfl (by assumption) ?_ | refine pm_r rfl rfl rfl ?_ | refine pm_rz rfl rfl rfl ?_)
        refine cl_1 hc ?_ (fun a ha => ?_) ?_
        · rw [t0]
          obtain ⟨c1, c2, c3, c4, c5, c6⟩ := hC
          exact ⟨by rcases hc with rfl | rfl <;> simpa [sy_T, pm_u] using c1, by simpa [pm_u] using c2, by simp [pm_u, q1, q2], by simpa [pm_u] using c4, by simpa [pm_u] using c5, by simpa [pm_u] using c6⟩
        · (repeat rw [pm_uG ha rfl])
        · simp [pm_u, t0, q2]
      · intro c I J hc hC
        have q1 : I 36 (2 * j) = nI (al 24 j) := (hC.2.2.2.1 j hj).1
        have q2 : I 36 (2 * j + 1) = nI (al 25 j) := (hC.2.2.2.1 j hj).2.1
        have e6 : ¬ I 37 (nI j).toNatClampNeg = 0 := by rw [t0, (hC.2.2.2.1 j hj).2.2, hf1]; decide
        (repeat' first | refine pm_s rfl rfl ?_ | refine pm_ifT (by assumption) ?_ | refine pm_ifF (by assumption) ?_ | refine pm_ial rfl rfl (by assumption) ?_ | refine pm_ias rfl rfl rfl (by assumption) ?_ | refine pm_r rfl rfl rfl ?_ | refine pm_rz rfl rfl rfl ?_)
        refine pm_cq rfl rfl rfl rfl rfl rfl (md_in1 (nI_pos' (by omega)) (nI_le (b := 1) (by omega) (by decide))) ?_
        (repeat' first | refine pm_s rfl rfl ?_ | refine pm_ifT (by assumption) ?_ | refine pm_ifF (by assumption) ?_ | refine pm_ial rfl rfl (by assumption) ?_ | refine pm_ias rfl rfl rfl (by assumption) ?_ | refine pm_r rfl rfl rfl ?_ | refine pm_rz rfl rfl rfl ?_)
        refine pm_bal rfl rfl hi ?_
        (repeat' first | refine pm_s rfl rfl ?_ | refine pm_ifT (by assumption) ?_ | refine pm_ifF (by assumption) ?_ | refine pm_ial rfl rfl (by assumption) ?_ | refine pm_ias rfl rfl rfl (by assumption) ?_ | refine pm_r rfl rfl rfl ?_ | refine pm_rz rfl rfl rfl ?_)
        refine ml_1 ?_ (fun a ha => ?_) ?_
        · rw [t1, t2]
          obtain ⟨c1, c2, c3, c4, c5, c6⟩ := hC
          exact ⟨by simpa [sy_TM, pm_u] using c1, by simpa [pm_u] using c2, by simp [pm_u, q1, q2], by simpa [pm_u] using c4, by simpa [pm_u] using c5, by simpa [pm_u] using c6⟩
        · (repeat rw [pm_uL ha rfl])
        · simp [pm_u, t2, q2]
set_option maxHeartbeats 4000000 in
set_option maxRecDepth 100000 in
theorem op_walk {X : Nat × (Nat → Int32)} {al : Nat → Nat → Nat} (hW : sy_W al) (a : Int32) : sy_Op X mm_X3_walk mm_X4_walk [some (.int a)] al := by
  obtain ⟨w1, w2, w3, w4, w5, w6⟩ := id hW
  have hn := w1.1.2
  have key : (a < 0 ∨ nI (al 0 0) ≤ a) → sy_Op X mm_X3_walk mm_X4_walk [some (.int a)] al := by
    intro h
    refine ⟨-2, al, hW, ?_, ?_⟩
    · intro c I J hc hC
      have e0 := hC.1.1.1
      rcases hc with rfl | rfl
      · (repeat' first | refine pm_s rfl rfl ?_ | refine pm_ifT (by assumption) ?_ | refine pm_ifF (by assumption) ?_ | refine pm_ial rfl rfl (by assumption) ?_ | refine pm_ias rfl rfl rfl (by assumption) ?_ | refine pm_r rfl rfl rfl ?_ | refine pm_rz rfl rfl rfl ?_)
        refine pm_cq rfl rfl rfl rfl rfl rfl (tw_has0 (Or.inl rfl) e0 hn h) ?_
        (repeat' first | refine pm_s rfl rfl ?_ | refine pm_ifT (by assumption) ?_ | refine pm_ifF (by assumption) ?_ | refine pm_ial rfl rfl (by assumption) ?_ | refine pm_ias rfl rfl rfl (by assumption) ?_ | refine pm_r rfl rfl rfl ?_ | refine pm_rz rfl rfl rfl ?_)
        exact cl_0 (Or.inl rfl) hC rfl
      · (repeat' first | refine pm_s rfl rfl ?_ | refine pm_ifT (by assumption) ?_ | refine pm_ifF (by assumption) ?_ | refine pm_ial rfl rfl (by assumption) ?_ | refine pm_ias rfl rfl rfl (by assumption) ?_ | refine pm_r rfl rfl rfl ?_ | refine pm_rz rfl rfl rfl ?_)
        refine pm_cq rfl rfl rfl rfl rfl rfl (tw_has0 (Or.inr rfl) e0 hn h) ?_
        (repeat' first | refine pm_s rfl rfl ?_ | refine pm_ifT (by assumption) ?_ | refine pm_ifF (by assumption) ?_ | refine pm_ial rfl rfl (by assumption) ?_ | refine pm_ias rfl rfl rfl (by assumption) ?_ | refine pm_r rfl rfl rfl ?_ | refine pm_rz rfl rfl rfl ?_)
        exact cl_0 (Or.inr rfl) hC rfl
    · intro c I J hc hC
      (repeat' first | refine pm_s rfl rfl ?_ | refine pm_ifT (by assumption) ?_ | refine pm_ifF (by assumption) ?_ | refine pm_ial rfl rfl (by assumption) ?_ | refine pm_ias rfl rfl rfl (by assumption) ?_ | refine pm_r rfl rfl rfl ?_ | refine pm_rz rfl rfl rfl ?_)
      refine pm_cq rfl rfl rfl rfl rfl rfl (md_isC0 hC.1.1.1 hn h) ?_
      (repeat' first | refine pm_s rfl rfl ?_ | refine pm_ifT (by assumption) ?_ | refine pm_ifF (by assumption) ?_ | refine pm_ial rfl rfl (by assumption) ?_ | refine pm_ias rfl rfl rfl (by assumption) ?_ | refine pm_r rfl rfl rfl ?_ | refine pm_rz rfl rfl rfl ?_)
      exact ml_0 hC rfl
  rcases pk_ix a (n := al 0 0) (by omega) with h | h | ⟨k, hk, rfl⟩
  · exact key (Or.inl h)
  · exact key (Or.inr h)
  · by_cases hf : al 27 0 = 12
    · refine ⟨-5, al, hW, ?_, ?_⟩
      · intro c I J hc hC
        have e0 := hC.1.1.1
        have e9 : ¬ I 0 9 < 12 := by rw [hC.2.2.2.2.1.1, hf]; decide
        have e9' : (12 : Int32) ≤ I 0 9 := by rw [hC.2.2.2.2.1.1, hf]; decide
        rcases hc with rfl | rfl
        · (repeat' first | refine pm_s rfl rfl ?_ | refine pm_ifT (by assumption) ?_ | refine pm_ifF (by assumption) ?_ | refine pm_ial rfl rfl (by assumption) ?_ | refine pm_ias rfl rfl rfl (by assumption) ?_ | refine pm_r rfl rfl rfl ?_ | refine pm_rz rfl rfl rfl ?_)
          refine pm_cq rfl rfl rfl rfl rfl rfl (tw_has1 (Or.inl rfl) e0 hn hk) ?_
          (repeat' first | refine pm_s rfl rfl ?_ | refine pm_ifT (by assumption) ?_ | refine pm_ifF (by assumption) ?_ | refine pm_ial rfl rfl (by assumption) ?_ | refine pm_ias rfl rfl rfl (by assumption) ?_ | refine pm_r rfl rfl rfl ?_ | refine pm_rz rfl rfl rfl ?_)
          exact cl_0 (Or.inl rfl) hC rfl
        · (repeat' first | refine pm_s rfl rfl ?_ | refine pm_ifT (by assumption) ?_ | refine pm_ifF (by assumption) ?_ | refine pm_ial rfl rfl (by assumption) ?_ | refine pm_ias rfl rfl rfl (by assumption) ?_ | refine pm_r rfl rfl rfl ?_ | refine pm_rz rfl rfl rfl ?_)
          refine pm_cq rfl rfl rfl rfl rfl rfl (tw_has1 (Or.inr rfl) e0 hn hk) ?_
          (repeat' first | refine pm_s rfl rfl ?_ | refine pm_ifT (by assumption) ?_ | refine pm_ifF (by assumption) ?_ | refine pm_ial rfl rfl (by assumption) ?_ | refine pm_ias rfl rfl rfl (by assumption) ?_ | refine pm_r rfl rfl rfl ?_ | refine pm_rz rfl rfl rfl ?_)
          exact cl_0 (Or.inr rfl) hC rfl
      · intro c I J hc hC
        have e9 : I 30 26 = 12 := by rw [hC.2.2.2.2.1.1, hf]; rfl
        (repeat' first | refine pm_s rfl rfl ?_ | refine pm_ifT (by assumption) ?_ | refine pm_ifF (by assumption) ?_ | refine pm_ial rfl rfl (by assumption) ?_ | refine pm_ias rfl rfl rfl (by assumption) ?_ | refine pm_r rfl rfl rfl ?_ | refine pm_rz rfl rfl rfl ?_)
        refine pm_cq rfl rfl rfl rfl rfl rfl (md_isC1 hC.1.1.1 hn hk) ?_
        (repeat' first | refine pm_s rfl rfl ?_ | refine pm_ifT (by assumption) ?_ | refine pm_ifF (by assumption) ?_ | refine pm_ial rfl rfl (by assumption) ?_ | refine pm_ias rfl rfl rfl (by assumption) ?_ | refine pm_r rfl rfl rfl ?_ | refine pm_rz rfl rfl rfl ?_)
        exact ml_0 hC rfl
    · have hlt : al 27 0 < 12 := by have := w5.1; omega
      have hi := sy_idx hlt (by decide)
      have t0 : (nI (al 27 0)).toNatClampNeg = al 27 0 := nI_clamp (by omega)
      refine ⟨nI (al 27 0 + 1), pm_u (pm_u al 28 (al 27 0) k) 27 0 (al 27 0 + 1), ?_, ?_, ?_⟩
      · refine ⟨by simpa [sy_WT, pm_u] using w1, by simpa [pm_u] using w2, by simpa [pm_u] using w3, by simpa [pm_u] using w4, ?_, by simpa [pm_u] using w6⟩
        refine ⟨by simp [pm_u]; omega, fun i hi => ?_⟩
        simp [pm_u] at hi ⊢
        split
        · exact hk
        · exact w5.2 i (by omega)
      · intro c I J hc hC
        have e0 := hC.1.1.1
        have e9 : I 0 9 = nI (al 27 0) := hC.2.2.2.2.1.1
        have l9 : I 0 9 < 12 := by rw [e9]; exact nI_lt hlt (by decide)
        have l9' : ¬ (12 : Int32) ≤ I 0 9 := Int32.not_le.mpr l9
        have hfin : sy_C c (pm_u (pm_u I 26 (al 27 0) (nI k)) 0 9 (nI (al 27 0 + 1))) (pm_u (pm_u al 28 (al 27 0) k) 27 0 (al 27 0 + 1)) := by
          obtain ⟨c1, c2, c3, c4, c5, c6⟩ := hC
          refine ⟨by rcases hc with rfl | rfl <;> simpa [sy_T, pm_u] using c1, by simpa [pm_u] using c2, by simpa [pm_u] using c3, by simpa [pm_u] using c4, ⟨by simp [pm_u], fun i hi => ?_⟩, by simpa [pm_u] using c6⟩
          by_cases hii : i = al 27 0
          · subst hii
            simp [pm_u]
          · simpa [pm_u, hii] using c5.2 i hi
        rw [← e9] at hi t0
        rcases hc with rfl | rfl
        · (repeat' first | refine pm_s rfl rfl ?_ | refine pm_ifT (by assumption) ?_ | refine pm_ifF (by assumption) ?_ | refine pm_ial rfl rfl (by assumption) ?_ | refine pm_ias rfl rfl rfl (by assumption) ?_ | refine pm_r rfl rfl rfl ?_ | refine pm_rz rfl rfl rfl ?_)
          refine pm_cq rfl rfl rfl rfl rfl rfl (tw_has1 (Or.inl rfl) e0 hn hk) ?_
          (repeat' first | refine pm_s rfl rfl ?_ | refine pm_ifT (by assumption) ?_ | refine pm_ifF (by assumption) ?_ | refine pm_ial rfl rfl (by assumption) ?_ | refine pm_ias rfl rfl rfl (by assumption) ?_ | refine pm_r rfl rfl rfl ?_ | refine pm_rz rfl rfl rfl ?_)
          refine cl_1 (Or.inl rfl) (I' := pm_u (pm_u I 26 (I 0 9).toNatClampNeg (nI k)) 0 9 (I 0 9 + 1)) ?_ (fun a ha => ?_) ?_
          · rw [t0, e9, nI_1]; exact hfin
          · (repeat rw [pm_uG ha rfl])
          · simp [pm_u, e9, nI_1]
        · (repeat' first | refine pm_s rfl rfl ?_ | refine pm_ifT (by assumption) ?_ | refine pm_ifF (by assumption) ?_ | refine pm_ial rfl rfl (by assumption) ?_ | refine pm_ias rfl rfl rfl (by assumption) ?_ | refine pm_r rfl rfl rfl ?_ | refine pm_rz rfl rfl rfl ?_)
          refine pm_cq rfl rfl rfl rfl rfl rfl (tw_has1 (Or.inr rfl) e0 hn hk) ?_
          (repeat' first | refine pm_s rfl rfl ?_ | refine pm_ifT (by assumption) ?_ | refine pm_ifF (by assumption) ?_ | refine pm_ial rfl rfl (by assumption) ?_ | refine pm_ias rfl rfl rfl (by assumption) ?_ | refine pm_r rfl rfl rfl ?_ | refine pm_rz rfl rfl rfl ?_)
          refine cl_1 (Or.inr rfl) (I' := pm_u (pm_u I 26 (I 0 9).toNatClampNeg (nI k)) 0 9 (I 0 9 + 1)) ?_ (fun a ha => ?_) ?_
          · rw [t0, e9, nI_1]; exact hfin
          · (repeat rw [pm_uG ha rfl])
          · simp [pm_u, e9, nI_1]
      · intro c I J hc hC
        have e9 : I 30 26 = nI (al 27 0) := hC.2.2.2.2.1.1
        have l9 : ¬ I 30 26 = 12 := by
          rw [e9]
          exact fun q => hf ((nI_eq (b := 12) (by omega) (by decide)).mp q)
        have hfin : sy_M (pm_u (pm_u I 38 (al 27 0) (nI k)) 30 26 (nI (al 27 0 + 1))) (pm_u (pm_u al 28 (al 27 0) k) 27 0 (al 27 0 + 1)) := by
          obtain ⟨c1, c2, c3, c4, c5, c6⟩ := hC
          refine ⟨by simpa [sy_TM, pm_u] using c1, by simpa [pm_u] using c2, by simpa [pm_u] using c3, by simpa [pm_u] using c4, ⟨by simp [pm_u], fun i hi => ?_⟩, by simpa [pm_u] using c6⟩
          by_cases hii : i = al 27 0
          · subst hii
            simp [pm_u]
          · simpa [pm_u, hii] using c5.2 i hi
        rw [← e9] at hi t0
        (repeat' first | refine pm_s rfl rfl ?_ | refine pm_ifT (by assumption) ?_ | refine pm_ifF (by assumption) ?_ | refine pm_ial rfl rfl (by assumption) ?_ | refine pm_ias rfl rfl rfl (by assumption) ?_ | refine pm_r rfl rfl rfl ?_ | refine pm_rz rfl rfl rfl ?_)
        refine pm_cq rfl rfl rfl rfl rfl rfl (md_isC1 hC.1.1.1 hn hk) ?_
        (repeat' first | refine pm_s rfl rfl ?_ | refine pm_ifT (by assumption) ?_ | refine pm_ifF (by assumption) ?_ | refine pm_ial rfl rfl (by assumption) ?_ | refine pm_ias rfl rfl rfl (by assumption) ?_ | refine pm_r rfl rfl rfl ?_ | refine pm_rz rfl rfl rfl ?_)
        refine ml_1 (I' := pm_u (pm_u I 38 (I 30 26).toNatClampNeg (nI k)) 30 26 (I 30 26 + 1)) ?_ (fun a ha => ?_) ?_
        · rw [t0, e9, nI_1]; exact hfin
        · (repeat rw [pm_uL ha rfl])
        · simp [pm_u, e9, nI_1]
end
section
/-! bits -/
theorem bt_s {k : Nat} (hk : k < 8) : ((nI k &&& 31).toBitVec.smod 32).toNat = k := by
  rcases (show k = 0 ∨ k = 1 ∨ k = 2 ∨ k = 3 ∨ k = 4 ∨ k = 5 ∨ k = 6 ∨ k = 7 by omega) with rfl | rfl | rfl | rfl | rfl | rfl | rfl | rfl <;> decide
theorem bt_and1 {n : Nat} (h : n < 2 ^ 32) : nI n &&& 1 = nI (n % 2) := pk_andN h 1 (by decide)
theorem bt_get {st k : Nat} (hst : st < 2 ^ 31) (hk : k < 8) : (nI st >>> (nI k &&& 31)) &&& 1 = nI (st / 2 ^ k % 2) := by
  rw [pk_shrN hst _ k (bt_s hk), bt_and1 (Nat.lt_of_le_of_lt (Nat.div_le_self _ _) (by omega))]
theorem bt_01 (st k : Nat) : st / 2 ^ k % 2 = 0 ∨ st / 2 ^ k % 2 = 1 := by omega
/-- the height of a corner: by night, if its screw does not stick -/
def hg (al : Nat → Nat → Nat) (st k nt : Nat) : Nat := if nt = 1 ∧ st / 2 ^ k % 2 = 0 then al 2 k else al 1 k
theorem pm_swo {X : Nat × (Nat → Int32)} {tb : List pm_E × Option FieldType} {L : pm_L} {S : List Value} {w : pm_Wo} {K : Option Value → pm_Wo → Prop} {x : Int32} {pc b : Nat} {offs : List Int} (n : Nat) (h : x < 0 ∨ nI n ≤ x) (hl : Nat.ble n 100 = true) (hlen : offs.length = n) (ho : offs.all (fun o => decide (0 ≤ (pc : Int) + o)) = true) (k : pm_R X tb b L S w K) : pm_R X tb (pm_sw x pc 0 offs b) L S w K := by
  subst hlen
  rw [sw_out h (Nat.le_of_ble_eq_true hl) ho]
  exact k
section SO
variable {X : Nat × (Nat → Int32)} {al al' : Nat → Nat → Nat} {c : Nat} {I I' : Nat → Nat → Int32} {J J' : Nat → Nat → Int64}
set_option maxHeartbeats 4000000 in
set_option maxRecDepth 100000 in
theorem tw_hgt {T st k nt : Nat} (hT : T = 6 ∨ T = 15) (hn : al 0 0 ≤ 8) (h : sy_T T I al) (hst : st < 2 ^ 31) (hk : k < al 0 0) (hnt : nt ≤ 1) : pm_R X mm_X1_heightOf.1 0 [some (.ref T), some (.int (nI k)), some (.int (nI nt)), some (.int (nI st)), none] [] (41, sy_R c, I, J) (fun o w' => o = some (.int (nI (hg al st k nt))) ∧ w' = (41, sy_R c, I, J)) := by
  have hi := sy_idx (k := k) (N := 8) (by omega) (by decide)
  have t0 : (nI k).toNatClampNeg = k := nI_clamp (by omega)
  have hb := bt_get hst (show k < 8 by omega)
  have e0 := h.1.1
  have e1 := (h.2.1 k (by omega)).1
  have e2 := (h.2.1 k (by omega)).2
  rcases (show nt = 0 ∨ nt = 1 by omega) with rfl | rfl
  · have g : hg al st k 0 = al 1 k := if_neg (by omega)
    rw [g]
    rcases hT with rfl | rfl
    · (repeat' first | refine pm_s rfl rfl ?_ | refine pm_ifT (by assumption) ?_ | refine pm_ifF (by assumption) ?_ | refine pm_ial rfl rfl (by assumption) ?_ | refine pm_ias rfl rfl rfl (by assumption) ?_ | refine pm_r rfl rfl rfl ?_ | refine pm_rz rfl rfl rfl ?_)
      refine pm_cq rfl rfl rfl rfl rfl rfl (tw_has1 (Or.inl rfl) e0 hn hk) ?_
      (repeat' first | refine pm_s rfl rfl ?_ | refine pm_ifT (by assumption) ?_ | refine pm_ifF (by assumption) ?_ | refine pm_ial rfl rfl (by assumption) ?_ | refine pm_ias rfl rfl rfl (by assumption) ?_ | refine pm_r rfl rfl rfl ?_ | refine pm_rz rfl rfl rfl ?_)
      exact ⟨by rw [t0, e1], rfl⟩
    · (repeat' first | refine pm_s rfl rfl ?_ | refine pm_ifT (by assumption) ?_ | refine pm_ifF (by assumption) ?_ | refine pm_ial rfl rfl (by assumption) ?_ | refine pm_ias rfl rfl rfl (by assumption) ?_ | refine pm_r rfl rfl rfl ?_ | refine pm_rz rfl rfl rfl ?_)
      refine pm_cq rfl rfl rfl rfl rfl rfl (tw_has1 (Or.inr rfl) e0 hn hk) ?_
      (repeat' first | refine pm_s rfl rfl ?_ | refine pm_ifT (by assumption) ?_ | refine pm_ifF (by assumption) ?_ | refine pm_ial rfl rfl (by assumption) ?_ | refine pm_ias rfl rfl rfl (by assumption) ?_ | refine pm_r rfl rfl rfl ?_ | refine pm_rz rfl rfl rfl ?_)
      exact ⟨by rw [t0, e1], rfl⟩
  · rcases bt_01 st k with hz | hz
    · have g : hg al st k 1 = al 2 k := if_pos ⟨rfl, hz⟩
      have hb0 : (nI st >>> (nI k &&& 31)) &&& 1 = 0 := by rw [hb, hz]; rfl
      rw [g]
      rcases hT with rfl | rfl
      · (repeat' first | refine pm_s rfl rfl ?_ | refine pm_ifT (by assumption) ?_ | refine pm_ifF (by assumption) ?_ | refine pm_ial rfl rfl (by assumption) ?_ | refine pm_ias rfl rfl rfl (by assumption) ?_ | refine pm_r rfl rfl rfl ?_ | refine pm_rz rfl rfl rfl ?_)
        refine pm_cq rfl rfl rfl rfl rfl rfl (tw_has1 (Or.inl rfl) e0 hn hk) ?_
        (repeat' first | refine pm_s rfl rfl ?_ | refine pm_ifT (by assumption) ?_ | refine pm_ifF (by assumption) ?_ | refine pm_ial rfl rfl (by assumption) ?_ | refine pm_ias rfl rfl rfl (by assumption) ?_ | refine pm_r rfl rfl rfl ?_ | refine pm_rz rfl rfl rfl ?_)
        exact ⟨by rw [t0, e2], rfl⟩
      · (repeat' first | refine pm_s rfl rfl ?_ | refine pm_ifT (by assumption) ?_ | refine pm_ifF (by assumption) ?_ | refine pm_ial rfl rfl (by assumption) ?_ | refine pm_ias rfl rfl rfl (by assumption) ?_ | refine pm_r rfl rfl rfl ?_ | refine pm_rz rfl rfl rfl ?_)
        refine pm_cq rfl rfl rfl rfl rfl rfl (tw_has1 (Or.inr rfl) e0 hn hk) ?_
        (repeat' first | refine pm_s rfl rfl ?_ | refine pm_ifT (by assumption) ?_ | refine pm_ifF (by assumption) ?_ | refine pm_ial rfl rfl (by assumption) ?_ | refine pm_ias rfl rfl rfl (by assumption) ?_ | refine pm_r rfl rfl rfl ?_ | refine pm_rz rfl rfl rfl ?_)
        exact ⟨by rw [t0, e2], rfl⟩
    · have g : hg al st k 1 = al 1 k := if_neg (by omega)
      have hb0 : ¬ (nI st >>> (nI k &&& 31)) &&& 1 = 0 := by rw [hb, hz]; decide
      rw [g]
      rcases hT with rfl | rfl
      · (repeat' first | refine pm_s rfl rfl ?_ | refine pm_ifT (by assumption) ?_ | refine pm_ifF (by assumption) ?_ | refine pm_ial rfl rfl (by assumption) ?_ | refine pm_ias rfl rfl rfl (by assumption) ?_ | refine pm_r rfl rfl rfl ?_ | refine pm_rz rfl rfl rfl ?_)
        refine pm_cq rfl rfl rfl rfl rfl rfl (tw_has1 (Or.inl rfl) e0 hn hk) ?_
        (repeat' first | refine pm_s rfl rfl ?_ | refine pm_ifT (by assumption) ?_ | refine pm_ifF (by assumption) ?_ | refine pm_ial rfl rfl (by assumption) ?_ | refine pm_ias rfl rfl rfl (by assumption) ?_ | refine pm_r rfl rfl rfl ?_ | refine pm_rz rfl rfl rfl ?_)
        exact ⟨by rw [t0, e1], rfl⟩
      · (repeat' first | refine pm_s rfl rfl ?_ | refine pm_ifT (by assumption) ?_ | refine pm_ifF (by assumption) ?_ | refine pm_ial rfl rfl (by assumption) ?_ | refine pm_ias rfl rfl rfl (by assumption) ?_ | refine pm_r rfl rfl rfl ?_ | refine pm_rz rfl rfl rfl ?_)
        refine pm_cq rfl rfl rfl rfl rfl rfl (tw_has1 (Or.inr rfl) e0 hn hk) ?_
        (repeat' first | refine pm_s rfl rfl ?_ | refine pm_ifT (by assumption) ?_ | refine pm_ifF (by assumption) ?_ | refine pm_ial rfl rfl (by assumption) ?_ | refine pm_ias rfl rfl rfl (by assumption) ?_ | refine pm_r rfl rfl rfl ?_ | refine pm_rz rfl rfl rfl ?_)
        exact ⟨by rw [t0, e1], rfl⟩
theorem md_has {w : pm_Wo} {st k : Nat} (hst : st < 2 ^ 31) (hk : k < 8) : pm_R X mm_X4_has.1 0 [some (.int (nI st)), some (.int (nI k))] [] w (fun o w' => o = some (.int (nI (st / 2 ^ k % 2))) ∧ w' = w) := by
  have hb := bt_get hst hk
  rcases bt_01 st k with hz | hz
  · have hb0 : ¬ (nI st >>> (nI k &&& 31)) &&& 1 = 1 := by rw [hb, hz]; decide
    rw [hz]
    (repeat' first | refine pm_s rfl rfl ?_ | refine pm_ifT (by assumption) ?_ | refine pm_ifF (by assumption) ?_ | refine pm_ial rfl rfl (by assumption) ?_ | refine pm_ias rfl rfl rfl (by assumption) ?_ | refine pm_r rfl rfl rfl ?_ | refine pm_rz rfl rfl rfl ?_)
    exact ⟨rfl, rfl⟩
  · have hb0 : (nI st >>> (nI k &&& 31)) &&& 1 = 1 := by rw [hb, hz]; rfl
    rw [hz]
    (repeat' first | refine pm_s rfl rfl ?_ | refine pm_ifT (by assumption) ?_ | refine pm_ifF (by assumption) ?_ | refine pm_ial rfl rfl (by assumption) ?_ | refine pm_ias rfl rfl rfl (by assumption) ?_ | refine pm_r rfl rfl rfl ?_ | refine pm_rz rfl rfl rfl ?_)
    exact ⟨rfl, rfl⟩
set_option maxHeartbeats 4000000 in
set_option maxRecDepth 100000 in
theorem md_hgt {st k nt : Nat} (h2 : ∀ i, i < 8 → I 31 (2 * i) = nI (al 1 i) ∧ I 31 (2 * i + 1) = nI (al 2 i)) (h3 : I 30 2 = nI st) (hst : st < 2 ^ 31) (hk : k < 8) (hnt : nt ≤ 1) : pm_R X mm_X4_heightOf.1 0 [some (.ref 30), some (.int (nI k)), some (.int (nI nt))] [] (41, sy_R c, I, J) (fun o w' => o = some (.int (nI (hg al st k nt))) ∧ w' = (41, sy_R c, I, J)) := by
  have e1 := (h2 k (by omega)).1
  have e2 := (h2 k (by omega)).2
  have hh := md_has (X := X) (w := (41, sy_R c, I, J)) hst hk
  rw [← h3] at hh
  (repeat' first | refine pm_s rfl rfl ?_ | refine pm_ifT (by assumption) ?_ | refine pm_ifF (by assumption) ?_ | refine pm_ial rfl rfl (by assumption) ?_ | refine pm_ias rfl rfl rfl (by assumption) ?_ | refine pm_r rfl rfl rfl ?_ | refine pm_rz rfl rfl rfl ?_)
  refine pm_cq rfl rfl rfl rfl rfl rfl hh ?_
  rcases bt_01 st k with hz | hz
  · rw [hz]
    have i1 : (0 : Int32) ≤ 2 * nI k + nI nt ∧ (2 * nI k + nI nt).toNatClampNeg < 16 := by rw [show (2 : Int32) = nI 2 from rfl, pk_mul, nI_add]; exact sy_idx (by omega) (by decide)
    have t1 : (2 * nI k + nI nt).toNatClampNeg = 2 * k + nt := by rw [show (2 : Int32) = nI 2 from rfl, pk_mul, nI_add, nI_clamp (by omega)]
    (repeat' first | refine pm_s rfl rfl ?_ | refine pm_ifT (by assumption) ?_ | refine pm_ifF (by assumption) ?_ | refine pm_ial rfl rfl (by assumption) ?_ | refine pm_ias rfl rfl rfl (by assumption) ?_ | refine pm_r rfl rfl rfl ?_ | refine pm_rz rfl rfl rfl ?_)
    refine ⟨?_, rfl⟩
    rw [t1]
    rcases (show nt = 0 ∨ nt = 1 by omega) with rfl | rfl
    · rw [show hg al st k 0 = al 1 k from if_neg (by omega)]
      simp [e1]
    · rw [show hg al st k 1 = al 2 k from if_pos ⟨rfl, hz⟩, e2]
  · rw [hz]
    have i1 : (0 : Int32) ≤ 2 * nI k + 0 ∧ (2 * nI k + 0).toNatClampNeg < 16 := by rw [show (2 : Int32) = nI 2 from rfl, show (0 : Int32) = nI 0 from rfl, pk_mul, nI_add]; exact sy_idx (by omega) (by decide)
    have t1 : (2 * nI k + 0).toNatClampNeg = 2 * k := by rw [show (2 : Int32) = nI 2 from rfl, show (0 : Int32) = nI 0 from rfl, pk_mul, nI_add, nI_clamp (by omega)]; omega
    (repeat' first | refine pm_s rfl rfl ?_ | refine pm_ifT (by assumption) ?_ | refine pm_ifF (by assumption) ?_ | refine pm_ial rfl rfl (by assumption) ?_ | refine pm_ias rfl rfl rfl (by assumption) ?_ | refine pm_r rfl rfl rfl ?_ | refine pm_rz rfl rfl rfl ?_)
    refine ⟨?_, rfl⟩
    rw [t1, e1, show hg al st k nt = al 1 k from if_neg (by omega)]
theorem cl_half1 {w : pm_Wo} {k : Nat} (hk : k < 2) : pm_R X mm_X3_isHalf.1 0 [some (.int (nI k))] [] w (fun o w' => o = some (.int 1) ∧ w' = w) := by
  have h1 : ¬ nI k < 0 := nI_pos (by omega)
  have h2 : ¬ (2 : Int32) ≤ nI k := nI_ge hk (by decide)
  (repeat' first | refine pm_s rfl rfl ?_ | refine pm_ifT (by assumption) ?_ | refine pm_ifF (by assumption) ?_ | refine pm_ial rfl rfl (by assumption) ?_ | refine pm_ias rfl rfl rfl (by assumption) ?_ | refine pm_r rfl rfl rfl ?_ | refine pm_rz rfl rfl rfl ?_)
  exact ⟨rfl, rfl⟩
theorem cl_half0 {w : pm_Wo} {a : Int32} (h : a < 0 ∨ nI 2 ≤ a) : pm_R X mm_X3_isHalf.1 0 [some (.int a)] [] w (fun o w' => o = some (.int 0) ∧ w' = w) := by
  by_cases h1 : a < 0
  · (repeat' first | refine pm_s rfl rfl ?_ | refine pm_ifT (by assumption) ?_ | refine pm_ifF (by assumption) ?_ | refine pm_ial rfl rfl (by assumption) ?_ | refine pm_ias rfl rfl rfl (by assumption) ?_ | refine pm_r rfl rfl rfl ?_ | refine pm_rz rfl rfl rfl ?_)
    exact ⟨rfl, rfl⟩
  · have h2 : (2 : Int32) ≤ a := h.resolve_left h1
    (repeat' first | refine pm_s rfl rfl ?_ | refine pm_ifT (by assumption) ?_ | refine pm_ifF (by assumption) ?_ | refine pm_ial rfl rfl (by assumption) ?_ | refine pm_ias rfl rfl rfl (by assumption) ?_ | refine pm_r rfl rfl rfl ?_ | refine pm_rz rfl rfl rfl ?_)
    exact ⟨rfl, rfl⟩
theorem tw_hb {T t h : Nat} (hT : T = 6 ∨ T = 15) (e : I T 9 = nI h) (hh : 1 ≤ h ∧ h < 2 ^ 31) (ht : t < 2 ^ 31) : pm_R X mm_X1_halvesBefore.1 0 [some (.ref T), some (.int (nI t))] [] (41, sy_R c, I, J) (fun o w' => o = some (.int (nI (t / h))) ∧ w' = (41, sy_R c, I, J)) := by
  have h1 : ¬ I T 9 < 1 := by rw [e]; exact nI_nlt (a := h) (b := 1) hh.1 hh.2
  have h1' : (1 : Int32) ≤ I T 9 := Int32.not_lt.mp h1
  have h2 : ¬ I T 9 = 0 := by rw [e]; exact nI_ne0 (by omega) hh.2
  have h3 : nI t / I T 9 = nI (t / h) := by rw [e, pk_div ht (by omega) hh.2]
  rcases hT with rfl | rfl
  · (repeat' first | refine pm_s rfl rfl ?_ | refine pm_ifT (by assumption) ?_ | refine pm_ifF (by assumption) ?_ | refine pm_ial rfl rfl (by assumption) ?_ | refine pm_ias rfl rfl rfl (by assumption) ?_ | refine pm_r rfl rfl rfl ?_ | refine pm_rz rfl rfl rfl ?_)
    refine pm_dv rfl h2 ?_
    (repeat' first | refine pm_s rfl rfl ?_ | refine pm_ifT (by assumption) ?_ | refine pm_ifF (by assumption) ?_ | refine pm_ial rfl rfl (by assumption) ?_ | refine pm_ias rfl rfl rfl (by assumption) ?_ | refine pm_r rfl rfl rfl ?_ | refine pm_rz rfl rfl rfl ?_)
    exact ⟨by rw [h3], rfl⟩
  · (repeat' first | refine pm_s rfl rfl ?_ | refine pm_ifT (by assumption) ?_ | refine pm_ifF (by assumption) ?_ | refine pm_ial rfl rfl (by assumption) ?_ | refine pm_ias rfl rfl rfl (by assumption) ?_ | refine pm_r rfl rfl rfl ?_ | refine pm_rz rfl rfl rfl ?_)
    refine pm_dv rfl h2 ?_
    (repeat' first | refine pm_s rfl rfl ?_ | refine pm_ifT (by assumption) ?_ | refine pm_ifF (by assumption) ?_ | refine pm_ial rfl rfl (by assumption) ?_ | refine pm_ias rfl rfl rfl (by assumption) ?_ | refine pm_r rfl rfl rfl ?_ | refine pm_rz rfl rfl rfl ?_)
    exact ⟨by rw [h3], rfl⟩
end SO
set_option maxHeartbeats 4000000 in
set_option maxRecDepth 100000 in
theorem op_corner {X : Nat × (Nat → Int32)} {al : Nat → Nat → Nat} (hW : sy_W al) (a b : Int32) : sy_Op X mm_X3_corner mm_X4_corner [some (.int a), some (.int b)] al := by
  obtain ⟨w1, w2, w3, w4, w5, w6⟩ := id hW
  have hn := w1.1.2
  have hst : al 3 0 < 2 ^ 31 := Nat.lt_of_lt_of_le w1.2.2.1 (Nat.pow_le_pow_right (by decide) (by omega))
  have key : (a < 0 ∨ nI (al 0 0) ≤ a) → sy_Op X mm_X3_corner mm_X4_corner [some (.int a), some (.int b)] al := by
    intro h
    refine ⟨-2, al, hW, ?_, ?_⟩
    · intro c I J hc hC
      have e0 := hC.1.1.1
      rcases hc with rfl | rfl
      · (repeat' first | refine pm_s rfl rfl ?_ | refine pm_ifT (by assumption) ?_ | refine pm_ifF (by assumption) ?_ | refine pm_ial rfl rfl (by assumption) ?_ | refine pm_ias rfl rfl rfl (by assumption) ?_ | refine pm_r rfl rfl rfl ?_ | refine pm_rz rfl rfl rfl ?_)
        refine pm_cq rfl rfl rfl rfl rfl rfl (tw_has0 (Or.inl rfl) e0 hn h) ?_
        (repeat' first | refine pm_s rfl rfl ?_ | refine pm_ifT (by assumption) ?_ | refine pm_ifF (by assumption) ?_ | refine pm_ial rfl rfl (by assumption) ?_ | refine pm_ias rfl rfl rfl (by assumption) ?_ | refine pm_r rfl rfl rfl ?_ | refine pm_rz rfl rfl rfl ?_)
        exact cl_0 (Or.inl rfl) hC rfl
      · (repeat' first | refine pm_s rfl rfl ?_ | refine pm_ifT (by assumption) ?_ | refine pm_ifF (by assumption) ?_ | refine pm_ial rfl rfl (by assumption) ?_ | refine pm_ias rfl rfl rfl (by assumption) ?_ | refine pm_r rfl rfl rfl ?_ | refine pm_rz rfl rfl rfl ?_)
        refine pm_cq rfl rfl rfl rfl rfl rfl (tw_has0 (Or.inr rfl) e0 hn h) ?_
        (repeat' first | refine pm_s rfl rfl ?_ | refine pm_ifT (by assumption) ?_ | refine pm_ifF (by assumption) ?_ | refine pm_ial rfl rfl (by assumption) ?_ | refine pm_ias rfl rfl rfl (by assumption) ?_ | refine pm_r rfl rfl rfl ?_ | refine pm_rz rfl rfl rfl ?_)
        exact cl_0 (Or.inr rfl) hC rfl
    · intro c I J hc hC
      (repeat' first | refine pm_s rfl rfl ?_ | refine pm_ifT (by assumption) ?_ | refine pm_ifF (by assumption) ?_ | refine pm_ial rfl rfl (by assumption) ?_ | refine pm_ias rfl rfl rfl (by assumption) ?_ | refine pm_r rfl rfl rfl ?_ | refine pm_rz rfl rfl rfl ?_)
      refine pm_cq rfl rfl rfl rfl rfl rfl (md_isC0 hC.1.1.1 hn h) ?_
      (repeat' first | refine pm_s rfl rfl ?_ | refine pm_ifT (by assumption) ?_ | refine pm_ifF (by assumption) ?_ | refine pm_ial rfl rfl (by assumption) ?_ | refine pm_ias rfl rfl rfl (by assumption) ?_ | refine pm_r rfl rfl rfl ?_ | refine pm_rz rfl rfl rfl ?_)
      exact ml_0 hC rfl
  rcases pk_ix a (n := al 0 0) (by omega) with h | h | ⟨k, hk, rfl⟩
  · exact key (Or.inl h)
  · exact key (Or.inr h)
  · have out : (b < 0 ∨ nI 3 ≤ b) → sy_Op X mm_X3_corner mm_X4_corner [some (.int (nI k)), some (.int b)] al := by
      intro h
      have n0 : ¬ b = 0 := fun q => by subst q; rcases h with h | h <;> exact absurd h (by decide)
      have n1 : ¬ b = 1 := fun q => by subst q; rcases h with h | h <;> exact absurd h (by decide)
      have n2 : ¬ b = 2 := fun q => by subst q; rcases h with h | h <;> exact absurd h (by decide)
      refine ⟨-3, al, hW, ?_, ?_⟩
      · intro c I J hc hC
        have e0 := hC.1.1.1
        rcases hc with rfl | rfl
        · (repeat' first | refine pm_s rfl rfl ?_ | refine pm_ifT (by assumption) ?_ | refine pm_ifF (by assumption) ?_ | refine pm_ial rfl rfl (by assumption) ?_ | refine pm_ias rfl rfl rfl (by assumption) ?_ | refine pm_r rfl rfl rfl ?_ | refine pm_rz rfl rfl rfl ?_)
          refine pm_cq rfl rfl rfl rfl rfl rfl (tw_has1 (Or.inl rfl) e0 hn hk) ?_
          (repeat' first | refine pm_s rfl rfl ?_ | refine pm_ifT (by assumption) ?_ | refine pm_ifF (by assumption) ?_ | refine pm_ial rfl rfl (by assumption) ?_ | refine pm_ias rfl rfl rfl (by assumption) ?_ | refine pm_r rfl rfl rfl ?_ | refine pm_rz rfl rfl rfl ?_)
          exact cl_0 (Or.inl rfl) hC rfl
        · (repeat' first | refine pm_s rfl rfl ?_ | refine pm_ifT (by assumption) ?_ | refine pm_ifF (by assumption) ?_ | refine pm_ial rfl rfl (by assumption) ?_ | refine pm_ias rfl rfl rfl (by assumption) ?_ | refine pm_r rfl rfl rfl ?_ | refine pm_rz rfl rfl rfl ?_)
          refine pm_cq rfl rfl rfl rfl rfl rfl (tw_has1 (Or.inr rfl) e0 hn hk) ?_
          (repeat' first | refine pm_s rfl rfl ?_ | refine pm_ifT (by assumption) ?_ | refine pm_ifF (by assumption) ?_ | refine pm_ial rfl rfl (by assumption) ?_ | refine pm_ias rfl rfl rfl (by assumption) ?_ | refine pm_r rfl rfl rfl ?_ | refine pm_rz rfl rfl rfl ?_)
          exact cl_0 (Or.inr rfl) hC rfl
      · intro c I J hc hC
        (repeat' first | refine pm_s rfl rfl ?_ | refine pm_ifT (by assumption) ?_ | refine pm_ifF (by assumption) ?_ | refine pm_ial rfl rfl (by assumption) ?_ | refine pm_ias rfl rfl rfl (by assumption) ?_ | refine pm_r rfl rfl rfl ?_ | refine pm_rz rfl rfl rfl ?_)
        refine pm_cq rfl rfl rfl rfl rfl rfl (md_isC1 hC.1.1.1 hn hk) ?_
        (repeat' first | refine pm_s rfl rfl ?_ | refine pm_ifT (by assumption) ?_ | refine pm_ifF (by assumption) ?_ | refine pm_ial rfl rfl (by assumption) ?_ | refine pm_ias rfl rfl rfl (by assumption) ?_ | refine pm_r rfl rfl rfl ?_ | refine pm_rz rfl rfl rfl ?_)
        exact ml_0 hC rfl
    rcases pk_ix b (n := 3) (by decide) with h | h | ⟨m, hm, rfl⟩
    · exact out (Or.inl h)
    · exact out (Or.inr h)
    · by_cases hm2 : m ≤ 1
      · refine ⟨nI (hg al (al 3 0) k m), al, hW, ?_, ?_⟩
        · intro c I J hc hC
          have e0 := hC.1.1.1
          have e3 := hC.1.1.2.1
          rcases hc with rfl | rfl
          · have hh := tw_hgt (X := X) (c := 6) (J := J) (Or.inl rfl) hn hC.1 hst hk hm2
            rw [← e3] at hh
            rcases (show m = 0 ∨ m = 1 by omega) with rfl | rfl
            · (repeat' first | refine pm_s rfl rfl ?_ | refine pm_ifT (by assumption) ?_ | refine pm_ifF (by assumption) ?_ | refine pm_ial rfl rfl (by assumption) ?_ | refine pm_ias rfl rfl rfl (by assumption) ?_ | refine pm_r rfl rfl rfl ?_ | refine pm_rz rfl rfl rfl ?_)
              refine pm_cq rfl rfl rfl rfl rfl rfl (tw_has1 (Or.inl rfl) e0 hn hk) ?_
              (repeat' first | refine pm_s rfl rfl ?_ | refine pm_ifT (by assumption) ?_ | refine pm_ifF (by assumption) ?_ | refine pm_ial rfl rfl (by assumption) ?_ | refine pm_ias rfl rfl rfl (by assumption) ?_ | refine pm_r rfl rfl rfl ?_ | refine pm_rz rfl rfl rfl ?_)
              refine pm_cq rfl rfl rfl rfl rfl rfl hh ?_
              (repeat' first | refine pm_s rfl rfl ?_ | refine pm_ifT (by assumption) ?_ | refine pm_ifF (by assumption) ?_ | refine pm_ial rfl rfl (by assumption) ?_ | refine pm_ias rfl rfl rfl (by assumption) ?_ | refine pm_r rfl rfl rfl ?_ | refine pm_rz rfl rfl rfl ?_)
              exact cl_0 (Or.inl rfl) hC rfl
            · (repeat' first | refine pm_s rfl rfl ?_ | refine pm_ifT (by assumption) ?_ | refine pm_ifF (by assumption) ?_ | refine pm_ial rfl rfl (by assumption) ?_ | refine pm_ias rfl rfl rfl (by assumption) ?_ | refine pm_r rfl rfl rfl ?_ | refine pm_rz rfl rfl rfl ?_)
              refine pm_cq rfl rfl rfl rfl rfl rfl (tw_has1 (Or.inl rfl) e0 hn hk) ?_
              (repeat' first | refine pm_s rfl rfl ?_ | refine pm_ifT (by assumption) ?_ | refine pm_ifF (by assumption) ?_ | refine pm_ial rfl rfl (by assumption) ?_ | refine pm_ias rfl rfl rfl (by assumption) ?_ | refine pm_r rfl rfl rfl ?_ | refine pm_rz rfl rfl rfl ?_)
              refine pm_cq rfl rfl rfl rfl rfl rfl hh ?_
              (repeat' first | refine pm_s rfl rfl ?_ | refine pm_ifT (by assumption) ?_ | refine pm_ifF (by assumption) ?_ | refine pm_ial rfl rfl (by assumption) ?_ | refine pm_ias rfl rfl rfl (by assumption) ?_ | refine pm_r rfl rfl rfl ?_ | refine pm_rz rfl rfl rfl ?_)
              exact cl_0 (Or.inl rfl) hC rfl
          · have hh := tw_hgt (X := X) (c := 15) (J := J) (Or.inr rfl) hn hC.1 hst hk hm2
            rw [← e3] at hh
            rcases (show m = 0 ∨ m = 1 by omega) with rfl | rfl
            · (repeat' first | refine pm_s rfl rfl ?_ | refine pm_ifT (by assumption) ?_ | refine pm_ifF (by assumption) ?_ | refine pm_ial rfl rfl (by assumption) ?_ | refine pm_ias rfl rfl rfl (by assumption) ?_ | refine pm_r rfl rfl rfl ?_ | refine pm_rz rfl rfl rfl ?_)
              refine pm_cq rfl rfl rfl rfl rfl rfl (tw_has1 (Or.inr rfl) e0 hn hk) ?_
              (repeat' first | refine pm_s rfl rfl ?_ | refine pm_ifT (by assumption) ?_ | refine pm_ifF (by assumption) ?_ | refine pm_ial rfl rfl (by assumption) ?_ | refine pm_ias rfl rfl rfl (by assumption) ?_ | refine pm_r rfl rfl rfl ?_ | refine pm_rz rfl rfl rfl ?_)
              refine pm_cq rfl rfl rfl rfl rfl rfl hh ?_
              (repeat' first | refine pm_s rfl rfl ?_ | refine pm_ifT (by assumption) ?_ | refine pm_ifF (by assumption) ?_ | refine pm_ial rfl rfl (by assumption) ?_ | refine pm_ias rfl rfl rfl (by assumption) ?_ | refine pm_r rfl rfl rfl ?_ | refine pm_rz rfl rfl rfl ?_)
              exact cl_0 (Or.inr rfl) hC rfl
            · (repeat' first | refine pm_s rfl rfl ?_ | refine pm_ifT (by assumption) ?_ | refine pm_ifF (by assumption) ?_ | refine pm_ial rfl rfl (by assumption) ?_ | refine pm_ias rfl rfl rfl (by assumption) ?_ | refine pm_r rfl rfl rfl ?_ | refine pm_rz rfl rfl rfl ?_)
              refine pm_cq rfl rfl rfl rfl rfl rfl (tw_has1 (Or.inr rfl) e0 hn hk) ?_
              (repeat' first | refine pm_s rfl rfl ?_ | refine pm_ifT (by assumption) ?_ | refine pm_ifF (by assumption) ?_ | refine pm_ial rfl rfl (by assumption) ?_ | refine pm_ias rfl rfl rfl (by assumption) ?_ | refine pm_r rfl rfl rfl ?_ | refine pm_rz rfl rfl rfl ?_)
              refine pm_cq rfl rfl rfl rfl rfl rfl hh ?_
              (repeat' first | refine pm_s rfl rfl ?_ | refine pm_ifT (by assumption) ?_ | refine pm_ifF (by assumption) ?_ | refine pm_ial rfl rfl (by assumption) ?_ | refine pm_ias rfl rfl rfl (by assumption) ?_ | refine pm_r rfl rfl rfl ?_ | refine pm_rz rfl rfl rfl ?_)
              exact cl_0 (Or.inr rfl) hC rfl
        · intro c I J hc hC
          have hh := md_hgt (X := X) (c := c) (J := J) (st := al 3 0) hC.1.2.1 hC.1.1.2.1 hst (show k < 8 by omega) hm2
          rcases (show m = 0 ∨ m = 1 by omega) with rfl | rfl
          · (repeat' first | refine pm_s rfl rfl ?_ | refine pm_ifT (by assumption) ?_ | refine pm_ifF (by assumption) ?_ | refine pm_ial rfl rfl (by assumption) ?_ | refine pm_ias rfl rfl rfl (by assumption) ?_ | refine pm_r rfl rfl rfl ?_ | refine pm_rz rfl rfl rfl ?_)
            refine pm_cq rfl rfl rfl rfl rfl rfl (md_isC1 hC.1.1.1 hn hk) ?_
            (repeat' first | refine pm_s rfl rfl ?_ | refine pm_ifT (by assumption) ?_ | refine pm_ifF (by assumption) ?_ | refine pm_ial rfl rfl (by assumption) ?_ | refine pm_ias rfl rfl rfl (by assumption) ?_ | refine pm_r rfl rfl rfl ?_ | refine pm_rz rfl rfl rfl ?_)
            refine pm_cq rfl rfl rfl rfl rfl rfl hh ?_
            (repeat' first | refine pm_s rfl rfl ?_ | refine pm_ifT (by assumption) ?_ | refine pm_ifF (by assumption) ?_ | refine pm_ial rfl rfl (by assumption) ?_ | refine pm_ias rfl rfl rfl (by assumption) ?_ | refine pm_r rfl rfl rfl ?_ | refine pm_rz rfl rfl rfl ?_)
            exact ml_0 hC rfl
          · (repeat' first | refine pm_s rfl rfl ?_ | refine pm_ifT (by assumption) ?_ | refine pm_ifF (by assumption) ?_ | refine pm_ial rfl rfl (by assumption) ?_ | refine pm_ias rfl rfl rfl (by assumption) ?_ | refine pm_r rfl rfl rfl ?_ | refine pm_rz rfl rfl rfl ?_)
            refine pm_cq rfl rfl rfl rfl rfl rfl (md_isC1 hC.1.1.1 hn hk) ?_
            (repeat' first | refine pm_s rfl rfl ?_ | refine pm_ifT (by assumption) ?_ | refine pm_ifF (by assumption) ?_ | refine pm_ial rfl rfl (by assumption) ?_ | refine pm_ias rfl rfl rfl (by assumption) ?_ | refine pm_r rfl rfl rfl ?_ | refine pm_rz rfl rfl rfl ?_)
            refine pm_cq rfl rfl rfl rfl rfl rfl hh ?_
            (repeat' first | refine pm_s rfl rfl ?_ | refine pm_ifT (by assumption) ?_ | refine pm_ifF (by assumption) ?_ | refine pm_ial rfl rfl (by assumption) ?_ | refine pm_ias rfl rfl rfl (by assumption) ?_ | refine pm_r rfl rfl rfl ?_ | refine pm_rz rfl rfl rfl ?_)
            exact ml_0 hC rfl
      · have hm3 : m = 2 := by omega
        subst hm3
        have hb := bt_get hst (show k < 8 by omega)
        refine ⟨nI (al 3 0 / 2 ^ k % 2), al, hW, ?_, ?_⟩
        · intro c I J hc hC
          have e0 := hC.1.1.1
          have e3 := hC.1.1.2.1
          rcases hc with rfl | rfl
          · (repeat' first | refine pm_s rfl rfl ?_ | refine pm_ifT (by assumption) ?_ | refine pm_ifF (by assumption) ?_ | refine pm_ial rfl rfl (by assumption) ?_ | refine pm_ias rfl rfl rfl (by assumption) ?_ | refine pm_r rfl rfl rfl ?_ | refine pm_rz rfl rfl rfl ?_)
            refine pm_cq rfl rfl rfl rfl rfl rfl (tw_has1 (Or.inl rfl) e0 hn hk) ?_
            (repeat' first | refine pm_s rfl rfl ?_ | refine pm_ifT (by assumption) ?_ | refine pm_ifF (by assumption) ?_ | refine pm_ial rfl rfl (by assumption) ?_ | refine pm_ias rfl rfl rfl (by assumption) ?_ | refine pm_r rfl rfl rfl ?_ | refine pm_rz rfl rfl rfl ?_)
            exact cl_0 (Or.inl rfl) hC (by rw [e3, hb])
          · (repeat' first | refine pm_s rfl rfl ?_ | refine pm_ifT (by assumption) ?_ | refine pm_ifF (by assumption) ?_ | refine pm_ial rfl rfl (by assumption) ?_ | refine pm_ias rfl rfl rfl (by assumption) ?_ | refine pm_r rfl rfl rfl ?_ | refine pm_rz rfl rfl rfl ?_)
            refine pm_cq rfl rfl rfl rfl rfl rfl (tw_has1 (Or.inr rfl) e0 hn hk) ?_
            (repeat' first | refine pm_s rfl rfl ?_ | refine pm_ifT (by assumption) ?_ | refine pm_ifF (by assumption) ?_ | refine pm_ial rfl rfl (by assumption) ?_ | refine pm_ias rfl rfl rfl (by assumption) ?_ | refine pm_r rfl rfl rfl ?_ | refine pm_rz rfl rfl rfl ?_)
            exact cl_0 (Or.inr rfl) hC (by rw [e3, hb])
        · intro c I J hc hC
          have e3 := hC.1.1.2.1
          (repeat' first | refine pm_s rfl rfl ?_ | refine pm_ifT (by assumption) ?_ | refine pm_ifF (by assumption) ?_ | refine pm_ial rfl rfl (by assumption) ?_ | refine pm_ias rfl rfl rfl (by assumption) ?_ | refine pm_r rfl rfl rfl ?_ | refine pm_rz rfl rfl rfl ?_)
          refine pm_cq rfl rfl rfl rfl rfl rfl (md_isC1 hC.1.1.1 hn hk) ?_
          (repeat' first | refine pm_s rfl rfl ?_ | refine pm_ifT (by assumption) ?_ | refine pm_ifF (by assumption) ?_ | refine pm_ial rfl rfl (by assumption) ?_ | refine pm_ias rfl rfl rfl (by assumption) ?_ | refine pm_r rfl rfl rfl ?_ | refine pm_rz rfl rfl rfl ?_)
          exact ml_0 hC (by rw [e3, hb])
set_option maxHeartbeats 4000000 in
set_option maxRecDepth 100000 in
theorem op_street {X : Nat × (Nat → Int32)} {al : Nat → Nat → Nat} (hW : sy_W al) (a b : Int32) : sy_Op X mm_X3_street mm_X4_street [some (.int a), some (.int b)] al := by
  obtain ⟨w1, w2, w3, w4, w5, w6⟩ := id hW
  have hn := w1.2.2.2.1
  have key : (a < 0 ∨ nI (al 4 0) ≤ a) → sy_Op X mm_X3_street mm_X4_street [some (.int a), some (.int b)] al := by
    intro h
    refine ⟨-2, al, hW, ?_, ?_⟩
    · intro c I J hc hC
      have e0 := hC.1.1.2.2.1
      rcases hc with rfl | rfl
      · (repeat' first | refine pm_s rfl rfl ?_ | refine pm_ifT (by assumption) ?_ | refine pm_ifF (by assumption) ?_ | refine pm_ial rfl rfl (by assumption) ?_ | refine pm_ias rfl rfl rfl (by assumption) ?_ | refine pm_r rfl rfl rfl ?_ | refine pm_rz rfl rfl rfl ?_)
        refine pm_cq rfl rfl rfl rfl rfl rfl (tw_hst0 (Or.inl rfl) e0 hn h) ?_
        (repeat' first | refine pm_s rfl rfl ?_ | refine pm_ifT (by assumption) ?_ | refine pm_ifF (by assumption) ?_ | refine pm_ial rfl rfl (by assumption) ?_ | refine pm_ias rfl rfl rfl (by assumption) ?_ | refine pm_r rfl rfl rfl ?_ | refine pm_rz rfl rfl rfl ?_)
        exact cl_0 (Or.inl rfl) hC rfl
      · (repeat' first | refine pm_s rfl rfl ?_ | refine pm_ifT (by assumption) ?_ | refine pm_ifF (by assumption) ?_ | refine pm_ial rfl rfl (by assumption) ?_ | refine pm_ias rfl rfl rfl (by assumption) ?_ | refine pm_r rfl rfl rfl ?_ | refine pm_rz rfl rfl rfl ?_)
        refine pm_cq rfl rfl rfl rfl rfl rfl (tw_hst0 (Or.inr rfl) e0 hn h) ?_
        (repeat' first | refine pm_s rfl rfl ?_ | refine pm_ifT (by assumption) ?_ | refine pm_ifF (by assumption) ?_ | refine pm_ial rfl rfl (by assumption) ?_ | refine pm_ias rfl rfl rfl (by assumption) ?_ | refine pm_r rfl rfl rfl ?_ | refine pm_rz rfl rfl rfl ?_)
        exact cl_0 (Or.inr rfl) hC rfl
    · intro c I J hc hC
      (repeat' first | refine pm_s rfl rfl ?_ | refine pm_ifT (by assumption) ?_ | refine pm_ifF (by assumption) ?_ | refine pm_ial rfl rfl (by assumption) ?_ | refine pm_ias rfl rfl rfl (by assumption) ?_ | refine pm_r rfl rfl rfl ?_ | refine pm_rz rfl rfl rfl ?_)
      refine pm_cq rfl rfl rfl rfl rfl rfl (md_isS0 hC.1.1.2.2.1 hn h) ?_
      (repeat' first | refine pm_s rfl rfl ?_ | refine pm_ifT (by assumption) ?_ | refine pm_ifF (by assumption) ?_ | refine pm_ial rfl rfl (by assumption) ?_ | refine pm_ias rfl rfl rfl (by assumption) ?_ | refine pm_r rfl rfl rfl ?_ | refine pm_rz rfl rfl rfl ?_)
      exact ml_0 hC rfl
  rcases pk_ix a (n := al 4 0) (by omega) with h | h | ⟨k, hk, rfl⟩
  · exact key (Or.inl h)
  · exact key (Or.inr h)
  · have out : (b < 0 ∨ nI 4 ≤ b) → sy_Op X mm_X3_street mm_X4_street [some (.int (nI k)), some (.int b)] al := by
      intro h
      refine ⟨-3, al, hW, ?_, ?_⟩
      · intro c I J hc hC
        have e0 := hC.1.1.2.2.1
        rcases hc with rfl | rfl
        · (repeat' first | refine pm_s rfl rfl ?_ | refine pm_ifT (by assumption) ?_ | refine pm_ifF (by assumption) ?_ | refine pm_ial rfl rfl (by assumption) ?_ | refine pm_ias rfl rfl rfl (by assumption) ?_ | refine pm_r rfl rfl rfl ?_ | refine pm_rz rfl rfl rfl ?_)
          refine pm_cq rfl rfl rfl rfl rfl rfl (tw_hst1 (Or.inl rfl) e0 hn hk) ?_
          (repeat' first | refine pm_s rfl rfl ?_ | refine pm_ifT (by assumption) ?_ | refine pm_ifF (by assumption) ?_ | refine pm_ial rfl rfl (by assumption) ?_ | refine pm_ias rfl rfl rfl (by assumption) ?_ | refine pm_r rfl rfl rfl ?_ | refine pm_rz rfl rfl rfl ?_)
          refine pm_swo _ h rfl rfl rfl ?_
          (repeat' first | refine pm_s rfl rfl ?_ | refine pm_ifT (by assumption) ?_ | refine pm_ifF (by assumption) ?_ | refine pm_ial rfl rfl (by assumption) ?_ | refine pm_ias rfl rfl rfl (by assumption) ?_ | refine pm_r rfl rfl rfl ?_ | refine pm_rz rfl rfl rfl ?_)
          exact cl_0 (Or.inl rfl) hC rfl
        · (repeat' first | refine pm_s rfl rfl ?_ | refine pm_ifT (by assumption) ?_ | refine pm_ifF (by assumption) ?_ | refine pm_ial rfl rfl (by assumption) ?_ | refine pm_ias rfl rfl rfl (by assumption) ?_ | refine pm_r rfl rfl rfl ?_ | refine pm_rz rfl rfl rfl ?_)
          refine pm_cq rfl rfl rfl rfl rfl rfl (tw_hst1 (Or.inr rfl) e0 hn hk) ?_
          (repeat' first | refine pm_s rfl rfl ?_ | refine pm_ifT (by assumption) ?_ | refine pm_ifF (by assumption) ?_ | refine pm_ial rfl rfl (by assumption) ?_ | refine pm_ias rfl rfl rfl (by assumption) ?_ | refine pm_r rfl rfl rfl ?_ | refine pm_rz rfl rfl rfl ?_)
          refine pm_swo _ h rfl rfl rfl ?_
          (repeat' first | refine pm_s rfl rfl ?_ | refine pm_ifT (by assumption) ?_ | refine pm_ifF (by assumption) ?_ | refine pm_ial rfl rfl (by assumption) ?_ | refine pm_ias rfl rfl rfl (by assumption) ?_ | refine pm_r rfl rfl rfl ?_ | refine pm_rz rfl rfl rfl ?_)
          exact cl_0 (Or.inr rfl) hC rfl
      · intro c I J hc hC
        (repeat' first | refine pm_s rfl rfl ?_ | refine pm_ifT (by assumption) ?_ | refine pm_ifF (by assumption) ?_ | refine pm_ial rfl rfl (by assumption) ?_ | refine pm_ias rfl rfl rfl (by assumption) ?_ | refine pm_r rfl rfl rfl ?_ | refine pm_rz rfl rfl rfl ?_)
        refine pm_cq rfl rfl rfl rfl rfl rfl (md_isS1 hC.1.1.2.2.1 hn hk) ?_
        (repeat' first | refine pm_s rfl rfl ?_ | refine pm_ifT (by assumption) ?_ | refine pm_ifF (by assumption) ?_ | refine pm_ial rfl rfl (by assumption) ?_ | refine pm_ias rfl rfl rfl (by assumption) ?_ | refine pm_r rfl rfl rfl ?_ | refine pm_rz rfl rfl rfl ?_)
        refine pm_cq rfl rfl rfl rfl rfl rfl (md_in0 (h.imp id (lt_of_nle (n := 4) (by decide)))) ?_
        (repeat' first | refine pm_s rfl rfl ?_ | refine pm_ifT (by assumption) ?_ | refine pm_ifF (by assumption) ?_ | refine pm_ial rfl rfl (by assumption) ?_ | refine pm_ias rfl rfl rfl (by assumption) ?_ | refine pm_r rfl rfl rfl ?_ | refine pm_rz rfl rfl rfl ?_)
        exact ml_0 hC rfl
    rcases pk_ix b (n := 4) (by decide) with h | h | ⟨m, hm, rfl⟩
    · exact out (Or.inl h)
    · exact out (Or.inr h)
    · have hi := sy_idx (k := k) (N := 12) (by omega) (by decide)
      have t0 : (nI k).toNatClampNeg = k := nI_clamp (by omega)
      have i1 : (0 : Int32) ≤ 4 * nI k + nI m ∧ (4 * nI k + nI m).toNatClampNeg < 48 := by rw [show (4 : Int32) = nI 4 from rfl, pk_mul, nI_add]; exact sy_idx (by omega) (by decide)
      have t1 : (4 * nI k + nI m).toNatClampNeg = 4 * k + m := by rw [show (4 : Int32) = nI 4 from rfl, pk_mul, nI_add, nI_clamp (by omega)]
      refine ⟨nI (al (5 + m) k), al, hW, ?_, ?_⟩
      · intro c I J hc hC
        have e0 := hC.1.1.2.2.1
        obtain ⟨q1, q2, q3, q4⟩ := hC.1.2.2.1 k (by omega)
        rcases hc with rfl | rfl
        · rcases (show m = 0 ∨ m = 1 ∨ m = 2 ∨ m = 3 by omega) with rfl | rfl | rfl | rfl
          · (repeat' first | refine pm_s rfl rfl ?_ | refine pm_ifT (by assumption) ?_ | refine pm_ifF (by assumption) ?_ | refine pm_ial rfl rfl (by assumption) ?_ | refine pm_ias rfl rfl rfl (by assumption) ?_ | refine pm_r rfl rfl rfl ?_ | refine pm_rz rfl rfl rfl ?_)
            refine pm_cq rfl rfl rfl rfl rfl rfl (tw_hst1 (Or.inl rfl) e0 hn hk) ?_
            (repeat' first | refine pm_s rfl rfl ?_ | refine pm_ifT (by assumption) ?_ | refine pm_ifF (by assumption) ?_ | refine pm_ial rfl rfl (by assumption) ?_ | refine pm_ias rfl rfl rfl (by assumption) ?_ | refine pm_r rfl rfl rfl ?_ | refine pm_rz rfl rfl rfl ?_)
            exact cl_0 (Or.inl rfl) hC (by rw [t0, q1])
          · (repeat' first | refine pm_s rfl rfl ?_ | refine pm_ifT (by assumption) ?_ | refine pm_ifF (by assumption) ?_ | refine pm_ial rfl rfl (by assumption) ?_ | refine pm_ias rfl rfl rfl (by assumption) ?_ | refine pm_r rfl rfl rfl ?_ | refine pm_rz rfl rfl rfl ?_)
            refine pm_cq rfl rfl rfl rfl rfl rfl (tw_hst1 (Or.inl rfl) e0 hn hk) ?_
            (repeat' first | refine pm_s rfl rfl ?_ | refine pm_ifT (by assumption) ?_ | refine pm_ifF (by assumption) ?_ | refine pm_ial rfl rfl (by assumption) ?_ | refine pm_ias rfl rfl rfl (by assumption) ?_ | refine pm_r rfl rfl rfl ?_ | refine pm_rz rfl rfl rfl ?_)
            exact cl_0 (Or.inl rfl) hC (by rw [t0, q2])
          · (repeat' first | refine pm_s rfl rfl ?_ | refine pm_ifT (by assumption) ?_ | refine pm_ifF (by assumption) ?_ | refine pm_ial rfl rfl (by assumption) ?_ | refine pm_ias rfl rfl rfl (by assumption) ?_ | refine pm_r rfl rfl rfl ?_ | refine pm_rz rfl rfl rfl ?_)
            refine pm_cq rfl rfl rfl rfl rfl rfl (tw_hst1 (Or.inl rfl) e0 hn hk) ?_
            (repeat' first | refine pm_s rfl rfl ?_ | refine pm_ifT (by assumption) ?_ | refine pm_ifF (by assumption) ?_ | refine pm_ial rfl rfl (by assumption) ?_ | refine pm_ias rfl rfl rfl (by assumption) ?_ | refine pm_r rfl rfl rfl ?_ | refine pm_rz rfl rfl rfl ?_)
            exact cl_0 (Or.inl rfl) hC (by rw [t0, q3])
          · (repeat' first | refine pm_s rfl rfl ?_ | refine pm_ifT (by assumption) ?_ | refine pm_ifF (by assumption) ?_ | refine pm_ial rfl rfl (by assumption) ?_ | refine pm_ias rfl rfl rfl (by assumption) ?_ | refine pm_r rfl rfl rfl ?_ | refine pm_rz rfl rfl rfl ?_)
            refine pm_cq rfl rfl rfl rfl rfl rfl (tw_hst1 (Or.inl rfl) e0 hn hk) ?_
            (repeat' first | refine pm_s rfl rfl ?_ | refine pm_ifT (by assumption) ?_ | refine pm_ifF (by assumption) ?_ | refine pm_ial rfl rfl (by assumption) ?_ | refine pm_ias rfl rfl rfl (by assumption) ?_ | refine pm_r rfl rfl rfl ?_ | refine pm_rz rfl rfl rfl ?_)
            exact cl_0 (Or.inl rfl) hC (by rw [t0, q4])
        · rcases (show m = 0 ∨ m = 1 ∨ m = 2 ∨ m = 3 by omega) with rfl | rfl | rfl | rfl
          · (repeat' first | refine pm_s rfl rfl ?_ | refine pm_ifT (by assumption) ?_ | refine pm_ifF (by assumption) ?_ | refine pm_ial rfl rfl (by assumption) ?_ | refine pm_ias rfl rfl rfl (by assumption) ?_ | refine pm_r rfl rfl rfl ?_ | refine pm_rz rfl rfl rfl ?_)
            refine pm_cq rfl rfl rfl rfl rfl rfl (tw_hst1 (Or.inr rfl) e0 hn hk) ?_
            (repeat' first | refine pm_s rfl rfl ?_ | refine pm_ifT (by assumption) ?_ | refine pm_ifF (by assumption) ?_ | refine pm_ial rfl rfl (by assumption) ?_ | refine pm_ias rfl rfl rfl (by assumption) ?_ | refine pm_r rfl rfl rfl ?_ | refine pm_rz rfl rfl rfl ?_)
            exact cl_0 (Or.inr rfl) hC (by rw [t0, q1])
          · (repeat' first | refine pm_s rfl rfl ?_ | refine pm_ifT (by assumption) ?_ | refine pm_ifF (by assumption) ?_ | refine pm_ial rfl rfl (by assumption) ?_ | refine pm_ias rfl rfl rfl (by assumption) ?_ | refine pm_r rfl rfl rfl ?_ | refine pm_rz rfl rfl rfl ?_)
            refine pm_cq rfl rfl rfl rfl rfl rfl (tw_hst1 (Or.inr rfl) e0 hn hk) ?_
            (repeat' first | refine pm_s rfl rfl ?_ | refine pm_ifT (by assumption) ?_ | refine pm_ifF (by assumption) ?_ | refine pm_ial rfl rfl (by assumption) ?_ | refine pm_ias rfl rfl rfl (by assumption) ?_ | refine pm_r rfl rfl rfl ?_ | refine pm_rz rfl rfl rfl ?_)
            exact cl_0 (Or.inr rfl) hC (by rw [t0, q2])
          · (repeat' first | refine pm_s rfl rfl ?_ | refine pm_ifT (by assumption) ?_ | refine pm_ifF (by assumption) ?_ | refine pm_ial rfl rfl (by assumption) ?_ | refine pm_ias rfl rfl rfl (by assumption) ?_ | refine pm_r rfl rfl rfl ?_ | refine pm_rz rfl rfl rfl ?_)
            refine pm_cq rfl rfl rfl rfl rfl rfl (tw_hst1 (Or.inr rfl) e0 hn hk) ?_
            (repeat' first | refine pm_s rfl rfl ?_ | refine pm_ifT (by assumption) ?_ | refine pm_ifF (by assumption) ?_ | refine pm_ial rfl rfl (by assumption) ?_ | refine pm_ias rfl rfl rfl (by assumption) ?_ | refine pm_r rfl rfl rfl ?_ | refine pm_rz rfl rfl rfl ?_)
            exact cl_0 (Or.inr rfl) hC (by rw [t0, q3])
          · (repeat' first | refine pm_s rfl rfl ?_ | refine pm_ifT (by assumption) ?_ | refine pm_ifF (by assumption) ?_ | refine pm_ial rfl rfl (by assumption) ?_ | refine pm_ias rfl rfl rfl (by assumption) ?_ | refine pm_r rfl rfl rfl ?_ | refine pm_rz rfl rfl rfl ?_)
            refine pm_cq rfl rfl rfl rfl rfl rfl (tw_hst1 (Or.inr rfl) e0 hn hk) ?_
            (repeat' first | refine pm_s rfl rfl ?_ | refine pm_ifT (by assumption) ?_ | refine pm_ifF (by assumption) ?_ | refine pm_ial rfl rfl (by assumption) ?_ | refine pm_ias rfl rfl rfl (by assumption) ?_ | refine pm_r rfl rfl rfl ?_ | refine pm_rz rfl rfl rfl ?_)
            exact cl_0 (Or.inr rfl) hC (by rw [t0, q4])
      · intro c I J hc hC
        obtain ⟨q1, q2, q3, q4⟩ := hC.1.2.2.1 k (by omega)
        (repeat' first | refine pm_s rfl rfl ?_ | refine pm_ifT (by assumption) ?_ | refine pm_ifF (by assumption) ?_ | refine pm_ial rfl rfl (by assumption) ?_ | refine pm_ias rfl rfl rfl (by assumption) ?_ | refine pm_r rfl rfl rfl ?_ | refine pm_rz rfl rfl rfl ?_)
        refine pm_cq rfl rfl rfl rfl rfl rfl (md_isS1 hC.1.1.2.2.1 hn hk) ?_
        (repeat' first | refine pm_s rfl rfl ?_ | refine pm_ifT (by assumption) ?_ | refine pm_ifF (by assumption) ?_ | refine pm_ial rfl rfl (by assumption) ?_ | refine pm_ias rfl rfl rfl (by assumption) ?_ | refine pm_r rfl rfl rfl ?_ | refine pm_rz rfl rfl rfl ?_)
        refine pm_cq rfl rfl rfl rfl rfl rfl (md_in1 (nI_pos' (by omega)) (nI_le (b := 3) (by omega) (by decide))) ?_
        (repeat' first | refine pm_s rfl rfl ?_ | refine pm_ifT (by assumption) ?_ | refine pm_ifF (by assumption) ?_ | refine pm_ial rfl rfl (by assumption) ?_ | refine pm_ias rfl rfl rfl (by assumption) ?_ | refine pm_r rfl rfl rfl ?_ | refine pm_rz rfl rfl rfl ?_)
        refine ml_0 hC ?_
        rw [t1]
        rcases (show m = 0 ∨ m = 1 ∨ m = 2 ∨ m = 3 by omega) with rfl | rfl | rfl | rfl
        · exact q1
        · exact q2
        · exact q3
        · exact q4

set_option maxHeartbeats 4000000 in
set_option maxRecDepth 100000 in
theorem op_here {X : Nat × (Nat → Int32)} {al : Nat → Nat → Nat} (hW : sy_W al) (b : Int32) : sy_Op X mm_X3_here mm_X4_here [some (.int b)] al := by
  obtain ⟨w1, w2, w3, w4, w5, w6⟩ := id hW
  obtain ⟨hh1, hh2⟩ := w1.2.2.2.2.2.1
  have ht := w3.2
  have out : (b < 0 ∨ nI 4 ≤ b) → sy_Op X mm_X3_here mm_X4_here [some (.int b)] al := by
    intro h
    refine ⟨-3, al, hW, ?_, ?_⟩
    · intro c I J hc hC
      (repeat' first | refine pm_s rfl rfl ?_ | refine pm_ifT (by assumption) ?_ | refine pm_ifF (by assumption) ?_ | refine pm_ial rfl rfl (by assumption) ?_ | refine pm_ias rfl rfl rfl (by assumption) ?_ | refine pm_r rfl rfl rfl ?_ | refine pm_rz rfl rfl rfl ?_)
      refine pm_swo _ h rfl rfl rfl ?_
      (repeat' first | refine pm_s rfl rfl ?_ | refine pm_ifT (by assumption) ?_ | refine pm_ifF (by assumption) ?_ | refine pm_ial rfl rfl (by assumption) ?_ | refine pm_ias rfl rfl rfl (by assumption) ?_ | refine pm_r rfl rfl rfl ?_ | refine pm_rz rfl rfl rfl ?_)
      exact cl_0 hc hC rfl
    · intro c I J hc hC
      (repeat' first | refine pm_s rfl rfl ?_ | refine pm_ifT (by assumption) ?_ | refine pm_ifF (by assumption) ?_ | refine pm_ial rfl rfl (by assumption) ?_ | refine pm_ias rfl rfl rfl (by assumption) ?_ | refine pm_r rfl rfl rfl ?_ | refine pm_rz rfl rfl rfl ?_)
      refine pm_swo _ h rfl rfl rfl ?_
      (repeat' first | refine pm_s rfl rfl ?_ | refine pm_ifT (by assumption) ?_ | refine pm_ifF (by assumption) ?_ | refine pm_ial rfl rfl (by assumption) ?_ | refine pm_ias rfl rfl rfl (by assumption) ?_ | refine pm_r rfl rfl rfl ?_ | refine pm_rz rfl rfl rfl ?_)
      exact ml_0 hC rfl
  rcases pk_ix b (n := 4) (by decide) with h | h | ⟨m, hm, rfl⟩
  · exact out (Or.inl h)
  · exact out (Or.inr h)
  · rcases (show m = 0 ∨ m = 1 ∨ m = 2 ∨ m = 3 by omega) with rfl | rfl | rfl | rfl
    · refine ⟨nI (al 22 0), al, hW, ?_, ?_⟩
      · intro c I J hc hC
        (repeat' first | refine pm_s rfl rfl ?_ | refine pm_ifT (by assumption) ?_ | refine pm_ifF (by assumption) ?_ | refine pm_ial rfl rfl (by assumption) ?_ | refine pm_ias rfl rfl rfl (by assumption) ?_ | refine pm_r rfl rfl rfl ?_ | refine pm_rz rfl rfl rfl ?_)
        exact cl_0 hc hC hC.2.2.1.1
      · intro c I J hc hC
        (repeat' first | refine pm_s rfl rfl ?_ | refine pm_ifT (by assumption) ?_ | refine pm_ifF (by assumption) ?_ | refine pm_ial rfl rfl (by assumption) ?_ | refine pm_ias rfl rfl rfl (by assumption) ?_ | refine pm_r rfl rfl rfl ?_ | refine pm_rz rfl rfl rfl ?_)
        exact ml_0 hC hC.2.2.1.1
    · refine ⟨nI (al 23 0), al, hW, ?_, ?_⟩
      · intro c I J hc hC
        (repeat' first | refine pm_s rfl rfl ?_ | refine pm_ifT (by assumption) ?_ | refine pm_ifF (by assumption) ?_ | refine pm_ial rfl rfl (by assumption) ?_ | refine pm_ias rfl rfl rfl (by assumption) ?_ | refine pm_r rfl rfl rfl ?_ | refine pm_rz rfl rfl rfl ?_)
        exact cl_0 hc hC hC.2.2.1.2
      · intro c I J hc hC
        (repeat' first | refine pm_s rfl rfl ?_ | refine pm_ifT (by assumption) ?_ | refine pm_ifF (by assumption) ?_ | refine pm_ial rfl rfl (by assumption) ?_ | refine pm_ias rfl rfl rfl (by assumption) ?_ | refine pm_r rfl rfl rfl ?_ | refine pm_rz rfl rfl rfl ?_)
        exact ml_0 hC hC.2.2.1.2
    · refine ⟨nI (al 23 0 / al 9 0 % 2), al, hW, ?_, ?_⟩
      · intro c I J hc hC
        have e5 : I 0 5 = nI (al 23 0) := hC.2.2.1.2
        have hd : al 23 0 / al 9 0 ≤ al 23 0 := Nat.div_le_self _ _
        rcases hc with rfl | rfl
        · have hh := tw_hb (X := X) (c := 6) (J := J) (Or.inl rfl) hC.1.1.2.2.2.1 (show 1 ≤ al 9 0 ∧ al 9 0 < 2 ^ 31 by omega) (show al 23 0 < 2 ^ 31 by omega)
          rw [← e5] at hh
          (repeat' first | refine pm_s rfl rfl ?_ | refine pm_ifT (by assumption) ?_ | refine pm_ifF (by assumption) ?_ | refine pm_ial rfl rfl (by assumption) ?_ | refine pm_ias rfl rfl rfl (by assumption) ?_ | refine pm_r rfl rfl rfl ?_ | refine pm_rz rfl rfl rfl ?_)
          refine pm_cq rfl rfl rfl rfl rfl rfl hh ?_
          (repeat' first | refine pm_s rfl rfl ?_ | refine pm_ifT (by assumption) ?_ | refine pm_ifF (by assumption) ?_ | refine pm_ial rfl rfl (by assumption) ?_ | refine pm_ias rfl rfl rfl (by assumption) ?_ | refine pm_r rfl rfl rfl ?_ | refine pm_rz rfl rfl rfl ?_)
          exact cl_0 (Or.inl rfl) hC (bt_and1 (by omega))
        · have hh := tw_hb (X := X) (c := 15) (J := J) (Or.inr rfl) hC.1.1.2.2.2.1 (show 1 ≤ al 9 0 ∧ al 9 0 < 2 ^ 31 by omega) (show al 23 0 < 2 ^ 31 by omega)
          rw [← e5] at hh
          (repeat' first | refine pm_s rfl rfl ?_ | refine pm_ifT (by assumption) ?_ | refine pm_ifF (by assumption) ?_ | refine pm_ial rfl rfl (by assumption) ?_ | refine pm_ias rfl rfl rfl (by assumption) ?_ | refine pm_r rfl rfl rfl ?_ | refine pm_rz rfl rfl rfl ?_)
          refine pm_cq rfl rfl rfl rfl rfl rfl hh ?_
          (repeat' first | refine pm_s rfl rfl ?_ | refine pm_ifT (by assumption) ?_ | refine pm_ifF (by assumption) ?_ | refine pm_ial rfl rfl (by assumption) ?_ | refine pm_ias rfl rfl rfl (by assumption) ?_ | refine pm_r rfl rfl rfl ?_ | refine pm_rz rfl rfl rfl ?_)
          exact cl_0 (Or.inr rfl) hC (bt_and1 (by omega))
      · intro c I J hc hC
        have e5 : I 30 23 = nI (al 23 0) := hC.2.2.1.2
        have e6 : I 30 6 = nI (al 9 0) := hC.1.1.2.2.2.1
        have hd : al 23 0 / al 9 0 ≤ al 23 0 := Nat.div_le_self _ _
        have n0 : ¬ I 30 6 = 0 := by rw [e6]; exact nI_ne0 (by omega) (by omega)
        (repeat' first | refine pm_s rfl rfl ?_ | refine pm_ifT (by assumption) ?_ | refine pm_ifF (by assumption) ?_ | refine pm_ial rfl rfl (by assumption) ?_ | refine pm_ias rfl rfl rfl (by assumption) ?_ | refine pm_r rfl rfl rfl ?_ | refine pm_rz rfl rfl rfl ?_)
        refine pm_dv rfl n0 ?_
        (repeat' first | refine pm_s rfl rfl ?_ | refine pm_ifT (by assumption) ?_ | refine pm_ifF (by assumption) ?_ | refine pm_ial rfl rfl (by assumption) ?_ | refine pm_ias rfl rfl rfl (by assumption) ?_ | refine pm_r rfl rfl rfl ?_ | refine pm_rz rfl rfl rfl ?_)
        refine ml_0 hC ?_
        rw [e5, e6, pk_div (by omega) (by omega) (by omega)]
        exact pk_rem (d := 2) (by omega) (by decide) (by decide)
    · refine ⟨nI (al 9 0 - al 23 0 % al 9 0), al, hW, ?_, ?_⟩
      · intro c I J hc hC
        have e5 : I 0 5 = nI (al 23 0) := hC.2.2.1.2
        have hd : al 23 0 / al 9 0 ≤ al 23 0 := Nat.div_le_self _ _
        have hfin : (nI (al 23 0 / al 9 0) + 1) * nI (al 9 0) - nI (al 23 0) = nI (al 9 0 - al 23 0 % al 9 0) := by
          have hm := Nat.div_add_mod (al 23 0) (al 9 0)
          have hl := Nat.mod_lt (al 23 0) (show 0 < al 9 0 by omega)
          have hx : (al 23 0 / al 9 0 + 1) * al 9 0 = al 9 0 * (al 23 0 / al 9 0) + al 9 0 := by rw [Nat.add_mul, Nat.mul_comm, Nat.one_mul]
          rw [nI_1, pk_mul, pk_sub (by omega)]
          congr 1
          omega
        rcases hc with rfl | rfl
        · have hh := tw_hb (X := X) (c := 6) (J := J) (Or.inl rfl) hC.1.1.2.2.2.1 (show 1 ≤ al 9 0 ∧ al 9 0 < 2 ^ 31 by omega) (show al 23 0 < 2 ^ 31 by omega)
          rw [← e5] at hh
          (repeat' first | refine pm_s rfl rfl ?_ | refine pm_ifT (by assumption) ?_ | refine pm_ifF (by assumption) ?_ | refine pm_ial rfl rfl (by assumption) ?_ | refine pm_ias rfl rfl rfl (by assumption) ?_ | refine pm_r rfl rfl rfl ?_ | refine pm_rz rfl rfl rfl ?_)
          refine pm_cq rfl rfl rfl rfl rfl rfl hh ?_
          (repeat' first | refine pm_s rfl rfl ?_ | refine pm_ifT (by assumption) ?_ | refine pm_ifF (by assumption) ?_ | refine pm_ial rfl rfl (by assumption) ?_ | refine pm_ias rfl rfl rfl (by assumption) ?_ | refine pm_r rfl rfl rfl ?_ | refine pm_rz rfl rfl rfl ?_)
          exact cl_0 (Or.inl rfl) hC (by rw [e5, hC.1.1.2.2.2.1]; exact hfin)
        · have hh := tw_hb (X := X) (c := 15) (J := J) (Or.inr rfl) hC.1.1.2.2.2.1 (show 1 ≤ al 9 0 ∧ al 9 0 < 2 ^ 31 by omega) (show al 23 0 < 2 ^ 31 by omega)
          rw [← e5] at hh
          (repeat' first | refine pm_s rfl rfl ?_ | refine pm_ifT (by assumption) ?_ | refine pm_ifF (by assumption) ?_ | refine pm_ial rfl rfl (by assumption) ?_ | refine pm_ias rfl rfl rfl (by assumption) ?_ | refine pm_r rfl rfl rfl ?_ | refine pm_rz rfl rfl rfl ?_)
          refine pm_cq rfl rfl rfl rfl rfl rfl hh ?_
          (repeat' first | refine pm_s rfl rfl ?_ | refine pm_ifT (by assumption) ?_ | refine pm_ifF (by assumption) ?_ | refine pm_ial rfl rfl (by assumption) ?_ | refine pm_ias rfl rfl rfl (by assumption) ?_ | refine pm_r rfl rfl rfl ?_ | refine pm_rz rfl rfl rfl ?_)
          exact cl_0 (Or.inr rfl) hC (by rw [e5, hC.1.1.2.2.2.1]; exact hfin)
      · intro c I J hc hC
        have e5 : I 30 23 = nI (al 23 0) := hC.2.2.1.2
        have e6 : I 30 6 = nI (al 9 0) := hC.1.1.2.2.2.1
        have n0 : ¬ I 30 6 = 0 := by rw [e6]; exact nI_ne0 (by omega) (by omega)
        (repeat' first | refine pm_s rfl rfl ?_ | refine pm_ifT (by assumption) ?_ | refine pm_ifF (by assumption) ?_ | refine pm_ial rfl rfl (by assumption) ?_ | refine pm_ias rfl rfl rfl (by assumption) ?_ | refine pm_r rfl rfl rfl ?_ | refine pm_rz rfl rfl rfl ?_)
        refine pm_rm rfl n0 ?_
        (repeat' first | refine pm_s rfl rfl ?_ | refine pm_ifT (by assumption) ?_ | refine pm_ifF (by assumption) ?_ | refine pm_ial rfl rfl (by assumption) ?_ | refine pm_ias rfl rfl rfl (by assumption) ?_ | refine pm_r rfl rfl rfl ?_ | refine pm_rz rfl rfl rfl ?_)
        refine ml_0 hC ?_
        have hl := Nat.mod_lt (al 23 0) (show 0 < al 9 0 by omega)
        rw [e5, e6, pk_rem (by omega) (by omega) (by omega), pk_sub (by omega)]
set_option maxHeartbeats 4000000 in
set_option maxRecDepth 100000 in
theorem op_count {X : Nat × (Nat → Int32)} {al : Nat → Nat → Nat} (hW : sy_W al) (b : Int32) : sy_Op X mm_X3_count mm_X4_count [some (.int b)] al := by
  have out : (b < 0 ∨ nI 9 ≤ b) → sy_Op X mm_X3_count mm_X4_count [some (.int b)] al := by
    intro h
    refine ⟨-3, al, hW, ?_, ?_⟩
    · intro c I J hc hC
      (repeat' first | refine pm_s rfl rfl ?_ | refine pm_ifT (by assumption) ?_ | refine pm_ifF (by assumption) ?_ | refine pm_ial rfl rfl (by assumption) ?_ | refine pm_ias rfl rfl rfl (by assumption) ?_ | refine pm_r rfl rfl rfl ?_ | refine pm_rz rfl rfl rfl ?_)
      refine pm_swo _ h rfl rfl rfl ?_
      (repeat' first | refine pm_s rfl rfl ?_ | refine pm_ifT (by assumption) ?_ | refine pm_ifF (by assumption) ?_ | refine pm_ial rfl rfl (by assumption) ?_ | refine pm_ias rfl rfl rfl (by assumption) ?_ | refine pm_r rfl rfl rfl ?_ | refine pm_rz rfl rfl rfl ?_)
      exact cl_0 hc hC rfl
    · intro c I J hc hC
      (repeat' first | refine pm_s rfl rfl ?_ | refine pm_ifT (by assumption) ?_ | refine pm_ifF (by assumption) ?_ | refine pm_ial rfl rfl (by assumption) ?_ | refine pm_ias rfl rfl rfl (by assumption) ?_ | refine pm_r rfl rfl rfl ?_ | refine pm_rz rfl rfl rfl ?_)
      refine pm_swo _ h rfl rfl rfl ?_
      (repeat' first | refine pm_s rfl rfl ?_ | refine pm_ifT (by assumption) ?_ | refine pm_ifF (by assumption) ?_ | refine pm_ial rfl rfl (by assumption) ?_ | refine pm_ias rfl rfl rfl (by assumption) ?_ | refine pm_r rfl rfl rfl ?_ | refine pm_rz rfl rfl rfl ?_)
      exact ml_0 hC rfl
  rcases pk_ix b (n := 9) (by decide) with h | h | ⟨m, hm, rfl⟩
  · exact out (Or.inl h)
  · exact out (Or.inr h)
  · have go : ∀ (r : Int32), (∀ c I, sy_C c I al → (m = 0 → I c 0 = r) ∧ (m = 1 → I c 4 = r) ∧ (m = 2 → I c 10 = r) ∧ (m = 3 → I c 9 = r) ∧ (m = 4 → I c 11 = r) ∧ (m = 5 → I 0 9 = r) ∧ (m = 6 → I 0 13 = r) ∧ (m = 7 → I 1 1 = r) ∧ (m = 8 → I c 3 = r)) → (∀ I, sy_M I al → (m = 0 → I 30 0 = r) ∧ (m = 1 → I 30 3 = r) ∧ (m = 2 → I 30 5 = r) ∧ (m = 3 → I 30 6 = r) ∧ (m = 4 → I 30 7 = r) ∧ (m = 5 → I 30 26 = r) ∧ (m = 6 → I 30 28 = r) ∧ (m = 7 → I 30 9 = r) ∧ (m = 8 → I 30 2 = r)) → sy_Op X mm_X3_count mm_X4_count [some (.int (nI m))] al := by
      intro r hr1 hr2
      refine ⟨r, al, hW, ?_, ?_⟩
      · intro c I J hc hC
        obtain ⟨r0, r1, r2, r3, r4, r5, r6, r7, r8⟩ := hr1 c I hC
        rcases hc with rfl | rfl
        · rcases (show m = 0 ∨ m = 1 ∨ m = 2 ∨ m = 3 ∨ m = 4 ∨ m = 5 ∨ m = 6 ∨ m = 7 ∨ m = 8 by omega) with rfl | rfl | rfl | rfl | rfl | rfl | rfl | rfl | rfl
          · (repeat' first | refine pm_s rfl rfl ?_ | refine pm_ifT (by assumption) ?_ | refine pm_ifF (by assumption) ?_ | refine pm_ial rfl rfl (by assumption) ?_ | refine pm_ias rfl rfl rfl (by assumption) ?_ | refine pm_r rfl rfl rfl ?_ | refine pm_rz rfl rfl rfl ?_)
            exact cl_0 (Or.inl rfl) hC (r0 rfl)
          · (repeat' first | refine pm_s rfl rfl ?_ | refine pm_ifT (by assumption) ?_ | refine pm_ifF (by assumption) ?_ | refine pm_ial rfl rfl (by assumption) ?_ | refine pm_ias rfl rfl rfl (by assumption) ?_ | refine pm_r rfl rfl rfl ?_ | refine pm_rz rfl rfl rfl ?_)
            exact cl_0 (Or.inl rfl) hC (r1 rfl)
          · (repeat' first | refine pm_s rfl rfl ?_ | refine pm_ifT (by assumption) ?_ | refine pm_ifF (by assumption) ?_ | refine pm_ial rfl rfl (by assumption) ?_ | refine pm_ias rfl rfl rfl (by assumption) ?_ | refine pm_r rfl rfl rfl ?_ | refine pm_rz rfl rfl rfl ?_)
            exact cl_0 (Or.inl rfl) hC (r2 rfl)
          · (repeat' first | refine pm_s rfl rfl ?_ | refine pm_ifT (by assumption) ?_ | refine pm_ifF (by assumption) ?_ | refine pm_ial rfl rfl (by assumption) ?_ | refine pm_ias rfl rfl rfl (by assumption) ?_ | refine pm_r rfl rfl rfl ?_ | refine pm_rz rfl rfl rfl ?_)
            exact cl_0 (Or.inl rfl) hC (r3 rfl)
          · (repeat' first | refine pm_s rfl rfl ?_ | refine pm_ifT (by assumption) ?_ | refine pm_ifF (by assumption) ?_ | refine pm_ial rfl rfl (by assumption) ?_ | refine pm_ias rfl rfl rfl (by assumption) ?_ | refine pm_r rfl rfl rfl ?_ | refine pm_rz rfl rfl rfl ?_)
            exact cl_0 (Or.inl rfl) hC (r4 rfl)
          · (repeat' first | refine pm_s rfl rfl ?_ | refine pm_ifT (by assumption) ?_ | refine pm_ifF (by assumption) ?_ | refine pm_ial rfl rfl (by assumption) ?_ | refine pm_ias rfl rfl rfl (by assumption) ?_ | refine pm_r rfl rfl rfl ?_ | refine pm_rz rfl rfl rfl ?_)
            exact cl_0 (Or.inl rfl) hC (r5 rfl)
          · (repeat' first | refine pm_s rfl rfl ?_ | refine pm_ifT (by assumption) ?_ | refine pm_ifF (by assumption) ?_ | refine pm_ial rfl rfl (by assumption) ?_ | refine pm_ias rfl rfl rfl (by assumption) ?_ | refine pm_r rfl rfl rfl ?_ | refine pm_rz rfl rfl rfl ?_)
            exact cl_0 (Or.inl rfl) hC (r6 rfl)
          · (repeat' first | refine pm_s rfl rfl ?_ | refine pm_ifT (by assumption) ?_ | refine pm_ifF (by assumption) ?_ | refine pm_ial rfl rfl (by assumption) ?_ | refine pm_ias rfl rfl rfl (by assumption) ?_ | refine pm_r rfl rfl rfl ?_ | refine pm_rz rfl rfl rfl ?_)
            exact cl_0 (Or.inl rfl) hC (r7 rfl)
          · (repeat' first | refine pm_s rfl rfl ?_ | refine pm_ifT (by assumption) ?_ | refine pm_ifF (by assumption) ?_ | refine pm_ial rfl rfl (by assumption) ?_ | refine pm_ias rfl rfl rfl (by assumption) ?_ | refine pm_r rfl rfl rfl ?_ | refine pm_rz rfl rfl rfl ?_)
            exact cl_0 (Or.inl rfl) hC (r8 rfl)
        · rcases (show m = 0 ∨ m = 1 ∨ m = 2 ∨ m = 3 ∨ m = 4 ∨ m = 5 ∨ m = 6 ∨ m = 7 ∨ m = 8 by omega) with rfl | rfl | rfl | rfl | rfl | rfl | rfl | rfl | rfl
          · (repeat' first | refine pm_s rfl rfl ?_ | refine pm_ifT (by assumption) ?_ | refine pm_ifF (by assumption) ?_ | refine pm_ial rfl rfl (by assumption) ?_ | refine pm_ias rfl rfl rfl (by assumption) ?_ | refine pm_r rfl rfl rfl ?_ | refine pm_rz rfl rfl rfl ?_)
            exact cl_0 (Or.inr rfl) hC (r0 rfl)
          · (repeat' first | refine pm_s rfl rfl ?_ | refine pm_ifT (by assumption) ?_ | refine pm_ifF (by assumption) ?_ | refine pm_ial rfl rfl (by assumption) ?_ | refine pm_ias rfl rfl rfl (by assumption) ?_ | refine pm_r rfl rfl rfl ?_ | refine pm_rz rfl rfl rfl ?_)
            exact cl_0 (Or.inr rfl) hC (r1 rfl)
          · (repeat' first | refine pm_s rfl rfl ?_ | refine pm_ifT (by assumption) ?_ | refine pm_ifF (by assumption) ?_ | refine pm_ial rfl rfl (by assumption) ?_ | refine pm_ias rfl rfl rfl (by assumption) ?_ | refine pm_r rfl rfl rfl ?_ | refine pm_rz rfl rfl rfl ?_)
            exact cl_0 (Or.inr rfl) hC (r2 rfl)
          · (repeat' first | refine pm_s rfl rfl ?_ | refine pm_ifT (by assumption) ?_ | refine pm_ifF (by assumption) ?_ | refine pm_ial rfl rfl (by assumption) ?_ | refine pm_ias rfl rfl rfl (by assumption) ?_ | refine pm_r rfl rfl rfl ?_ | refine pm_rz rfl rfl rfl ?_)
            exact cl_0 (Or.inr rfl) hC (r3 rfl)
          · (repeat' first | refine pm_s rfl rfl ?_ | refine pm_ifT (by assumption) ?_ | refine pm_ifF (by assumption) ?_ | refine pm_ial rfl rfl (by assumption) ?_ | refine pm_ias rfl rfl rfl (by assumption) ?_ | refine pm_r rfl rfl rfl ?_ | refine pm_rz rfl rfl rfl ?_)
            exact cl_0 (Or.inr rfl) hC (r4 rfl)
          · (repeat' first | refine pm_s rfl rfl ?_ | refine pm_ifT (by assumption) ?_ | refine pm_ifF (by assumption) ?_ | refine pm_ial rfl rfl (by assumption) ?_ | refine pm_ias rfl rfl rfl (by assumption) ?_ | refine pm_r rfl rfl rfl ?_ | refine pm_rz rfl rfl rfl ?_)
            exact cl_0 (Or.inr rfl) hC (r5 rfl)
          · (repeat' first | refine pm_s rfl rfl ?_ | refine pm_ifT (by assumption) ?_ | refine pm_ifF (by assumption) ?_ | refine pm_ial rfl rfl (by assumption) ?_ | refine pm_ias rfl rfl rfl (by assumption) ?_ | refine pm_r rfl rfl rfl ?_ | refine pm_rz rfl rfl rfl ?_)
            exact cl_0 (Or.inr rfl) hC (r6 rfl)
          · (repeat' first | refine pm_s rfl rfl ?_ | refine pm_ifT (by assumption) ?_ | refine pm_ifF (by assumption) ?_ | refine pm_ial rfl rfl (by assumption) ?_ | refine pm_ias rfl rfl rfl (by assumption) ?_ | refine pm_r rfl rfl rfl ?_ | refine pm_rz rfl rfl rfl ?_)
            exact cl_0 (Or.inr rfl) hC (r7 rfl)
          · (repeat' first | refine pm_s rfl rfl ?_ | refine pm_ifT (by assumption) ?_ | refine pm_ifF (by assumption) ?_ | refine pm_ial rfl rfl (by assumption) ?_ | refine pm_ias rfl rfl rfl (by assumption) ?_ | refine pm_r rfl rfl rfl ?_ | refine pm_rz rfl rfl rfl ?_)
            exact cl_0 (Or.inr rfl) hC (r8 rfl)
      · intro c I J hc hC
        obtain ⟨r0, r1, r2, r3, r4, r5, r6, r7, r8⟩ := hr2 I hC
        rcases (show m = 0 ∨ m = 1 ∨ m = 2 ∨ m = 3 ∨ m = 4 ∨ m = 5 ∨ m = 6 ∨ m = 7 ∨ m = 8 by omega) with rfl | rfl | rfl | rfl | rfl | rfl | rfl | rfl | rfl
        · (repeat' first | refine pm_s rfl rfl ?_ | refine pm_ifT (by assumption) ?_ | refine pm_ifF (by assumption) ?_ | refine pm_ial rfl rfl (by assumption) ?_ | refine pm_ias rfl rfl rfl (by assumption) ?_ | refine pm_r rfl rfl rfl ?_ | refine pm_rz rfl rfl rfl ?_)
          exact ml_0 hC (r0 rfl)
        · (repeat' first | refine pm_s rfl rfl ?_ | refine pm_ifT (by assumption) ?_ | refine pm_ifF (by assumption) ?_ | refine pm_ial rfl rfl (by assumption) ?_ | refine pm_ias rfl rfl rfl (by assumption) ?_ | refine pm_r rfl rfl rfl ?_ | refine pm_rz rfl rfl rfl ?_)
          exact ml_0 hC (r1 rfl)
        · (repeat' first | refine pm_s rfl rfl ?_ | refine pm_ifT (by assumption) ?_ | refine pm_ifF (by assumption) ?_ | refine pm_ial rfl rfl (by assumption) ?_ | refine pm_ias rfl rfl rfl (by assumption) ?_ | refine pm_r rfl rfl rfl ?_ | refine pm_rz rfl rfl rfl ?_)
          exact ml_0 hC (r2 rfl)
        · (repeat' first | refine pm_s rfl rfl ?_ | refine pm_ifT (by assumption) ?_ | refine pm_ifF (by assumption) ?_ | refine pm_ial rfl rfl (by assumption) ?_ | refine pm_ias rfl rfl rfl (by assumption) ?_ | refine pm_r rfl rfl rfl ?_ | refine pm_rz rfl rfl rfl ?_)
          exact ml_0 hC (r3 rfl)
        · (repeat' first | refine pm_s rfl rfl ?_ | refine pm_ifT (by assumption) ?_ | refine pm_ifF (by assumption) ?_ | refine pm_ial rfl rfl (by assumption) ?_ | refine pm_ias rfl rfl rfl (by assumption) ?_ | refine pm_r rfl rfl rfl ?_ | refine pm_rz rfl rfl rfl ?_)
          exact ml_0 hC (r4 rfl)
        · (repeat' first | refine pm_s rfl rfl ?_ | refine pm_ifT (by assumption) ?_ | refine pm_ifF (by assumption) ?_ | refine pm_ial rfl rfl (by assumption) ?_ | refine pm_ias rfl rfl rfl (by assumption) ?_ | refine pm_r rfl rfl rfl ?_ | refine pm_rz rfl rfl rfl ?_)
          exact ml_0 hC (r5 rfl)
        · (repeat' first | refine pm_s rfl rfl ?_ | refine pm_ifT (by assumption) ?_ | refine pm_ifF (by assumption) ?_ | refine pm_ial rfl rfl (by assumption) ?_ | refine pm_ias rfl rfl rfl (by assumption) ?_ | refine pm_r rfl rfl rfl ?_ | refine pm_rz rfl rfl rfl ?_)
          exact ml_0 hC (r6 rfl)
        · (repeat' first | refine pm_s rfl rfl ?_ | refine pm_ifT (by assumption) ?_ | refine pm_ifF (by assumption) ?_ | refine pm_ial rfl rfl (by assumption) ?_ | refine pm_ias rfl rfl rfl (by assumption) ?_ | refine pm_r rfl rfl rfl ?_ | refine pm_rz rfl rfl rfl ?_)
          exact ml_0 hC (r7 rfl)
        · (repeat' first | refine pm_s rfl rfl ?_ | refine pm_ifT (by assumption) ?_ | refine pm_ifF (by assumption) ?_ | refine pm_ial rfl rfl (by assumption) ?_ | refine pm_ias rfl rfl rfl (by assumption) ?_ | refine pm_r rfl rfl rfl ?_ | refine pm_rz rfl rfl rfl ?_)
          exact ml_0 hC (r8 rfl)
    have ks : ∀ f : Nat, (f = if m = 0 then 0 else if m = 1 then 4 else if m = 2 then 10 else if m = 3 then 9 else if m = 4 then 11 else if m = 5 then 27 else if m = 6 then 29 else if m = 7 then 20 else 3) → sy_Op X mm_X3_count mm_X4_count [some (.int (nI m))] al := by
      intro f hf
      refine go (nI (al f 0)) (fun c I hC => ?_) (fun I hC => ?_)
      · refine ⟨?_, ?_, ?_, ?_, ?_, ?_, ?_, ?_, ?_⟩ <;> (intro q; subst q; simp at hf; subst hf)
        · exact hC.1.1.1
        · exact hC.1.1.2.2.1
        · exact hC.1.1.2.2.2.2.1
        · exact hC.1.1.2.2.2.1
        · exact hC.1.1.2.2.2.2.2
        · exact hC.2.2.2.2.1.1
        · exact hC.2.2.2.2.2.1
        · exact hC.2.1.1
        · exact hC.1.1.2.1
      · refine ⟨?_, ?_, ?_, ?_, ?_, ?_, ?_, ?_, ?_⟩ <;> (intro q; subst q; simp at hf; subst hf)
        · exact hC.1.1.1
        · exact hC.1.1.2.2.1
        · exact hC.1.1.2.2.2.2.1
        · exact hC.1.1.2.2.2.1
        · exact hC.1.1.2.2.2.2.2
        · exact hC.2.2.2.2.1.1
        · exact hC.2.2.2.2.2.1.1
        · exact hC.2.1.1
        · exact hC.1.1.2.1
    exact ks _ rfl
end
section
/-- whether a step may be taken, by kind, law, how much it rises, day or night -/
def mb (kd lw : Nat) (x : Int) (nt : Nat) : Bool := match kd with
  | 0 => decide (0 < x ∨ (lw = 1 ∧ x = 0) ∨ (lw = 2 ∧ -9 ≤ x))
  | 1 => true
  | 2 => decide (0 < x ∧ x ≤ 20)
  | _ => decide (0 < x ∨ nt = 1)
/-- ends of a street by side -/
def sa (al : Nat → Nat → Nat) (s side : Nat) : Nat := if side = 0 then al 5 s else al 6 s
def sb (al : Nat → Nat → Nat) (s side : Nat) : Nat := if side = 0 then al 6 s else al 5 s
/-- may one go by street s from its side, by day or night; rp: the street that has a rope -/
def my (al : Nat → Nat → Nat) (st lw rp s side nt : Nat) : Bool := if s = rp then true else mb (al 7 s) lw ((hg al st (sb al s side) nt : Int) - (hg al st (sa al s side) nt : Int)) nt
theorem i32_m9 : (-9 : Int32).toInt = -9 := rfl
theorem i32_m10 : (-10 : Int32).toInt = -10 := rfl
theorem i32_0 : (0 : Int32).toInt = 0 := rfl
theorem i32_20 : (20 : Int32).toInt = 20 := rfl
theorem i32_21 : (21 : Int32).toInt = 21 := rfl
section WA
variable {X : Nat × (Nat → Int32)} {al al' : Nat → Nat → Nat} {c : Nat} {I I' : Nat → Nat → Int32} {J J' : Nat → Nat → Int64}
set_option maxHeartbeats 4000000 in
set_option maxRecDepth 100000 in
theorem tw_mb {w : pm_Wo} {kd lw nt : Nat} {x : Int32} (hk : kd ≤ 3) (hl : lw ≤ 2) (hn : nt ≤ 1) : pm_R X mm_X1_mayBeTaken.1 0 [some (.int (nI kd)), some (.int (nI lw)), some (.int x), some (.int (nI nt))] [] w (fun o w' => o = some (.int (if mb kd lw x.toInt nt = true then 1 else 0)) ∧ w' = w) := by
  have hx0 : (x = 0) = (x.toInt = 0) := propext ⟨fun h => by rw [h]; rfl, fun h => Int32.toInt_inj.mp h⟩
  have hfin : ∀ (v : Int32), (v = 1 ∧ mb kd lw x.toInt nt = true ∨ v = 0 ∧ mb kd lw x.toInt nt = false) → some (Value.int v) = some (.int (if mb kd lw x.toInt nt = true then 1 else 0)) ∧ w = w := by
    intro v h
    rcases h with ⟨rfl, h⟩ | ⟨rfl, h⟩ <;> simp [h]
  rcases (show kd = 0 ∨ kd = 1 ∨ kd = 2 ∨ kd = 3 by omega) with rfl | rfl | rfl | rfl
  · rcases (show lw = 0 ∨ lw = 1 ∨ lw = 2 by omega) with rfl | rfl | rfl
    all_goals (repeat' first | refine pm_s rfl rfl ?_ | refine pm_r rfl rfl rfl ?_ | refine pm_if (fun _ => ?_) (fun _ => ?_))
    all_goals (refine hfin _ ?_; simp only [Int32.lt_iff_toInt_lt, Int32.le_iff_toInt_le, hx0, i32_m9, i32_0, i32_20] at *; simp [mb]; omega)
  · (repeat' first | refine pm_s rfl rfl ?_ | refine pm_r rfl rfl rfl ?_ | refine pm_if (fun _ => ?_) (fun _ => ?_))
    all_goals (refine hfin _ ?_; simp [mb])
  · (repeat' first | refine pm_s rfl rfl ?_ | refine pm_r rfl rfl rfl ?_ | refine pm_if (fun _ => ?_) (fun _ => ?_))
    all_goals (refine hfin _ ?_; simp only [Int32.lt_iff_toInt_lt, Int32.le_iff_toInt_le, hx0, i32_m9, i32_0, i32_20] at *; simp [mb]; omega)
  · rcases (show nt = 0 ∨ nt = 1 by omega) with rfl | rfl
    all_goals (repeat' first | refine pm_s rfl rfl ?_ | refine pm_r rfl rfl rfl ?_ | refine pm_if (fun _ => ?_) (fun _ => ?_))
    all_goals (refine hfin _ ?_; simp only [Int32.lt_iff_toInt_lt, Int32.le_iff_toInt_le, hx0, i32_m9, i32_0, i32_20] at *; simp [mb]; try omega)
end WA
end
section
/-- four bits of a street: from its first side by day, by night, from its second likewise -/
def ob (mv : Nat → Nat → Nat → Bool) (s : Nat) : Nat := (if mv s 0 0 = true then 1 else 0) + (if mv s 0 1 = true then 2 else 0) + (if mv s 1 0 = true then 4 else 0) + (if mv s 1 1 = true then 8 else 0)
theorem hg_le {al : Nat → Nat → Nat} {st k nt : Nat} (h : ∀ i, i < 8 → al 1 i ≤ 99 ∧ al 2 i ≤ 99) (hk : k < 8) : hg al st k nt ≤ 99 := by
  unfold hg
  split
  · exact (h k hk).2
  · exact (h k hk).1
section WB
variable {X : Nat × (Nat → Int32)} {al al' : Nat → Nat → Nat} {c : Nat} {I I' : Nat → Nat → Int32} {J J' : Nat → Nat → Int64}
/-- the parts of a town that streets need -/
def sy_WS (al : Nat → Nat → Nat) : Prop := al 0 0 ≤ 8 ∧ (∀ i, i < 8 → al 1 i ≤ 99 ∧ al 2 i ≤ 99) ∧ al 4 0 ≤ 12 ∧ (∀ i, i < al 4 0 → (al 5 i < al 0 0 ∧ al 6 i < al 0 0 ∧ al 5 i ≠ al 6 i) ∧ al 7 i ≤ 3 ∧ 1 ≤ al 8 i ∧ al 8 i ≤ 99) ∧ (10 ≤ al 9 0 ∧ al 9 0 ≤ 999)
theorem sy_WT.s (h : sy_WT al) : sy_WS al := ⟨h.1.2, h.2.1, h.2.2.2.1, h.2.2.2.2.1, h.2.2.2.2.2.1⟩
theorem my_mb {st lw s side nt : Nat} {a b : Nat} (hs : s < 12) (ha : hg al st (sa al s side) nt = a) (hb : hg al st (sb al s side) nt = b) (h1 : a ≤ 99) (h2 : b ≤ 99) : mb (al 7 s) lw (nI b - nI a).toInt nt = my al st lw 99 s side nt := by
  unfold my
  rw [if_neg (by omega), ha, hb, pk_sub_toInt (by omega) (by omega)]
set_option maxHeartbeats 4000000 in
set_option maxRecDepth 100000 in
theorem tw_op {T s st lw : Nat} (hT : T = 6 ∨ T = 15) (hW : sy_WS al) (h : sy_T T I al) (hst : st < 2 ^ 31) (hlw : lw ≤ 2) (hs : s < al 4 0) : pm_R X mm_X1_openings.1 0 [some (.ref T), some (.int (nI s)), some (.int (nI lw)), some (.int (nI st)), none, none, none, none] [] (41, sy_R c, I, J) (fun o w' => o = some (.int (nI (ob (my al st lw 99) s))) ∧ w' = (41, sy_R c, I, J)) := by
  obtain ⟨hn, hh, hns, hstr, -⟩ := hW
  obtain ⟨⟨k1, k2, k3⟩, k4, k5, k6⟩ := hstr s hs
  have hi := sy_idx (k := s) (N := 12) (by omega) (by decide)
  have t0 : (nI s).toNatClampNeg = s := nI_clamp (by omega)
  obtain ⟨z1, z2, z3, z4⟩ := h.2.2.1 s (by omega)
  have q1 : I (T + 3) (nI s).toNatClampNeg = nI (al 5 s) := by rw [t0]; exact z1
  have q2 : I (T + 4) (nI s).toNatClampNeg = nI (al 6 s) := by rw [t0]; exact z2
  have q3 : I (T + 5) (nI s).toNatClampNeg = nI (al 7 s) := by rw [t0]; exact z3
  have m00 := tw_mb (X := X) (w := (41, sy_R c, I, J)) (x := nI (hg al st (al 6 s) 0) - nI (hg al st (al 5 s) 0)) k4 hlw (show 0 ≤ 1 by decide)
  have m01 := tw_mb (X := X) (w := (41, sy_R c, I, J)) (x := nI (hg al st (al 5 s) 0) - nI (hg al st (al 6 s) 0)) k4 hlw (show 0 ≤ 1 by decide)
  have m10 := tw_mb (X := X) (w := (41, sy_R c, I, J)) (x := nI (hg al st (al 6 s) 1) - nI (hg al st (al 5 s) 1)) k4 hlw (show 1 ≤ 1 by decide)
  have m11 := tw_mb (X := X) (w := (41, sy_R c, I, J)) (x := nI (hg al st (al 5 s) 1) - nI (hg al st (al 6 s) 1)) k4 hlw (show 1 ≤ 1 by decide)
  have l1 : al 5 s < 8 := by omega
  have l2 : al 6 s < 8 := by omega
  have y0 : ∀ nt, mb (al 7 s) lw (nI (hg al st (al 6 s) nt) - nI (hg al st (al 5 s) nt)).toInt nt = my al st lw 99 s 0 nt := fun nt => my_mb (side := 0) (by omega) rfl rfl (hg_le hh l1) (hg_le hh l2)
  have y1 : ∀ nt, mb (al 7 s) lw (nI (hg al st (al 5 s) nt) - nI (hg al st (al 6 s) nt)).toInt nt = my al st lw 99 s 1 nt := fun nt => my_mb (side := 1) (by omega) rfl rfl (hg_le hh l2) (hg_le hh l1)
  rw [y0, ← q3] at m00 m10
  rw [y1, ← q3] at m01 m11
  have g50 := tw_hgt (X := X) (c := c) (J := J) hT hn h hst k1 (show 0 ≤ 1 by decide)
  have g51 := tw_hgt (X := X) (c := c) (J := J) hT hn h hst k1 (show 1 ≤ 1 by decide)
  have g60 := tw_hgt (X := X) (c := c) (J := J) hT hn h hst k2 (show 0 ≤ 1 by decide)
  have g61 := tw_hgt (X := X) (c := c) (J := J) hT hn h hst k2 (show 1 ≤ 1 by decide)
  rw [← q1] at g50 g51
  rw [← q2] at g60 g61
  unfold ob
  cases b00 : my al st lw 99 s 0 0 <;> cases b01 : my al st lw 99 s 0 1 <;> cases b10 : my al st lw 99 s 1 0 <;> cases b11 : my al st lw 99 s 1 1
  all_goals (
    rw [b00] at m00
    rw [b10] at m01
    rw [b01] at m10
    rw [b11] at m11
    simp only [if_true, Bool.false_eq_true, if_false] at m00 m01 m10 m11 ⊢
    rcases hT with rfl | rfl)
  all_goals (
    (repeat' first | refine pm_s rfl rfl ?_ | refine pm_ifT (by assumption) ?_ | refine pm_ifF (by assumption) ?_ | refine pm_ial rfl rfl (by assumption) ?_ | refine pm_ias rfl rfl rfl (by assumption) ?_ | refine pm_r rfl rfl rfl ?_ | refine pm_rz rfl rfl rfl ?_)
    refine pm_cq rfl rfl rfl rfl rfl rfl g50 ?_
    (repeat' first | refine pm_s rfl rfl ?_ | refine pm_ifT (by assumption) ?_ | refine pm_ifF (by assumption) ?_ | refine pm_ial rfl rfl (by assumption) ?_ | refine pm_ias rfl rfl rfl (by assumption) ?_ | refine pm_r rfl rfl rfl ?_ | refine pm_rz rfl rfl rfl ?_)
    refine pm_cq rfl rfl rfl rfl rfl rfl g60 ?_
    (repeat' first | refine pm_s rfl rfl ?_ | refine pm_ifT (by assumption) ?_ | refine pm_ifF (by assumption) ?_ | refine pm_ial rfl rfl (by assumption) ?_ | refine pm_ias rfl rfl rfl (by assumption) ?_ | refine pm_r rfl rfl rfl ?_ | refine pm_rz rfl rfl rfl ?_)
    refine pm_cq rfl rfl rfl rfl rfl rfl m00 ?_
    (repeat' first | refine pm_s rfl rfl ?_ | refine pm_ifT (by assumption) ?_ | refine pm_ifF (by assumption) ?_ | refine pm_ial rfl rfl (by assumption) ?_ | refine pm_ias rfl rfl rfl (by assumption) ?_ | refine pm_r rfl rfl rfl ?_ | refine pm_rz rfl rfl rfl ?_)
    refine pm_cq rfl rfl rfl rfl rfl rfl m01 ?_
    (repeat' first | refine pm_s rfl rfl ?_ | refine pm_ifT (by assumption) ?_ | refine pm_ifF (by assumption) ?_ | refine pm_ial rfl rfl (by assumption) ?_ | refine pm_ias rfl rfl rfl (by assumption) ?_ | refine pm_r rfl rfl rfl ?_ | refine pm_rz rfl rfl rfl ?_)
    refine pm_cq rfl rfl rfl rfl rfl rfl g51 ?_
    (repeat' first | refine pm_s rfl rfl ?_ | refine pm_ifT (by assumption) ?_ | refine pm_ifF (by assumption) ?_ | refine pm_ial rfl rfl (by assumption) ?_ | refine pm_ias rfl rfl rfl (by assumption) ?_ | refine pm_r rfl rfl rfl ?_ | refine pm_rz rfl rfl rfl ?_)
    refine pm_cq rfl rfl rfl rfl rfl rfl g61 ?_
    (repeat' first | refine pm_s rfl rfl ?_ | refine pm_ifT (by assumption) ?_ | refine pm_ifF (by assumption) ?_ | refine pm_ial rfl rfl (by assumption) ?_ | refine pm_ias rfl rfl rfl (by assumption) ?_ | refine pm_r rfl rfl rfl ?_ | refine pm_rz rfl rfl rfl ?_)
    refine pm_cq rfl rfl rfl rfl rfl rfl m10 ?_
    (repeat' first | refine pm_s rfl rfl ?_ | refine pm_ifT (by assumption) ?_ | refine pm_ifF (by assumption) ?_ | refine pm_ial rfl rfl (by assumption) ?_ | refine pm_ias rfl rfl rfl (by assumption) ?_ | refine pm_r rfl rfl rfl ?_ | refine pm_rz rfl rfl rfl ?_)
    refine pm_cq rfl rfl rfl rfl rfl rfl m11 ?_
    (repeat' first | refine pm_s rfl rfl ?_ | refine pm_ifT (by assumption) ?_ | refine pm_ifF (by assumption) ?_ | refine pm_ial rfl rfl (by assumption) ?_ | refine pm_ias rfl rfl rfl (by assumption) ?_ | refine pm_r rfl rfl rfl ?_ | refine pm_rz rfl rfl rfl ?_)
    exact ⟨rfl, rfl⟩)
end WB
end
section
section WC
variable {X : Nat × (Nat → Int32)} {al al' : Nat → Nat → Nat} {c : Nat} {I I' : Nat → Nat → Int32} {J J' : Nat → Nat → Int64}
/-- what 'may' reads: heights, streets, screws, law, rope -/
def sy_My (I : Nat → Nat → Int32) (al : Nat → Nat → Nat) (st lw rp : Nat) : Prop := I 30 2 = nI st ∧ I 30 5 = nI lw ∧ (∀ i, i < 8 → I 31 (2 * i) = nI (al 1 i) ∧ I 31 (2 * i + 1) = nI (al 2 i)) ∧ (∀ i, i < 12 → I 32 (4 * i) = nI (al 5 i) ∧ I 32 (4 * i + 1) = nI (al 6 i) ∧ I 32 (4 * i + 2) = nI (al 7 i) ∧ I 32 (4 * i + 3) = nI (al 8 i)) ∧ (∀ s, s < 12 → (nI s = I 30 30) = (s = rp))
theorem ix4 {s m : Nat} (hs : s < 12) (hm : m ≤ 3) : ((0 : Int32) ≤ 4 * nI s + nI m ∧ (4 * nI s + nI m).toNatClampNeg < 48) ∧ (4 * nI s + nI m).toNatClampNeg = 4 * s + m := by
  rw [show (4 : Int32) = nI 4 from rfl, pk_mul, nI_add]
  exact ⟨sy_idx (by omega) (by decide), nI_clamp (by omega)⟩
theorem ix4m {s m : Nat} (hs : s < 12) (hm : m ≤ 1) : ((0 : Int32) ≤ 4 * nI s + 1 - nI m ∧ (4 * nI s + 1 - nI m).toNatClampNeg < 48) ∧ (4 * nI s + 1 - nI m).toNatClampNeg = 4 * s + 1 - m := by
  rw [show (4 : Int32) = nI 4 from rfl, pk_mul, nI_1, pk_sub (by omega)]
  exact ⟨sy_idx (by omega) (by decide), nI_clamp (by omega)⟩
set_option maxHeartbeats 4000000 in
set_option maxRecDepth 100000 in
theorem md_my {st lw rp s sd nt : Nat} (hW : sy_WS al) (h : sy_My I al st lw rp) (hst : st < 2 ^ 31) (hlw : lw ≤ 2) (hs : s < al 4 0) (hsd : sd ≤ 1) (hnt : nt ≤ 1) : pm_R X mm_X4_may.1 0 [some (.ref 30), some (.int (nI s)), some (.int (nI sd)), some (.int (nI nt)), none] [] (41, sy_R c, I, J) (fun o w' => o = some (.int (if my al st lw rp s sd nt = true then 1 else 0)) ∧ w' = (41, sy_R c, I, J)) := by
  obtain ⟨hn, hh, hns, hstr, -⟩ := hW
  obtain ⟨⟨k1, k2, k3⟩, k4, k5, k6⟩ := hstr s hs
  obtain ⟨e2, e5, h31, h32, hrp⟩ := h
  obtain ⟨z1, z2, z3, z4⟩ := h32 s (by omega)
  obtain ⟨i1, t1⟩ := ix4 (s := s) (m := sd) (by omega) (by omega)
  obtain ⟨i2, t2⟩ := ix4m (s := s) (m := sd) (by omega) hsd
  obtain ⟨i3, t3⟩ := ix4 (s := s) (m := 2) (by omega) (by omega)
  have i3 : (0 : Int32) ≤ 4 * nI s + 2 ∧ (4 * nI s + 2).toNatClampNeg < 48 := i3
  have t3 : (4 * nI s + 2).toNatClampNeg = 4 * s + 2 := t3
  have ha8 : sa al s sd < 8 := by unfold sa; split <;> omega
  have hb8 : sb al s sd < 8 := by unfold sb; split <;> omega
  have q1 : I 32 (4 * nI s + nI sd).toNatClampNeg = nI (sa al s sd) := by
    rw [t1]
    rcases (show sd = 0 ∨ sd = 1 by omega) with rfl | rfl
    · exact z1
    · exact z2
  have q2 : I 32 (4 * nI s + 1 - nI sd).toNatClampNeg = nI (sb al s sd) := by
    rw [t2]
    rcases (show sd = 0 ∨ sd = 1 by omega) with rfl | rfl
    · exact z2
    · exact z1
  have q3 : I 32 (4 * nI s + 2).toNatClampNeg = nI (al 7 s) := by rw [t3]; exact z3
  have g1 := md_hgt (X := X) (c := c) (J := J) (nt := nt) h31 e2 hst ha8 hnt
  have g2 := md_hgt (X := X) (c := c) (J := J) (nt := nt) h31 e2 hst hb8 hnt
  rw [← q1] at g1
  rw [← q2] at g2
  have hA := hg_le (st := st) (nt := nt) hh ha8
  have hB := hg_le (st := st) (nt := nt) hh hb8
  have hx : (nI (hg al st (sb al s sd) nt) - nI (hg al st (sa al s sd) nt)).toInt = (hg al st (sb al s sd) nt : Int) - (hg al st (sa al s sd) nt : Int) := pk_sub_toInt (by omega) (by omega)
  have hrp := hrp s (by omega)
  (repeat' first | refine pm_s rfl rfl ?_ | refine pm_ifT (by assumption) ?_ | refine pm_ifF (by assumption) ?_ | refine pm_ial rfl rfl (by assumption) ?_ | refine pm_ias rfl rfl rfl (by assumption) ?_ | refine pm_r rfl rfl rfl ?_ | refine pm_rz rfl rfl rfl ?_)
  refine pm_cq rfl rfl rfl rfl rfl rfl g2 ?_
  (repeat' first | refine pm_s rfl rfl ?_ | refine pm_ifT (by assumption) ?_ | refine pm_ifF (by assumption) ?_ | refine pm_ial rfl rfl (by assumption) ?_ | refine pm_ias rfl rfl rfl (by assumption) ?_ | refine pm_r rfl rfl rfl ?_ | refine pm_rz rfl rfl rfl ?_)
  refine pm_cq rfl rfl rfl rfl rfl rfl g1 ?_
  generalize hxe : nI (hg al st (sb al s sd) nt) - nI (hg al st (sa al s sd) nt) = x at hx
  refine pm_s rfl rfl ?_
  rw [hxe]
  by_cases hr : s = rp
  · have r1 : nI s = I 30 30 := by rw [hrp]; exact hr
    rw [show my al st lw rp s sd nt = true from if_pos hr]
    (repeat' first | refine pm_s rfl rfl ?_ | refine pm_ifT (by assumption) ?_ | refine pm_ifF (by assumption) ?_ | refine pm_ial rfl rfl (by assumption) ?_ | refine pm_ias rfl rfl rfl (by assumption) ?_ | refine pm_r rfl rfl rfl ?_ | refine pm_rz rfl rfl rfl ?_)
    exact ⟨rfl, rfl⟩
  · have r1 : ¬ nI s = I 30 30 := by rw [hrp]; exact hr
    rw [show my al st lw rp s sd nt = mb (al 7 s) lw x.toInt nt by unfold my; rw [if_neg hr, hx]]
    have hfin : ∀ (v : Int32), (v = 1 ∧ mb (al 7 s) lw x.toInt nt = true ∨ v = 0 ∧ mb (al 7 s) lw x.toInt nt = false) → some (Value.int v) = some (.int (if mb (al 7 s) lw x.toInt nt = true then 1 else 0)) ∧ ((41, sy_R c, I, J) : pm_Wo) = (41, sy_R c, I, J) := by
      intro v h
      rcases h with ⟨rfl, h⟩ | ⟨rfl, h⟩ <;> simp [h]
    (repeat' first | refine pm_s rfl rfl ?_ | refine pm_ifT (by assumption) ?_ | refine pm_ifF (by assumption) ?_ | refine pm_ial rfl rfl (by assumption) ?_ | refine pm_ias rfl rfl rfl (by assumption) ?_ | refine pm_r rfl rfl rfl ?_ | refine pm_rz rfl rfl rfl ?_)
    rw [q3]
    rcases (show al 7 s = 0 ∨ al 7 s = 1 ∨ al 7 s = 2 ∨ al 7 s = 3 by omega) with hk | hk | hk | hk
    all_goals rw [hk] at hfin ⊢
    · rcases (show lw = 0 ∨ lw = 1 ∨ lw = 2 by omega) with rfl | rfl | rfl
      · have l0 : I 30 5 = 0 := e5
        (repeat' first | refine pm_s rfl rfl ?_ | refine pm_ifT (by assumption) ?_ | refine pm_ifF (by assumption) ?_ | refine pm_ial rfl rfl (by assumption) ?_ | refine pm_ias rfl rfl rfl (by assumption) ?_ | refine pm_if (fun _ => ?_) (fun _ => ?_) | refine pm_r rfl rfl rfl ?_ | refine pm_rz rfl rfl rfl ?_)
        all_goals (refine hfin _ ?_; simp only [Int32.lt_iff_toInt_lt, Int32.le_iff_toInt_le, i32_m9, i32_m10, i32_0, i32_20, i32_21] at *; simp [mb]; omega)
      · have l1 : I 30 5 = 1 := e5
        have l0 : ¬ I 30 5 = 0 := by rw [l1]; decide
        (repeat' first | refine pm_s rfl rfl ?_ | refine pm_ifT (by assumption) ?_ | refine pm_ifF (by assumption) ?_ | refine pm_ial rfl rfl (by assumption) ?_ | refine pm_ias rfl rfl rfl (by assumption) ?_ | refine pm_if (fun _ => ?_) (fun _ => ?_) | refine pm_r rfl rfl rfl ?_ | refine pm_rz rfl rfl rfl ?_)
        all_goals (refine hfin _ ?_; simp only [Int32.lt_iff_toInt_lt, Int32.le_iff_toInt_le, i32_m9, i32_m10, i32_0, i32_20, i32_21] at *; simp [mb]; omega)
      · have l2 : I 30 5 = 2 := e5
        have l0 : ¬ I 30 5 = 0 := by rw [l2]; decide
        have l1 : ¬ I 30 5 = 1 := by rw [l2]; decide
        (repeat' first | refine pm_s rfl rfl ?_ | refine pm_ifT (by assumption) ?_ | refine pm_ifF (by assumption) ?_ | refine pm_ial rfl rfl (by assumption) ?_ | refine pm_ias rfl rfl rfl (by assumption) ?_ | refine pm_if (fun _ => ?_) (fun _ => ?_) | refine pm_r rfl rfl rfl ?_ | refine pm_rz rfl rfl rfl ?_)
        all_goals (refine hfin _ ?_; simp only [Int32.lt_iff_toInt_lt, Int32.le_iff_toInt_le, i32_m9, i32_m10, i32_0, i32_20, i32_21] at *; simp [mb]; omega)
    · (repeat' first | refine pm_s rfl rfl ?_ | refine pm_ifT (by assumption) ?_ | refine pm_ifF (by assumption) ?_ | refine pm_ial rfl rfl (by assumption) ?_ | refine pm_ias rfl rfl rfl (by assumption) ?_ | refine pm_if (fun _ => ?_) (fun _ => ?_) | refine pm_r rfl rfl rfl ?_ | refine pm_rz rfl rfl rfl ?_)
      all_goals (refine hfin _ ?_; simp [mb])
    · (repeat' first | refine pm_s rfl rfl ?_ | refine pm_ifT (by assumption) ?_ | refine pm_ifF (by assumption) ?_ | refine pm_ial rfl rfl (by assumption) ?_ | refine pm_ias rfl rfl rfl (by assumption) ?_ | refine pm_if (fun _ => ?_) (fun _ => ?_) | refine pm_r rfl rfl rfl ?_ | refine pm_rz rfl rfl rfl ?_)
      all_goals (refine hfin _ ?_; simp only [Int32.lt_iff_toInt_lt, Int32.le_iff_toInt_le, i32_m9, i32_m10, i32_0, i32_20, i32_21] at *; simp [mb]; omega)
    · rcases (show nt = 0 ∨ nt = 1 by omega) with rfl | rfl
      all_goals (repeat' first | refine pm_s rfl rfl ?_ | refine pm_ifT (by assumption) ?_ | refine pm_ifF (by assumption) ?_ | refine pm_ial rfl rfl (by assumption) ?_ | refine pm_ias rfl rfl rfl (by assumption) ?_ | refine pm_if (fun _ => ?_) (fun _ => ?_) | refine pm_r rfl rfl rfl ?_ | refine pm_rz rfl rfl rfl ?_)
      all_goals (refine hfin _ ?_; simp only [Int32.lt_iff_toInt_lt, Int32.le_iff_toInt_le, i32_m9, i32_m10, i32_0, i32_20, i32_21] at *; simp [mb]; try omega)
end WC
end
section
/-- the first minute, t or behind it, at which a step of m minutes can begin; p: whether it may be taken by day, by night -/
def bg (H m t : Nat) (p : Nat → Bool) : Option Nat := if t + m ≤ (t / H + 1) * H ∧ p (t / H % 2) = true then some t else if m ≤ H ∧ p ((t / H + 1) % 2) = true then some ((t / H + 1) * H) else if m ≤ H ∧ p (t / H % 2) = true then some ((t / H + 2) * H) else none
/-- an answer that may be none -/
def ov (o : Option Nat) : Int32 := match o with
  | some b => nI b
  | none => -1
def hv (mv : Nat → Nat → Nat → Bool) (s side : Nat) : Nat := (if mv s side 0 = true then 1 else 0) + (if mv s side 1 = true then 2 else 0)
theorem hv_0 (mv : Nat → Nat → Nat → Bool) (s : Nat) : nI (ob mv s) &&& 3 = nI (hv mv s 0) := by
  unfold ob hv
  cases mv s 0 0 <;> cases mv s 0 1 <;> cases mv s 1 0 <;> cases mv s 1 1 <;> rfl
theorem hv_1 (mv : Nat → Nat → Nat → Bool) (s : Nat) : nI (ob mv s) >>> (2 &&& 31) = nI (hv mv s 1) := by
  unfold ob hv
  cases mv s 0 0 <;> cases mv s 0 1 <;> cases mv s 1 0 <;> cases mv s 1 1 <;> rfl
theorem hv_bit (mv : Nat → Nat → Nat → Bool) (s side k : Nat) (hk : k < 2 ^ 31) : ((nI (hv mv s side) >>> ((nI k &&& 1) &&& 31)) &&& 1 = 1) = (mv s side (k % 2) = true) := by
  rw [bt_and1 (by omega)]
  unfold hv
  rcases (show k % 2 = 0 ∨ k % 2 = 1 by omega) with h | h <;> rw [h] <;> cases mv s side 0 <;> cases mv s side 1 <;> decide
section WD
variable {X : Nat × (Nat → Int32)} {al al' : Nat → Nat → Nat} {c : Nat} {I I' : Nat → Nat → Int32} {J J' : Nat → Nat → Int64} {K : Option Value → pm_Wo → Prop} {mv : Nat → Nat → Nat → Bool}
set_option maxHeartbeats 4000000 in
set_option maxRecDepth 100000 in
theorem ww_it {T s t h side : Nat} {q9 : Int32} {a9 g8 g9 : Option Value} (hT : T = 6 ∨ T = 15) (hW : sy_WS al) (hTT : sy_T T I al) (hs : s < al 4 0) (ht : t ≤ 1000000) (hh : h ≤ 1000000) (hle : ¬ q9 + 2 < nI h)
    (hK : max t (h * al 9 0) + al 8 s ≤ (h + 1) * al 9 0 ∧ mv s side (h % 2) = true → K (some (.int (nI (max t (h * al 9 0))))) (41, sy_R c, I, J))
    (hgo : ¬ (max t (h * al 9 0) + al 8 s ≤ (h + 1) * al 9 0 ∧ mv s side (h % 2) = true) → ∀ x8 x9 : Int32, pm_R X mm_X2_beginOf.1 43 [some (.ref 3), some (.ref T), some (.int (nI s)), a9, some (.int (nI t)), some (.int (nI (hv mv s side))), some (.int q9), some (.int (nI (h + 1))), some (.int x8), some (.int x9)] [] (41, sy_R c, I, J) K) :
    pm_R X mm_X2_beginOf.1 43 [some (.ref 3), some (.ref T), some (.int (nI s)), a9, some (.int (nI t)), some (.int (nI (hv mv s side))), some (.int q9), some (.int (nI h)), g8, g9] [] (41, sy_R c, I, J) K := by
  obtain ⟨hn, hhh, hns, hstr, hH1, hH2⟩ := hW
  obtain ⟨-, -, k5, k6⟩ := hstr s hs
  have hi := sy_idx (k := s) (N := 12) (by omega) (by decide)
  have t0 : (nI s).toNatClampNeg = s := nI_clamp (by omega)
  have q4 : I (T + 6) (nI s).toNatClampNeg = nI (al 8 s) := by rw [t0]; exact (hTT.2.2.1 s (by omega)).2.2.2
  have e9 : I T 9 = nI (al 9 0) := hTT.1.2.2.2.1
  have hm1 : h * al 9 0 ≤ 1000000 * 999 := Nat.mul_le_mul hh hH2
  have hm2 : (h + 1) * al 9 0 = h * al 9 0 + al 9 0 := by rw [Nat.add_mul, Nat.one_mul]
  have eB : (if nI t < nI h * I T 9 then nI h * I T 9 else nI t) = nI (max t (h * al 9 0)) := by
    rw [e9, pk_mul]
    by_cases hlt : t < h * al 9 0
    · rw [if_pos (nI_lt hlt (by omega)), Nat.max_eq_right (by omega)]
    · rw [if_neg (nI_nlt (by omega) (by omega)), Nat.max_eq_left (by omega)]
  have hmx : max t (h * al 9 0) ≤ 1000000 * 999 := by omega
  have hbit := hv_bit mv s side h (by omega)
  have hF : ((nI h + 1) * I T 9 < nI (max t (h * al 9 0)) + I (T + 6) (nI s).toNatClampNeg) = ¬ (max t (h * al 9 0) + al 8 s ≤ (h + 1) * al 9 0) := by
    rw [e9, q4, nI_1, pk_mul, nI_add, nI_lt' (by omega) (by omega)]
    exact propext ⟨fun z => by omega, fun z => by omega⟩
  by_cases hf : max t (h * al 9 0) + al 8 s ≤ (h + 1) * al 9 0
  · have f1 : ¬ ((nI h + 1) * I T 9 < nI (max t (h * al 9 0)) + I (T + 6) (nI s).toNatClampNeg) := by rw [hF]; exact fun z => z hf
    rw [← eB] at f1
    by_cases hp : mv s side (h % 2) = true
    · have b1 : ((nI (hv mv s side) >>> ((nI h &&& 1) &&& 31)) &&& 1 = 1) := by rw [hbit]; exact hp
      rcases hT with rfl | rfl
      · (repeat' first | refine pm_s rfl rfl ?_ | refine pm_ifT (by assumption) ?_ | refine pm_ifF (by assumption) ?_ | refine pm_ial rfl rfl (by assumption) ?_ | refine pm_ias rfl rfl rfl (by assumption) ?_ | refine pm_r rfl rfl rfl ?_ | refine pm_rz rfl rfl rfl ?_)
        rw [eB]
        exact hK ⟨hf, hp⟩
      · (repeat' first | refine pm_s rfl rfl ?_ | refine pm_ifT (by assumption) ?_ | refine pm_ifF (by assumption) ?_ | refine pm_ial rfl rfl (by assumption) ?_ | refine pm_ias rfl rfl rfl (by assumption) ?_ | refine pm_r rfl rfl rfl ?_ | refine pm_rz rfl rfl rfl ?_)
        rw [eB]
        exact hK ⟨hf, hp⟩
    · have b1 : ¬ ((nI (hv mv s side) >>> ((nI h &&& 1) &&& 31)) &&& 1 = 1) := by rw [hbit]; exact hp
      have hno : ¬ (max t (h * al 9 0) + al 8 s ≤ (h + 1) * al 9 0 ∧ mv s side (h % 2) = true) := fun z => hp z.2
      rcases hT with rfl | rfl
      · refine pm_s rfl rfl ?_
        (repeat' first | refine pm_sx [43] rfl rfl rfl ?_ | refine pm_ifT (by assumption) ?_ | refine pm_ifF (by assumption) ?_ | refine pm_ial rfl rfl (by assumption) ?_ | refine pm_ias rfl rfl rfl (by assumption) ?_ | refine pm_r rfl rfl rfl ?_ | refine pm_rz rfl rfl rfl ?_)
        rw [nI_1]
        exact hgo hno _ _
      · refine pm_s rfl rfl ?_
        (repeat' first | refine pm_sx [43] rfl rfl rfl ?_ | refine pm_ifT (by assumption) ?_ | refine pm_ifF (by assumption) ?_ | refine pm_ial rfl rfl (by assumption) ?_ | refine pm_ias rfl rfl rfl (by assumption) ?_ | refine pm_r rfl rfl rfl ?_ | refine pm_rz rfl rfl rfl ?_)
        rw [nI_1]
        exact hgo hno _ _
  · have f1 : ((nI h + 1) * I T 9 < nI (max t (h * al 9 0)) + I (T + 6) (nI s).toNatClampNeg) := by rw [hF]; exact hf
    rw [← eB] at f1
    have hno : ¬ (max t (h * al 9 0) + al 8 s ≤ (h + 1) * al 9 0 ∧ mv s side (h % 2) = true) := fun z => hf z.1
    rcases hT with rfl | rfl
    · refine pm_s rfl rfl ?_
      (repeat' first | refine pm_sx [43] rfl rfl rfl ?_ | refine pm_ifT (by assumption) ?_ | refine pm_ifF (by assumption) ?_ | refine pm_ial rfl rfl (by assumption) ?_ | refine pm_ias rfl rfl rfl (by assumption) ?_ | refine pm_r rfl rfl rfl ?_ | refine pm_rz rfl rfl rfl ?_)
      rw [nI_1]
      exact hgo hno _ _
    · refine pm_s rfl rfl ?_
      (repeat' first | refine pm_sx [43] rfl rfl rfl ?_ | refine pm_ifT (by assumption) ?_ | refine pm_ifF (by assumption) ?_ | refine pm_ial rfl rfl (by assumption) ?_ | refine pm_ias rfl rfl rfl (by assumption) ?_ | refine pm_r rfl rfl rfl ?_ | refine pm_rz rfl rfl rfl ?_)
      rw [nI_1]
      exact hgo hno _ _
/-- which side of a street a corner is -/
def sd (al : Nat → Nat → Nat) (s f : Nat) : Nat := if al 5 s = f then 0 else 1
set_option maxHeartbeats 4000000 in
set_option maxRecDepth 100000 in
theorem ww_begin {T s f t : Nat} (hT : T = 6 ∨ T = 15) (hW : sy_WS al) (hTT : sy_T T I al) (hs : s < al 4 0) (ht : t ≤ 900000) (hf : f < 8) (ho : I 4 s = nI (ob mv s)) : pm_R X mm_X2_beginOf.1 0 [some (.ref 3), some (.ref T), some (.int (nI s)), some (.int (nI f)), some (.int (nI t)), none, none, none, none, none] [] (41, sy_R c, I, J) (fun o w' => o = some (.int (ov (bg (al 9 0) (al 8 s) t (mv s (sd al s f))))) ∧ w' = (41, sy_R c, I, J)) := by
  obtain ⟨hn, hhh, hns, hstr, hH1, hH2⟩ := id hW
  obtain ⟨⟨k1, k2, k3⟩, -, k5, k6⟩ := hstr s hs
  have hi := sy_idx (k := s) (N := 12) (by omega) (by decide)
  have t0 : (nI s).toNatClampNeg = s := nI_clamp (by omega)
  have q1 : I (T + 3) (nI s).toNatClampNeg = nI (al 5 s) := by rw [t0]; exact (hTT.2.2.1 s (by omega)).1
  have qo : I 4 (nI s).toNatClampNeg = nI (ob mv s) := by rw [t0]; exact ho
  have hb := tw_hb (X := X) (c := c) (J := J) hT hTT.1.2.2.2.1 (show 1 ≤ al 9 0 ∧ al 9 0 < 2 ^ 31 by omega) (show t < 2 ^ 31 by omega)
  have hq : t / al 9 0 ≤ t := Nat.div_le_self _ _
  have hm := Nat.div_add_mod t (al 9 0)
  have hl := Nat.mod_lt t (show 0 < al 9 0 by omega)
  have hcm : t / al 9 0 * al 9 0 = al 9 0 * (t / al 9 0) := Nat.mul_comm _ _
  have hc1 : (t / al 9 0 + 1) * al 9 0 = t / al 9 0 * al 9 0 + al 9 0 := by rw [Nat.add_mul, Nat.one_mul]
  have hc2 : (t / al 9 0 + 2) * al 9 0 = t / al 9 0 * al 9 0 + 2 * al 9 0 := by rw [Nat.add_mul]
  have hc3 : (t / al 9 0 + 1 + 1 + 1) * al 9 0 = t / al 9 0 * al 9 0 + 3 * al 9 0 := by rw [show t / al 9 0 + 1 + 1 + 1 = t / al 9 0 + 3 by omega, Nat.add_mul]
  have hc4 : (t / al 9 0 + 1 + 1) * al 9 0 = t / al 9 0 * al 9 0 + 2 * al 9 0 := by rw [show t / al 9 0 + 1 + 1 = t / al 9 0 + 2 by omega, Nat.add_mul]
  have go : ∀ side : Nat, side = sd al s f → pm_R X mm_X2_beginOf.1 43 [some (.ref 3), some (.ref T), some (.int (nI s)), some (.int (nI f)), some (.int (nI t)), some (.int (nI (hv mv s side))), some (.int (nI (t / al 9 0))), some (.int (nI (t / al 9 0))), none, none] [] (41, sy_R c, I, J) (fun o w' => o = some (.int (ov (bg (al 9 0) (al 8 s) t (mv s (sd al s f))))) ∧ w' = (41, sy_R c, I, J)) := by
    intro side hside
    subst hside
    refine ww_it hT hW hTT hs (by omega) (by omega) ?_ ?_ ?_
    · rw [show (2 : Int32) = nI 2 from rfl, nI_add]; exact nI_nlt (by omega) (by omega)
    · intro hz
      rw [hc1] at hz
      rw [Nat.max_eq_left (by omega)] at hz ⊢
      refine ⟨?_, rfl⟩
      unfold bg
      rw [if_pos ⟨by omega, hz.2⟩]
      rfl
    · intro hz0 x8 x9
      rw [hc1, Nat.max_eq_left (by omega)] at hz0
      refine ww_it hT hW hTT hs (by omega) (by omega) ?_ ?_ ?_
      · rw [show (2 : Int32) = nI 2 from rfl, nI_add]; exact nI_nlt (by omega) (by omega)
      · intro hz
        rw [hc4] at hz
        rw [Nat.max_eq_right (by omega)] at hz ⊢
        refine ⟨?_, rfl⟩
        unfold bg
        rw [if_neg (by rw [hc1]; exact hz0), if_pos ⟨by omega, hz.2⟩]
        rfl
      · intro hz1 y8 y9
        rw [hc4, Nat.max_eq_right (by omega)] at hz1
        refine ww_it hT hW hTT hs (by omega) (by omega) ?_ ?_ ?_
        · rw [show (2 : Int32) = nI 2 from rfl, nI_add]; exact nI_nlt (by omega) (by omega)
        · intro hz
          rw [hc3, show (t / al 9 0 + 1 + 1) % 2 = t / al 9 0 % 2 by omega] at hz
          rw [Nat.max_eq_right (by omega)] at hz ⊢
          refine ⟨?_, rfl⟩
          unfold bg
          rw [if_neg (by rw [hc1]; exact hz0), if_neg (by intro z; exact hz1 ⟨by omega, z.2⟩), if_pos ⟨by omega, hz.2⟩]
          rfl
        · intro hz2 u8 u9
          rw [hc3, show (t / al 9 0 + 1 + 1) % 2 = t / al 9 0 % 2 by omega, Nat.max_eq_right (by omega)] at hz2
          have hend : nI (t / al 9 0) + 2 < nI (t / al 9 0 + 1 + 1 + 1) := by rw [show (2 : Int32) = nI 2 from rfl, nI_add]; exact nI_lt (by omega) (by omega)
          (repeat' first | refine pm_s rfl rfl ?_ | refine pm_ifT (by assumption) ?_ | refine pm_ifF (by assumption) ?_ | refine pm_ial rfl rfl (by assumption) ?_ | refine pm_ias rfl rfl rfl (by assumption) ?_ | refine pm_r rfl rfl rfl ?_ | refine pm_rz rfl rfl rfl ?_)
          refine ⟨?_, rfl⟩
          unfold bg
          rw [if_neg (by rw [hc1]; exact hz0), if_neg (by intro z; exact hz1 ⟨by omega, z.2⟩), if_neg (by intro z; exact hz2 ⟨by omega, z.2⟩)]
          rfl
  by_cases hsd : al 5 s = f
  · have g := go 0 (by unfold sd; rw [if_pos hsd])
    rw [← hv_0, ← qo] at g
    have c1 : I (T + 3) (nI s).toNatClampNeg = nI f := by rw [q1, hsd]
    rcases hT with rfl | rfl
    · (repeat' first | refine pm_s rfl rfl ?_ | refine pm_ifT (by assumption) ?_ | refine pm_ifF (by assumption) ?_ | refine pm_ial rfl rfl (by assumption) ?_ | refine pm_ias rfl rfl rfl (by assumption) ?_ | refine pm_r rfl rfl rfl ?_ | refine pm_rz rfl rfl rfl ?_)
      refine pm_cq rfl rfl rfl rfl rfl rfl hb ?_
      (repeat' first | refine pm_sx [43] rfl rfl rfl ?_ | refine pm_ifT (by assumption) ?_ | refine pm_ifF (by assumption) ?_ | refine pm_ial rfl rfl (by assumption) ?_ | refine pm_ias rfl rfl rfl (by assumption) ?_ | refine pm_r rfl rfl rfl ?_ | refine pm_rz rfl rfl rfl ?_)
      exact g
    · (repeat' first | refine pm_s rfl rfl ?_ | refine pm_ifT (by assumption) ?_ | refine pm_ifF (by assumption) ?_ | refine pm_ial rfl rfl (by assumption) ?_ | refine pm_ias rfl rfl rfl (by assumption) ?_ | refine pm_r rfl rfl rfl ?_ | refine pm_rz rfl rfl rfl ?_)
      refine pm_cq rfl rfl rfl rfl rfl rfl hb ?_
      (repeat' first | refine pm_sx [43] rfl rfl rfl ?_ | refine pm_ifT (by assumption) ?_ | refine pm_ifF (by assumption) ?_ | refine pm_ial rfl rfl (by assumption) ?_ | refine pm_ias rfl rfl rfl (by assumption) ?_ | refine pm_r rfl rfl rfl ?_ | refine pm_rz rfl rfl rfl ?_)
      exact g
  · have g := go 1 (by unfold sd; rw [if_neg hsd])
    rw [← hv_1, ← qo] at g
    have c1 : ¬ I (T + 3) (nI s).toNatClampNeg = nI f := by rw [q1]; exact fun z => hsd ((nI_eq (by omega) (by omega)).mp z)
    rcases hT with rfl | rfl
    · (repeat' first | refine pm_s rfl rfl ?_ | refine pm_ifT (by assumption) ?_ | refine pm_ifF (by assumption) ?_ | refine pm_ial rfl rfl (by assumption) ?_ | refine pm_ias rfl rfl rfl (by assumption) ?_ | refine pm_r rfl rfl rfl ?_ | refine pm_rz rfl rfl rfl ?_)
      refine pm_cq rfl rfl rfl rfl rfl rfl hb ?_
      (repeat' first | refine pm_sx [43] rfl rfl rfl ?_ | refine pm_ifT (by assumption) ?_ | refine pm_ifF (by assumption) ?_ | refine pm_ial rfl rfl (by assumption) ?_ | refine pm_ias rfl rfl rfl (by assumption) ?_ | refine pm_r rfl rfl rfl ?_ | refine pm_rz rfl rfl rfl ?_)
      exact g
    · (repeat' first | refine pm_s rfl rfl ?_ | refine pm_ifT (by assumption) ?_ | refine pm_ifF (by assumption) ?_ | refine pm_ial rfl rfl (by assumption) ?_ | refine pm_ias rfl rfl rfl (by assumption) ?_ | refine pm_r rfl rfl rfl ?_ | refine pm_rz rfl rfl rfl ?_)
      refine pm_cq rfl rfl rfl rfl rfl rfl hb ?_
      (repeat' first | refine pm_sx [43] rfl rfl rfl ?_ | refine pm_ifT (by assumption) ?_ | refine pm_ifF (by assumption) ?_ | refine pm_ial rfl rfl (by assumption) ?_ | refine pm_ias rfl rfl rfl (by assumption) ?_ | refine pm_r rfl rfl rfl ?_ | refine pm_rz rfl rfl rfl ?_)
      exact g
end WD
end
section
/-- a step of m minutes can begin at t -/
def gn (H m t : Nat) (p : Nat → Bool) : Prop := t + m ≤ (t / H + 1) * H ∧ p (t / H % 2) = true
theorem bg_gn {H m t : Nat} {p : Nat → Bool} (hH : 0 < H) : bg H m t p = some t ↔ gn H m t p := by
  have hl := Nat.mod_lt t hH
  have hm := Nat.div_add_mod t H
  have hc1 : (t / H + 1) * H = H * (t / H) + H := by rw [Nat.add_mul, Nat.one_mul, Nat.mul_comm]
  have hc2 : (t / H + 2) * H = H * (t / H) + 2 * H := by rw [Nat.add_mul, Nat.mul_comm]
  unfold bg gn
  constructor
  · intro h
    split at h
    next z => exact z
    next z =>
      split at h
      next => have := Option.some.inj h; omega
      next =>
        split at h
        next => have := Option.some.inj h; omega
        next => cases h
  · intro h
    rw [if_pos h]
theorem ov_eq {o : Option Nat} {t : Nat} (ho : ∀ b, o = some b → b < 2 ^ 31) (ht : t < 2 ^ 31) : (ov o = nI t) = (o = some t) := by
  cases o with
  | none =>
    refine propext ⟨fun h => ?_, fun h => by cases h⟩
    have := congrArg Int32.toInt h
    rw [nI_toInt ht] at this
    have e1 : (ov none).toInt = -1 := rfl
    omega
  | some b => exact propext ⟨fun h => by rw [(nI_eq (ho b rfl) ht).mp h], fun h => by cases h; rfl⟩
theorem bg_lt {H m t b : Nat} {p : Nat → Bool} (hH : H ≤ 999) (h0 : 0 < H) (h : bg H m t p = some b) : t ≤ b ∧ b ≤ t + 2 * H := by
  have hl := Nat.mod_lt t h0
  have hm := Nat.div_add_mod t H
  have hc1 : (t / H + 1) * H = H * (t / H) + H := by rw [Nat.add_mul, Nat.one_mul, Nat.mul_comm]
  have hc2 : (t / H + 2) * H = H * (t / H) + 2 * H := by rw [Nat.add_mul, Nat.mul_comm]
  unfold bg at h
  split at h
  next => cases h; omega
  next =>
    split at h
    next => cases h; omega
    next =>
      split at h
      next => cases h; omega
      next => cases h
section WE
variable {X : Nat × (Nat → Int32)} {al al' : Nat → Nat → Nat} {c : Nat} {I I' : Nat → Nat → Int32} {J J' : Nat → Nat → Int64} {K : Option Value → pm_Wo → Prop} {mv : Nat → Nat → Nat → Bool}
/-- a corner is an end of a street -/
def ld (al : Nat → Nat → Nat) (s f : Nat) : Prop := al 5 s = f ∨ al 6 s = f
set_option maxHeartbeats 4000000 in
set_option maxRecDepth 100000 in
theorem tw_lf1 {T s f : Nat} (hT : T = 6 ∨ T = 15) (hW : sy_WS al) (hTT : sy_T T I al) (hs : s < al 4 0) (h : ld al s f) : pm_R X mm_X1_leadsFrom.1 0 [some (.ref T), some (.int (nI s)), some (.int (nI f))] [] (41, sy_R c, I, J) (fun o w' => o = some (.int 1) ∧ w' = (41, sy_R c, I, J)) := by
  have hi := sy_idx (k := s) (N := 12) (by have := hW.2.2.1; omega) (by decide)
  have hns := hW.2.2.1
  have t0 : (nI s).toNatClampNeg = s := nI_clamp (by omega)
  have q1 : I (T + 3) (nI s).toNatClampNeg = nI (al 5 s) := by rw [t0]; exact (hTT.2.2.1 s (by omega)).1
  have q2 : I (T + 4) (nI s).toNatClampNeg = nI (al 6 s) := by rw [t0]; exact (hTT.2.2.1 s (by omega)).2.1
  by_cases h1 : I (T + 3) (nI s).toNatClampNeg = nI f
  · rcases hT with rfl | rfl
    all_goals (
      (repeat' first | refine pm_s rfl rfl ?_ | refine pm_ifT (by assumption) ?_ | refine pm_ifF (by assumption) ?_ | refine pm_ial rfl rfl (by assumption) ?_ | refine pm_ias rfl rfl rfl (by assumption) ?_ | refine pm_r rfl rfl rfl ?_ | refine pm_rz rfl rfl rfl ?_)
      exact ⟨rfl, rfl⟩)
  · have h2 : I (T + 4) (nI s).toNatClampNeg = nI f := by
      rcases h with h | h
      · exact absurd (by rw [q1, h]) h1
      · rw [q2, h]
    rcases hT with rfl | rfl
    all_goals (
      (repeat' first | refine pm_s rfl rfl ?_ | refine pm_ifT (by assumption) ?_ | refine pm_ifF (by assumption) ?_ | refine pm_ial rfl rfl (by assumption) ?_ | refine pm_ias rfl rfl rfl (by assumption) ?_ | refine pm_r rfl rfl rfl ?_ | refine pm_rz rfl rfl rfl ?_)
      exact ⟨rfl, rfl⟩)
set_option maxHeartbeats 4000000 in
set_option maxRecDepth 100000 in
theorem tw_lf0 {T s f : Nat} (hT : T = 6 ∨ T = 15) (hW : sy_WS al) (hTT : sy_T T I al) (hs : s < al 4 0) (hf : f < 8) (h : ¬ ld al s f) : pm_R X mm_X1_leadsFrom.1 0 [some (.ref T), some (.int (nI s)), some (.int (nI f))] [] (41, sy_R c, I, J) (fun o w' => o = some (.int 0) ∧ w' = (41, sy_R c, I, J)) := by
  have hi := sy_idx (k := s) (N := 12) (by have := hW.2.2.1; omega) (by decide)
  have hns := hW.2.2.1
  have hn := hW.1
  obtain ⟨⟨k1, k2, k3⟩, -⟩ := hW.2.2.2.1 s hs
  have t0 : (nI s).toNatClampNeg = s := nI_clamp (by omega)
  have q1 : I (T + 3) (nI s).toNatClampNeg = nI (al 5 s) := by rw [t0]; exact (hTT.2.2.1 s (by omega)).1
  have q2 : I (T + 4) (nI s).toNatClampNeg = nI (al 6 s) := by rw [t0]; exact (hTT.2.2.1 s (by omega)).2.1
  have h1 : ¬ I (T + 3) (nI s).toNatClampNeg = nI f := by rw [q1]; exact fun z => h (Or.inl ((nI_eq (by omega) (by omega)).mp z))
  have h2 : ¬ I (T + 4) (nI s).toNatClampNeg = nI f := by rw [q2]; exact fun z => h (Or.inr ((nI_eq (by omega) (by omega)).mp z))
  rcases hT with rfl | rfl
  all_goals (
    (repeat' first | refine pm_s rfl rfl ?_ | refine pm_ifT (by assumption) ?_ | refine pm_ifF (by assumption) ?_ | refine pm_ial rfl rfl (by assumption) ?_ | refine pm_ias rfl rfl rfl (by assumption) ?_ | refine pm_r rfl rfl rfl ?_ | refine pm_rz rfl rfl rfl ?_)
    exact ⟨rfl, rfl⟩)
/-- the other end -/
def oe (al : Nat → Nat → Nat) (s f : Nat) : Nat := if al 5 s = f then al 6 s else al 5 s
set_option maxHeartbeats 4000000 in
set_option maxRecDepth 100000 in
theorem tw_oe {T s f : Nat} (hT : T = 6 ∨ T = 15) (hW : sy_WS al) (hTT : sy_T T I al) (hs : s < al 4 0) (hf : f < 8) : pm_R X mm_X1_otherEnd.1 0 [some (.ref T), some (.int (nI s)), some (.int (nI f))] [] (41, sy_R c, I, J) (fun o w' => o = some (.int (nI (oe al s f))) ∧ w' = (41, sy_R c, I, J)) := by
  have hi := sy_idx (k := s) (N := 12) (by have := hW.2.2.1; omega) (by decide)
  have hns := hW.2.2.1
  have hn := hW.1
  obtain ⟨⟨k1, k2, k3⟩, -⟩ := hW.2.2.2.1 s hs
  have t0 : (nI s).toNatClampNeg = s := nI_clamp (by omega)
  have q1 : I (T + 3) (nI s).toNatClampNeg = nI (al 5 s) := by rw [t0]; exact (hTT.2.2.1 s (by omega)).1
  have q2 : I (T + 4) (nI s).toNatClampNeg = nI (al 6 s) := by rw [t0]; exact (hTT.2.2.1 s (by omega)).2.1
  by_cases h : al 5 s = f
  · have h1 : I (T + 3) (nI s).toNatClampNeg = nI f := by rw [q1, h]
    rcases hT with rfl | rfl
    all_goals (
      (repeat' first | refine pm_s rfl rfl ?_ | refine pm_ifT (by assumption) ?_ | refine pm_ifF (by assumption) ?_ | refine pm_ial rfl rfl (by assumption) ?_ | refine pm_ias rfl rfl rfl (by assumption) ?_ | refine pm_r rfl rfl rfl ?_ | refine pm_rz rfl rfl rfl ?_)
      exact ⟨by rw [q2]; unfold oe; rw [if_pos h], rfl⟩)
  · have h1 : ¬ I (T + 3) (nI s).toNatClampNeg = nI f := by rw [q1]; exact fun z => h ((nI_eq (by omega) (by omega)).mp z)
    rcases hT with rfl | rfl
    all_goals (
      (repeat' first | refine pm_s rfl rfl ?_ | refine pm_ifT (by assumption) ?_ | refine pm_ifF (by assumption) ?_ | refine pm_ial rfl rfl (by assumption) ?_ | refine pm_ias rfl rfl rfl (by assumption) ?_ | refine pm_r rfl rfl rfl ?_ | refine pm_rz rfl rfl rfl ?_)
      exact ⟨by rw [q1]; unfold oe; rw [if_neg h], rfl⟩)
set_option maxHeartbeats 4000000 in
set_option maxRecDepth 100000 in
theorem ww_lay {T st lw : Nat} (hT : T = 6 ∨ T = 15) (hW : sy_WS al) (hTT : sy_T T I al) (hst : st < 2 ^ 31) (hlw : lw ≤ 2) : pm_R X mm_X2_lay.1 0 [some (.ref 3), some (.ref T), some (.int (nI lw)), some (.int (nI st)), none] [] (41, sy_R c, I, J) (fun o w' => o = none ∧ ∃ I', w' = (41, sy_R c, I', J) ∧ (∀ i, i < al 4 0 → I' 4 i = nI (ob (my al st lw 99) i)) ∧ ∀ a, a ≠ 4 → I' a = I a) := by
  have hns := hW.2.2.1
  have key := pm_for (X := X) (tb := mm_X2_lay.1) (K := fun o w' => o = none ∧ ∃ I', w' = (41, sy_R c, I', J) ∧ (∀ i, i < al 4 0 → I' 4 i = nI (ob (my al st lw 99) i)) ∧ ∀ a, a ≠ 4 → I' a = I a) (St := Nat → Nat → Int32) 3 (fun j _ => [some (.ref 3), some (.ref T), some (.int (nI lw)), some (.int (nI st)), some (.int (nI j))]) (fun _ s => (41, sy_R c, s, J)) (fun j s => (∀ i, i < j → s 4 i = nI (ob (my al st lw 99) i)) ∧ ∀ a, a ≠ 4 → s a = I a) (al 4 0) ?_ ?_
  · have k0 := key 0 I (Nat.zero_le _) ⟨fun i hi => absurd hi (Nat.not_lt_zero i), fun _ _ => rfl⟩
    (repeat refine pm_sx [3] rfl rfl rfl ?_)
    exact k0
  · intro j s hj hI ih
    obtain ⟨h1, h2⟩ := hI
    have hTs : sy_T T s al := hTT.cong (fun a h3 h4 => h2 a (by omega))
    have e4 : ¬ s T 4 ≤ nI j := by rw [hTs.1.2.2.1]; exact nI_ge hj (by omega)
    have hi := sy_idx (k := j) (N := 12) (by omega) (by decide)
    have t0 : (nI j).toNatClampNeg = j := nI_clamp (by omega)
    have ho := tw_op (X := X) (c := c) (J := J) hT hW hTs hst hlw hj
    have hn : ∀ (a : Nat), a ≠ 4 → pm_u s 4 j (nI (ob (my al st lw 99) j)) a = I a := fun a ha => by rw [pm_u_cell ha]; exact h2 a ha
    have hn2 : ∀ i, i < j + 1 → pm_u s 4 j (nI (ob (my al st lw 99) j)) 4 i = nI (ob (my al st lw 99) i) := fun i hi => by
      by_cases hij : i = j
      · subst hij; exact pm_u_same
      · rw [pm_u_slot hij]; exact h1 i (by omega)
    rcases hT with rfl | rfl
    all_goals (
      refine pm_s rfl rfl ?_
      (repeat' first | refine pm_sx [3] rfl rfl rfl ?_ | refine pm_ifT (by assumption) ?_ | refine pm_ifF (by assumption) ?_ | refine pm_ial rfl rfl (by assumption) ?_ | refine pm_ias rfl rfl rfl (by assumption) ?_ | refine pm_r rfl rfl rfl ?_ | refine pm_rz rfl rfl rfl ?_)
      refine pm_cq rfl rfl rfl rfl rfl rfl ho ?_
      (repeat' first | refine pm_sx [3] rfl rfl rfl ?_ | refine pm_ifT (by assumption) ?_ | refine pm_ifF (by assumption) ?_ | refine pm_ial rfl rfl (by assumption) ?_ | refine pm_ias rfl rfl rfl (by assumption) ?_ | refine pm_r rfl rfl rfl ?_ | refine pm_rz rfl rfl rfl ?_)
      rw [nI_1, t0]
      exact ih _ ⟨hn2, hn⟩)
  · intro s hI
    obtain ⟨h1, h2⟩ := hI
    have hTs : sy_T T s al := hTT.cong (fun a h3 h4 => h2 a (by omega))
    have e4 : s T 4 ≤ nI (al 4 0) := by rw [hTs.1.2.2.1]; exact Int32.le_refl _
    rcases hT with rfl | rfl
    all_goals (
      (repeat' first | refine pm_s rfl rfl ?_ | refine pm_ifT (by assumption) ?_ | refine pm_ifF (by assumption) ?_ | refine pm_ial rfl rfl (by assumption) ?_ | refine pm_ias rfl rfl rfl (by assumption) ?_ | refine pm_r rfl rfl rfl ?_ | refine pm_rz rfl rfl rfl ?_)
      exact ⟨rfl, s, rfl, h1, h2⟩)
set_option maxHeartbeats 4000000 in
set_option maxRecDepth 100000 in
theorem ww_lai {T st lw : Nat} (hT : T = 6 ∨ T = 15) (hW : sy_WS al) (hTT : sy_T T I al) (hst : al 3 0 < 2 ^ 31) (hlw : al 10 0 ≤ 2) : pm_R X mm_X2_layAsItIs.1 0 [some (.ref 3), some (.ref T)] [] (41, sy_R c, I, J) (fun o w' => o = none ∧ ∃ I', w' = (41, sy_R c, I', J) ∧ (∀ i, i < al 4 0 → I' 4 i = nI (ob (my al (al 3 0) (al 10 0) 99) i)) ∧ ∀ a, a ≠ 4 → I' a = I a) := by
  have hl := ww_lay (X := X) (c := c) (J := J) hT hW hTT hst hlw
  rw [← hTT.1.2.1, ← hTT.1.2.2.2.2.1] at hl
  rcases hT with rfl | rfl
  all_goals (
    (repeat' first | refine pm_s rfl rfl ?_ | refine pm_ifT (by assumption) ?_ | refine pm_ifF (by assumption) ?_ | refine pm_ial rfl rfl (by assumption) ?_ | refine pm_ias rfl rfl rfl (by assumption) ?_ | refine pm_r rfl rfl rfl ?_ | refine pm_rz rfl rfl rfl ?_)
    refine pm_cv rfl rfl rfl rfl rfl rfl hl ?_
    intro w' hw'
    (repeat' first | refine pm_s rfl rfl ?_ | refine pm_ifT (by assumption) ?_ | refine pm_ifF (by assumption) ?_ | refine pm_ial rfl rfl (by assumption) ?_ | refine pm_ias rfl rfl rfl (by assumption) ?_ | refine pm_r rfl rfl rfl ?_ | refine pm_rz rfl rfl rfl ?_)
    exact ⟨rfl, hw'⟩)
set_option maxHeartbeats 4000000 in
set_option maxRecDepth 100000 in
theorem ww_can1 {T s f t : Nat} (hT : T = 6 ∨ T = 15) (hW : sy_WS al) (hTT : sy_T T I al) (hs : s < al 4 0) (ht : t ≤ 900000) (hf : f < 8) (ho : I 4 s = nI (ob mv s)) (h1 : ld al s f) (h2 : gn (al 9 0) (al 8 s) t (mv s (sd al s f))) : pm_R X mm_X2_canBeginAt.1 0 [some (.ref 3), some (.ref T), some (.int (nI s)), some (.int (nI f)), some (.int (nI t))] [] (41, sy_R c, I, J) (fun o w' => o = some (.int 1) ∧ w' = (41, sy_R c, I, J)) := by
  have hb := ww_begin (X := X) (c := c) (J := J) hT hW hTT hs ht hf ho
  rw [(bg_gn (by have := hW.2.2.2.2.1; omega)).mpr h2] at hb
  have hl := tw_lf1 (X := X) (c := c) (J := J) hT hW hTT hs h1
  have e1 : ov (some t) = nI t := rfl
  rcases hT with rfl | rfl
  all_goals (
    (repeat' first | refine pm_s rfl rfl ?_ | refine pm_ifT (by assumption) ?_ | refine pm_ifF (by assumption) ?_ | refine pm_ial rfl rfl (by assumption) ?_ | refine pm_ias rfl rfl rfl (by assumption) ?_ | refine pm_r rfl rfl rfl ?_ | refine pm_rz rfl rfl rfl ?_)
    refine pm_cq rfl rfl rfl rfl rfl rfl hl ?_
    (repeat' first | refine pm_s rfl rfl ?_ | refine pm_ifT (by assumption) ?_ | refine pm_ifF (by assumption) ?_ | refine pm_ial rfl rfl (by assumption) ?_ | refine pm_ias rfl rfl rfl (by assumption) ?_ | refine pm_r rfl rfl rfl ?_ | refine pm_rz rfl rfl rfl ?_)
    refine pm_cq rfl rfl rfl rfl rfl rfl hb ?_
    (repeat' first | refine pm_s rfl rfl ?_ | refine pm_ifT (by assumption) ?_ | refine pm_ifF (by assumption) ?_ | refine pm_ial rfl rfl (by assumption) ?_ | refine pm_ias rfl rfl rfl (by assumption) ?_ | refine pm_r rfl rfl rfl ?_ | refine pm_rz rfl rfl rfl ?_)
    exact ⟨rfl, rfl⟩)
set_option maxHeartbeats 4000000 in
set_option maxRecDepth 100000 in
theorem ww_can0 {T s f t : Nat} (hT : T = 6 ∨ T = 15) (hW : sy_WS al) (hTT : sy_T T I al) (hs : s < al 4 0) (ht : t ≤ 900000) (hf : f < 8) (ho : I 4 s = nI (ob mv s)) (h : ¬ (ld al s f ∧ gn (al 9 0) (al 8 s) t (mv s (sd al s f)))) : pm_R X mm_X2_canBeginAt.1 0 [some (.ref 3), some (.ref T), some (.int (nI s)), some (.int (nI f)), some (.int (nI t))] [] (41, sy_R c, I, J) (fun o w' => o = some (.int 0) ∧ w' = (41, sy_R c, I, J)) := by
  have hH := hW.2.2.2.2
  by_cases h1 : ld al s f
  · have hb := ww_begin (X := X) (c := c) (J := J) hT hW hTT hs ht hf ho
    have hl := tw_lf1 (X := X) (c := c) (J := J) hT hW hTT hs h1
    have e1 : ¬ ov (bg (al 9 0) (al 8 s) t (mv s (sd al s f))) = nI t := by
      rw [ov_eq (fun b hb => by have := bg_lt hH.2 (by omega) hb; omega) (by omega), bg_gn (by omega)]
      exact fun z => h ⟨h1, z⟩
    rcases hT with rfl | rfl
    all_goals (
      (repeat' first | refine pm_s rfl rfl ?_ | refine pm_ifT (by assumption) ?_ | refine pm_ifF (by assumption) ?_ | refine pm_ial rfl rfl (by assumption) ?_ | refine pm_ias rfl rfl rfl (by assumption) ?_ | refine pm_r rfl rfl rfl ?_ | refine pm_rz rfl rfl rfl ?_)
      refine pm_cq rfl rfl rfl rfl rfl rfl hl ?_
      (repeat' first | refine pm_s rfl rfl ?_ | refine pm_ifT (by assumption) ?_ | refine pm_ifF (by assumption) ?_ | refine pm_ial rfl rfl (by assumption) ?_ | refine pm_ias rfl rfl rfl (by assumption) ?_ | refine pm_r rfl rfl rfl ?_ | refine pm_rz rfl rfl rfl ?_)
      refine pm_cq rfl rfl rfl rfl rfl rfl hb ?_
      (repeat' first | refine pm_s rfl rfl ?_ | refine pm_ifT (by assumption) ?_ | refine pm_ifF (by assumption) ?_ | refine pm_ial rfl rfl (by assumption) ?_ | refine pm_ias rfl rfl rfl (by assumption) ?_ | refine pm_r rfl rfl rfl ?_ | refine pm_rz rfl rfl rfl ?_)
      exact ⟨rfl, rfl⟩)
  · have hl := tw_lf0 (X := X) (c := c) (J := J) hT hW hTT hs hf h1
    rcases hT with rfl | rfl
    all_goals (
      (repeat' first | refine pm_s rfl rfl ?_ | refine pm_ifT (by assumption) ?_ | refine pm_ifF (by assumption) ?_ | refine pm_ial rfl rfl (by assumption) ?_ | refine pm_ias rfl rfl rfl (by assumption) ?_ | refine pm_r rfl rfl rfl ?_ | refine pm_rz rfl rfl rfl ?_)
      refine pm_cq rfl rfl rfl rfl rfl rfl hl ?_
      (repeat' first | refine pm_s rfl rfl ?_ | refine pm_ifT (by assumption) ?_ | refine pm_ifF (by assumption) ?_ | refine pm_ial rfl rfl (by assumption) ?_ | refine pm_ias rfl rfl rfl (by assumption) ?_ | refine pm_r rfl rfl rfl ?_ | refine pm_rz rfl rfl rfl ?_)
      exact ⟨rfl, rfl⟩)
end WE
end
section
section WF
variable {X : Nat × (Nat → Int32)} {al al' : Nat → Nat → Nat} {c : Nat} {I I' : Nat → Nat → Int32} {J J' : Nat → Nat → Int64} {K : Option Value → pm_Wo → Prop} {mv : Nat → Nat → Nat → Bool}
theorem sy_C.scr (hc : c = 6 ∨ c = 15) (h : sy_C c I al) (hI : ∀ a, a ≠ 4 → a ≠ 5 → I' a = I a) : sy_C c I' al := by
  have h1 : sy_T c I' al := h.1.cong (fun a _ _ => hI a (by omega) (by omega))
  refine ⟨h1, ?_⟩
  have h2 := h.2
  rw [hI 0 (by decide) (by decide), hI 1 (by decide) (by decide), hI 2 (by decide) (by decide), hI 24 (by decide) (by decide), hI 25 (by decide) (by decide), hI 26 (by decide) (by decide), hI 27 (by decide) (by decide), hI 28 (by decide) (by decide), hI 29 (by decide) (by decide)]
  exact h2
theorem ix4z {s : Nat} (hs : s < 12) : ((0 : Int32) ≤ 4 * nI s ∧ (4 * nI s).toNatClampNeg < 48) ∧ (4 * nI s).toNatClampNeg = 4 * s := by
  rw [show (4 : Int32) = nI 4 from rfl, pk_mul]
  exact ⟨sy_idx (by omega) (by decide), nI_clamp (by omega)⟩
/-- what the streets need of the model: streets' rows -/
def sy_St (I : Nat → Nat → Int32) (al : Nat → Nat → Nat) : Prop := ∀ i, i < 12 → I 32 (4 * i) = nI (al 5 i) ∧ I 32 (4 * i + 1) = nI (al 6 i) ∧ I 32 (4 * i + 2) = nI (al 7 i) ∧ I 32 (4 * i + 3) = nI (al 8 i)
theorem md_side {s f : Nat} (hW : sy_WS al) (h : sy_St I al) (hs : s < al 4 0) (hf : f < 8) : pm_R X mm_X4_sideOf.1 0 [some (.ref 30), some (.int (nI s)), some (.int (nI f))] [] (41, sy_R c, I, J) (fun o w' => o = some (.int (if al 5 s = f then 0 else if al 6 s = f then 1 else -1)) ∧ w' = (41, sy_R c, I, J)) := by
  have hns := hW.2.2.1
  have hn := hW.1
  obtain ⟨⟨k1, k2, k3⟩, -⟩ := hW.2.2.2.1 s hs
  obtain ⟨z1, z2, z3, z4⟩ := h s (by omega)
  obtain ⟨i0, t0⟩ := ix4z (s := s) (by omega)
  obtain ⟨i1, t1⟩ := ix4 (s := s) (m := 1) (by omega) (by omega)
  have i1 : (0 : Int32) ≤ 4 * nI s + 1 ∧ (4 * nI s + 1).toNatClampNeg < 48 := i1
  have t1 : (4 * nI s + 1).toNatClampNeg = 4 * s + 1 := t1
  have q1 : (I 32 (4 * nI s).toNatClampNeg = nI f) = (al 5 s = f) := by rw [t0, z1, nI_eq' (by omega) (by omega)]
  have q2 : (I 32 (4 * nI s + 1).toNatClampNeg = nI f) = (al 6 s = f) := by rw [t1, z2, nI_eq' (by omega) (by omega)]
  by_cases h1 : al 5 s = f
  · rw [if_pos h1]
    rw [← q1] at h1
    (repeat' first | refine pm_s rfl rfl ?_ | refine pm_ifT (by assumption) ?_ | refine pm_ifF (by assumption) ?_ | refine pm_ial rfl rfl (by assumption) ?_ | refine pm_ias rfl rfl rfl (by assumption) ?_ | refine pm_r rfl rfl rfl ?_ | refine pm_rz rfl rfl rfl ?_)
    exact ⟨rfl, rfl⟩
  · rw [if_neg h1]
    rw [← q1] at h1
    by_cases h2 : al 6 s = f
    · rw [if_pos h2]
      rw [← q2] at h2
      (repeat' first | refine pm_s rfl rfl ?_ | refine pm_ifT (by assumption) ?_ | refine pm_ifF (by assumption) ?_ | refine pm_ial rfl rfl (by assumption) ?_ | refine pm_ias rfl rfl rfl (by assumption) ?_ | refine pm_r rfl rfl rfl ?_ | refine pm_rz rfl rfl rfl ?_)
      exact ⟨rfl, rfl⟩
    · rw [if_neg h2]
      rw [← q2] at h2
      (repeat' first | refine pm_s rfl rfl ?_ | refine pm_ifT (by assumption) ?_ | refine pm_ifF (by assumption) ?_ | refine pm_ial rfl rfl (by assumption) ?_ | refine pm_ias rfl rfl rfl (by assumption) ?_ | refine pm_r rfl rfl rfl ?_ | refine pm_rz rfl rfl rfl ?_)
      exact ⟨rfl, rfl⟩
theorem sd_1 {s f : Nat} (h : ld al s f) (hne : al 5 s ≠ al 6 s) : (if al 5 s = f then (0 : Int32) else if al 6 s = f then 1 else -1) = nI (sd al s f) := by
  unfold sd
  by_cases h1 : al 5 s = f
  · rw [if_pos h1, if_pos h1]; rfl
  · rw [if_neg h1, if_neg h1, if_pos (h.resolve_left h1)]; rfl
theorem sd_0 {s f : Nat} (h : ¬ ld al s f) : (if al 5 s = f then (0 : Int32) else if al 6 s = f then 1 else -1) = -1 := by
  rw [if_neg (fun q => h (Or.inl q)), if_neg (fun q => h (Or.inr q))]
theorem sd_le (s f : Nat) : sd al s f ≤ 1 := by unfold sd; split <;> omega
theorem sd_m1 (s f : Nat) : ¬ nI (sd al s f) = -1 := by unfold sd; split <;> decide
set_option maxHeartbeats 4000000 in
set_option maxRecDepth 100000 in
theorem md_can {s f t st lw rp : Nat} (hW : sy_WS al) (hM : sy_My I al st lw rp) (hst : st < 2 ^ 31) (hlw : lw ≤ 2) (e6 : I 30 6 = nI (al 9 0)) (hs : s < al 4 0) (hf : f < 8) (ht : t ≤ 900000) (b : Bool) (hb : (b = true) ↔ (ld al s f ∧ gn (al 9 0) (al 8 s) t (my al st lw rp s (sd al s f)))) : pm_R X mm_X4_canGo.1 0 [some (.ref 30), some (.int (nI s)), some (.int (nI f)), some (.int (nI t)), none] [] (41, sy_R c, I, J) (fun o w' => o = some (.int (if b = true then 1 else 0)) ∧ w' = (41, sy_R c, I, J)) := by
  obtain ⟨hn, hhh, hns, hstr, hH1, hH2⟩ := id hW
  obtain ⟨⟨k1, k2, k3⟩, k4, k5, k6⟩ := hstr s hs
  obtain ⟨z1, z2, z3, z4⟩ := hM.2.2.2.1 s (by omega)
  have hside := md_side (X := X) (c := c) (J := J) hW hM.2.2.2.1 hs hf
  by_cases hl : ld al s f
  · rw [sd_1 hl k3] at hside
    have n1 := sd_m1 (al := al) s f
    have n0 : ¬ I 30 6 = 0 := by rw [e6]; exact nI_ne0 (by omega) (by omega)
    obtain ⟨i3, t3⟩ := ix4 (s := s) (m := 3) (by omega) (by omega)
    have i3 : (0 : Int32) ≤ 4 * nI s + 3 ∧ (4 * nI s + 3).toNatClampNeg < 48 := i3
    have t3 : (4 * nI s + 3).toNatClampNeg = 4 * s + 3 := t3
    have hlm := Nat.mod_lt t (show 0 < al 9 0 by omega)
    have hdm := Nat.div_add_mod t (al 9 0)
    have hd : t / al 9 0 ≤ t := Nat.div_le_self _ _
    have hc1 : (t / al 9 0 + 1) * al 9 0 = al 9 0 * (t / al 9 0) + al 9 0 := by rw [Nat.add_mul, Nat.one_mul, Nat.mul_comm]
    have hF : (I 30 6 < nI t - nI t / I 30 6 * I 30 6 + I 32 (4 * nI s + 3).toNatClampNeg) = ¬ (t + al 8 s ≤ (t / al 9 0 + 1) * al 9 0) := by
      rw [e6, t3, z4, pk_rem (by omega) (by omega) (by omega), nI_add, nI_lt' (by omega) (by omega)]
      exact propext ⟨fun z => by omega, fun z => by omega⟩
    have hq : nI t / I 30 6 - nI t / I 30 6 / 2 * 2 = nI (t / al 9 0 % 2) := by
      rw [e6, pk_div (by omega) (by omega) (by omega)]
      exact pk_rem (d := 2) (by omega) (by decide) (by decide)
    by_cases hg : t + al 8 s ≤ (t / al 9 0 + 1) * al 9 0
    · have f1 : ¬ (I 30 6 < nI t - nI t / I 30 6 * I 30 6 + I 32 (4 * nI s + 3).toNatClampNeg) := by rw [hF]; exact fun z => z hg
      have hm := md_my (X := X) (c := c) (J := J) hW hM hst hlw hs (sd_le (al := al) s f) (show t / al 9 0 % 2 ≤ 1 by omega)
      rw [← hq] at hm
      have hbb : my al st lw rp s (sd al s f) (t / al 9 0 % 2) = b := by
        cases hy : my al st lw rp s (sd al s f) (t / al 9 0 % 2) with
        | true => exact (hb.mpr ⟨hl, hg, hy⟩).symm
        | false =>
          cases b with
          | false => rfl
          | true => exact absurd (hb.mp rfl).2.2 (by rw [hy]; decide)
      rw [hbb] at hm
      (repeat' first | refine pm_s rfl rfl ?_ | refine pm_ifT (by assumption) ?_ | refine pm_ifF (by assumption) ?_ | refine pm_ial rfl rfl (by assumption) ?_ | refine pm_ias rfl rfl rfl (by assumption) ?_ | refine pm_r rfl rfl rfl ?_ | refine pm_rz rfl rfl rfl ?_)
      refine pm_cq rfl rfl rfl rfl rfl rfl hside ?_
      (repeat' first | refine pm_s rfl rfl ?_ | refine pm_ifT (by assumption) ?_ | refine pm_ifF (by assumption) ?_ | refine pm_ial rfl rfl (by assumption) ?_ | refine pm_ias rfl rfl rfl (by assumption) ?_ | refine pm_r rfl rfl rfl ?_ | refine pm_rz rfl rfl rfl ?_)
      refine pm_rm rfl n0 ?_
      (repeat' first | refine pm_s rfl rfl ?_ | refine pm_ifT (by assumption) ?_ | refine pm_ifF (by assumption) ?_ | refine pm_ial rfl rfl (by assumption) ?_ | refine pm_ias rfl rfl rfl (by assumption) ?_ | refine pm_r rfl rfl rfl ?_ | refine pm_rz rfl rfl rfl ?_)
      refine pm_dv rfl n0 ?_
      (repeat' first | refine pm_s rfl rfl ?_ | refine pm_ifT (by assumption) ?_ | refine pm_ifF (by assumption) ?_ | refine pm_ial rfl rfl (by assumption) ?_ | refine pm_ias rfl rfl rfl (by assumption) ?_ | refine pm_r rfl rfl rfl ?_ | refine pm_rz rfl rfl rfl ?_)
      refine pm_cq rfl rfl rfl rfl rfl rfl hm ?_
      cases b
      all_goals (
        (repeat' first | refine pm_s rfl rfl ?_ | refine pm_ifT (by assumption) ?_ | refine pm_ifF (by assumption) ?_ | refine pm_ial rfl rfl (by assumption) ?_ | refine pm_ias rfl rfl rfl (by assumption) ?_ | refine pm_r rfl rfl rfl ?_ | refine pm_rz rfl rfl rfl ?_)
        exact ⟨rfl, rfl⟩)
    · have f1 : (I 30 6 < nI t - nI t / I 30 6 * I 30 6 + I 32 (4 * nI s + 3).toNatClampNeg) := by rw [hF]; exact hg
      have hb0 : b = false := by
        cases b with
        | false => rfl
        | true => exact absurd (hb.mp rfl).2.1 hg
      subst hb0
      (repeat' first | refine pm_s rfl rfl ?_ | refine pm_ifT (by assumption) ?_ | refine pm_ifF (by assumption) ?_ | refine pm_ial rfl rfl (by assumption) ?_ | refine pm_ias rfl rfl rfl (by assumption) ?_ | refine pm_r rfl rfl rfl ?_ | refine pm_rz rfl rfl rfl ?_)
      refine pm_cq rfl rfl rfl rfl rfl rfl hside ?_
      (repeat' first | refine pm_s rfl rfl ?_ | refine pm_ifT (by assumption) ?_ | refine pm_ifF (by assumption) ?_ | refine pm_ial rfl rfl (by assumption) ?_ | refine pm_ias rfl rfl rfl (by assumption) ?_ | refine pm_r rfl rfl rfl ?_ | refine pm_rz rfl rfl rfl ?_)
      refine pm_rm rfl n0 ?_
      (repeat' first | refine pm_s rfl rfl ?_ | refine pm_ifT (by assumption) ?_ | refine pm_ifF (by assumption) ?_ | refine pm_ial rfl rfl (by assumption) ?_ | refine pm_ias rfl rfl rfl (by assumption) ?_ | refine pm_r rfl rfl rfl ?_ | refine pm_rz rfl rfl rfl ?_)
      exact ⟨rfl, rfl⟩
  · rw [sd_0 hl] at hside
    have hb0 : b = false := by
      cases b with
      | false => rfl
      | true => exact absurd (hb.mp rfl).1 hl
    subst hb0
    (repeat' first | refine pm_s rfl rfl ?_ | refine pm_ifT (by assumption) ?_ | refine pm_ifF (by assumption) ?_ | refine pm_ial rfl rfl (by assumption) ?_ | refine pm_ias rfl rfl rfl (by assumption) ?_ | refine pm_r rfl rfl rfl ?_ | refine pm_rz rfl rfl rfl ?_)
    refine pm_cq rfl rfl rfl rfl rfl rfl hside ?_
    (repeat' first | refine pm_s rfl rfl ?_ | refine pm_ifT (by assumption) ?_ | refine pm_ifF (by assumption) ?_ | refine pm_ial rfl rfl (by assumption) ?_ | refine pm_ias rfl rfl rfl (by assumption) ?_ | refine pm_r rfl rfl rfl ?_ | refine pm_rz rfl rfl rfl ?_)
    exact ⟨rfl, rfl⟩
theorem sy_C.min {v : Nat} (hc : c = 6 ∨ c = 15) (h : sy_C c I al) : sy_C c (pm_u I 0 5 (nI v)) (pm_u al 23 0 v) := by
  obtain ⟨c1, c2, c3, c4, c5, c6⟩ := h
  exact ⟨by rcases hc with rfl | rfl <;> simpa [sy_T, pm_u] using c1, by simpa [pm_u] using c2, ⟨by simpa [pm_u] using c3.1, by simp [pm_u]⟩, by simpa [pm_u] using c4, by simpa [pm_u] using c5, by simpa [pm_u] using c6⟩
theorem sy_C.sta {v : Nat} (hc : c = 6 ∨ c = 15) (h : sy_C c I al) : sy_C c (pm_u I 0 4 (nI v)) (pm_u al 22 0 v) := by
  obtain ⟨c1, c2, c3, c4, c5, c6⟩ := h
  exact ⟨by rcases hc with rfl | rfl <;> simpa [sy_T, pm_u] using c1, by simpa [pm_u] using c2, ⟨by simp [pm_u], by simpa [pm_u] using c3.2⟩, by simpa [pm_u] using c4, by simpa [pm_u] using c5, by simpa [pm_u] using c6⟩
theorem sy_M.min {v : Nat} (h : sy_M I al) : sy_M (pm_u I 30 23 (nI v)) (pm_u al 23 0 v) := by
  obtain ⟨c1, c2, c3, c4, c5, c6⟩ := h
  exact ⟨by simpa [sy_TM, pm_u] using c1, by simpa [pm_u] using c2, ⟨by simpa [pm_u] using c3.1, by simp [pm_u]⟩, by simpa [pm_u] using c4, by simpa [pm_u] using c5, by simpa [pm_u] using c6⟩
theorem sy_M.sta {v : Nat} (h : sy_M I al) : sy_M (pm_u I 30 22 (nI v)) (pm_u al 22 0 v) := by
  obtain ⟨c1, c2, c3, c4, c5, c6⟩ := h
  exact ⟨by simpa [sy_TM, pm_u] using c1, by simpa [pm_u] using c2, ⟨by simp [pm_u], by simpa [pm_u] using c3.2⟩, by simpa [pm_u] using c4, by simpa [pm_u] using c5, by simpa [pm_u] using c6⟩
theorem sy_M.my (h : sy_M I al) : sy_My I al (al 3 0) (al 10 0) 99 := by
  refine ⟨h.1.1.2.1, h.1.1.2.2.2.2.1, h.1.2.1, h.1.2.2.1, fun s hs => ?_⟩
  rw [h.2.2.2.2.2.2]
  refine propext ⟨fun q => ?_, fun q => by omega⟩
  have := congrArg Int32.toInt q
  rw [nI_toInt (by omega)] at this
  have e1 : (-1 : Int32).toInt = -1 := rfl
  omega
theorem sy_W.st (h : sy_W al) : al 3 0 < 2 ^ 31 ∧ al 3 0 < 256 := by
  have h1 := h.1.2.2.1
  have h2 := h.1.1.2
  have h3 : 2 ^ al 0 0 ≤ 2 ^ 8 := Nat.pow_le_pow_right (by decide) h2
  omega
end WF
set_option maxHeartbeats 4000000 in
set_option maxRecDepth 100000 in
theorem op_go {X : Nat × (Nat → Int32)} {al : Nat → Nat → Nat} (hW : sy_W al) (a : Int32) : sy_Op X mm_X3_go mm_X4_go [some (.int a)] al := by
  obtain ⟨w1, w2, w3, w4, w5, w6⟩ := id hW
  have hn := w1.2.2.2.1
  have hWS := w1.s
  have hst := hW.st.1
  have hlw := w1.2.2.2.2.2.2.1
  have hf8 : al 22 0 < 8 := by have := w1.1.2; omega
  have ht := w3.2
  have key : (a < 0 ∨ nI (al 4 0) ≤ a) → sy_Op X mm_X3_go mm_X4_go [some (.int a)] al := by
    intro h
    refine ⟨-2, al, hW, ?_, ?_⟩
    · intro c I J hc hC
      have e0 := hC.1.1.2.2.1
      rcases hc with rfl | rfl
      · (repeat' first | refine pm_s rfl rfl ?_ | refine pm_ifT (by assumption) ?_ | refine pm_ifF (by assumption) ?_ | refine pm_ial rfl rfl (by assumption) ?_ | refine pm_ias rfl rfl rfl (by assumption) ?_ | refine pm_r rfl rfl rfl ?_ | refine pm_rz rfl rfl rfl ?_)
        refine pm_cq rfl rfl rfl rfl rfl rfl (tw_hst0 (Or.inl rfl) e0 hn h) ?_
        (repeat' first | refine pm_s rfl rfl ?_ | refine pm_ifT (by assumption) ?_ | refine pm_ifF (by assumption) ?_ | refine pm_ial rfl rfl (by assumption) ?_ | refine pm_ias rfl rfl rfl (by assumption) ?_ | refine pm_r rfl rfl rfl ?_ | refine pm_rz rfl rfl rfl ?_)
        exact cl_0 (Or.inl rfl) hC rfl
      · (repeat' first | refine pm_s rfl rfl ?_ | refine pm_ifT (by assumption) ?_ | refine pm_ifF (by assumption) ?_ | refine pm_ial rfl rfl (by assumption) ?_ | refine pm_ias rfl rfl rfl (by assumption) ?_ | refine pm_r rfl rfl rfl ?_ | refine pm_rz rfl rfl rfl ?_)
        refine pm_cq rfl rfl rfl rfl rfl rfl (tw_hst0 (Or.inr rfl) e0 hn h) ?_
        (repeat' first | refine pm_s rfl rfl ?_ | refine pm_ifT (by assumption) ?_ | refine pm_ifF (by assumption) ?_ | refine pm_ial rfl rfl (by assumption) ?_ | refine pm_ias rfl rfl rfl (by assumption) ?_ | refine pm_r rfl rfl rfl ?_ | refine pm_rz rfl rfl rfl ?_)
        exact cl_0 (Or.inr rfl) hC rfl
    · intro c I J hc hC
      (repeat' first | refine pm_s rfl rfl ?_ | refine pm_ifT (by assumption) ?_ | refine pm_ifF (by assumption) ?_ | refine pm_ial rfl rfl (by assumption) ?_ | refine pm_ias rfl rfl rfl (by assumption) ?_ | refine pm_r rfl rfl rfl ?_ | refine pm_rz rfl rfl rfl ?_)
      refine pm_cq rfl rfl rfl rfl rfl rfl (md_isS0 hC.1.1.2.2.1 hn h) ?_
      (repeat' first | refine pm_s rfl rfl ?_ | refine pm_ifT (by assumption) ?_ | refine pm_ifF (by assumption) ?_ | refine pm_ial rfl rfl (by assumption) ?_ | refine pm_ias rfl rfl rfl (by assumption) ?_ | refine pm_r rfl rfl rfl ?_ | refine pm_rz rfl rfl rfl ?_)
      exact ml_0 hC rfl
  rcases pk_ix a (n := al 4 0) (by omega) with h | h | ⟨s, hs, rfl⟩
  · exact key (Or.inl h)
  · exact key (Or.inr h)
  obtain ⟨⟨k1, k2, k3⟩, k4, k5, k6⟩ := w1.2.2.2.2.1 s hs
  have hi := sy_idx (k := s) (N := 12) (by omega) (by decide)
  have t0 : (nI s).toNatClampNeg = s := nI_clamp (by omega)
  obtain ⟨i3, t3⟩ := ix4 (s := s) (m := 3) (by omega) (by omega)
  have i3 : (0 : Int32) ≤ 4 * nI s + 3 ∧ (4 * nI s + 3).toNatClampNeg < 48 := i3
  have t3 : (4 * nI s + 3).toNatClampNeg = 4 * s + 3 := t3
  by_cases hg : ld al s (al 22 0) ∧ gn (al 9 0) (al 8 s) (al 23 0) (my al (al 3 0) (al 10 0) 99 s (sd al s (al 22 0)))
  · by_cases hfull : al 23 0 + al 8 s ≤ 99999
    · have hle : nI (al 23 0) + nI (al 8 s) ≤ 99999 := by rw [nI_add]; exact (nI_leI (b := 99999) (by omega) (by decide)).mpr hfull
      refine ⟨nI (al 23 0 + al 8 s), pm_u (pm_u al 23 0 (al 23 0 + al 8 s)) 22 0 (oe al s (al 22 0)), ?_, ?_, ?_⟩
      · refine ⟨by simpa [sy_WT, pm_u] using w1, by simpa [pm_u] using w2, ?_, by simpa [pm_u] using w4, by simpa [pm_u] using w5, by simpa [pm_u] using w6⟩
        refine ⟨?_, by simpa [pm_u] using hfull⟩
        simp [pm_u]
        unfold oe
        split <;> omega
      · intro c I J hc hC
        have e0 := hC.1.1.2.2.1
        have e4 : I 0 4 = nI (al 22 0) := hC.2.2.1.1
        have e5 : I 0 5 = nI (al 23 0) := hC.2.2.1.2
        have l1 := tw_hst1 (X := X) (R := sy_R c) (J := J) hc e0 hn hs
        have l2 := tw_lf1 (X := X) (c := c) (J := J) hc hWS hC.1 hs hg.1
        have l3 := ww_lai (X := X) (c := c) (J := J) (st := 0) (lw := 0) hc hWS hC.1 hst hlw
        rw [← e4] at l2
        have fin : ∀ I1 : Nat → Nat → Int32, (∀ i, i < al 4 0 → I1 4 i = nI (ob (my al (al 3 0) (al 10 0) 99) i)) → (∀ a, a ≠ 4 → I1 a = I a) → pm_R X mm_X3_go.1 43 [some (.ref 0), some (.int (nI s))] [] (41, sy_R c, I1, J) (fun o w => o = some (.int (nI (al 23 0 + al 8 s))) ∧ ∃ c' I', (c' = 6 ∨ c' = 15) ∧ w = (41, sy_R c', I', J) ∧ sy_C c' I' (pm_u (pm_u al 23 0 (al 23 0 + al 8 s)) 22 0 (oe al s (al 22 0))) ∧ ∀ a, 30 ≤ a → I' a = I a) := by
          intro I1 ho hI1
          have hC1 : sy_C c I1 al := hC.scr hc (fun a h4 _ => hI1 a h4)
          have e41 : I1 0 4 = nI (al 22 0) := hC1.2.2.1.1
          have e51 : I1 0 5 = nI (al 23 0) := hC1.2.2.1.2
          have q4 : I1 (c + 6) (nI s).toNatClampNeg = nI (al 8 s) := by rw [t0]; exact (hC1.1.2.2.1 s (by omega)).2.2.2
          have l4 := ww_can1 (X := X) (c := c) (J := J) hc hWS hC1.1 hs (by omega) hf8 (ho s hs) hg.1 hg.2
          rw [← e41, ← e51] at l4
          have hle1 : I1 0 5 + I1 (c + 6) (nI s).toNatClampNeg ≤ 99999 := by rw [e51, q4]; exact hle
          have hC2 : sy_C c (pm_u I1 0 5 (nI (al 23 0 + al 8 s))) (pm_u al 23 0 (al 23 0 + al 8 s)) := hC1.min hc
          have l5 := tw_oe (X := X) (c := c) (J := J) (I := pm_u I1 0 5 (nI (al 23 0 + al 8 s))) (al := pm_u al 23 0 (al 23 0 + al 8 s)) hc (by simpa [sy_WS, pm_u] using hWS) hC2.1 (s := s) (f := al 22 0) (by simpa [pm_u] using hs) hf8
          have eoe : oe (pm_u al 23 0 (al 23 0 + al 8 s)) s (al 22 0) = oe al s (al 22 0) := by simp [oe, pm_u]
          have e42 : pm_u I1 0 5 (nI (al 23 0 + al 8 s)) 0 4 = nI (al 22 0) := by rw [pm_u_slot (by decide)]; exact e41
          have e7 : I1 0 5 + I1 (c + 6) (nI s).toNatClampNeg = nI (al 23 0 + al 8 s) := by rw [e51, q4, nI_add]
          rw [eoe, ← e42, ← e7] at l5
          have hfin : sy_C c (pm_u (pm_u I1 0 5 (I1 0 5 + I1 (c + 6) (nI s).toNatClampNeg)) 0 4 (nI (oe al s (al 22 0)))) (pm_u (pm_u al 23 0 (al 23 0 + al 8 s)) 22 0 (oe al s (al 22 0))) := by
            rw [e7]
            exact hC2.sta hc
          rcases hc with rfl | rfl
          · (repeat' first | refine pm_s rfl rfl ?_ | refine pm_ifT (by assumption) ?_ | refine pm_ifF (by assumption) ?_ | refine pm_ial rfl rfl (by assumption) ?_ | refine pm_ias rfl rfl rfl (by assumption) ?_ | refine pm_r rfl rfl rfl ?_ | refine pm_rz rfl rfl rfl ?_)
            refine pm_cq rfl rfl rfl rfl rfl rfl l4 ?_
            (repeat' first | refine pm_s rfl rfl ?_ | refine pm_ifT (by assumption) ?_ | refine pm_ifF (by assumption) ?_ | refine pm_ial rfl rfl (by assumption) ?_ | refine pm_ias rfl rfl rfl (by assumption) ?_ | refine pm_r rfl rfl rfl ?_ | refine pm_rz rfl rfl rfl ?_)
            refine pm_cq rfl rfl rfl rfl rfl rfl l5 ?_
            (repeat' first | refine pm_s rfl rfl ?_ | refine pm_ifT (by assumption) ?_ | refine pm_ifF (by assumption) ?_ | refine pm_ial rfl rfl (by assumption) ?_ | refine pm_ias rfl rfl rfl (by assumption) ?_ | refine pm_r rfl rfl rfl ?_ | refine pm_rz rfl rfl rfl ?_)
            refine cl_1 (Or.inl rfl) hfin (fun a ha => ?_) ?_
            · rw [pm_uG ha rfl, pm_uG ha rfl]; exact hI1 a (by omega)
            · rw [pm_u_slot (by decide), pm_u_same]; exact e7
          · (repeat' first | refine pm_s rfl rfl ?_ | refine pm_ifT (by assumption) ?_ | refine pm_ifF (by assumption) ?_ | refine pm_ial rfl rfl (by assumption) ?_ | refine pm_ias rfl rfl rfl (by assumption) ?_ | refine pm_r rfl rfl rfl ?_ | refine pm_rz rfl rfl rfl ?_)
            refine pm_cq rfl rfl rfl rfl rfl rfl l4 ?_
            (repeat' first | refine pm_s rfl rfl ?_ | refine pm_ifT (by assumption) ?_ | refine pm_ifF (by assumption) ?_ | refine pm_ial rfl rfl (by assumption) ?_ | refine pm_ias rfl rfl rfl (by assumption) ?_ | refine pm_r rfl rfl rfl ?_ | refine pm_rz rfl rfl rfl ?_)
            refine pm_cq rfl rfl rfl rfl rfl rfl l5 ?_
            (repeat' first | refine pm_s rfl rfl ?_ | refine pm_ifT (by assumption) ?_ | refine pm_ifF (by assumption) ?_ | refine pm_ial rfl rfl (by assumption) ?_ | refine pm_ias rfl rfl rfl (by assumption) ?_ | refine pm_r rfl rfl rfl ?_ | refine pm_rz rfl rfl rfl ?_)
            refine cl_1 (Or.inr rfl) hfin (fun a ha => ?_) ?_
            · rw [pm_uG ha rfl, pm_uG ha rfl]; exact hI1 a (by omega)
            · rw [pm_u_slot (by decide), pm_u_same]; exact e7
        rcases hc with rfl | rfl
        · (repeat' first | refine pm_s rfl rfl ?_ | refine pm_ifT (by assumption) ?_ | refine pm_ifF (by assumption) ?_ | refine pm_ial rfl rfl (by assumption) ?_ | refine pm_ias rfl rfl rfl (by assumption) ?_ | refine pm_r rfl rfl rfl ?_ | refine pm_rz rfl rfl rfl ?_)
          refine pm_cq rfl rfl rfl rfl rfl rfl l1 ?_
          (repeat' first | refine pm_s rfl rfl ?_ | refine pm_ifT (by assumption) ?_ | refine pm_ifF (by assumption) ?_ | refine pm_ial rfl rfl (by assumption) ?_ | refine pm_ias rfl rfl rfl (by assumption) ?_ | refine pm_r rfl rfl rfl ?_ | refine pm_rz rfl rfl rfl ?_)
          refine pm_cq rfl rfl rfl rfl rfl rfl l2 ?_
          (repeat' first | refine pm_s rfl rfl ?_ | refine pm_ifT (by assumption) ?_ | refine pm_ifF (by assumption) ?_ | refine pm_ial rfl rfl (by assumption) ?_ | refine pm_ias rfl rfl rfl (by assumption) ?_ | refine pm_r rfl rfl rfl ?_ | refine pm_rz rfl rfl rfl ?_)
          refine pm_cv rfl rfl rfl rfl rfl rfl l3 ?_
          rintro w' ⟨I1, rfl, ho, hI1⟩
          exact fin I1 ho hI1
        · (repeat' first | refine pm_s rfl rfl ?_ | refine pm_ifT (by assumption) ?_ | refine pm_ifF (by assumption) ?_ | refine pm_ial rfl rfl (by assumption) ?_ | refine pm_ias rfl rfl rfl (by assumption) ?_ | refine pm_r rfl rfl rfl ?_ | refine pm_rz rfl rfl rfl ?_)
          refine pm_cq rfl rfl rfl rfl rfl rfl l1 ?_
          (repeat' first | refine pm_s rfl rfl ?_ | refine pm_ifT (by assumption) ?_ | refine pm_ifF (by assumption) ?_ | refine pm_ial rfl rfl (by assumption) ?_ | refine pm_ias rfl rfl rfl (by assumption) ?_ | refine pm_r rfl rfl rfl ?_ | refine pm_rz rfl rfl rfl ?_)
          refine pm_cq rfl rfl rfl rfl rfl rfl l2 ?_
          (repeat' first | refine pm_s rfl rfl ?_ | refine pm_ifT (by assumption) ?_ | refine pm_ifF (by assumption) ?_ | refine pm_ial rfl rfl (by assumption) ?_ | refine pm_ias rfl rfl rfl (by assumption) ?_ | refine pm_r rfl rfl rfl ?_ | refine pm_rz rfl rfl rfl ?_)
          refine pm_cv rfl rfl rfl rfl rfl rfl l3 ?_
          rintro w' ⟨I1, rfl, ho, hI1⟩
          exact fin I1 ho hI1
      · intro c I J hc hC
        have e4 : I 30 22 = nI (al 22 0) := hC.2.2.1.1
        have e5 : I 30 23 = nI (al 23 0) := hC.2.2.1.2
        obtain ⟨z1, z2, z3, z4⟩ := hC.1.2.2.1 s (by omega)
        have l1 := md_can (X := X) (c := c) (J := J) hWS hC.my hst hlw hC.1.1.2.2.2.1 hs hf8 (show al 23 0 ≤ 900000 by omega) true ⟨fun _ => hg, fun _ => rfl⟩
        rw [← e4, ← e5] at l1
        have q4 : I 32 (4 * nI s + 3).toNatClampNeg = nI (al 8 s) := by rw [t3]; exact z4
        have hle1 : I 30 23 + I 32 (4 * nI s + 3).toNatClampNeg ≤ 99999 := by rw [e5, q4]; exact hle
        have e7 : I 30 23 + I 32 (4 * nI s + 3).toNatClampNeg = nI (al 23 0 + al 8 s) := by rw [e5, q4, nI_add]
        have l2 := md_side (X := X) (c := c) (J := J) (I := pm_u I 30 23 (I 30 23 + I 32 (4 * nI s + 3).toNatClampNeg)) (al := al) (s := s) (f := al 22 0) hWS (by intro i hi; have := hC.1.2.2.1 i hi; simpa [pm_u] using this) hs hf8
        rw [sd_1 hg.1 k3] at l2
        have e42 : pm_u I 30 23 (I 30 23 + I 32 (4 * nI s + 3).toNatClampNeg) 30 22 = nI (al 22 0) := by rw [pm_u_slot (by decide)]; exact e4
        rw [← e42] at l2
        obtain ⟨i5, t5⟩ := ix4m (s := s) (m := sd al s (al 22 0)) (by omega) (sd_le (al := al) s (al 22 0))
        have q5 : I 32 (4 * nI s + 1 - nI (sd al s (al 22 0))).toNatClampNeg = nI (oe al s (al 22 0)) := by
          rw [t5]
          unfold sd oe
          by_cases hx : al 5 s = al 22 0
          · rw [if_pos hx, if_pos hx]; exact z2
          · rw [if_neg hx, if_neg hx]; exact z1
        have hfin : sy_M (pm_u (pm_u I 30 23 (I 30 23 + I 32 (4 * nI s + 3).toNatClampNeg)) 30 22 (nI (oe al s (al 22 0)))) (pm_u (pm_u al 23 0 (al 23 0 + al 8 s)) 22 0 (oe al s (al 22 0))) := by
          rw [e7]
          exact hC.min.sta
        (repeat' first | refine pm_s rfl rfl ?_ | refine pm_ifT (by assumption) ?_ | refine pm_ifF (by assumption) ?_ | refine pm_ial rfl rfl (by assumption) ?_ | refine pm_ias rfl rfl rfl (by assumption) ?_ | refine pm_r rfl rfl rfl ?_ | refine pm_rz rfl rfl rfl ?_)
        refine pm_cq rfl rfl rfl rfl rfl rfl (md_isS1 hC.1.1.2.2.1 hn hs) ?_
        (repeat' first | refine pm_s rfl rfl ?_ | refine pm_ifT (by assumption) ?_ | refine pm_ifF (by assumption) ?_ | refine pm_ial rfl rfl (by assumption) ?_ | refine pm_ias rfl rfl rfl (by assumption) ?_ | refine pm_r rfl rfl rfl ?_ | refine pm_rz rfl rfl rfl ?_)
        refine pm_cq rfl rfl rfl rfl rfl rfl l1 ?_
        (repeat' first | refine pm_s rfl rfl ?_ | refine pm_ifT (by assumption) ?_ | refine pm_ifF (by assumption) ?_ | refine pm_ial rfl rfl (by assumption) ?_ | refine pm_ias rfl rfl rfl (by assumption) ?_ | refine pm_r rfl rfl rfl ?_ | refine pm_rz rfl rfl rfl ?_)
        refine pm_cq rfl rfl rfl rfl rfl rfl l2 ?_
        (repeat' first | refine pm_s rfl rfl ?_ | refine pm_ifT (by assumption) ?_ | refine pm_ifF (by assumption) ?_ | refine pm_ial rfl rfl (by assumption) ?_ | refine pm_ias rfl rfl rfl (by assumption) ?_ | refine pm_r rfl rfl rfl ?_ | refine pm_rz rfl rfl rfl ?_)
        refine ml_1 (I' := pm_u (pm_u I 30 23 (I 30 23 + I 32 (4 * nI s + 3).toNatClampNeg)) 30 22 (I 32 (4 * nI s + 1 - nI (sd al s (al 22 0))).toNatClampNeg)) ?_ (fun a ha => ?_) ?_
        · rw [q5]; exact hfin
        · (repeat rw [pm_uL ha rfl])
        · rw [pm_u_slot (by decide), pm_u_same]; exact e7
    · have hle : ¬ nI (al 23 0) + nI (al 8 s) ≤ 99999 := by rw [nI_add]; exact fun q => hfull ((nI_leI (b := 99999) (by omega) (by decide)).mp q)
      refine ⟨-5, al, hW, ?_, ?_⟩
      · intro c I J hc hC
        have e0 := hC.1.1.2.2.1
        have e4 : I 0 4 = nI (al 22 0) := hC.2.2.1.1
        have l1 := tw_hst1 (X := X) (R := sy_R c) (J := J) hc e0 hn hs
        have l2 := tw_lf1 (X := X) (c := c) (J := J) hc hWS hC.1 hs hg.1
        have l3 := ww_lai (X := X) (c := c) (J := J) (st := 0) (lw := 0) hc hWS hC.1 hst hlw
        rw [← e4] at l2
        rcases hc with rfl | rfl
        all_goals (
          (repeat' first | refine pm_s rfl rfl ?_ | refine pm_ifT (by assumption) ?_ | refine pm_ifF (by assumption) ?_ | refine pm_ial rfl rfl (by assumption) ?_ | refine pm_ias rfl rfl rfl (by assumption) ?_ | refine pm_r rfl rfl rfl ?_ | refine pm_rz rfl rfl rfl ?_)
          refine pm_cq rfl rfl rfl rfl rfl rfl l1 ?_
          (repeat' first | refine pm_s rfl rfl ?_ | refine pm_ifT (by assumption) ?_ | refine pm_ifF (by assumption) ?_ | refine pm_ial rfl rfl (by assumption) ?_ | refine pm_ias rfl rfl rfl (by assumption) ?_ | refine pm_r rfl rfl rfl ?_ | refine pm_rz rfl rfl rfl ?_)
          refine pm_cq rfl rfl rfl rfl rfl rfl l2 ?_
          (repeat' first | refine pm_s rfl rfl ?_ | refine pm_ifT (by assumption) ?_ | refine pm_ifF (by assumption) ?_ | refine pm_ial rfl rfl (by assumption) ?_ | refine pm_ias rfl rfl rfl (by assumption) ?_ | refine pm_r rfl rfl rfl ?_ | refine pm_rz rfl rfl rfl ?_)
          refine pm_cv rfl rfl rfl rfl rfl rfl l3 ?_
          rintro w' ⟨I1, rfl, ho, hI1⟩)
        · have hC1 : sy_C 6 I1 al := hC.scr (Or.inl rfl) (fun a h4 _ => hI1 a h4)
          have l4 := ww_can1 (X := X) (c := 6) (J := J) (Or.inl rfl) hWS hC1.1 hs (show al 23 0 ≤ 900000 by omega) hf8 (ho s hs) hg.1 hg.2
          rw [← hC1.2.2.1.1, ← hC1.2.2.1.2] at l4
          have hle1 : ¬ I1 0 5 + I1 (6 + 6) (nI s).toNatClampNeg ≤ 99999 := by rw [hC1.2.2.1.2, t0, (hC1.1.2.2.1 s (by omega)).2.2.2]; exact hle
          (repeat' first | refine pm_s rfl rfl ?_ | refine pm_ifT (by assumption) ?_ | refine pm_ifF (by assumption) ?_ | refine pm_ial rfl rfl (by assumption) ?_ | refine pm_ias rfl rfl rfl (by assumption) ?_ | refine pm_r rfl rfl rfl ?_ | refine pm_rz rfl rfl rfl ?_)
          refine pm_cq rfl rfl rfl rfl rfl rfl l4 ?_
          (repeat' first | refine pm_s rfl rfl ?_ | refine pm_ifT (by assumption) ?_ | refine pm_ifF (by assumption) ?_ | refine pm_ial rfl rfl (by assumption) ?_ | refine pm_ias rfl rfl rfl (by assumption) ?_ | refine pm_r rfl rfl rfl ?_ | refine pm_rz rfl rfl rfl ?_)
          exact cl_1 (Or.inl rfl) hC1 (fun a ha => hI1 a (by omega)) rfl
        · have hC1 : sy_C 15 I1 al := hC.scr (Or.inr rfl) (fun a h4 _ => hI1 a h4)
          have l4 := ww_can1 (X := X) (c := 15) (J := J) (Or.inr rfl) hWS hC1.1 hs (show al 23 0 ≤ 900000 by omega) hf8 (ho s hs) hg.1 hg.2
          rw [← hC1.2.2.1.1, ← hC1.2.2.1.2] at l4
          have hle1 : ¬ I1 0 5 + I1 (15 + 6) (nI s).toNatClampNeg ≤ 99999 := by rw [hC1.2.2.1.2, t0, (hC1.1.2.2.1 s (by omega)).2.2.2]; exact hle
          (repeat' first | refine pm_s rfl rfl ?_ | refine pm_ifT (by assumption) ?_ | refine pm_ifF (by assumption) ?_ | refine pm_ial rfl rfl (by assumption) ?_ | refine pm_ias rfl rfl rfl (by assumption) ?_ | refine pm_r rfl rfl rfl ?_ | refine pm_rz rfl rfl rfl ?_)
          refine pm_cq rfl rfl rfl rfl rfl rfl l4 ?_
          (repeat' first | refine pm_s rfl rfl ?_ | refine pm_ifT (by assumption) ?_ | refine pm_ifF (by assumption) ?_ | refine pm_ial rfl rfl (by assumption) ?_ | refine pm_ias rfl rfl rfl (by assumption) ?_ | refine pm_r rfl rfl rfl ?_ | refine pm_rz rfl rfl rfl ?_)
          exact cl_1 (Or.inr rfl) hC1 (fun a ha => hI1 a (by omega)) rfl
      · intro c I J hc hC
        have e4 : I 30 22 = nI (al 22 0) := hC.2.2.1.1
        have e5 : I 30 23 = nI (al 23 0) := hC.2.2.1.2
        obtain ⟨z1, z2, z3, z4⟩ := hC.1.2.2.1 s (by omega)
        have l1 := md_can (X := X) (c := c) (J := J) hWS hC.my hst hlw hC.1.1.2.2.2.1 hs hf8 (show al 23 0 ≤ 900000 by omega) true ⟨fun _ => hg, fun _ => rfl⟩
        rw [← e4, ← e5] at l1
        have hle1 : ¬ I 30 23 + I 32 (4 * nI s + 3).toNatClampNeg ≤ 99999 := by rw [e5, t3, z4]; exact hle
        (repeat' first | refine pm_s rfl rfl ?_ | refine pm_ifT (by assumption) ?_ | refine pm_ifF (by assumption) ?_ | refine pm_ial rfl rfl (by assumption) ?_ | refine pm_ias rfl rfl rfl (by assumption) ?_ | refine pm_r rfl rfl rfl ?_ | refine pm_rz rfl rfl rfl ?_)
        refine pm_cq rfl rfl rfl rfl rfl rfl (md_isS1 hC.1.1.2.2.1 hn hs) ?_
        (repeat' first | refine pm_s rfl rfl ?_ | refine pm_ifT (by assumption) ?_ | refine pm_ifF (by assumption) ?_ | refine pm_ial rfl rfl (by assumption) ?_ | refine pm_ias rfl rfl rfl (by assumption) ?_ | refine pm_r rfl rfl rfl ?_ | refine pm_rz rfl rfl rfl ?_)
        refine pm_cq rfl rfl rfl rfl rfl rfl l1 ?_
        (repeat' first | refine pm_s rfl rfl ?_ | refine pm_ifT (by assumption) ?_ | refine pm_ifF (by assumption) ?_ | refine pm_ial rfl rfl (by assumption) ?_ | refine pm_ias rfl rfl rfl (by assumption) ?_ | refine pm_r rfl rfl rfl ?_ | refine pm_rz rfl rfl rfl ?_)
        exact ml_0 hC rfl
  · refine ⟨-4, al, hW, ?_, ?_⟩
    · intro c I J hc hC
      have e0 := hC.1.1.2.2.1
      have e4 : I 0 4 = nI (al 22 0) := hC.2.2.1.1
      have l1 := tw_hst1 (X := X) (R := sy_R c) (J := J) hc e0 hn hs
      by_cases hl : ld al s (al 22 0)
      · have l2 := tw_lf1 (X := X) (c := c) (J := J) hc hWS hC.1 hs hl
        have l3 := ww_lai (X := X) (c := c) (J := J) (st := 0) (lw := 0) hc hWS hC.1 hst hlw
        rw [← e4] at l2
        rcases hc with rfl | rfl
        all_goals (
          (repeat' first | refine pm_s rfl rfl ?_ | refine pm_ifT (by assumption) ?_ | refine pm_ifF (by assumption) ?_ | refine pm_ial rfl rfl (by assumption) ?_ | refine pm_ias rfl rfl rfl (by assumption) ?_ | refine pm_r rfl rfl rfl ?_ | refine pm_rz rfl rfl rfl ?_)
          refine pm_cq rfl rfl rfl rfl rfl rfl l1 ?_
          (repeat' first | refine pm_s rfl rfl ?_ | refine pm_ifT (by assumption) ?_ | refine pm_ifF (by assumption) ?_ | refine pm_ial rfl rfl (by assumption) ?_ | refine pm_ias rfl rfl rfl (by assumption) ?_ | refine pm_r rfl rfl rfl ?_ | refine pm_rz rfl rfl rfl ?_)
          refine pm_cq rfl rfl rfl rfl rfl rfl l2 ?_
          (repeat' first | refine pm_s rfl rfl ?_ | refine pm_ifT (by assumption) ?_ | refine pm_ifF (by assumption) ?_ | refine pm_ial rfl rfl (by assumption) ?_ | refine pm_ias rfl rfl rfl (by assumption) ?_ | refine pm_r rfl rfl rfl ?_ | refine pm_rz rfl rfl rfl ?_)
          refine pm_cv rfl rfl rfl rfl rfl rfl l3 ?_
          rintro w' ⟨I1, rfl, ho, hI1⟩)
        · have hC1 : sy_C 6 I1 al := hC.scr (Or.inl rfl) (fun a h4 _ => hI1 a h4)
          have l4 := ww_can0 (X := X) (c := 6) (J := J) (Or.inl rfl) hWS hC1.1 hs (show al 23 0 ≤ 900000 by omega) hf8 (ho s hs) hg
          rw [← hC1.2.2.1.1, ← hC1.2.2.1.2] at l4
          (repeat' first | refine pm_s rfl rfl ?_ | refine pm_ifT (by assumption) ?_ | refine pm_ifF (by assumption) ?_ | refine pm_ial rfl rfl (by assumption) ?_ | refine pm_ias rfl rfl rfl (by assumption) ?_ | refine pm_r rfl rfl rfl ?_ | refine pm_rz rfl rfl rfl ?_)
          refine pm_cq rfl rfl rfl rfl rfl rfl l4 ?_
          (repeat' first | refine pm_s rfl rfl ?_ | refine pm_ifT (by assumption) ?_ | refine pm_ifF (by assumption) ?_ | refine pm_ial rfl rfl (by assumption) ?_ | refine pm_ias rfl rfl rfl (by assumption) ?_ | refine pm_r rfl rfl rfl ?_ | refine pm_rz rfl rfl rfl ?_)
          exact cl_1 (Or.inl rfl) hC1 (fun a ha => hI1 a (by omega)) rfl
        · have hC1 : sy_C 15 I1 al := hC.scr (Or.inr rfl) (fun a h4 _ => hI1 a h4)
          have l4 := ww_can0 (X := X) (c := 15) (J := J) (Or.inr rfl) hWS hC1.1 hs (show al 23 0 ≤ 900000 by omega) hf8 (ho s hs) hg
          rw [← hC1.2.2.1.1, ← hC1.2.2.1.2] at l4
          (repeat' first | refine pm_s rfl rfl ?_ | refine pm_ifT (by assumption) ?_ | refine pm_ifF (by assumption) ?_ | refine pm_ial rfl rfl (by assumption) ?_ | refine pm_ias rfl rfl rfl (by assumption) ?_ | refine pm_r rfl rfl rfl ?_ | refine pm_rz rfl rfl rfl ?_)
          refine pm_cq rfl rfl rfl rfl rfl rfl l4 ?_
          (repeat' first | refine pm_s rfl rfl ?_ | refine pm_ifT (by assumption) ?_ | refine pm_ifF (by assumption) ?_ | refine pm_ial rfl rfl (by assumption) ?_ | refine pm_ias rfl rfl rfl (by assumption) ?_ | refine pm_r rfl rfl rfl ?_ | refine pm_rz rfl rfl rfl ?_)
          exact cl_1 (Or.inr rfl) hC1 (fun a ha => hI1 a (by omega)) rfl
      · have l2 := tw_lf0 (X := X) (c := c) (J := J) hc hWS hC.1 hs hf8 hl
        rw [← e4] at l2
        rcases hc with rfl | rfl
        · (repeat' first | refine pm_s rfl rfl ?_ | refine pm_ifT (by assumption) ?_ | refine pm_ifF (by assumption) ?_ | refine pm_ial rfl rfl (by assumption) ?_ | refine pm_ias rfl rfl rfl (by assumption) ?_ | refine pm_r rfl rfl rfl ?_ | refine pm_rz rfl rfl rfl ?_)
          refine pm_cq rfl rfl rfl rfl rfl rfl l1 ?_
          (repeat' first | refine pm_s rfl rfl ?_ | refine pm_ifT (by assumption) ?_ | refine pm_ifF (by assumption) ?_ | refine pm_ial rfl rfl (by assumption) ?_ | refine pm_ias rfl rfl rfl (by assumption) ?_ | refine pm_r rfl rfl rfl ?_ | refine pm_rz rfl rfl rfl ?_)
          refine pm_cq rfl rfl rfl rfl rfl rfl l2 ?_
          (repeat' first | refine pm_s rfl rfl ?_ | refine pm_ifT (by assumption) ?_ | refine pm_ifF (by assumption) ?_ | refine pm_ial rfl rfl (by assumption) ?_ | refine pm_ias rfl rfl rfl (by assumption) ?_ | refine pm_r rfl rfl rfl ?_ | refine pm_rz rfl rfl rfl ?_)
          exact cl_0 (Or.inl rfl) hC rfl
        · (repeat' first | refine pm_s rfl rfl ?_ | refine pm_ifT (by assumption) ?_ | refine pm_ifF (by assumption) ?_ | refine pm_ial rfl rfl (by assumption) ?_ | refine pm_ias rfl rfl rfl (by assumption) ?_ | refine pm_r rfl rfl rfl ?_ | refine pm_rz rfl rfl rfl ?_)
          refine pm_cq rfl rfl rfl rfl rfl rfl l1 ?_
          (repeat' first | refine pm_s rfl rfl ?_ | refine pm_ifT (by assumption) ?_ | refine pm_ifF (by assumption) ?_ | refine pm_ial rfl rfl (by assumption) ?_ | refine pm_ias rfl rfl rfl (by assumption) ?_ | refine pm_r rfl rfl rfl ?_ | refine pm_rz rfl rfl rfl ?_)
          refine pm_cq rfl rfl rfl rfl rfl rfl l2 ?_
          (repeat' first | refine pm_s rfl rfl ?_ | refine pm_ifT (by assumption) ?_ | refine pm_ifF (by assumption) ?_ | refine pm_ial rfl rfl (by assumption) ?_ | refine pm_ias rfl rfl rfl (by assumption) ?_ | refine pm_r rfl rfl rfl ?_ | refine pm_rz rfl rfl rfl ?_)
          exact cl_0 (Or.inr rfl) hC rfl
    · intro c I J hc hC
      have e4 : I 30 22 = nI (al 22 0) := hC.2.2.1.1
      have e5 : I 30 23 = nI (al 23 0) := hC.2.2.1.2
      have l1 := md_can (X := X) (c := c) (J := J) hWS hC.my hst hlw hC.1.1.2.2.2.1 hs hf8 (show al 23 0 ≤ 900000 by omega) false ⟨fun h => (by cases h), fun h => absurd h hg⟩
      rw [← e4, ← e5] at l1
      (repeat' first | refine pm_s rfl rfl ?_ | refine pm_ifT (by assumption) ?_ | refine pm_ifF (by assumption) ?_ | refine pm_ial rfl rfl (by assumption) ?_ | refine pm_ias rfl rfl rfl (by assumption) ?_ | refine pm_r rfl rfl rfl ?_ | refine pm_rz rfl rfl rfl ?_)
      refine pm_cq rfl rfl rfl rfl rfl rfl (md_isS1 hC.1.1.2.2.1 hn hs) ?_
      (repeat' first | refine pm_s rfl rfl ?_ | refine pm_ifT (by assumption) ?_ | refine pm_ifF (by assumption) ?_ | refine pm_ial rfl rfl (by assumption) ?_ | refine pm_ias rfl rfl rfl (by assumption) ?_ | refine pm_r rfl rfl rfl ?_ | refine pm_rz rfl rfl rfl ?_)
      refine pm_cq rfl rfl rfl rfl rfl rfl l1 ?_
      (repeat' first | refine pm_s rfl rfl ?_ | refine pm_ifT (by assumption) ?_ | refine pm_ifF (by assumption) ?_ | refine pm_ial rfl rfl (by assumption) ?_ | refine pm_ias rfl rfl rfl (by assumption) ?_ | refine pm_r rfl rfl rfl ?_ | refine pm_rz rfl rfl rfl ?_)
      exact ml_0 hC rfl
end
section
theorem fa_or (a b : Nat) : nI a ||| nI b = nI (a ||| b) := by
  apply Int32.toBitVec_inj.1
  show BitVec.ofNat 32 a ||| BitVec.ofNat 32 b = BitVec.ofNat 32 (a ||| b)
  apply BitVec.eq_of_getLsbD_eq
  intro i hi
  simp [hi]
theorem fa_and (a b : Nat) : nI a &&& nI b = nI (a &&& b) := by
  apply Int32.toBitVec_inj.1
  show BitVec.ofNat 32 a &&& BitVec.ofNat 32 b = BitVec.ofNat 32 (a &&& b)
  apply BitVec.eq_of_getLsbD_eq
  intro i hi
  simp [hi]
theorem bt_shl {k : Nat} (hk : k < 8) : (1 : Int32) <<< (nI k &&& 31) = nI (2 ^ k) := by
  rcases (show k = 0 ∨ k = 1 ∨ k = 2 ∨ k = 3 ∨ k = 4 ∨ k = 5 ∨ k = 6 ∨ k = 7 by omega) with rfl | rfl | rfl | rfl | rfl | rfl | rfl | rfl <;> decide
theorem bt_t {n k : Nat} (hn : n < 2 ^ 31) (hk : k < 8) : ((nI n >>> (nI k &&& 31)) &&& 1 = 0) = (n.testBit k = false) := by
  rw [bt_get hn hk, Nat.testBit_eq_decide_div_mod_eq]
  rcases bt_01 n k with h | h <;> rw [h] <;> decide
theorem bt_t1 {n k : Nat} (hn : n < 2 ^ 31) (hk : k < 8) : ((nI n >>> (nI k &&& 31)) &&& 1 = 1) = (n.testBit k = true) := by
  rw [bt_get hn hk, Nat.testBit_eq_decide_div_mod_eq]
  rcases bt_01 n k with h | h <;> rw [h] <;> decide
/-- a row of minutes with one set -/
def ou (at_ : Nat → Option Nat) (k v : Nat) : Nat → Option Nat := fun j => if j = k then some v else at_ j
/-- of the first j corners that are not met the earliest -/
def selF (at_ : Nat → Option Nat) (met : Nat) : Nat → Option Nat
  | 0 => none
  | j + 1 => match at_ j with
    | none => selF at_ met j
    | some v => if met.testBit j = true then selF at_ met j else match selF at_ met j with
      | none => some j
      | some c => match at_ c with
        | none => some c
        | some u => if v < u then some j else some c
/-- one street from a corner -/
def relS (al : Nat → Nat → Nat) (mv : Nat → Nat → Nat → Bool) (c : Nat) (at_ : Nat → Option Nat) (s : Nat) : Nat → Option Nat := if al 5 s = c ∨ al 6 s = c then (match at_ c with
  | none => at_
  | some t => match bg (al 9 0) (al 8 s) t (mv s (sd al s c)) with
    | none => at_
    | some b => match at_ (oe al s c) with
      | none => ou at_ (oe al s c) (b + al 8 s)
      | some u => if b + al 8 s < u then ou at_ (oe al s c) (b + al 8 s) else at_) else at_
def relF (al : Nat → Nat → Nat) (mv : Nat → Nat → Nat → Bool) (c : Nat) (at_ : Nat → Option Nat) : Nat → Nat → Option Nat
  | 0 => at_
  | j + 1 => relS al mv c (relF al mv c at_ j) j
/-- j rounds -/
def spF (al : Nat → Nat → Nat) (mv : Nat → Nat → Nat → Bool) (at_ : Nat → Option Nat) : Nat → (Nat → Option Nat) × Nat
  | 0 => (at_, 0)
  | j + 1 => match selF (spF al mv at_ j).1 (spF al mv at_ j).2 (al 0 0) with
    | none => spF al mv at_ j
    | some c => (relF al mv c (spF al mv at_ j).1 (al 4 0), (spF al mv at_ j).2 ||| 2 ^ c)
/-- where one begins -/
def at0 (a t : Nat) : Nat → Option Nat := fun k => if k = a then some t else none
theorem selF_some {at_ : Nat → Option Nat} {met : Nat} : ∀ {j c : Nat}, selF at_ met j = some c → c < j ∧ met.testBit c = false ∧ ∃ u, at_ c = some u := by
  intro j
  induction j with
  | zero => intro c h; cases h
  | succ j ih =>
    intro c h
    have old : selF at_ met j = some c → c < j + 1 ∧ met.testBit c = false ∧ ∃ u, at_ c = some u := fun h => ⟨by have := (ih h).1; omega, (ih h).2⟩
    unfold selF at h
    split at h
    next => exact old h
    next v hv =>
      split at h
      next => exact old h
      next hb =>
        have hb' : met.testBit j = false := by simpa using hb
        split at h
        next => cases h; exact ⟨by omega, hb', v, hv⟩
        next c' hc' =>
          split at h
          next => cases h; exact old hc'
          next u hu =>
            split at h
            next => cases h; exact ⟨by omega, hb', v, hv⟩
            next => cases h; exact old hc'
theorem ov_lt {u v : Nat} (hu : u < 2 ^ 31) (hv : v < 2 ^ 31) : (ov (some u) ≤ ov (some v)) = ¬ (v < u) := by
  show (nI u ≤ nI v) = _
  rw [nI_le' hu hv]
  exact propext ⟨fun z => by omega, fun z => by omega⟩
theorem ov_m1 {o : Option Nat} (ho : ∀ b, o = some b → b < 2 ^ 31) : (ov o = -1) = (o = none) := by
  cases o with
  | none => exact propext ⟨fun _ => rfl, fun _ => rfl⟩
  | some b =>
    refine propext ⟨fun h => ?_, fun h => by cases h⟩
    have := congrArg Int32.toInt h
    rw [show ov (some b) = nI b from rfl, nI_toInt (ho b rfl)] at this
    have e1 : (-1 : Int32).toInt = -1 := rfl
    omega
section WG
variable {X : Nat × (Nat → Int32)} {al al' : Nat → Nat → Nat} {c : Nat} {I I' : Nat → Nat → Int32} {J J' : Nat → Nat → Int64} {K : Option Value → pm_Wo → Prop} {mv : Nat → Nat → Nat → Bool} {at_ : Nat → Option Nat}
set_option maxHeartbeats 4000000 in
set_option maxRecDepth 100000 in
theorem ww_sel {T met : Nat} (hT : T = 6 ∨ T = 15) (hn : al 0 0 ≤ 8) (e0 : I T 0 = nI (al 0 0)) (hmet : met < 256) (hat : ∀ k v, at_ k = some v → v ≤ 900000) (h5 : ∀ k, k < 8 → I 5 k = ov (at_ k)) : pm_R X mm_X2_earliestBeside.1 0 [some (.ref 3), some (.ref T), some (.int (nI met)), none, none, none] [] (41, sy_R c, I, J) (fun o w' => o = some (.int (ov (selF at_ met (al 0 0)))) ∧ w' = (41, sy_R c, I, J)) := by
  have key := pm_for (X := X) (tb := mm_X2_earliestBeside.1) (K := fun o w' => o = some (.int (ov (selF at_ met (al 0 0)))) ∧ w' = (41, sy_R c, I, J)) (St := Option Value) 5 (fun j g => [some (.ref 3), some (.ref T), some (.int (nI met)), some (.int (ov (selF at_ met j))), some (.int (nI j)), g]) (fun _ _ => (41, sy_R c, I, J)) (fun _ _ => True) (al 0 0) ?_ ?_
  · have k0 := key 0 none (Nat.zero_le _) trivial
    (repeat refine pm_sx [5] rfl rfl rfl ?_)
    exact k0
  · intro j g hj _ ih
    have e4 : ¬ I T 0 ≤ nI j := by rw [e0]; exact nI_ge hj (by omega)
    have hi := sy_idx (k := j) (N := 8) (by omega) (by decide)
    have t0 : (nI j).toNatClampNeg = j := nI_clamp (by omega)
    have q5 : I 5 (nI j).toNatClampNeg = ov (at_ j) := by rw [t0]; exact h5 j (by omega)
    have hbb := bt_t (n := met) (k := j) (by omega) (by omega)
    cases ha : at_ j with
    | none =>
      have c1 : I 5 (nI j).toNatClampNeg = -1 := by rw [q5, ha]; rfl
      have es : selF at_ met (j + 1) = selF at_ met j := by
        show (match at_ j with | none => _ | some v => _) = _
        rw [ha]
      rcases hT with rfl | rfl
      all_goals (
        refine pm_s rfl rfl ?_
        (repeat' first | refine pm_sx [5] rfl rfl rfl ?_ | refine pm_ifT (by assumption) ?_ | refine pm_ifF (by assumption) ?_ | refine pm_ial rfl rfl (by assumption) ?_ | refine pm_ias rfl rfl rfl (by assumption) ?_ | refine pm_r rfl rfl rfl ?_ | refine pm_rz rfl rfl rfl ?_)
        rw [nI_1, ← es]
        exact ih _ trivial)
    | some v =>
      have hv := hat j v ha
      have c1 : ¬ I 5 (nI j).toNatClampNeg = -1 := by rw [q5, ha, ov_m1 (fun b hb => by cases hb; omega)]; exact fun z => by cases z
      by_cases hm : met.testBit j = true
      · have c2 : ¬ ((nI met >>> (nI j &&& 31)) &&& 1 = 0) := by rw [hbb, hm]; decide
        have es : selF at_ met (j + 1) = selF at_ met j := by
          show (match at_ j with | none => _ | some v => _) = _
          rw [ha]
          exact if_pos hm
        rcases hT with rfl | rfl
        all_goals (
          refine pm_s rfl rfl ?_
          (repeat' first | refine pm_sx [5] rfl rfl rfl ?_ | refine pm_ifT (by assumption) ?_ | refine pm_ifF (by assumption) ?_ | refine pm_ial rfl rfl (by assumption) ?_ | refine pm_ias rfl rfl rfl (by assumption) ?_ | refine pm_r rfl rfl rfl ?_ | refine pm_rz rfl rfl rfl ?_)
          rw [nI_1, ← es]
          exact ih _ trivial)
      · have hm' : met.testBit j = false := by simpa using hm
        have c2 : ((nI met >>> (nI j &&& 31)) &&& 1 = 0) := by rw [hbb, hm']
        cases hse : selF at_ met j with
        | none =>
          have es : selF at_ met (j + 1) = some j := by
            show (match at_ j with | none => _ | some v => _) = _
            rw [ha]
            dsimp only
            rw [if_neg hm, hse]
          have c3 : ov none = -1 := rfl
          have ej : nI j = ov (some j) := rfl
          rcases hT with rfl | rfl
          all_goals (
            refine pm_s rfl rfl ?_
            (repeat' first | refine pm_sx [5] rfl rfl rfl ?_ | refine pm_ifT (by assumption) ?_ | refine pm_ifF (by assumption) ?_ | refine pm_ial rfl rfl (by assumption) ?_ | refine pm_ias rfl rfl rfl (by assumption) ?_ | refine pm_r rfl rfl rfl ?_ | refine pm_rz rfl rfl rfl ?_)
            rw [nI_1]
            rw [es] at ih
            exact ih _ trivial)
        | some c0 =>
          obtain ⟨hc0, -, u, hu⟩ := selF_some hse
          have hu2 := hat c0 u hu
          have c3 : ¬ ov (some c0) = -1 := by rw [ov_m1 (fun b hb => by cases hb; omega)]; exact fun z => by cases z
          have tc : (ov (some c0)).toNatClampNeg = c0 := nI_clamp (by omega)
          have hic : (0 : Int32) ≤ ov (some c0) ∧ (ov (some c0)).toNatClampNeg < 8 := sy_idx (k := c0) (by omega) (by decide)
          have qc : I 5 (ov (some c0)).toNatClampNeg = ov (some u) := by rw [tc, h5 c0 (by omega), hu]
          have qj : I 5 (nI j).toNatClampNeg = ov (some v) := by rw [q5, ha]
          have hcmp : (I 5 (ov (some c0)).toNatClampNeg ≤ I 5 (nI j).toNatClampNeg) = ¬ (v < u) := by rw [qc, qj, ov_lt (by omega) (by omega)]
          by_cases hvu : v < u
          · have c4 : ¬ (I 5 (ov (some c0)).toNatClampNeg ≤ I 5 (nI j).toNatClampNeg) := by rw [hcmp]; exact fun z => z hvu
            have es : selF at_ met (j + 1) = some j := by
              show (match at_ j with | none => _ | some v => _) = _
              rw [ha]
              dsimp only
              rw [if_neg hm, hse]
              dsimp only
              rw [hu]
              exact if_pos hvu
            rcases hT with rfl | rfl
            all_goals (
              refine pm_s rfl rfl ?_
              (repeat' first | refine pm_sx [5] rfl rfl rfl ?_ | refine pm_ifT (by assumption) ?_ | refine pm_ifF (by assumption) ?_ | refine pm_ial rfl rfl (by assumption) ?_ | refine pm_ias rfl rfl rfl (by assumption) ?_ | refine pm_r rfl rfl rfl ?_ | refine pm_rz rfl rfl rfl ?_)
              rw [nI_1]
              rw [es] at ih
              exact ih _ trivial)
          · have c4 : (I 5 (ov (some c0)).toNatClampNeg ≤ I 5 (nI j).toNatClampNeg) := by rw [hcmp]; exact hvu
            have es : selF at_ met (j + 1) = some c0 := by
              show (match at_ j with | none => _ | some v => _) = _
              rw [ha]
              dsimp only
              rw [if_neg hm, hse]
              dsimp only
              rw [hu]
              exact if_neg hvu
            rcases hT with rfl | rfl
            all_goals (
              refine pm_s rfl rfl ?_
              (repeat' first | refine pm_sx [5] rfl rfl rfl ?_ | refine pm_ifT (by assumption) ?_ | refine pm_ifF (by assumption) ?_ | refine pm_ial rfl rfl (by assumption) ?_ | refine pm_ias rfl rfl rfl (by assumption) ?_ | refine pm_r rfl rfl rfl ?_ | refine pm_rz rfl rfl rfl ?_)
              rw [nI_1]
              rw [es] at ih
              exact ih _ trivial)
  · intro g _
    have e4 : I T 0 ≤ nI (al 0 0) := by rw [e0]; exact Int32.le_refl _
    rcases hT with rfl | rfl
    all_goals (
      (repeat' first | refine pm_s rfl rfl ?_ | refine pm_ifT (by assumption) ?_ | refine pm_ifF (by assumption) ?_ | refine pm_ial rfl rfl (by assumption) ?_ | refine pm_ias rfl rfl rfl (by assumption) ?_ | refine pm_r rfl rfl rfl ?_ | refine pm_rz rfl rfl rfl ?_)
      exact ⟨rfl, rfl⟩)
end WG
end
section
section WH
variable {X : Nat × (Nat → Int32)} {al al' : Nat → Nat → Nat} {c : Nat} {I I' : Nat → Nat → Int32} {J J' : Nat → Nat → Int64} {K : Option Value → pm_Wo → Prop} {mv : Nat → Nat → Nat → Bool} {at_ : Nat → Option Nat}
theorem oe_ne {s f : Nat} (h : ld al s f) (hne : al 5 s ≠ al 6 s) : oe al s f ≠ f := by
  unfold oe
  split
  next h1 => intro q; exact hne (by rw [h1, q])
  next h1 => exact h1
theorem oe_lt {s f : Nat} (hW : sy_WS al) (hs : s < al 4 0) : oe al s f < al 0 0 := by
  obtain ⟨⟨k1, k2, k3⟩, -⟩ := hW.2.2.2.1 s hs
  unfold oe
  split
  · exact k2
  · exact k1
theorem relS_no {s f : Nat} (h : ¬ ld al s f) : relS al mv f at_ s = at_ := by
  unfold relS
  exact if_neg h
theorem relS_nn {s f : Nat} (ht : at_ f = none) : relS al mv f at_ s = at_ := by
  unfold relS
  rw [ht]
  split <;> rfl
theorem relS_bn {s f t : Nat} (ht : at_ f = some t) (hb : bg (al 9 0) (al 8 s) t (mv s (sd al s f)) = none) : relS al mv f at_ s = at_ := by
  unfold relS
  rw [ht]
  dsimp only
  rw [hb]
  split <;> rfl
theorem relS_up {s f t b : Nat} (h : ld al s f) (ht : at_ f = some t) (hb : bg (al 9 0) (al 8 s) t (mv s (sd al s f)) = some b) (hr : at_ (oe al s f) = none) : relS al mv f at_ s = ou at_ (oe al s f) (b + al 8 s) := by
  unfold relS
  rw [if_pos (show al 5 s = f ∨ al 6 s = f from h), ht]
  dsimp only
  rw [hb]
  dsimp only
  rw [hr]
theorem relS_us {s f t b u : Nat} (h : ld al s f) (ht : at_ f = some t) (hb : bg (al 9 0) (al 8 s) t (mv s (sd al s f)) = some b) (hr : at_ (oe al s f) = some u) : relS al mv f at_ s = if b + al 8 s < u then ou at_ (oe al s f) (b + al 8 s) else at_ := by
  unfold relS
  rw [if_pos (show al 5 s = f ∨ al 6 s = f from h), ht]
  dsimp only
  rw [hb]
  dsimp only
  rw [hr]
/-- what one street does: nothing, or one corner's minute -/
theorem relS_or (s f : Nat) : relS al mv f at_ s = at_ ∨ ∃ t b, ld al s f ∧ at_ f = some t ∧ bg (al 9 0) (al 8 s) t (mv s (sd al s f)) = some b ∧ relS al mv f at_ s = ou at_ (oe al s f) (b + al 8 s) := by
  by_cases h : ld al s f
  · cases ht : at_ f with
    | none => exact Or.inl (relS_nn ht)
    | some t =>
      cases hb : bg (al 9 0) (al 8 s) t (mv s (sd al s f)) with
      | none => exact Or.inl (relS_bn ht hb)
      | some b =>
        cases hr : at_ (oe al s f) with
        | none => exact Or.inr ⟨t, b, h, rfl, hb, relS_up h ht hb hr⟩
        | some u =>
          rw [relS_us h ht hb hr]
          split
          · exact Or.inr ⟨t, b, h, rfl, hb, rfl⟩
          · exact Or.inl rfl
  · exact Or.inl (relS_no h)
theorem relS_at {s f : Nat} (hne : al 5 s ≠ al 6 s) : relS al mv f at_ s f = at_ f := by
  rcases relS_or (al := al) (mv := mv) (at_ := at_) s f with h | ⟨t, b, hl, -, -, h⟩
  · rw [h]
  · rw [h]
    exact if_neg (fun q => oe_ne hl hne q.symm)
theorem relS_bd {s f B : Nat} (hH : 10 ≤ al 9 0 ∧ al 9 0 ≤ 999) (hm : al 8 s ≤ 99) (hf : ∀ t, at_ f = some t → t ≤ B) (h : ∀ k v, at_ k = some v → v ≤ B + 2100) : ∀ k v, relS al mv f at_ s k = some v → v ≤ B + 2100 := by
  intro k v hv
  rcases relS_or (al := al) (mv := mv) (at_ := at_) s f with h1 | ⟨t, b, -, ht, hb, h1⟩
  · rw [h1] at hv
    exact h k v hv
  · rw [h1] at hv
    have h2 := bg_lt hH.2 (by omega) hb
    have h3 := hf t ht
    unfold ou at hv
    split at hv
    next => cases hv; omega
    next => exact h k v hv
theorem relF_at {f n : Nat} (hW : sy_WS al) (hn : n ≤ al 4 0) : relF al mv f at_ n f = at_ f := by
  induction n with
  | zero => rfl
  | succ n ih =>
    show relS al mv f (relF al mv f at_ n) n f = _
    rw [relS_at (hW.2.2.2.1 n (by omega)).1.2.2]
    exact ih (by omega)
theorem relF_bd {f n B : Nat} (hW : sy_WS al) (hn : n ≤ al 4 0) (h : ∀ k v, at_ k = some v → v ≤ B) : ∀ k v, relF al mv f at_ n k = some v → v ≤ B + 2100 := by
  induction n with
  | zero => intro k v hv; have := h k v hv; omega
  | succ n ih =>
    refine relS_bd hW.2.2.2.2 (hW.2.2.2.1 n (by omega)).2.2.2 (fun t ht => ?_) (ih (by omega))
    rw [relF_at hW (by omega)] at ht
    exact h f t ht
set_option maxHeartbeats 4000000 in
set_option maxRecDepth 100000 in
theorem ww_rel {T f B : Nat} (hT : T = 6 ∨ T = 15) (hW : sy_WS al) (hTT : sy_T T I al) (hf : f < al 0 0) (hat : ∀ k v, at_ k = some v → v ≤ B) (hB : B ≤ 800000) {t : Nat} (hft : at_ f = some t) (h5 : ∀ k, k < 8 → I 5 k = ov (at_ k)) (ho : ∀ i, i < al 4 0 → I 4 i = nI (ob mv i)) : pm_R X mm_X2_goOnFrom.1 0 [some (.ref 3), some (.ref T), some (.int (nI f)), none, none, none, none] [] (41, sy_R c, I, J) (fun o w' => o = none ∧ ∃ I', w' = (41, sy_R c, I', J) ∧ (∀ k, k < 8 → I' 5 k = ov (relF al mv f at_ (al 4 0) k)) ∧ ∀ a, a ≠ 5 → I' a = I a) := by
  have hns := hW.2.2.1
  have hn := hW.1
  have key := pm_for (X := X) (tb := mm_X2_goOnFrom.1) (K := fun o w' => o = none ∧ ∃ I', w' = (41, sy_R c, I', J) ∧ (∀ k, k < 8 → I' 5 k = ov (relF al mv f at_ (al 4 0) k)) ∧ ∀ a, a ≠ 5 → I' a = I a) (St := (Nat → Nat → Int32) × Option Value × Option Value × Option Value) 2 (fun j s => [some (.ref 3), some (.ref T), some (.int (nI f)), some (.int (nI j)), s.2.1, s.2.2.1, s.2.2.2]) (fun _ s => (41, sy_R c, s.1, J)) (fun j s => (∀ k, k < 8 → s.1 5 k = ov (relF al mv f at_ j k)) ∧ ∀ a, a ≠ 5 → s.1 a = I a) (al 4 0) ?_ ?_
  · have k0 := key 0 (I, none, none, none) (Nat.zero_le _) ⟨h5, fun _ _ => rfl⟩
    (repeat refine pm_sx [2] rfl rfl rfl ?_)
    exact k0
  · rintro j ⟨I1, g4, g5, g6⟩ hj ⟨h1, h2⟩ ih
    dsimp only at h1 h2 ih ⊢
    have hT1 : sy_T T I1 al := hTT.cong (fun a h3 h4 => h2 a (by omega))
    have e4 : ¬ I1 T 4 ≤ nI j := by rw [hT1.1.2.2.1]; exact nI_ge hj (by omega)
    obtain ⟨⟨k1, k2, k3⟩, k4, k5, k6⟩ := hW.2.2.2.1 j hj
    have hi := sy_idx (k := j) (N := 12) (by omega) (by decide)
    have hif := sy_idx (k := f) (N := 8) (by omega) (by decide)
    have tj : (nI j).toNatClampNeg = j := nI_clamp (by omega)
    have tf : (nI f).toNatClampNeg = f := nI_clamp (by omega)
    have hbd := relF_bd (al := al) (mv := mv) (at_ := at_) (f := f) (n := j) hW (by omega) hat
    have hself : relF al mv f at_ j f = some t := by rw [relF_at hW (by omega)]; exact hft
    have htB := hat f t hft
    have qf : I1 5 (nI f).toNatClampNeg = nI t := by rw [tf, h1 f (by omega), hself]; rfl
    have qm : I1 (T + 6) (nI j).toNatClampNeg = nI (al 8 j) := by rw [tj]; exact (hT1.2.2.1 j (by omega)).2.2.2
    have ho1 : I1 4 j = nI (ob mv j) := by rw [h2 4 (by decide)]; exact ho j hj
    by_cases hl : ld al j f
    · have l1 := tw_lf1 (X := X) (c := c) (J := J) hT hW hT1 hj hl
      have l2 := ww_begin (X := X) (c := c) (J := J) (t := t) hT hW hT1 hj (by omega) (show f < 8 by omega) ho1
      rw [← qf] at l2
      cases hb : bg (al 9 0) (al 8 j) t (mv j (sd al j f)) with
      | none =>
        rw [hb] at l2
        have c1 : ov none = -1 := rfl
        have es : relF al mv f at_ (j + 1) = relF al mv f at_ j := by
          show relS al mv f (relF al mv f at_ j) j = _
          exact relS_bn hself hb
        rw [es] at ih
        rcases hT with rfl | rfl
        all_goals (
          refine pm_s rfl rfl ?_
          (repeat' first | refine pm_sx [2] rfl rfl rfl ?_ | refine pm_ifT (by assumption) ?_ | refine pm_ifF (by assumption) ?_ | refine pm_ial rfl rfl (by assumption) ?_ | refine pm_ias rfl rfl rfl (by assumption) ?_ | refine pm_r rfl rfl rfl ?_ | refine pm_rz rfl rfl rfl ?_)
          refine pm_cq rfl rfl rfl rfl rfl rfl l1 ?_
          (repeat' first | refine pm_sx [2] rfl rfl rfl ?_ | refine pm_ifT (by assumption) ?_ | refine pm_ifF (by assumption) ?_ | refine pm_ial rfl rfl (by assumption) ?_ | refine pm_ias rfl rfl rfl (by assumption) ?_ | refine pm_r rfl rfl rfl ?_ | refine pm_rz rfl rfl rfl ?_)
          refine pm_cq rfl rfl rfl rfl rfl rfl l2 ?_
          (repeat' first | refine pm_sx [2] rfl rfl rfl ?_ | refine pm_ifT (by assumption) ?_ | refine pm_ifF (by assumption) ?_ | refine pm_ial rfl rfl (by assumption) ?_ | refine pm_ias rfl rfl rfl (by assumption) ?_ | refine pm_r rfl rfl rfl ?_ | refine pm_rz rfl rfl rfl ?_)
          rw [nI_1]
          exact ih (I1, _, _, _) ⟨h1, h2⟩)
      | some b =>
        rw [hb] at l2
        have hbl := bg_lt hW.2.2.2.2.2 (by have := hW.2.2.2.2.1; omega) hb
        have hH := hW.2.2.2.2.2
        have c1 : ¬ ov (some b) = -1 := by rw [ov_m1 (fun z hz => by cases hz; omega)]; exact fun z => by cases z
        have l3 := tw_oe (X := X) (c := c) (J := J) hT hW hT1 hj (show f < 8 by omega)
        have hol := oe_lt (f := f) hW hj
        have hio := sy_idx (k := oe al j f) (N := 8) (by omega) (by decide)
        have to : (nI (oe al j f)).toNatClampNeg = oe al j f := nI_clamp (by omega)
        have qo : I1 5 (nI (oe al j f)).toNatClampNeg = ov (relF al mv f at_ j (oe al j f)) := by rw [to]; exact h1 _ (by omega)
        have qe : ov (some b) + I1 (T + 6) (nI j).toNatClampNeg = nI (b + al 8 j) := by rw [qm]; exact nI_add b (al 8 j)
        have upd1 : ∀ k, k < 8 → pm_u I1 5 (oe al j f) (nI (b + al 8 j)) 5 k = ov (ou (relF al mv f at_ j) (oe al j f) (b + al 8 j) k) := by
          intro k hk
          unfold ou
          by_cases hk2 : k = oe al j f
          · rw [if_pos hk2, hk2, pm_u_same]; rfl
          · rw [if_neg hk2, pm_u_slot hk2]; exact h1 k hk
        have upd2 : ∀ a, a ≠ 5 → pm_u I1 5 (oe al j f) (nI (b + al 8 j)) a = I a := fun a ha => by rw [pm_u_cell ha]; exact h2 a ha
        cases hr : relF al mv f at_ j (oe al j f) with
        | none =>
          have c2 : I1 5 (nI (oe al j f)).toNatClampNeg = -1 := by rw [qo, hr]; rfl
          have es : relF al mv f at_ (j + 1) = ou (relF al mv f at_ j) (oe al j f) (b + al 8 j) := by
            show relS al mv f (relF al mv f at_ j) j = _
            exact relS_up hl hself hb hr
          rw [es] at ih
          rcases hT with rfl | rfl
          all_goals (
            refine pm_s rfl rfl ?_
            (repeat' first | refine pm_sx [2] rfl rfl rfl ?_ | refine pm_ifT (by assumption) ?_ | refine pm_ifF (by assumption) ?_ | refine pm_ial rfl rfl (by assumption) ?_ | refine pm_ias rfl rfl rfl (by assumption) ?_ | refine pm_r rfl rfl rfl ?_ | refine pm_rz rfl rfl rfl ?_)
            refine pm_cq rfl rfl rfl rfl rfl rfl l1 ?_
            (repeat' first | refine pm_sx [2] rfl rfl rfl ?_ | refine pm_ifT (by assumption) ?_ | refine pm_ifF (by assumption) ?_ | refine pm_ial rfl rfl (by assumption) ?_ | refine pm_ias rfl rfl rfl (by assumption) ?_ | refine pm_r rfl rfl rfl ?_ | refine pm_rz rfl rfl rfl ?_)
            refine pm_cq rfl rfl rfl rfl rfl rfl l2 ?_
            (repeat' first | refine pm_sx [2] rfl rfl rfl ?_ | refine pm_ifT (by assumption) ?_ | refine pm_ifF (by assumption) ?_ | refine pm_ial rfl rfl (by assumption) ?_ | refine pm_ias rfl rfl rfl (by assumption) ?_ | refine pm_r rfl rfl rfl ?_ | refine pm_rz rfl rfl rfl ?_)
            refine pm_cq rfl rfl rfl rfl rfl rfl l3 ?_
            (repeat' first | refine pm_sx [2] rfl rfl rfl ?_ | refine pm_ifT (by assumption) ?_ | refine pm_ifF (by assumption) ?_ | refine pm_ial rfl rfl (by assumption) ?_ | refine pm_ias rfl rfl rfl (by assumption) ?_ | refine pm_r rfl rfl rfl ?_ | refine pm_rz rfl rfl rfl ?_)
            rw [nI_1, qe, to]
            exact ih (pm_u I1 5 (oe al j f) (nI (b + al 8 j)), _, _, _) ⟨upd1, upd2⟩)
        | some u =>
          have hu := hbd _ u hr
          have c2 : ¬ I1 5 (nI (oe al j f)).toNatClampNeg = -1 := by rw [qo, hr, ov_m1 (fun z hz => by cases hz; omega)]; exact fun z => by cases z
          have hcmp : (I1 5 (nI (oe al j f)).toNatClampNeg ≤ ov (some b) + I1 (T + 6) (nI j).toNatClampNeg) = ¬ (b + al 8 j < u) := by
            rw [qo, hr, qe]
            exact ov_lt (u := u) (v := b + al 8 j) (by omega) (by omega)
          by_cases hlt : b + al 8 j < u
          · have c3 : ¬ (I1 5 (nI (oe al j f)).toNatClampNeg ≤ ov (some b) + I1 (T + 6) (nI j).toNatClampNeg) := by rw [hcmp]; exact fun z => z hlt
            have es : relF al mv f at_ (j + 1) = ou (relF al mv f at_ j) (oe al j f) (b + al 8 j) := by
              show relS al mv f (relF al mv f at_ j) j = _
              rw [relS_us hl hself hb hr, if_pos hlt]
            rw [es] at ih
            rcases hT with rfl | rfl
            all_goals (
              refine pm_s rfl rfl ?_
              (repeat' first | refine pm_sx [2] rfl rfl rfl ?_ | refine pm_ifT (by assumption) ?_ | refine pm_ifF (by assumption) ?_ | refine pm_ial rfl rfl (by assumption) ?_ | refine pm_ias rfl rfl rfl (by assumption) ?_ | refine pm_r rfl rfl rfl ?_ | refine pm_rz rfl rfl rfl ?_)
              refine pm_cq rfl rfl rfl rfl rfl rfl l1 ?_
              (repeat' first | refine pm_sx [2] rfl rfl rfl ?_ | refine pm_ifT (by assumption) ?_ | refine pm_ifF (by assumption) ?_ | refine pm_ial rfl rfl (by assumption) ?_ | refine pm_ias rfl rfl rfl (by assumption) ?_ | refine pm_r rfl rfl rfl ?_ | refine pm_rz rfl rfl rfl ?_)
              refine pm_cq rfl rfl rfl rfl rfl rfl l2 ?_
              (repeat' first | refine pm_sx [2] rfl rfl rfl ?_ | refine pm_ifT (by assumption) ?_ | refine pm_ifF (by assumption) ?_ | refine pm_ial rfl rfl (by assumption) ?_ | refine pm_ias rfl rfl rfl (by assumption) ?_ | refine pm_r rfl rfl rfl ?_ | refine pm_rz rfl rfl rfl ?_)
              refine pm_cq rfl rfl rfl rfl rfl rfl l3 ?_
              (repeat' first | refine pm_sx [2] rfl rfl rfl ?_ | refine pm_ifT (by assumption) ?_ | refine pm_ifF (by assumption) ?_ | refine pm_ial rfl rfl (by assumption) ?_ | refine pm_ias rfl rfl rfl (by assumption) ?_ | refine pm_r rfl rfl rfl ?_ | refine pm_rz rfl rfl rfl ?_)
              rw [nI_1, qe, to]
              exact ih (pm_u I1 5 (oe al j f) (nI (b + al 8 j)), _, _, _) ⟨upd1, upd2⟩)
          · have c3 : (I1 5 (nI (oe al j f)).toNatClampNeg ≤ ov (some b) + I1 (T + 6) (nI j).toNatClampNeg) := by rw [hcmp]; exact hlt
            have es : relF al mv f at_ (j + 1) = relF al mv f at_ j := by
              show relS al mv f (relF al mv f at_ j) j = _
              rw [relS_us hl hself hb hr, if_neg hlt]
            rw [es] at ih
            rcases hT with rfl | rfl
            all_goals (
              refine pm_s rfl rfl ?_
              (repeat' first | refine pm_sx [2] rfl rfl rfl ?_ | refine pm_ifT (by assumption) ?_ | refine pm_ifF (by assumption) ?_ | refine pm_ial rfl rfl (by assumption) ?_ | refine pm_ias rfl rfl rfl (by assumption) ?_ | refine pm_r rfl rfl rfl ?_ | refine pm_rz rfl rfl rfl ?_)
              refine pm_cq rfl rfl rfl rfl rfl rfl l1 ?_
              (repeat' first | refine pm_sx [2] rfl rfl rfl ?_ | refine pm_ifT (by assumption) ?_ | refine pm_ifF (by assumption) ?_ | refine pm_ial rfl rfl (by assumption) ?_ | refine pm_ias rfl rfl rfl (by assumption) ?_ | refine pm_r rfl rfl rfl ?_ | refine pm_rz rfl rfl rfl ?_)
              refine pm_cq rfl rfl rfl rfl rfl rfl l2 ?_
              (repeat' first | refine pm_sx [2] rfl rfl rfl ?_ | refine pm_ifT (by assumption) ?_ | refine pm_ifF (by assumption) ?_ | refine pm_ial rfl rfl (by assumption) ?_ | refine pm_ias rfl rfl rfl (by assumption) ?_ | refine pm_r rfl rfl rfl ?_ | refine pm_rz rfl rfl rfl ?_)
              refine pm_cq rfl rfl rfl rfl rfl rfl l3 ?_
              (repeat' first | refine pm_sx [2] rfl rfl rfl ?_ | refine pm_ifT (by assumption) ?_ | refine pm_ifF (by assumption) ?_ | refine pm_ial rfl rfl (by assumption) ?_ | refine pm_ias rfl rfl rfl (by assumption) ?_ | refine pm_r rfl rfl rfl ?_ | refine pm_rz rfl rfl rfl ?_)
              rw [nI_1]
              exact ih (I1, _, _, _) ⟨h1, h2⟩)
    · have l1 := tw_lf0 (X := X) (c := c) (J := J) hT hW hT1 hj (show f < 8 by omega) hl
      have es : relF al mv f at_ (j + 1) = relF al mv f at_ j := by
        show relS al mv f (relF al mv f at_ j) j = _
        exact relS_no hl
      rw [es] at ih
      rcases hT with rfl | rfl
      all_goals (
        refine pm_s rfl rfl ?_
        (repeat' first | refine pm_sx [2] rfl rfl rfl ?_ | refine pm_ifT (by assumption) ?_ | refine pm_ifF (by assumption) ?_ | refine pm_ial rfl rfl (by assumption) ?_ | refine pm_ias rfl rfl rfl (by assumption) ?_ | refine pm_r rfl rfl rfl ?_ | refine pm_rz rfl rfl rfl ?_)
        refine pm_cq rfl rfl rfl rfl rfl rfl l1 ?_
        (repeat' first | refine pm_sx [2] rfl rfl rfl ?_ | refine pm_ifT (by assumption) ?_ | refine pm_ifF (by assumption) ?_ | refine pm_ial rfl rfl (by assumption) ?_ | refine pm_ias rfl rfl rfl (by assumption) ?_ | refine pm_r rfl rfl rfl ?_ | refine pm_rz rfl rfl rfl ?_)
        rw [nI_1]
        exact ih (I1, _, _, _) ⟨h1, h2⟩)
  · rintro ⟨I1, g4, g5, g6⟩ ⟨h1, h2⟩
    dsimp only at h1 h2 ⊢
    have hT1 : sy_T T I1 al := hTT.cong (fun a h3 h4 => h2 a (by omega))
    have e4 : I1 T 4 ≤ nI (al 4 0) := by rw [hT1.1.2.2.1]; exact Int32.le_refl _
    rcases hT with rfl | rfl
    all_goals (
      (repeat' first | refine pm_s rfl rfl ?_ | refine pm_ifT (by assumption) ?_ | refine pm_ifF (by assumption) ?_ | refine pm_ial rfl rfl (by assumption) ?_ | refine pm_ias rfl rfl rfl (by assumption) ?_ | refine pm_r rfl rfl rfl ?_ | refine pm_rz rfl rfl rfl ?_)
      exact ⟨rfl, I1, rfl, h1, h2⟩)
end WH
end
section
section WI
variable {X : Nat × (Nat → Int32)} {al al' : Nat → Nat → Nat} {c : Nat} {I I' : Nat → Nat → Int32} {J J' : Nat → Nat → Int64} {K : Option Value → pm_Wo → Prop} {mv : Nat → Nat → Nat → Bool} {at_ : Nat → Option Nat}
theorem spF_some {j f : Nat} (h : selF (spF al mv at_ j).1 (spF al mv at_ j).2 (al 0 0) = some f) : spF al mv at_ (j + 1) = (relF al mv f (spF al mv at_ j).1 (al 4 0), (spF al mv at_ j).2 ||| 2 ^ f) := by
  show (match selF (spF al mv at_ j).1 (spF al mv at_ j).2 (al 0 0) with | none => _ | some c => _) = _
  rw [h]
theorem spF_none {j : Nat} (h : selF (spF al mv at_ j).1 (spF al mv at_ j).2 (al 0 0) = none) : spF al mv at_ (j + 1) = spF al mv at_ j := by
  show (match selF (spF al mv at_ j).1 (spF al mv at_ j).2 (al 0 0) with | none => _ | some c => _) = _
  rw [h]
theorem spF_stop {j : Nat} (h : selF (spF al mv at_ j).1 (spF al mv at_ j).2 (al 0 0) = none) (k : Nat) : spF al mv at_ (j + k) = spF al mv at_ j := by
  induction k with
  | zero => rfl
  | succ k ih =>
    rw [← Nat.add_assoc, spF_none (by rw [ih]; exact h), ih]
theorem spF_met (hn : al 0 0 ≤ 8) (j : Nat) : (spF al mv at_ j).2 < 2 ^ 8 := by
  induction j with
  | zero => show 0 < 2 ^ 8; decide
  | succ j ih =>
    cases hs : selF (spF al mv at_ j).1 (spF al mv at_ j).2 (al 0 0) with
    | none => rw [spF_none hs]; exact ih
    | some f =>
      rw [spF_some hs]
      have := (selF_some hs).1
      exact Nat.or_lt_two_pow ih (Nat.pow_lt_pow_right (by decide) (by omega))
theorem spF_bd {B : Nat} (hW : sy_WS al) (h : ∀ k v, at_ k = some v → v ≤ B) (j : Nat) : ∀ k v, (spF al mv at_ j).1 k = some v → v ≤ B + 2100 * j := by
  induction j with
  | zero => intro k v hv; have := h k v hv; omega
  | succ j ih =>
    intro k v hv
    cases hs : selF (spF al mv at_ j).1 (spF al mv at_ j).2 (al 0 0) with
    | none => rw [spF_none hs] at hv; have := ih k v hv; omega
    | some f =>
      rw [spF_some hs] at hv
      have h9 : v ≤ B + 2100 * j + 2100 := relF_bd (B := B + 2100 * j) hW (Nat.le_refl _) ih k v hv
      rw [Nat.mul_succ, ← Nat.add_assoc]
      exact h9
theorem at0_bd {a t : Nat} : ∀ k v, at0 a t k = some v → v ≤ t := by
  intro k v h
  unfold at0 at h
  split at h
  next => cases h; exact Nat.le_refl _
  next => cases h
/-- all corners' minutes, from a at t -/
def spr (al : Nat → Nat → Nat) (mv : Nat → Nat → Nat → Bool) (a t : Nat) : Nat → Option Nat := (spF al mv (at0 a t) (al 0 0)).1
theorem spr_bd {a t : Nat} (hW : sy_WS al) : ∀ k v, spr al mv a t k = some v → v ≤ t + 16800 := by
  intro k v h
  have := spF_bd (mv := mv) hW (at0_bd (a := a) (t := t)) (al 0 0) k v h
  have := hW.1
  omega
set_option maxHeartbeats 4000000 in
set_option maxRecDepth 100000 in
theorem ww_spread {T a t : Nat} (hT : T = 6 ∨ T = 15) (hW : sy_WS al) (hTT : sy_T T I al) (ha : a < 8) (ht : t ≥ 0 ∧ t ≤ 100000) (ho : ∀ i, i < al 4 0 → I 4 i = nI (ob mv i)) : pm_R X mm_X2_spread.1 0 [some (.ref 3), some (.ref T), some (.int (nI a)), some (.int (nI t)), none, none, none] [] (41, sy_R c, I, J) (fun o w' => o = none ∧ ∃ I', w' = (41, sy_R c, I', J) ∧ (∀ k, k < 8 → I' 5 k = ov (spr al mv a t k)) ∧ ∀ x, x ≠ 5 → I' x = I x) := by
  have hns := hW.2.2.1
  have hn := hW.1
  have main := pm_for (X := X) (tb := mm_X2_spread.1) (K := fun o w' => o = none ∧ ∃ I', w' = (41, sy_R c, I', J) ∧ (∀ k, k < 8 → I' 5 k = ov (spr al mv a t k)) ∧ ∀ x, x ≠ 5 → I' x = I x) (St := (Nat → Nat → Int32) × Option Value) 40 (fun j s => [some (.ref 3), some (.ref T), some (.int (nI a)), some (.int (nI t)), some (.int (nI (spF al mv (at0 a t) j).2)), some (.int (nI j)), s.2]) (fun _ s => (41, sy_R c, s.1, J)) (fun j s => (∀ k, k < 8 → s.1 5 k = ov ((spF al mv (at0 a t) j).1 k)) ∧ ∀ x, x ≠ 5 → s.1 x = I x) (al 0 0) ?_ ?_
  · have key := pm_for (X := X) (tb := mm_X2_spread.1) (K := fun o w' => o = none ∧ ∃ I', w' = (41, sy_R c, I', J) ∧ (∀ k, k < 8 → I' 5 k = ov (spr al mv a t k)) ∧ ∀ x, x ≠ 5 → I' x = I x) (St := Nat → Nat → Int32) 3 (fun j _ => [some (.ref 3), some (.ref T), some (.int (nI a)), some (.int (nI t)), some (.int (nI j)), none, none]) (fun _ s => (41, sy_R c, s, J)) (fun j s => (∀ k, k < j → s 5 k = ov (at0 a t k)) ∧ ∀ x, x ≠ 5 → s x = I x) 8 ?_ ?_
    · have k0 := key 0 I (Nat.zero_le _) ⟨fun i hi => absurd hi (Nat.not_lt_zero i), fun _ _ => rfl⟩
      (repeat refine pm_sx [3] rfl rfl rfl ?_)
      exact k0
    · rintro j I1 hj ⟨h1, h2⟩ ih
      have hi := sy_idx (k := j) (N := 8) (by omega) (by decide)
      have tj : (nI j).toNatClampNeg = j := nI_clamp (by omega)
      have c0 : ¬ (8 : Int32) ≤ nI j := nI_ge (b := 8) hj (by decide)
      have hu2 : ∀ v : Int32, ∀ x, x ≠ 5 → pm_u I1 5 j v x = I x := fun v x hx => by rw [pm_u_cell hx]; exact h2 x hx
      have hu1 : ∀ v : Int32, v = ov (at0 a t j) → ∀ k, k < j + 1 → pm_u I1 5 j v 5 k = ov (at0 a t k) := fun v hv k hk => by
        by_cases hkj : k = j
        · subst hkj; rw [pm_u_same]; exact hv
        · rw [pm_u_slot hkj]; exact h1 k (by omega)
      by_cases hja : j = a
      · have c1 : nI j = nI a := by rw [hja]
        rcases hT with rfl | rfl
        all_goals (
          refine pm_s rfl rfl ?_
          (repeat' first | refine pm_sx [3] rfl rfl rfl ?_ | refine pm_ifT (by assumption) ?_ | refine pm_ifF (by assumption) ?_ | refine pm_ial rfl rfl (by assumption) ?_ | refine pm_ias rfl rfl rfl (by assumption) ?_ | refine pm_r rfl rfl rfl ?_ | refine pm_rz rfl rfl rfl ?_)
          rw [nI_1, tj]
          exact ih _ ⟨hu1 (nI t) (by unfold at0; rw [if_pos hja]; rfl), hu2 _⟩)
      · have c1 : ¬ nI j = nI a := fun q => hja ((nI_eq (by omega) (by omega)).mp q)
        rcases hT with rfl | rfl
        all_goals (
          refine pm_s rfl rfl ?_
          (repeat' first | refine pm_sx [3] rfl rfl rfl ?_ | refine pm_ifT (by assumption) ?_ | refine pm_ifF (by assumption) ?_ | refine pm_ial rfl rfl (by assumption) ?_ | refine pm_ias rfl rfl rfl (by assumption) ?_ | refine pm_r rfl rfl rfl ?_ | refine pm_rz rfl rfl rfl ?_)
          rw [nI_1, tj]
          exact ih _ ⟨hu1 (-1) (by unfold at0; rw [if_neg hja]; rfl), hu2 _⟩)
    · rintro I1 ⟨h1, h2⟩
      have m0 := main 0 (I1, none) (Nat.zero_le _) ⟨h1, h2⟩
      rcases hT with rfl | rfl
      all_goals (
        refine pm_s rfl rfl ?_
        (repeat' first | refine pm_sx [40] rfl rfl rfl ?_ | refine pm_ifT (by assumption) ?_ | refine pm_ifF (by assumption) ?_ | refine pm_ial rfl rfl (by assumption) ?_ | refine pm_ias rfl rfl rfl (by assumption) ?_ | refine pm_r rfl rfl rfl ?_ | refine pm_rz rfl rfl rfl ?_)
        exact m0)
  · rintro j ⟨I1, g6⟩ hj ⟨h1, h2⟩ ih
    dsimp only at h1 h2 ih ⊢
    have hT1 : sy_T T I1 al := hTT.cong (fun a h3 h4 => h2 a (by omega))
    have e4 : ¬ I1 T 0 ≤ nI j := by rw [hT1.1.1]; exact nI_ge hj (by omega)
    have hmet := spF_met (al := al) (mv := mv) (at_ := at0 a t) hn j
    have hbd := spF_bd (mv := mv) hW (at0_bd (a := a) (t := t)) j
    have l1 := ww_sel (X := X) (c := c) (J := J) (met := (spF al mv (at0 a t) j).2) hT hn hT1.1.1 (by omega) (fun k v hv => by have := hbd k v hv; omega) h1
    cases hs : selF (spF al mv (at0 a t) j).1 (spF al mv (at0 a t) j).2 (al 0 0) with
    | none =>
      rw [hs] at l1
      have c1 : ov none = -1 := rfl
      have hfin : spr al mv a t = (spF al mv (at0 a t) j).1 := by
        have := spF_stop hs (al 0 0 - j)
        rw [show j + (al 0 0 - j) = al 0 0 by omega] at this
        unfold spr
        rw [this]
      rcases hT with rfl | rfl
      all_goals (
        (repeat' first | refine pm_s rfl rfl ?_ | refine pm_ifT (by assumption) ?_ | refine pm_ifF (by assumption) ?_ | refine pm_ial rfl rfl (by assumption) ?_ | refine pm_ias rfl rfl rfl (by assumption) ?_ | refine pm_r rfl rfl rfl ?_ | refine pm_rz rfl rfl rfl ?_)
        refine pm_cq rfl rfl rfl rfl rfl rfl l1 ?_
        (repeat' first | refine pm_s rfl rfl ?_ | refine pm_ifT (by assumption) ?_ | refine pm_ifF (by assumption) ?_ | refine pm_ial rfl rfl (by assumption) ?_ | refine pm_ias rfl rfl rfl (by assumption) ?_ | refine pm_r rfl rfl rfl ?_ | refine pm_rz rfl rfl rfl ?_)
        exact ⟨rfl, I1, rfl, by rw [hfin]; exact h1, h2⟩)
    | some f =>
      obtain ⟨hf, hfb, u, hu⟩ := selF_some hs
      rw [hs] at l1
      have c1 : ¬ ov (some f) = -1 := by rw [ov_m1 (fun z hz => by cases hz; omega)]; exact fun z => by cases z
      have l2 := ww_rel (X := X) (c := c) (J := J) (mv := mv) (at_ := (spF al mv (at0 a t) j).1) (B := t + 2100 * j) hT hW hT1 hf hbd (by omega) hu h1 (fun i hi => by rw [h2 4 (by decide)]; exact ho i hi)
      have hor : nI (spF al mv (at0 a t) j).2 ||| (1 : Int32) <<< (ov (some f) &&& 31) = nI (spF al mv (at0 a t) (j + 1)).2 := by
        rw [spF_some hs]
        show _ ||| (1 : Int32) <<< (nI f &&& 31) = _
        rw [bt_shl (by omega), fa_or]
      rcases hT with rfl | rfl
      all_goals (
        refine pm_s rfl rfl ?_
        (repeat' first | refine pm_sx [40] rfl rfl rfl ?_ | refine pm_ifT (by assumption) ?_ | refine pm_ifF (by assumption) ?_ | refine pm_ial rfl rfl (by assumption) ?_ | refine pm_ias rfl rfl rfl (by assumption) ?_ | refine pm_r rfl rfl rfl ?_ | refine pm_rz rfl rfl rfl ?_)
        refine pm_cq rfl rfl rfl rfl rfl rfl l1 ?_
        (repeat' first | refine pm_sx [40] rfl rfl rfl ?_ | refine pm_ifT (by assumption) ?_ | refine pm_ifF (by assumption) ?_ | refine pm_ial rfl rfl (by assumption) ?_ | refine pm_ias rfl rfl rfl (by assumption) ?_ | refine pm_r rfl rfl rfl ?_ | refine pm_rz rfl rfl rfl ?_)
        refine pm_cv rfl rfl rfl rfl rfl rfl l2 ?_
        rintro w' ⟨I2, rfl, g1, g2⟩
        (repeat' first | refine pm_sx [40] rfl rfl rfl ?_ | refine pm_ifT (by assumption) ?_ | refine pm_ifF (by assumption) ?_ | refine pm_ial rfl rfl (by assumption) ?_ | refine pm_ias rfl rfl rfl (by assumption) ?_ | refine pm_r rfl rfl rfl ?_ | refine pm_rz rfl rfl rfl ?_)
        rw [nI_1, hor]
        refine ih (I2, _) ⟨?_, ?_⟩
        · rw [spF_some hs]; exact g1
        · intro x hx; exact (g2 x hx).trans (h2 x hx))
  · rintro ⟨I1, g6⟩ ⟨h1, h2⟩
    dsimp only at h1 h2 ⊢
    have hT1 : sy_T T I1 al := hTT.cong (fun a h3 h4 => h2 a (by omega))
    have e4 : I1 T 0 ≤ nI (al 0 0) := by rw [hT1.1.1]; exact Int32.le_refl _
    rcases hT with rfl | rfl
    all_goals (
      (repeat' first | refine pm_s rfl rfl ?_ | refine pm_ifT (by assumption) ?_ | refine pm_ifF (by assumption) ?_ | refine pm_ial rfl rfl (by assumption) ?_ | refine pm_ias rfl rfl rfl (by assumption) ?_ | refine pm_r rfl rfl rfl ?_ | refine pm_rz rfl rfl rfl ?_)
      exact ⟨rfl, I1, rfl, h1, h2⟩)
set_option maxHeartbeats 4000000 in
set_option maxRecDepth 100000 in
theorem ww_arr {T a b t : Nat} (hT : T = 6 ∨ T = 15) (hW : sy_WS al) (hTT : sy_T T I al) (ha : a < 8) (hb : b < al 0 0) (ht : t ≤ 100000) (ho : ∀ i, i < al 4 0 → I 4 i = nI (ob mv i)) : pm_R X mm_X2_arrival.1 0 [some (.ref 3), some (.ref T), some (.int (nI a)), some (.int (nI b)), some (.int (nI t))] [] (41, sy_R c, I, J) (fun o w' => ∃ v, o = some (.int v) ∧ v = ov (spr al mv a t b) ∧ ∃ I', w' = (41, sy_R c, I', J) ∧ ∀ x, x ≠ 5 → I' x = I x) := by
  have hn := hW.1
  have l1 := ww_spread (X := X) (c := c) (J := J) hT hW hTT ha ⟨Nat.zero_le _, ht⟩ ho
  have hi := sy_idx (k := b) (N := 8) (by omega) (by decide)
  have tb : (nI b).toNatClampNeg = b := nI_clamp (by omega)
  have e0 := hTT.1.1
  rcases hT with rfl | rfl
  all_goals (
    (repeat' first | refine pm_s rfl rfl ?_ | refine pm_ifT (by assumption) ?_ | refine pm_ifF (by assumption) ?_ | refine pm_ial rfl rfl (by assumption) ?_ | refine pm_ias rfl rfl rfl (by assumption) ?_ | refine pm_r rfl rfl rfl ?_ | refine pm_rz rfl rfl rfl ?_)
    refine pm_cv rfl rfl rfl rfl rfl rfl l1 ?_
    rintro w' ⟨I2, rfl, g1, g2⟩
    (repeat' first | refine pm_s rfl rfl ?_ | refine pm_ifT (by assumption) ?_ | refine pm_ifF (by assumption) ?_ | refine pm_ial rfl rfl (by assumption) ?_ | refine pm_ias rfl rfl rfl (by assumption) ?_ | refine pm_r rfl rfl rfl ?_ | refine pm_rz rfl rfl rfl ?_)
    refine pm_cq rfl rfl rfl rfl rfl rfl (tw_has1 (by decide) (by rw [g2 _ (by decide)]; exact e0) hn hb) ?_
    (repeat' first | refine pm_s rfl rfl ?_ | refine pm_ifT (by assumption) ?_ | refine pm_ifF (by assumption) ?_ | refine pm_ial rfl rfl (by assumption) ?_ | refine pm_ias rfl rfl rfl (by assumption) ?_ | refine pm_r rfl rfl rfl ?_ | refine pm_rz rfl rfl rfl ?_)
    exact ⟨_, rfl, by rw [tb]; exact g1 b (by omega), I2, rfl, g2⟩)
/-- corners at which one is at a minute at the latest, by bits -/
def tbF (at_ : Nat → Option Nat) (last : Nat) : Nat → Nat
  | 0 => 0
  | j + 1 => match at_ j with
    | none => tbF at_ last j
    | some v => if v ≤ last then tbF at_ last j ||| 2 ^ j else tbF at_ last j
theorem tbF_lt (last j : Nat) : tbF at_ last j < 2 ^ j := by
  induction j with
  | zero => exact Nat.one_pos
  | succ j ih =>
    have h2 : 2 ^ j < 2 ^ (j + 1) := Nat.pow_lt_pow_right (by decide) (by omega)
    unfold tbF
    split
    next => omega
    next =>
      split
      · exact Nat.or_lt_two_pow (by omega) h2
      · omega
set_option maxHeartbeats 4000000 in
set_option maxRecDepth 100000 in
theorem ww_by {T last : Nat} (hT : T = 6 ∨ T = 15) (hn : al 0 0 ≤ 8) (e0 : I T 0 = nI (al 0 0)) (hlast : last < 2 ^ 31) (hat : ∀ k v, at_ k = some v → v ≤ 900000) (h5 : ∀ k, k < 8 → I 5 k = ov (at_ k)) : pm_R X mm_X2_thereBy.1 0 [some (.ref 3), some (.ref T), some (.int (nI last)), none, none] [] (41, sy_R c, I, J) (fun o w' => o = some (.int (nI (tbF at_ last (al 0 0)))) ∧ w' = (41, sy_R c, I, J)) := by
  have key := pm_for (X := X) (tb := mm_X2_thereBy.1) (K := fun o w' => o = some (.int (nI (tbF at_ last (al 0 0)))) ∧ w' = (41, sy_R c, I, J)) (St := Unit) 5 (fun j _ => [some (.ref 3), some (.ref T), some (.int (nI last)), some (.int (nI (tbF at_ last j))), some (.int (nI j))]) (fun _ _ => (41, sy_R c, I, J)) (fun _ _ => True) (al 0 0) ?_ ?_
  · have k0 := key 0 () (Nat.zero_le _) trivial
    (repeat refine pm_sx [5] rfl rfl rfl ?_)
    exact k0
  · intro j g hj _ ih
    have e4 : ¬ I T 0 ≤ nI j := by rw [e0]; exact nI_ge hj (by omega)
    have hi := sy_idx (k := j) (N := 8) (by omega) (by decide)
    have t0 : (nI j).toNatClampNeg = j := nI_clamp (by omega)
    have q5 : I 5 (nI j).toNatClampNeg = ov (at_ j) := by rw [t0]; exact h5 j (by omega)
    cases ha : at_ j with
    | none =>
      have c1 : I 5 (nI j).toNatClampNeg = -1 := by rw [q5, ha]; rfl
      have es : tbF at_ last (j + 1) = tbF at_ last j := by
        show (match at_ j with | none => _ | some v => _) = _
        rw [ha]
      rw [es] at ih
      rcases hT with rfl | rfl
      all_goals (
        refine pm_s rfl rfl ?_
        (repeat' first | refine pm_sx [5] rfl rfl rfl ?_ | refine pm_ifT (by assumption) ?_ | refine pm_ifF (by assumption) ?_ | refine pm_ial rfl rfl (by assumption) ?_ | refine pm_ias rfl rfl rfl (by assumption) ?_ | refine pm_r rfl rfl rfl ?_ | refine pm_rz rfl rfl rfl ?_)
        rw [nI_1]
        exact ih () trivial)
    | some v =>
      have hv := hat j v ha
      have c1 : ¬ I 5 (nI j).toNatClampNeg = -1 := by rw [q5, ha, ov_m1 (fun b hb => by cases hb; omega)]; exact fun z => by cases z
      have hcmp : (nI last < I 5 (nI j).toNatClampNeg) = ¬ (v ≤ last) := by
        rw [q5, ha]
        show (nI last < nI v) = _
        rw [nI_lt' hlast (by omega)]
        exact propext ⟨fun z => by omega, fun z => by omega⟩
      by_cases hvl : v ≤ last
      · have c2 : ¬ (nI last < I 5 (nI j).toNatClampNeg) := by rw [hcmp]; exact fun z => z hvl
        have es : tbF at_ last (j + 1) = tbF at_ last j ||| 2 ^ j := by
          show (match at_ j with | none => _ | some v => _) = _
          rw [ha]
          exact if_pos hvl
        have hor : nI (tbF at_ last j) ||| (1 : Int32) <<< (nI j &&& 31) = nI (tbF at_ last j ||| 2 ^ j) := by rw [bt_shl (by omega), fa_or]
        rw [es] at ih
        rcases hT with rfl | rfl
        all_goals (
          refine pm_s rfl rfl ?_
          (repeat' first | refine pm_sx [5] rfl rfl rfl ?_ | refine pm_ifT (by assumption) ?_ | refine pm_ifF (by assumption) ?_ | refine pm_ial rfl rfl (by assumption) ?_ | refine pm_ias rfl rfl rfl (by assumption) ?_ | refine pm_r rfl rfl rfl ?_ | refine pm_rz rfl rfl rfl ?_)
          rw [nI_1, hor]
          exact ih () trivial)
      · have c2 : (nI last < I 5 (nI j).toNatClampNeg) := by rw [hcmp]; exact hvl
        have es : tbF at_ last (j + 1) = tbF at_ last j := by
          show (match at_ j with | none => _ | some v => _) = _
          rw [ha]
          exact if_neg hvl
        rw [es] at ih
        rcases hT with rfl | rfl
        all_goals (
          refine pm_s rfl rfl ?_
          (repeat' first | refine pm_sx [5] rfl rfl rfl ?_ | refine pm_ifT (by assumption) ?_ | refine pm_ifF (by assumption) ?_ | refine pm_ial rfl rfl (by assumption) ?_ | refine pm_ias rfl rfl rfl (by assumption) ?_ | refine pm_r rfl rfl rfl ?_ | refine pm_rz rfl rfl rfl ?_)
          rw [nI_1]
          exact ih () trivial)
  · intro g _
    have e4 : I T 0 ≤ nI (al 0 0) := by rw [e0]; exact Int32.le_refl _
    rcases hT with rfl | rfl
    all_goals (
      (repeat' first | refine pm_s rfl rfl ?_ | refine pm_ifT (by assumption) ?_ | refine pm_ifF (by assumption) ?_ | refine pm_ial rfl rfl (by assumption) ?_ | refine pm_ias rfl rfl rfl (by assumption) ?_ | refine pm_r rfl rfl rfl ?_ | refine pm_rz rfl rfl rfl ?_)
      exact ⟨rfl, rfl⟩)
end WI
end
section
/-- an answer of the reference that may be none -/
def fv (o : Option Nat) : Int32 := match o with
  | some b => nI b
  | none => 10000000
section MA
variable {X : Nat × (Nat → Int32)} {al al' : Nat → Nat → Nat} {c : Nat} {I I' : Nat → Nat → Int32} {J J' : Nat → Nat → Int64} {K : Option Value → pm_Wo → Prop}
/-- what the reference's ways read -/
def sy_Q (I : Nat → Nat → Int32) (al : Nat → Nat → Nat) (st lw rp : Nat) : Prop := sy_My I al st lw rp ∧ I 30 0 = nI (al 0 0) ∧ I 30 3 = nI (al 4 0) ∧ I 30 6 = nI (al 9 0)
theorem sy_My.cong {st lw rp : Nat} (h : sy_My I al st lw rp) (hI : ∀ a, a = 30 ∨ a = 31 ∨ a = 32 → I' a = I a) : sy_My I' al st lw rp := by
  unfold sy_My at h ⊢
  rw [hI 30 (by omega), hI 31 (by omega), hI 32 (by omega)]
  exact h
theorem sy_Q.cong {st lw rp : Nat} (h : sy_Q I al st lw rp) (hI : ∀ x, x ≠ 40 → I' x = I x) : sy_Q I' al st lw rp := by
  refine ⟨h.1.cong (fun a ha => hI a (by omega)), ?_⟩
  rw [hI 30 (by decide)]
  exact h.2
theorem sy_M.q (h : sy_M I al) : sy_Q I al (al 3 0) (al 10 0) 99 := ⟨h.my, h.1.1.1, h.1.1.2.2.1, h.1.1.2.2.2.1⟩
set_option maxHeartbeats 4000000 in
set_option maxRecDepth 100000 in
theorem md_eit {s side t q k st lw rp : Nat} {g7 : Option Value} (hW : sy_WS al) (hQ : sy_Q I al st lw rp) (hst : st < 2 ^ 31) (hlw : lw ≤ 2) (hs : s < al 4 0) (hsd : side ≤ 1) (ht : t ≤ 900000) (hk : k ≤ 1000000) (hq : q ≤ 1000000) (hle : k < q + 3) {bgn : Nat} (hbg : bgn = if k = q then t else k * al 9 0)
    (hK : my al st lw rp s side (k % 2) = true ∧ bgn + al 8 s ≤ (k + 1) * al 9 0 → K (some (.int (nI (bgn + al 8 s)))) (41, sy_R c, I, J))
    (hgo : ¬ (my al st lw rp s side (k % 2) = true ∧ bgn + al 8 s ≤ (k + 1) * al 9 0) → pm_R X mm_X4_endOf.1 36 [some (.ref 30), some (.int (nI s)), some (.int (nI side)), some (.int (nI t)), some (.int (nI (al 8 s))), some (.int (nI q)), some (.int (nI (k + 1))), some (.int (nI bgn))] [] (41, sy_R c, I, J) K) :
    pm_R X mm_X4_endOf.1 36 [some (.ref 30), some (.int (nI s)), some (.int (nI side)), some (.int (nI t)), some (.int (nI (al 8 s))), some (.int (nI q)), some (.int (nI k)), g7] [] (41, sy_R c, I, J) K := by
  obtain ⟨hn, hhh, hns, hstr, hH1, hH2⟩ := id hW
  obtain ⟨-, -, k5, k6⟩ := hstr s hs
  have e6 := hQ.2.2.2
  have c0 : ¬ nI q + 3 ≤ nI k := by rw [show (3 : Int32) = nI 3 from rfl, nI_add]; exact nI_ge hle (by omega)
  have hm1 : k * al 9 0 ≤ 1000000 * 999 := Nat.mul_le_mul hk hH2
  have hm2 : (k + 1) * al 9 0 = k * al 9 0 + al 9 0 := by rw [Nat.add_mul, Nat.one_mul]
  have hbl : bgn ≤ 1000000 * 999 := by rw [hbg]; split <;> omega
  have hr : nI k - nI k / 2 * 2 = nI (k % 2) := pk_rem (d := 2) (by omega) (by decide) (by decide)
  have l1 := md_my (X := X) (c := c) (J := J) hW hQ.1 hst hlw hs hsd (show k % 2 ≤ 1 by omega)
  rw [← hr] at l1
  have hF : ((nI k + 1) * I 30 6 < nI bgn + nI (al 8 s)) = ¬ (bgn + al 8 s ≤ (k + 1) * al 9 0) := by
    rw [e6, nI_1, pk_mul, nI_add, nI_lt' (by omega) (by omega)]
    exact propext ⟨fun z => by omega, fun z => by omega⟩
  have step : ∀ (Bv : Int32), Bv = nI bgn → pm_R X mm_X4_endOf.1 65 [some (.ref 30), some (.int (nI s)), some (.int (nI side)), some (.int (nI t)), some (.int (nI (al 8 s))), some (.int (nI q)), some (.int (nI k)), some (.int Bv)] [] (41, sy_R c, I, J) K := by
    intro Bv hBv
    subst hBv
    cases hm : my al st lw rp s side (k % 2) with
    | false =>
      rw [hm] at l1 hgo
      have hg := hgo (fun z => by cases z.1)
      (repeat' first | refine pm_sx [36] rfl rfl rfl ?_ | refine pm_ifT (by assumption) ?_ | refine pm_ifF (by assumption) ?_ | refine pm_ial rfl rfl (by assumption) ?_ | refine pm_ias rfl rfl rfl (by assumption) ?_ | refine pm_r rfl rfl rfl ?_ | refine pm_rz rfl rfl rfl ?_)
      refine pm_cq rfl rfl rfl rfl rfl rfl l1 ?_
      (repeat' first | refine pm_sx [36] rfl rfl rfl ?_ | refine pm_ifT (by assumption) ?_ | refine pm_ifF (by assumption) ?_ | refine pm_ial rfl rfl (by assumption) ?_ | refine pm_ias rfl rfl rfl (by assumption) ?_ | refine pm_r rfl rfl rfl ?_ | refine pm_rz rfl rfl rfl ?_)
      rw [nI_1]
      exact hg
    | true =>
      rw [hm] at l1 hgo hK
      by_cases hf : bgn + al 8 s ≤ (k + 1) * al 9 0
      · have f1 : ¬ ((nI k + 1) * I 30 6 < nI bgn + nI (al 8 s)) := by rw [hF]; exact fun z => z hf
        (repeat' first | refine pm_sx [36] rfl rfl rfl ?_ | refine pm_ifT (by assumption) ?_ | refine pm_ifF (by assumption) ?_ | refine pm_ial rfl rfl (by assumption) ?_ | refine pm_ias rfl rfl rfl (by assumption) ?_ | refine pm_r rfl rfl rfl ?_ | refine pm_rz rfl rfl rfl ?_)
        refine pm_cq rfl rfl rfl rfl rfl rfl l1 ?_
        (repeat' first | refine pm_sx [36] rfl rfl rfl ?_ | refine pm_ifT (by assumption) ?_ | refine pm_ifF (by assumption) ?_ | refine pm_ial rfl rfl (by assumption) ?_ | refine pm_ias rfl rfl rfl (by assumption) ?_ | refine pm_r rfl rfl rfl ?_ | refine pm_rz rfl rfl rfl ?_)
        rw [nI_add]
        exact hK ⟨rfl, hf⟩
      · have f1 : ((nI k + 1) * I 30 6 < nI bgn + nI (al 8 s)) := by rw [hF]; exact hf
        have hg := hgo (fun z => hf z.2)
        (repeat' first | refine pm_sx [36] rfl rfl rfl ?_ | refine pm_ifT (by assumption) ?_ | refine pm_ifF (by assumption) ?_ | refine pm_ial rfl rfl (by assumption) ?_ | refine pm_ias rfl rfl rfl (by assumption) ?_ | refine pm_r rfl rfl rfl ?_ | refine pm_rz rfl rfl rfl ?_)
        refine pm_cq rfl rfl rfl rfl rfl rfl l1 ?_
        (repeat' first | refine pm_sx [36] rfl rfl rfl ?_ | refine pm_ifT (by assumption) ?_ | refine pm_ifF (by assumption) ?_ | refine pm_ial rfl rfl (by assumption) ?_ | refine pm_ias rfl rfl rfl (by assumption) ?_ | refine pm_r rfl rfl rfl ?_ | refine pm_rz rfl rfl rfl ?_)
        rw [nI_1]
        exact hg
  by_cases hkq : k = q
  · have c1 : nI k = nI q := by rw [hkq]
    refine pm_s rfl rfl ?_
    (repeat' first | refine pm_sx [36, 65] rfl rfl rfl ?_ | refine pm_ifT (by assumption) ?_ | refine pm_ifF (by assumption) ?_ | refine pm_ial rfl rfl (by assumption) ?_ | refine pm_ias rfl rfl rfl (by assumption) ?_ | refine pm_r rfl rfl rfl ?_ | refine pm_rz rfl rfl rfl ?_)
    exact step _ (by rw [hbg, if_pos hkq])
  · have c1 : ¬ nI k = nI q := fun z => hkq ((nI_eq (by omega) (by omega)).mp z)
    refine pm_s rfl rfl ?_
    (repeat' first | refine pm_sx [36, 65] rfl rfl rfl ?_ | refine pm_ifT (by assumption) ?_ | refine pm_ifF (by assumption) ?_ | refine pm_ial rfl rfl (by assumption) ?_ | refine pm_ias rfl rfl rfl (by assumption) ?_ | refine pm_r rfl rfl rfl ?_ | refine pm_rz rfl rfl rfl ?_)
    exact step _ (by rw [hbg, if_neg hkq, e6, pk_mul])
theorem fe_bg {H m t : Nat} {p : Nat → Bool} (hH : 0 < H) (hm : ¬ m ≤ H) : bg H m t p = none := by
  have hdm := Nat.div_add_mod t H
  have hc1 : (t / H + 1) * H = H * (t / H) + H := by rw [Nat.add_mul, Nat.one_mul, Nat.mul_comm]
  unfold bg
  rw [if_neg (fun z => by have := z.1; omega), if_neg (fun z => hm z.1), if_neg (fun z => hm z.1)]
/-- the end of a step that begins as soon as it can -/
def fe (H m t : Nat) (p : Nat → Bool) : Option Nat := match bg H m t p with
  | some b => some (b + m)
  | none => none
set_option maxHeartbeats 4000000 in
set_option maxRecDepth 100000 in
theorem md_end {s side t st lw rp : Nat} (hW : sy_WS al) (hQ : sy_Q I al st lw rp) (hst : st < 2 ^ 31) (hlw : lw ≤ 2) (hs : s < al 4 0) (hsd : side ≤ 1) (ht : t ≤ 900000) : pm_R X mm_X4_endOf.1 0 [some (.ref 30), some (.int (nI s)), some (.int (nI side)), some (.int (nI t)), none, none, none, none] [] (41, sy_R c, I, J) (fun o w' => o = some (.int (fv (fe (al 9 0) (al 8 s) t (my al st lw rp s side)))) ∧ w' = (41, sy_R c, I, J)) := by
  obtain ⟨hn, hhh, hns, hstr, hH1, hH2⟩ := id hW
  obtain ⟨-, -, k5, k6⟩ := hstr s hs
  have e6 := hQ.2.2.2
  obtain ⟨z1, z2, z3, z4⟩ := hQ.1.2.2.2.1 s (by omega)
  obtain ⟨i3, t3⟩ := ix4 (s := s) (m := 3) (by omega) (by omega)
  have i3 : (0 : Int32) ≤ 4 * nI s + 3 ∧ (4 * nI s + 3).toNatClampNeg < 48 := i3
  have t3 : (4 * nI s + 3).toNatClampNeg = 4 * s + 3 := t3
  have q3 : I 32 (4 * nI s + 3).toNatClampNeg = nI (al 8 s) := by rw [t3]; exact z4
  have n0 : ¬ I 30 6 = 0 := by rw [e6]; exact nI_ne0 (by omega) (by omega)
  have hcmp : (I 32 (4 * nI s + 3).toNatClampNeg ≤ I 30 6) = (al 8 s ≤ al 9 0) := by rw [q3, e6, nI_le' (by omega) (by omega)]
  have hq : t / al 9 0 ≤ t := Nat.div_le_self _ _
  have hm := Nat.div_add_mod t (al 9 0)
  have hl := Nat.mod_lt t (show 0 < al 9 0 by omega)
  have hcm : t / al 9 0 * al 9 0 = al 9 0 * (t / al 9 0) := Nat.mul_comm _ _
  have hc1 : (t / al 9 0 + 1) * al 9 0 = t / al 9 0 * al 9 0 + al 9 0 := by rw [Nat.add_mul, Nat.one_mul]
  have hc3 : (t / al 9 0 + 1 + 1 + 1) * al 9 0 = t / al 9 0 * al 9 0 + 3 * al 9 0 := by rw [show t / al 9 0 + 1 + 1 + 1 = t / al 9 0 + 3 by omega, Nat.add_mul]
  have hc4 : (t / al 9 0 + 1 + 1) * al 9 0 = t / al 9 0 * al 9 0 + 2 * al 9 0 := by rw [show t / al 9 0 + 1 + 1 = t / al 9 0 + 2 by omega, Nat.add_mul]
  by_cases hmH : al 8 s ≤ al 9 0
  · have c1 : I 32 (4 * nI s + 3).toNatClampNeg ≤ I 30 6 := by rw [hcmp]; exact hmH
    (repeat' first | refine pm_sx [36] rfl rfl rfl ?_ | refine pm_ifT (by assumption) ?_ | refine pm_ifF (by assumption) ?_ | refine pm_ial rfl rfl (by assumption) ?_ | refine pm_ias rfl rfl rfl (by assumption) ?_ | refine pm_r rfl rfl rfl ?_ | refine pm_rz rfl rfl rfl ?_)
    refine pm_dv rfl n0 ?_
    (repeat' first | refine pm_sx [36] rfl rfl rfl ?_ | refine pm_ifT (by assumption) ?_ | refine pm_ifF (by assumption) ?_ | refine pm_ial rfl rfl (by assumption) ?_ | refine pm_ias rfl rfl rfl (by assumption) ?_ | refine pm_r rfl rfl rfl ?_ | refine pm_rz rfl rfl rfl ?_)
    rw [q3, e6, pk_div (by omega) (by omega) (by omega)]
    refine md_eit hW hQ hst hlw hs hsd ht (by omega) (by omega) (by omega) (if_pos rfl).symm (fun hz => ?_) (fun hz0 => ?_)
    · refine ⟨?_, rfl⟩
      unfold fe bg
      rw [if_pos ⟨hz.2, hz.1⟩]
      rfl
    · refine md_eit hW hQ hst hlw hs hsd ht (by omega) (by omega) (by omega) (if_neg (by omega)).symm (fun hz => ?_) (fun hz1 => ?_)
      · refine ⟨?_, rfl⟩
        unfold fe bg
        rw [if_neg (fun z => hz0 ⟨z.2, z.1⟩), if_pos ⟨hmH, hz.1⟩]
        rfl
      · refine md_eit hW hQ hst hlw hs hsd ht (by omega) (by omega) (by omega) (if_neg (by omega)).symm (fun hz => ?_) (fun hz2 => ?_)
        · refine ⟨?_, rfl⟩
          rw [show (t / al 9 0 + 1 + 1) % 2 = t / al 9 0 % 2 by omega] at hz
          unfold fe bg
          rw [if_neg (fun z => hz0 ⟨z.2, z.1⟩), if_neg (fun z => hz1 ⟨z.2, by omega⟩), if_pos ⟨hmH, hz.1⟩]
          rfl
        · rw [show (t / al 9 0 + 1 + 1) % 2 = t / al 9 0 % 2 by omega] at hz2
          have hend : nI (t / al 9 0) + 3 ≤ nI (t / al 9 0 + 1 + 1 + 1) := by rw [show (3 : Int32) = nI 3 from rfl, nI_add]; exact Int32.le_refl _
          (repeat' first | refine pm_s rfl rfl ?_ | refine pm_ifT (by assumption) ?_ | refine pm_ifF (by assumption) ?_ | refine pm_ial rfl rfl (by assumption) ?_ | refine pm_ias rfl rfl rfl (by assumption) ?_ | refine pm_r rfl rfl rfl ?_ | refine pm_rz rfl rfl rfl ?_)
          refine ⟨?_, rfl⟩
          unfold fe bg
          rw [if_neg (fun z => hz0 ⟨z.2, z.1⟩), if_neg (fun z => hz1 ⟨z.2, by omega⟩), if_neg (fun z => hz2 ⟨z.2, by omega⟩)]
          rfl
  · have c1 : ¬ I 32 (4 * nI s + 3).toNatClampNeg ≤ I 30 6 := by rw [hcmp]; exact hmH
    (repeat' first | refine pm_s rfl rfl ?_ | refine pm_ifT (by assumption) ?_ | refine pm_ifF (by assumption) ?_ | refine pm_ial rfl rfl (by assumption) ?_ | refine pm_ias rfl rfl rfl (by assumption) ?_ | refine pm_r rfl rfl rfl ?_ | refine pm_rz rfl rfl rfl ?_)
    refine ⟨?_, rfl⟩
    unfold fe
    rw [fe_bg (by omega) hmH]
    rfl
end MA
end
section
theorem fv_far {o : Option Nat} (ho : ∀ b, o = some b → b ≤ 900000) : ((10000000 : Int32) ≤ fv o) = (o = none) := by
  cases o with
  | none => exact propext ⟨fun _ => rfl, fun _ => Int32.le_refl _⟩
  | some b =>
    have hb := ho b rfl
    refine propext ⟨fun h => ?_, fun h => by cases h⟩
    exact absurd h (nI_ge (a := b) (b := 10000000) (by omega) (by decide))
theorem fv_lt {u v : Nat} (hu : u < 2 ^ 31) (hv : v < 2 ^ 31) : (fv (some u) ≤ fv (some v)) = ¬ (v < u) := by
  show (nI u ≤ nI v) = _
  rw [nI_le' hu hv]
  exact propext ⟨fun z => by omega, fun z => by omega⟩
section MB
variable {X : Nat × (Nat → Int32)} {al al' : Nat → Nat → Nat} {c : Nat} {I I' : Nat → Nat → Int32} {J J' : Nat → Nat → Int64} {K : Option Value → pm_Wo → Prop} {at_ : Nat → Option Nat}
set_option maxHeartbeats 4000000 in
set_option maxRecDepth 100000 in
theorem md_sel {met : Nat} {a1 a2 a3 a5 g8 g9 g10 g7 : Option Value} (hn : al 0 0 ≤ 8) (e0 : I 30 0 = nI (al 0 0)) (hmet : met < 256) (hat : ∀ k v, at_ k = some v → v ≤ 900000) (h40 : ∀ k, k < al 0 0 → I 40 k = fv (at_ k)) (a5' : Int32) (ha5 : a5 = some (.int a5'))
    (hx : ∀ x7 : Int32, pm_R X mm_X4_soonestOf.1 127 [some (.ref 30), a1, a2, a3, some (.int (nI met)), a5, some (.int (ov (selF at_ met (al 0 0)))), some (.int x7), g8, g9, g10] [] (41, sy_R c, I, J) K) :
    pm_R X mm_X4_soonestOf.1 58 [some (.ref 30), a1, a2, a3, some (.int (nI met)), a5, some (.int (-1)), some (.int 0), g8, g9, g10] [] (41, sy_R c, I, J) K := by
  subst ha5
  have key := pm_for (X := X) (tb := mm_X4_soonestOf.1) (K := K) (St := Unit) 58 (fun j _ => [some (.ref 30), a1, a2, a3, some (.int (nI met)), some (.int a5'), some (.int (ov (selF at_ met j))), some (.int (nI j)), g8, g9, g10]) (fun _ _ => (41, sy_R c, I, J)) (fun _ _ => True) (al 0 0) ?_ ?_
  · exact key 0 () (Nat.zero_le _) trivial
  · intro j g hj _ ih
    have e4 : ¬ I 30 0 ≤ nI j := by rw [e0]; exact nI_ge hj (by omega)
    have hi := sy_idx (k := j) (N := 8) (by omega) (by decide)
    have t0 : (nI j).toNatClampNeg = j := nI_clamp (by omega)
    have q5 : I 40 (nI j).toNatClampNeg = fv (at_ j) := by rw [t0]; exact h40 j hj
    have l1 := md_has (X := X) (w := (41, sy_R c, I, J)) (st := met) (k := j) (by omega) (by omega)
    have hbb : met.testBit j = decide (met / 2 ^ j % 2 = 1) := Nat.testBit_eq_decide_div_mod_eq
    by_cases hm : met.testBit j = true
    · have hz : met / 2 ^ j % 2 = 1 := by rw [hbb] at hm; simpa using hm
      rw [hz] at l1
      have es : selF at_ met (j + 1) = selF at_ met j := by
        show (match at_ j with | none => _ | some v => _) = _
        cases at_ j with
        | none => rfl
        | some v => exact if_pos hm
      rw [es] at ih
      refine pm_s rfl rfl ?_
      (repeat' first | refine pm_sx [58] rfl rfl rfl ?_ | refine pm_ifT (by assumption) ?_ | refine pm_ifF (by assumption) ?_ | refine pm_ial rfl rfl (by assumption) ?_ | refine pm_ias rfl rfl rfl (by assumption) ?_ | refine pm_r rfl rfl rfl ?_ | refine pm_rz rfl rfl rfl ?_)
      refine pm_cq rfl rfl rfl rfl rfl rfl l1 ?_
      (repeat' first | refine pm_sx [58] rfl rfl rfl ?_ | refine pm_ifT (by assumption) ?_ | refine pm_ifF (by assumption) ?_ | refine pm_ial rfl rfl (by assumption) ?_ | refine pm_ias rfl rfl rfl (by assumption) ?_ | refine pm_r rfl rfl rfl ?_ | refine pm_rz rfl rfl rfl ?_)
      rw [nI_1]
      exact ih () trivial
    · have hz : met / 2 ^ j % 2 = 0 := by
        rw [hbb] at hm
        have : ¬ met / 2 ^ j % 2 = 1 := by simpa using hm
        omega
      rw [hz] at l1
      cases ha : at_ j with
      | none =>
        have c1 : (10000000 : Int32) ≤ I 40 (nI j).toNatClampNeg := by rw [q5, ha]; exact Int32.le_refl _
        have es : selF at_ met (j + 1) = selF at_ met j := by
          show (match at_ j with | none => _ | some v => _) = _
          rw [ha]
        rw [es] at ih
        refine pm_s rfl rfl ?_
        (repeat' first | refine pm_sx [58] rfl rfl rfl ?_ | refine pm_ifT (by assumption) ?_ | refine pm_ifF (by assumption) ?_ | refine pm_ial rfl rfl (by assumption) ?_ | refine pm_ias rfl rfl rfl (by assumption) ?_ | refine pm_r rfl rfl rfl ?_ | refine pm_rz rfl rfl rfl ?_)
        refine pm_cq rfl rfl rfl rfl rfl rfl l1 ?_
        (repeat' first | refine pm_sx [58] rfl rfl rfl ?_ | refine pm_ifT (by assumption) ?_ | refine pm_ifF (by assumption) ?_ | refine pm_ial rfl rfl (by assumption) ?_ | refine pm_ias rfl rfl rfl (by assumption) ?_ | refine pm_r rfl rfl rfl ?_ | refine pm_rz rfl rfl rfl ?_)
        rw [nI_1]
        exact ih () trivial
      | some v =>
        have hv := hat j v ha
        have c1 : ¬ (10000000 : Int32) ≤ I 40 (nI j).toNatClampNeg := by rw [q5, ha, fv_far (fun b hb => by cases hb; omega)]; exact fun z => by cases z
        cases hse : selF at_ met j with
        | none =>
          have es : selF at_ met (j + 1) = some j := by
            show (match at_ j with | none => _ | some v => _) = _
            rw [ha]
            dsimp only
            rw [if_neg hm, hse]
          have c3 : ov none = -1 := rfl
          rw [es] at ih
          refine pm_s rfl rfl ?_
          (repeat' first | refine pm_sx [58] rfl rfl rfl ?_ | refine pm_ifT (by assumption) ?_ | refine pm_ifF (by assumption) ?_ | refine pm_ial rfl rfl (by assumption) ?_ | refine pm_ias rfl rfl rfl (by assumption) ?_ | refine pm_r rfl rfl rfl ?_ | refine pm_rz rfl rfl rfl ?_)
          refine pm_cq rfl rfl rfl rfl rfl rfl l1 ?_
          (repeat' first | refine pm_sx [58] rfl rfl rfl ?_ | refine pm_ifT (by assumption) ?_ | refine pm_ifF (by assumption) ?_ | refine pm_ial rfl rfl (by assumption) ?_ | refine pm_ias rfl rfl rfl (by assumption) ?_ | refine pm_r rfl rfl rfl ?_ | refine pm_rz rfl rfl rfl ?_)
          rw [nI_1]
          exact ih () trivial
        | some c0 =>
          obtain ⟨hc0, -, u, hu⟩ := selF_some hse
          have hu2 := hat c0 u hu
          have c3 : ¬ ov (some c0) = -1 := by rw [ov_m1 (fun b hb => by cases hb; omega)]; exact fun z => by cases z
          have tc : (ov (some c0)).toNatClampNeg = c0 := nI_clamp (by omega)
          have hic : (0 : Int32) ≤ ov (some c0) ∧ (ov (some c0)).toNatClampNeg < 8 := sy_idx (k := c0) (by omega) (by decide)
          have qc : I 40 (ov (some c0)).toNatClampNeg = fv (some u) := by rw [tc, h40 c0 (by omega), hu]
          have qj : I 40 (nI j).toNatClampNeg = fv (some v) := by rw [q5, ha]
          have hcmp : (I 40 (ov (some c0)).toNatClampNeg ≤ I 40 (nI j).toNatClampNeg) = ¬ (v < u) := by rw [qc, qj, fv_lt (by omega) (by omega)]
          by_cases hvu : v < u
          · have c4 : ¬ (I 40 (ov (some c0)).toNatClampNeg ≤ I 40 (nI j).toNatClampNeg) := by rw [hcmp]; exact fun z => z hvu
            have es : selF at_ met (j + 1) = some j := by
              show (match at_ j with | none => _ | some v => _) = _
              rw [ha]
              dsimp only
              rw [if_neg hm, hse]
              dsimp only
              rw [hu]
              exact if_pos hvu
            rw [es] at ih
            refine pm_s rfl rfl ?_
            (repeat' first | refine pm_sx [58] rfl rfl rfl ?_ | refine pm_ifT (by assumption) ?_ | refine pm_ifF (by assumption) ?_ | refine pm_ial rfl rfl (by assumption) ?_ | refine pm_ias rfl rfl rfl (by assumption) ?_ | refine pm_r rfl rfl rfl ?_ | refine pm_rz rfl rfl rfl ?_)
            refine pm_cq rfl rfl rfl rfl rfl rfl l1 ?_
            (repeat' first | refine pm_sx [58] rfl rfl rfl ?_ | refine pm_ifT (by assumption) ?_ | refine pm_ifF (by assumption) ?_ | refine pm_ial rfl rfl (by assumption) ?_ | refine pm_ias rfl rfl rfl (by assumption) ?_ | refine pm_r rfl rfl rfl ?_ | refine pm_rz rfl rfl rfl ?_)
            rw [nI_1]
            exact ih () trivial
          · have c4 : (I 40 (ov (some c0)).toNatClampNeg ≤ I 40 (nI j).toNatClampNeg) := by rw [hcmp]; exact hvu
            have es : selF at_ met (j + 1) = some c0 := by
              show (match at_ j with | none => _ | some v => _) = _
              rw [ha]
              dsimp only
              rw [if_neg hm, hse]
              dsimp only
              rw [hu]
              exact if_neg hvu
            rw [es] at ih
            refine pm_s rfl rfl ?_
            (repeat' first | refine pm_sx [58] rfl rfl rfl ?_ | refine pm_ifT (by assumption) ?_ | refine pm_ifF (by assumption) ?_ | refine pm_ial rfl rfl (by assumption) ?_ | refine pm_ias rfl rfl rfl (by assumption) ?_ | refine pm_r rfl rfl rfl ?_ | refine pm_rz rfl rfl rfl ?_)
            refine pm_cq rfl rfl rfl rfl rfl rfl l1 ?_
            (repeat' first | refine pm_sx [58] rfl rfl rfl ?_ | refine pm_ifT (by assumption) ?_ | refine pm_ifF (by assumption) ?_ | refine pm_ial rfl rfl (by assumption) ?_ | refine pm_ias rfl rfl rfl (by assumption) ?_ | refine pm_r rfl rfl rfl ?_ | refine pm_rz rfl rfl rfl ?_)
            rw [nI_1]
            exact ih () trivial
  · intro g _
    have e4 : I 30 0 ≤ nI (al 0 0) := by rw [e0]; exact Int32.le_refl _
    refine pm_s rfl rfl ?_
    (repeat' first | refine pm_sx [58, 127] rfl rfl rfl ?_ | refine pm_ifT (by assumption) ?_ | refine pm_ifF (by assumption) ?_ | refine pm_ial rfl rfl (by assumption) ?_ | refine pm_ias rfl rfl rfl (by assumption) ?_ | refine pm_r rfl rfl rfl ?_ | refine pm_rz rfl rfl rfl ?_)
    exact hx _
set_option maxHeartbeats 4000000 in
set_option maxRecDepth 100000 in
theorem md_rel {f B t st lw rp : Nat} {a1 a2 a3 a4 a5 g8 g9 g10 : Option Value} (hW : sy_WS al) (hQ : sy_Q I al st lw rp) (hst : st < 2 ^ 31) (hlw : lw ≤ 2) (hf : f < al 0 0) (hat : ∀ k v, at_ k = some v → v ≤ B) (hB : B ≤ 800000) (hft : at_ f = some t) (h40 : ∀ k, k < al 0 0 → I 40 k = fv (at_ k))
    (hx : ∀ (I1 : Nat → Nat → Int32) (x7 : Int32) (g8 g9 g10 : Option Value), (∀ k, k < al 0 0 → I1 40 k = fv (relF al (my al st lw rp) f at_ (al 4 0) k)) → (∀ x, x ≠ 40 → I1 x = I x) → pm_R X mm_X4_soonestOf.1 247 [some (.ref 30), a1, a2, a3, a4, a5, some (.int (nI f)), some (.int x7), g8, g9, g10] [] (41, sy_R c, I1, J) K) :
    pm_R X mm_X4_soonestOf.1 152 [some (.ref 30), a1, a2, a3, a4, a5, some (.int (nI f)), some (.int 0), g8, g9, g10] [] (41, sy_R c, I, J) K := by
  have hns := hW.2.2.1
  have hn := hW.1
  have key := pm_for (X := X) (tb := mm_X4_soonestOf.1) (K := K) (St := (Nat → Nat → Int32) × Option Value × Option Value × Option Value) 152 (fun j s => [some (.ref 30), a1, a2, a3, a4, a5, some (.int (nI f)), some (.int (nI j)), s.2.1, s.2.2.1, s.2.2.2]) (fun _ s => (41, sy_R c, s.1, J)) (fun j s => (∀ k, k < al 0 0 → s.1 40 k = fv (relF al (my al st lw rp) f at_ j k)) ∧ ∀ x, x ≠ 40 → s.1 x = I x) (al 4 0) ?_ ?_
  · exact key 0 (I, g8, g9, g10) (Nat.zero_le _) ⟨h40, fun _ _ => rfl⟩
  · rintro j ⟨I1, g8, g9, g10⟩ hj ⟨h1, h2⟩ ih
    dsimp only at h1 h2 ih ⊢
    have hQ1 : sy_Q I1 al st lw rp := hQ.cong h2
    have e4 : ¬ I1 30 3 ≤ nI j := by rw [hQ1.2.2.1]; exact nI_ge hj (by omega)
    obtain ⟨⟨k1, k2, k3⟩, k4, k5, k6⟩ := hW.2.2.2.1 j hj
    obtain ⟨z1, z2, z3, z4⟩ := hQ1.1.2.2.2.1 j (by omega)
    have hif := sy_idx (k := f) (N := 8) (by omega) (by decide)
    have tf : (nI f).toNatClampNeg = f := nI_clamp (by omega)
    have hbd := relF_bd (al := al) (mv := my al st lw rp) (at_ := at_) (f := f) (n := j) hW (by omega) hat
    have hself : relF al (my al st lw rp) f at_ j f = some t := by rw [relF_at hW (by omega)]; exact hft
    have htB := hat f t hft
    have qf : I1 40 (nI f).toNatClampNeg = nI t := by rw [tf, h1 f hf, hself]; rfl
    have l1 := md_side (X := X) (c := c) (J := J) hW hQ1.1.2.2.2.1 hj (show f < 8 by omega)
    by_cases hl : ld al j f
    · rw [sd_1 hl k3] at l1
      have n1 := sd_m1 (al := al) j f
      have l2 := md_end (X := X) (c := c) (J := J) (t := t) hW hQ1 hst hlw hj (sd_le (al := al) j f) (by omega)
      rw [← qf] at l2
      obtain ⟨i5, t5⟩ := ix4m (s := j) (m := sd al j f) (by omega) (sd_le (al := al) j f)
      have q5 : I1 32 (4 * nI j + 1 - nI (sd al j f)).toNatClampNeg = nI (oe al j f) := by
        rw [t5]
        unfold sd oe
        by_cases hx : al 5 j = f
        · rw [if_pos hx, if_pos hx]; exact z2
        · rw [if_neg hx, if_neg hx]; exact z1
      have hol := oe_lt (f := f) hW hj
      have hio : (0 : Int32) ≤ I1 32 (4 * nI j + 1 - nI (sd al j f)).toNatClampNeg ∧ (I1 32 (4 * nI j + 1 - nI (sd al j f)).toNatClampNeg).toNatClampNeg < 8 := by rw [q5]; exact sy_idx (k := oe al j f) (by omega) (by decide)
      have to : (I1 32 (4 * nI j + 1 - nI (sd al j f)).toNatClampNeg).toNatClampNeg = oe al j f := by rw [q5]; exact nI_clamp (by omega)
      have qo : I1 40 (oe al j f) = fv (relF al (my al st lw rp) f at_ j (oe al j f)) := h1 _ hol
      have same : ∀ v : Int32, v = I1 40 (oe al j f) → pm_u I1 40 (oe al j f) v = I1 := by
        intro v hv
        funext a b
        unfold pm_u
        split
        next hab => rw [hv, hab.1, hab.2]
        next => rfl
      cases hb : bg (al 9 0) (al 8 j) t (my al st lw rp j (sd al j f)) with
      | none =>
        have efe : fe (al 9 0) (al 8 j) t (my al st lw rp j (sd al j f)) = none := by unfold fe; rw [hb]
        rw [efe] at l2
        have es : relF al (my al st lw rp) f at_ (j + 1) = relF al (my al st lw rp) f at_ j := by
          show relS al _ f _ j = _
          exact relS_bn hself hb
        rw [es] at ih
        have c2 : I1 40 (I1 32 (4 * nI j + 1 - nI (sd al j f)).toNatClampNeg).toNatClampNeg ≤ fv none := by
          rw [to, qo]
          cases hr : relF al (my al st lw rp) f at_ j (oe al j f) with
          | none => exact Int32.le_refl _
          | some u => have := hbd _ u hr; exact nI_le (a := u) (b := 10000000) (by omega) (by decide)
        refine pm_s rfl rfl ?_
        (repeat' first | refine pm_sx [152] rfl rfl rfl ?_ | refine pm_ifT (by assumption) ?_ | refine pm_ifF (by assumption) ?_ | refine pm_ial rfl rfl (by assumption) ?_ | refine pm_ias rfl rfl rfl (by assumption) ?_ | refine pm_r rfl rfl rfl ?_ | refine pm_rz rfl rfl rfl ?_)
        refine pm_cq rfl rfl rfl rfl rfl rfl l1 ?_
        (repeat' first | refine pm_sx [152] rfl rfl rfl ?_ | refine pm_ifT (by assumption) ?_ | refine pm_ifF (by assumption) ?_ | refine pm_ial rfl rfl (by assumption) ?_ | refine pm_ias rfl rfl rfl (by assumption) ?_ | refine pm_r rfl rfl rfl ?_ | refine pm_rz rfl rfl rfl ?_)
        refine pm_cq rfl rfl rfl rfl rfl rfl l2 ?_
        (repeat' first | refine pm_sx [152] rfl rfl rfl ?_ | refine pm_ifT (by assumption) ?_ | refine pm_ifF (by assumption) ?_ | refine pm_ial rfl rfl (by assumption) ?_ | refine pm_ias rfl rfl rfl (by assumption) ?_ | refine pm_r rfl rfl rfl ?_ | refine pm_rz rfl rfl rfl ?_)
        rw [nI_1, to, same _ rfl]
        exact ih (I1, _, _, _) ⟨h1, h2⟩
      | some b =>
        have efe : fe (al 9 0) (al 8 j) t (my al st lw rp j (sd al j f)) = some (b + al 8 j) := by unfold fe; rw [hb]
        rw [efe] at l2
        have hbl := bg_lt hW.2.2.2.2.2 (by have := hW.2.2.2.2.1; omega) hb
        have hH := hW.2.2.2.2.2
        have upd1 : ∀ k, k < al 0 0 → pm_u I1 40 (oe al j f) (nI (b + al 8 j)) 40 k = fv (ou (relF al (my al st lw rp) f at_ j) (oe al j f) (b + al 8 j) k) := by
          intro k hk
          unfold ou
          by_cases hk2 : k = oe al j f
          · rw [if_pos hk2, hk2, pm_u_same]; rfl
          · rw [if_neg hk2, pm_u_slot hk2]; exact h1 k hk
        have upd2 : ∀ x, x ≠ 40 → pm_u I1 40 (oe al j f) (nI (b + al 8 j)) x = I x := fun x hx => by rw [pm_u_cell hx]; exact h2 x hx
        cases hr : relF al (my al st lw rp) f at_ j (oe al j f) with
        | none =>
          have c2 : ¬ I1 40 (I1 32 (4 * nI j + 1 - nI (sd al j f)).toNatClampNeg).toNatClampNeg ≤ fv (some (b + al 8 j)) := by
            rw [to, qo, hr]
            exact nI_ge (a := b + al 8 j) (b := 10000000) (by omega) (by decide)
          have es : relF al (my al st lw rp) f at_ (j + 1) = ou (relF al (my al st lw rp) f at_ j) (oe al j f) (b + al 8 j) := by
            show relS al _ f _ j = _
            exact relS_up hl hself hb hr
          rw [es] at ih
          refine pm_s rfl rfl ?_
          (repeat' first | refine pm_sx [152] rfl rfl rfl ?_ | refine pm_ifT (by assumption) ?_ | refine pm_ifF (by assumption) ?_ | refine pm_ial rfl rfl (by assumption) ?_ | refine pm_ias rfl rfl rfl (by assumption) ?_ | refine pm_r rfl rfl rfl ?_ | refine pm_rz rfl rfl rfl ?_)
          refine pm_cq rfl rfl rfl rfl rfl rfl l1 ?_
          (repeat' first | refine pm_sx [152] rfl rfl rfl ?_ | refine pm_ifT (by assumption) ?_ | refine pm_ifF (by assumption) ?_ | refine pm_ial rfl rfl (by assumption) ?_ | refine pm_ias rfl rfl rfl (by assumption) ?_ | refine pm_r rfl rfl rfl ?_ | refine pm_rz rfl rfl rfl ?_)
          refine pm_cq rfl rfl rfl rfl rfl rfl l2 ?_
          (repeat' first | refine pm_sx [152] rfl rfl rfl ?_ | refine pm_ifT (by assumption) ?_ | refine pm_ifF (by assumption) ?_ | refine pm_ial rfl rfl (by assumption) ?_ | refine pm_ias rfl rfl rfl (by assumption) ?_ | refine pm_r rfl rfl rfl ?_ | refine pm_rz rfl rfl rfl ?_)
          rw [nI_1, to]
          exact ih (pm_u I1 40 (oe al j f) (nI (b + al 8 j)), _, _, _) ⟨upd1, upd2⟩
        | some u =>
          have hu := hbd _ u hr
          have hcmp : (I1 40 (I1 32 (4 * nI j + 1 - nI (sd al j f)).toNatClampNeg).toNatClampNeg ≤ fv (some (b + al 8 j))) = ¬ (b + al 8 j < u) := by
            rw [to, qo, hr]
            exact fv_lt (u := u) (v := b + al 8 j) (by omega) (by omega)
          by_cases hlt : b + al 8 j < u
          · have c2 : ¬ (I1 40 (I1 32 (4 * nI j + 1 - nI (sd al j f)).toNatClampNeg).toNatClampNeg ≤ fv (some (b + al 8 j))) := by rw [hcmp]; exact fun z => z hlt
            have es : relF al (my al st lw rp) f at_ (j + 1) = ou (relF al (my al st lw rp) f at_ j) (oe al j f) (b + al 8 j) := by
              show relS al _ f _ j = _
              rw [relS_us hl hself hb hr, if_pos hlt]
            rw [es] at ih
            refine pm_s rfl rfl ?_
            (repeat' first | refine pm_sx [152] rfl rfl rfl ?_ | refine pm_ifT (by assumption) ?_ | refine pm_ifF (by assumption) ?_ | refine pm_ial rfl rfl (by assumption) ?_ | refine pm_ias rfl rfl rfl (by assumption) ?_ | refine pm_r rfl rfl rfl ?_ | refine pm_rz rfl rfl rfl ?_)
            refine pm_cq rfl rfl rfl rfl rfl rfl l1 ?_
            (repeat' first | refine pm_sx [152] rfl rfl rfl ?_ | refine pm_ifT (by assumption) ?_ | refine pm_ifF (by assumption) ?_ | refine pm_ial rfl rfl (by assumption) ?_ | refine pm_ias rfl rfl rfl (by assumption) ?_ | refine pm_r rfl rfl rfl ?_ | refine pm_rz rfl rfl rfl ?_)
            refine pm_cq rfl rfl rfl rfl rfl rfl l2 ?_
            (repeat' first | refine pm_sx [152] rfl rfl rfl ?_ | refine pm_ifT (by assumption) ?_ | refine pm_ifF (by assumption) ?_ | refine pm_ial rfl rfl (by assumption) ?_ | refine pm_ias rfl rfl rfl (by assumption) ?_ | refine pm_r rfl rfl rfl ?_ | refine pm_rz rfl rfl rfl ?_)
            rw [nI_1, to]
            exact ih (pm_u I1 40 (oe al j f) (nI (b + al 8 j)), _, _, _) ⟨upd1, upd2⟩
          · have c2 : (I1 40 (I1 32 (4 * nI j + 1 - nI (sd al j f)).toNatClampNeg).toNatClampNeg ≤ fv (some (b + al 8 j))) := by rw [hcmp]; exact hlt
            have es : relF al (my al st lw rp) f at_ (j + 1) = relF al (my al st lw rp) f at_ j := by
              show relS al _ f _ j = _
              rw [relS_us hl hself hb hr, if_neg hlt]
            rw [es] at ih
            refine pm_s rfl rfl ?_
            (repeat' first | refine pm_sx [152] rfl rfl rfl ?_ | refine pm_ifT (by assumption) ?_ | refine pm_ifF (by assumption) ?_ | refine pm_ial rfl rfl (by assumption) ?_ | refine pm_ias rfl rfl rfl (by assumption) ?_ | refine pm_r rfl rfl rfl ?_ | refine pm_rz rfl rfl rfl ?_)
            refine pm_cq rfl rfl rfl rfl rfl rfl l1 ?_
            (repeat' first | refine pm_sx [152] rfl rfl rfl ?_ | refine pm_ifT (by assumption) ?_ | refine pm_ifF (by assumption) ?_ | refine pm_ial rfl rfl (by assumption) ?_ | refine pm_ias rfl rfl rfl (by assumption) ?_ | refine pm_r rfl rfl rfl ?_ | refine pm_rz rfl rfl rfl ?_)
            refine pm_cq rfl rfl rfl rfl rfl rfl l2 ?_
            (repeat' first | refine pm_sx [152] rfl rfl rfl ?_ | refine pm_ifT (by assumption) ?_ | refine pm_ifF (by assumption) ?_ | refine pm_ial rfl rfl (by assumption) ?_ | refine pm_ias rfl rfl rfl (by assumption) ?_ | refine pm_r rfl rfl rfl ?_ | refine pm_rz rfl rfl rfl ?_)
            rw [nI_1, to, same _ rfl]
            exact ih (I1, _, _, _) ⟨h1, h2⟩
    · rw [sd_0 hl] at l1
      have es : relF al (my al st lw rp) f at_ (j + 1) = relF al (my al st lw rp) f at_ j := by
        show relS al _ f _ j = _
        exact relS_no hl
      rw [es] at ih
      refine pm_s rfl rfl ?_
      (repeat' first | refine pm_sx [152] rfl rfl rfl ?_ | refine pm_ifT (by assumption) ?_ | refine pm_ifF (by assumption) ?_ | refine pm_ial rfl rfl (by assumption) ?_ | refine pm_ias rfl rfl rfl (by assumption) ?_ | refine pm_r rfl rfl rfl ?_ | refine pm_rz rfl rfl rfl ?_)
      refine pm_cq rfl rfl rfl rfl rfl rfl l1 ?_
      (repeat' first | refine pm_sx [152] rfl rfl rfl ?_ | refine pm_ifT (by assumption) ?_ | refine pm_ifF (by assumption) ?_ | refine pm_ial rfl rfl (by assumption) ?_ | refine pm_ias rfl rfl rfl (by assumption) ?_ | refine pm_r rfl rfl rfl ?_ | refine pm_rz rfl rfl rfl ?_)
      rw [nI_1]
      exact ih (I1, _, _, _) ⟨h1, h2⟩
  · rintro ⟨I1, g8, g9, g10⟩ ⟨h1, h2⟩
    dsimp only at h1 h2 ⊢
    have hQ1 : sy_Q I1 al st lw rp := hQ.cong h2
    have e4 : I1 30 3 ≤ nI (al 4 0) := by rw [hQ1.2.2.1]; exact Int32.le_refl _
    refine pm_s rfl rfl ?_
    (repeat' first | refine pm_sx [152, 247] rfl rfl rfl ?_ | refine pm_ifT (by assumption) ?_ | refine pm_ifF (by assumption) ?_ | refine pm_ial rfl rfl (by assumption) ?_ | refine pm_ias rfl rfl rfl (by assumption) ?_ | refine pm_r rfl rfl rfl ?_ | refine pm_rz rfl rfl rfl ?_)
    exact hx I1 _ _ _ _ h1 h2
end MB
end
section
section MC
variable {X : Nat × (Nat → Int32)} {al al' : Nat → Nat → Nat} {c : Nat} {I I' : Nat → Nat → Int32} {J J' : Nat → Nat → Int64} {K : Option Value → pm_Wo → Prop} {at_ : Nat → Option Nat}
set_option maxHeartbeats 4000000 in
set_option maxRecDepth 100000 in
theorem md_soon {a b t st lw rp : Nat} (hW : sy_WS al) (hQ : sy_Q I al st lw rp) (hst : st < 2 ^ 31) (hlw : lw ≤ 2) (ha : a < 8) (hb : b < al 0 0) (ht : t ≤ 100000) : pm_R X mm_X4_soonestOf.1 0 [some (.ref 30), some (.int (nI a)), some (.int (nI b)), some (.int (nI t)), none, none, none, none, none, none, none] [] (41, sy_R c, I, J) (fun o w' => ∃ v, o = some (.int v) ∧ v = fv (spr al (my al st lw rp) a t b) ∧ ∃ I', w' = (41, sy_R c, I', J) ∧ ∀ x, x ≠ 40 → I' x = I x) := by
  have hns := hW.2.2.1
  have hn := hW.1
  have hib := sy_idx (k := b) (N := 8) (by omega) (by decide)
  have tb : (nI b).toNatClampNeg = b := nI_clamp (by omega)
  have main := pm_for (X := X) (tb := mm_X4_soonestOf.1) (K := fun o w' => ∃ v, o = some (.int v) ∧ v = fv (spr al (my al st lw rp) a t b) ∧ ∃ I', w' = (41, sy_R c, I', J) ∧ ∀ x, x ≠ 40 → I' x = I x) (St := (Nat → Nat → Int32) × Option Value × Option Value × Option Value × Option Value × Option Value) 43 (fun j s => [some (.ref 30), some (.int (nI a)), some (.int (nI b)), some (.int (nI t)), some (.int (nI (spF al (my al st lw rp) (at0 a t) j).2)), some (.int (nI j)), s.2.1, s.2.2.1, s.2.2.2.1, s.2.2.2.2.1, s.2.2.2.2.2]) (fun _ s => (41, sy_R c, s.1, J)) (fun j s => (∀ k, k < al 0 0 → s.1 40 k = fv ((spF al (my al st lw rp) (at0 a t) j).1 k)) ∧ ∀ x, x ≠ 40 → s.1 x = I x) (al 0 0) ?_ ?_
  · have key := pm_for (X := X) (tb := mm_X4_soonestOf.1) (K := fun o w' => ∃ v, o = some (.int v) ∧ v = fv (spr al (my al st lw rp) a t b) ∧ ∃ I', w' = (41, sy_R c, I', J) ∧ ∀ x, x ≠ 40 → I' x = I x) (St := Nat → Nat → Int32) 3 (fun j _ => [some (.ref 30), some (.int (nI a)), some (.int (nI b)), some (.int (nI t)), some (.int (nI j)), none, none, none, none, none, none]) (fun _ s => (41, sy_R c, s, J)) (fun j s => (∀ k, k < j → s 40 k = fv (at0 a t k)) ∧ ∀ x, x ≠ 40 → s x = I x) (al 0 0) ?_ ?_
    · have k0 := key 0 I (Nat.zero_le _) ⟨fun i hi => absurd hi (Nat.not_lt_zero i), fun _ _ => rfl⟩
      (repeat refine pm_sx [3] rfl rfl rfl ?_)
      exact k0
    · rintro j I1 hj ⟨h1, h2⟩ ih
      have hQ1 : sy_Q I1 al st lw rp := hQ.cong h2
      have e4 : ¬ I1 30 0 ≤ nI j := by rw [hQ1.2.1]; exact nI_ge hj (by omega)
      have hi := sy_idx (k := j) (N := 8) (by omega) (by decide)
      have tj : (nI j).toNatClampNeg = j := nI_clamp (by omega)
      have hu2 : ∀ v : Int32, ∀ x, x ≠ 40 → pm_u I1 40 j v x = I x := fun v x hx => by rw [pm_u_cell hx]; exact h2 x hx
      have hu1 : ∀ v : Int32, v = fv (at0 a t j) → ∀ k, k < j + 1 → pm_u I1 40 j v 40 k = fv (at0 a t k) := fun v hv k hk => by
        by_cases hkj : k = j
        · subst hkj; rw [pm_u_same]; exact hv
        · rw [pm_u_slot hkj]; exact h1 k (by omega)
      by_cases hja : j = a
      · have c1 : nI j = nI a := by rw [hja]
        refine pm_s rfl rfl ?_
        (repeat' first | refine pm_sx [3] rfl rfl rfl ?_ | refine pm_ifT (by assumption) ?_ | refine pm_ifF (by assumption) ?_ | refine pm_ial rfl rfl (by assumption) ?_ | refine pm_ias rfl rfl rfl (by assumption) ?_ | refine pm_r rfl rfl rfl ?_ | refine pm_rz rfl rfl rfl ?_)
        rw [nI_1, tj]
        exact ih _ ⟨hu1 (nI t) (by unfold at0; rw [if_pos hja]; rfl), hu2 _⟩
      · have c1 : ¬ nI j = nI a := fun q => hja ((nI_eq (by omega) (by omega)).mp q)
        refine pm_s rfl rfl ?_
        (repeat' first | refine pm_sx [3] rfl rfl rfl ?_ | refine pm_ifT (by assumption) ?_ | refine pm_ifF (by assumption) ?_ | refine pm_ial rfl rfl (by assumption) ?_ | refine pm_ias rfl rfl rfl (by assumption) ?_ | refine pm_r rfl rfl rfl ?_ | refine pm_rz rfl rfl rfl ?_)
        rw [nI_1, tj]
        exact ih _ ⟨hu1 10000000 (by unfold at0; rw [if_neg hja]; rfl), hu2 _⟩
    · rintro I1 ⟨h1, h2⟩
      have hQ1 : sy_Q I1 al st lw rp := hQ.cong h2
      have e4 : I1 30 0 ≤ nI (al 0 0) := by rw [hQ1.2.1]; exact Int32.le_refl _
      have m0 := main 0 (I1, none, none, none, none, none) (Nat.zero_le _) ⟨h1, h2⟩
      refine pm_s rfl rfl ?_
      (repeat' first | refine pm_sx [43] rfl rfl rfl ?_ | refine pm_ifT (by assumption) ?_ | refine pm_ifF (by assumption) ?_ | refine pm_ial rfl rfl (by assumption) ?_ | refine pm_ias rfl rfl rfl (by assumption) ?_ | refine pm_r rfl rfl rfl ?_ | refine pm_rz rfl rfl rfl ?_)
      exact m0
  · rintro j ⟨I1, g6, g7, g8, g9, g10⟩ hj ⟨h1, h2⟩ ih
    dsimp only at h1 h2 ih ⊢
    have hQ1 : sy_Q I1 al st lw rp := hQ.cong h2
    have e4 : ¬ I1 30 0 ≤ nI j := by rw [hQ1.2.1]; exact nI_ge hj (by omega)
    have hmet := spF_met (al := al) (mv := my al st lw rp) (at_ := at0 a t) hn j
    have hbd := spF_bd (mv := my al st lw rp) hW (at0_bd (a := a) (t := t)) j
    refine pm_s rfl rfl ?_
    (repeat' first | refine pm_sx [43, 58] rfl rfl rfl ?_ | refine pm_ifT (by assumption) ?_ | refine pm_ifF (by assumption) ?_ | refine pm_ial rfl rfl (by assumption) ?_ | refine pm_ias rfl rfl rfl (by assumption) ?_ | refine pm_r rfl rfl rfl ?_ | refine pm_rz rfl rfl rfl ?_)
    refine md_sel (g7 := none) (met := (spF al (my al st lw rp) (at0 a t) j).2) (at_ := (spF al (my al st lw rp) (at0 a t) j).1) hn hQ1.2.1 (by omega) (fun k v hv => by have := hbd k v hv; omega) h1 (nI j) rfl (fun x7 => ?_)
    cases hs : selF (spF al (my al st lw rp) (at0 a t) j).1 (spF al (my al st lw rp) (at0 a t) j).2 (al 0 0) with
    | none =>
      have c1 : ov none = -1 := rfl
      have hfin : spr al (my al st lw rp) a t = (spF al (my al st lw rp) (at0 a t) j).1 := by
        have := spF_stop hs (al 0 0 - j)
        rw [show j + (al 0 0 - j) = al 0 0 by omega] at this
        unfold spr
        rw [this]
      (repeat' first | refine pm_s rfl rfl ?_ | refine pm_ifT (by assumption) ?_ | refine pm_ifF (by assumption) ?_ | refine pm_ial rfl rfl (by assumption) ?_ | refine pm_ias rfl rfl rfl (by assumption) ?_ | refine pm_r rfl rfl rfl ?_ | refine pm_rz rfl rfl rfl ?_)
      exact ⟨_, rfl, by rw [hfin, tb]; exact h1 b hb, I1, rfl, h2⟩
    | some f =>
      obtain ⟨hf, hfb, u, hu⟩ := selF_some hs
      have c1 : ¬ ov (some f) = -1 := by rw [ov_m1 (fun z hz => by cases hz; omega)]; exact fun z => by cases z
      have hor : nI (spF al (my al st lw rp) (at0 a t) j).2 ||| (1 : Int32) <<< (ov (some f) &&& 31) = nI (spF al (my al st lw rp) (at0 a t) (j + 1)).2 := by
        rw [spF_some hs]
        show _ ||| (1 : Int32) <<< (nI f &&& 31) = _
        rw [bt_shl (by omega), fa_or]
      (repeat' first | refine pm_sx [152] rfl rfl rfl ?_ | refine pm_ifT (by assumption) ?_ | refine pm_ifF (by assumption) ?_ | refine pm_ial rfl rfl (by assumption) ?_ | refine pm_ias rfl rfl rfl (by assumption) ?_ | refine pm_r rfl rfl rfl ?_ | refine pm_rz rfl rfl rfl ?_)
      refine md_rel (f := f) (B := t + 2100 * j) (t := u) (at_ := (spF al (my al st lw rp) (at0 a t) j).1) hW hQ1 hst hlw hf hbd (by omega) hu h1 (fun I2 x7 g8 g9 g10 g1 g2 => ?_)
      (repeat' first | refine pm_sx [43] rfl rfl rfl ?_ | refine pm_ifT (by assumption) ?_ | refine pm_ifF (by assumption) ?_ | refine pm_ial rfl rfl (by assumption) ?_ | refine pm_ias rfl rfl rfl (by assumption) ?_ | refine pm_r rfl rfl rfl ?_ | refine pm_rz rfl rfl rfl ?_)
      rw [nI_1, hor]
      refine ih (I2, _, _, _, _, _) ⟨?_, ?_⟩
      · rw [spF_some hs]; exact g1
      · intro x hx; exact (g2 x hx).trans (h2 x hx)
  · rintro ⟨I1, g6, g7, g8, g9, g10⟩ ⟨h1, h2⟩
    dsimp only at h1 h2 ⊢
    have hQ1 : sy_Q I1 al st lw rp := hQ.cong h2
    have e4 : I1 30 0 ≤ nI (al 0 0) := by rw [hQ1.2.1]; exact Int32.le_refl _
    (repeat' first | refine pm_s rfl rfl ?_ | refine pm_ifT (by assumption) ?_ | refine pm_ifF (by assumption) ?_ | refine pm_ial rfl rfl (by assumption) ?_ | refine pm_ias rfl rfl rfl (by assumption) ?_ | refine pm_r rfl rfl rfl ?_ | refine pm_rz rfl rfl rfl ?_)
    exact ⟨_, rfl, by rw [tb]; exact h1 b hb, I1, rfl, h2⟩
theorem sy_M.scr (h : sy_M I al) (hI : ∀ x, x ≠ 40 → I' x = I x) : sy_M I' al := by
  unfold sy_M sy_TM at h ⊢
  rw [hI 30 (by decide), hI 31 (by decide), hI 32 (by decide), hI 33 (by decide), hI 34 (by decide), hI 36 (by decide), hI 37 (by decide), hI 38 (by decide), hI 39 (by decide)]
  exact h
theorem cl_beg1 {w : pm_Wo} {k : Nat} (hk : k ≤ 9999) : pm_R X mm_X3_isBegin.1 0 [some (.int (nI k))] [] w (fun o w' => o = some (.int 1) ∧ w' = w) := by
  have h1 : ¬ nI k < 0 := nI_pos (by omega)
  have h2 : ¬ (9999 : Int32) < nI k := nI_nlt (b := k) (a := 9999) (by omega) (by decide)
  (repeat' first | refine pm_s rfl rfl ?_ | refine pm_ifT (by assumption) ?_ | refine pm_ifF (by assumption) ?_ | refine pm_ial rfl rfl (by assumption) ?_ | refine pm_ias rfl rfl rfl (by assumption) ?_ | refine pm_r rfl rfl rfl ?_ | refine pm_rz rfl rfl rfl ?_)
  exact ⟨rfl, rfl⟩
theorem cl_beg0 {w : pm_Wo} {a : Int32} (h : a < 0 ∨ 9999 < a) : pm_R X mm_X3_isBegin.1 0 [some (.int a)] [] w (fun o w' => o = some (.int 0) ∧ w' = w) := by
  by_cases h1 : a < 0
  · (repeat' first | refine pm_s rfl rfl ?_ | refine pm_ifT (by assumption) ?_ | refine pm_ifF (by assumption) ?_ | refine pm_ial rfl rfl (by assumption) ?_ | refine pm_ias rfl rfl rfl (by assumption) ?_ | refine pm_r rfl rfl rfl ?_ | refine pm_rz rfl rfl rfl ?_)
    exact ⟨rfl, rfl⟩
  · have h2 := h.resolve_left h1
    (repeat' first | refine pm_s rfl rfl ?_ | refine pm_ifT (by assumption) ?_ | refine pm_ifF (by assumption) ?_ | refine pm_ial rfl rfl (by assumption) ?_ | refine pm_ias rfl rfl rfl (by assumption) ?_ | refine pm_r rfl rfl rfl ?_ | refine pm_rz rfl rfl rfl ?_)
    exact ⟨rfl, rfl⟩
/-- a number that is no corner, on both sides -/
theorem bad_or {a b : Int32} {n : Nat} (hn : n ≤ 8) : (a < 0 ∨ nI n ≤ a) ∨ (∃ k, k < n ∧ a = nI k) ∧ (b < 0 ∨ nI n ≤ b) ∨ ∃ k m, k < n ∧ m < n ∧ a = nI k ∧ b = nI m := by
  rcases pk_ix a (n := n) (by omega) with h | h | ⟨k, hk, rfl⟩
  · exact Or.inl (Or.inl h)
  · exact Or.inl (Or.inr h)
  · rcases pk_ix b (n := n) (by omega) with h | h | ⟨m, hm, rfl⟩
    · exact Or.inr (Or.inl ⟨⟨k, hk, rfl⟩, Or.inl h⟩)
    · exact Or.inr (Or.inl ⟨⟨k, hk, rfl⟩, Or.inr h⟩)
    · exact Or.inr (Or.inr ⟨k, m, hk, hm, rfl, rfl⟩)
end MC
theorem fv_eq {o : Option Nat} (ho : ∀ b, o = some b → b ≤ 900000) : (fv o = 10000000) = (o = none) := by
  cases o with
  | none => exact propext ⟨fun _ => rfl, fun _ => rfl⟩
  | some b =>
    have hb := ho b rfl
    refine propext ⟨fun h => ?_, fun h => by cases h⟩
    have := (nI_eq (a := b) (b := 10000000) (by omega) (by decide)).mp h
    omega
set_option maxHeartbeats 4000000 in
set_option maxRecDepth 100000 in
theorem op_soonest {X : Nat × (Nat → Int32)} {al : Nat → Nat → Nat} (hW : sy_W al) (a b t : Int32) : sy_Op X mm_X3_soonest mm_X4_soonest [some (.int a), some (.int b), some (.int t)] al := by
  obtain ⟨w1, w2, w3, w4, w5, w6⟩ := id hW
  have hn := w1.1.2
  have hWS := w1.s
  have hst := hW.st.1
  have hlw := w1.2.2.2.2.2.2.1
  rcases bad_or (a := a) (b := b) hn with h | ⟨⟨k, hk, rfl⟩, h⟩ | ⟨k, m, hk, hm, rfl, rfl⟩
  · refine ⟨-2, al, hW, ?_, ?_⟩
    · intro c I J hc hC
      have l1 := tw_has0 (X := X) (R := sy_R c) (J := J) hc hC.1.1.1 hn h
      rcases hc with rfl | rfl
      · (repeat' first | refine pm_s rfl rfl ?_ | refine pm_ifT (by assumption) ?_ | refine pm_ifF (by assumption) ?_ | refine pm_ial rfl rfl (by assumption) ?_ | refine pm_ias rfl rfl rfl (by assumption) ?_ | refine pm_r rfl rfl rfl ?_ | refine pm_rz rfl rfl rfl ?_)
        refine pm_cq rfl rfl rfl rfl rfl rfl l1 ?_
        (repeat' first | refine pm_s rfl rfl ?_ | refine pm_ifT (by assumption) ?_ | refine pm_ifF (by assumption) ?_ | refine pm_ial rfl rfl (by assumption) ?_ | refine pm_ias rfl rfl rfl (by assumption) ?_ | refine pm_r rfl rfl rfl ?_ | refine pm_rz rfl rfl rfl ?_)
        exact cl_0 (Or.inl rfl) hC rfl
      · (repeat' first | refine pm_s rfl rfl ?_ | refine pm_ifT (by assumption) ?_ | refine pm_ifF (by assumption) ?_ | refine pm_ial rfl rfl (by assumption) ?_ | refine pm_ias rfl rfl rfl (by assumption) ?_ | refine pm_r rfl rfl rfl ?_ | refine pm_rz rfl rfl rfl ?_)
        refine pm_cq rfl rfl rfl rfl rfl rfl l1 ?_
        (repeat' first | refine pm_s rfl rfl ?_ | refine pm_ifT (by assumption) ?_ | refine pm_ifF (by assumption) ?_ | refine pm_ial rfl rfl (by assumption) ?_ | refine pm_ias rfl rfl rfl (by assumption) ?_ | refine pm_r rfl rfl rfl ?_ | refine pm_rz rfl rfl rfl ?_)
        exact cl_0 (Or.inr rfl) hC rfl
    · intro c I J hc hC
      (repeat' first | refine pm_s rfl rfl ?_ | refine pm_ifT (by assumption) ?_ | refine pm_ifF (by assumption) ?_ | refine pm_ial rfl rfl (by assumption) ?_ | refine pm_ias rfl rfl rfl (by assumption) ?_ | refine pm_r rfl rfl rfl ?_ | refine pm_rz rfl rfl rfl ?_)
      refine pm_cq rfl rfl rfl rfl rfl rfl (md_isC0 hC.1.1.1 hn h) ?_
      (repeat' first | refine pm_s rfl rfl ?_ | refine pm_ifT (by assumption) ?_ | refine pm_ifF (by assumption) ?_ | refine pm_ial rfl rfl (by assumption) ?_ | refine pm_ias rfl rfl rfl (by assumption) ?_ | refine pm_r rfl rfl rfl ?_ | refine pm_rz rfl rfl rfl ?_)
      exact ml_0 hC rfl
  · refine ⟨-2, al, hW, ?_, ?_⟩
    · intro c I J hc hC
      have l1 := tw_has1 (X := X) (R := sy_R c) (J := J) hc hC.1.1.1 hn hk
      have l2 := tw_has0 (X := X) (R := sy_R c) (J := J) hc hC.1.1.1 hn h
      rcases hc with rfl | rfl
      · (repeat' first | refine pm_s rfl rfl ?_ | refine pm_ifT (by assumption) ?_ | refine pm_ifF (by assumption) ?_ | refine pm_ial rfl rfl (by assumption) ?_ | refine pm_ias rfl rfl rfl (by assumption) ?_ | refine pm_r rfl rfl rfl ?_ | refine pm_rz rfl rfl rfl ?_)
        refine pm_cq rfl rfl rfl rfl rfl rfl l1 ?_
        (repeat' first | refine pm_s rfl rfl ?_ | refine pm_ifT (by assumption) ?_ | refine pm_ifF (by assumption) ?_ | refine pm_ial rfl rfl (by assumption) ?_ | refine pm_ias rfl rfl rfl (by assumption) ?_ | refine pm_r rfl rfl rfl ?_ | refine pm_rz rfl rfl rfl ?_)
        refine pm_cq rfl rfl rfl rfl rfl rfl l2 ?_
        (repeat' first | refine pm_s rfl rfl ?_ | refine pm_ifT (by assumption) ?_ | refine pm_ifF (by assumption) ?_ | refine pm_ial rfl rfl (by assumption) ?_ | refine pm_ias rfl rfl rfl (by assumption) ?_ | refine pm_r rfl rfl rfl ?_ | refine pm_rz rfl rfl rfl ?_)
        exact cl_0 (Or.inl rfl) hC rfl
      · (repeat' first | refine pm_s rfl rfl ?_ | refine pm_ifT (by assumption) ?_ | refine pm_ifF (by assumption) ?_ | refine pm_ial rfl rfl (by assumption) ?_ | refine pm_ias rfl rfl rfl (by assumption) ?_ | refine pm_r rfl rfl rfl ?_ | refine pm_rz rfl rfl rfl ?_)
        refine pm_cq rfl rfl rfl rfl rfl rfl l1 ?_
        (repeat' first | refine pm_s rfl rfl ?_ | refine pm_ifT (by assumption) ?_ | refine pm_ifF (by assumption) ?_ | refine pm_ial rfl rfl (by assumption) ?_ | refine pm_ias rfl rfl rfl (by assumption) ?_ | refine pm_r rfl rfl rfl ?_ | refine pm_rz rfl rfl rfl ?_)
        refine pm_cq rfl rfl rfl rfl rfl rfl l2 ?_
        (repeat' first | refine pm_s rfl rfl ?_ | refine pm_ifT (by assumption) ?_ | refine pm_ifF (by assumption) ?_ | refine pm_ial rfl rfl (by assumption) ?_ | refine pm_ias rfl rfl rfl (by assumption) ?_ | refine pm_r rfl rfl rfl ?_ | refine pm_rz rfl rfl rfl ?_)
        exact cl_0 (Or.inr rfl) hC rfl
    · intro c I J hc hC
      (repeat' first | refine pm_s rfl rfl ?_ | refine pm_ifT (by assumption) ?_ | refine pm_ifF (by assumption) ?_ | refine pm_ial rfl rfl (by assumption) ?_ | refine pm_ias rfl rfl rfl (by assumption) ?_ | refine pm_r rfl rfl rfl ?_ | refine pm_rz rfl rfl rfl ?_)
      refine pm_cq rfl rfl rfl rfl rfl rfl (md_isC1 hC.1.1.1 hn hk) ?_
      (repeat' first | refine pm_s rfl rfl ?_ | refine pm_ifT (by assumption) ?_ | refine pm_ifF (by assumption) ?_ | refine pm_ial rfl rfl (by assumption) ?_ | refine pm_ias rfl rfl rfl (by assumption) ?_ | refine pm_r rfl rfl rfl ?_ | refine pm_rz rfl rfl rfl ?_)
      refine pm_cq rfl rfl rfl rfl rfl rfl (md_isC0 hC.1.1.1 hn h) ?_
      (repeat' first | refine pm_s rfl rfl ?_ | refine pm_ifT (by assumption) ?_ | refine pm_ifF (by assumption) ?_ | refine pm_ial rfl rfl (by assumption) ?_ | refine pm_ias rfl rfl rfl (by assumption) ?_ | refine pm_r rfl rfl rfl ?_ | refine pm_rz rfl rfl rfl ?_)
      exact ml_0 hC rfl
  · by_cases hbad : t < 0 ∨ 9999 < t
    · refine ⟨-3, al, hW, ?_, ?_⟩
      · intro c I J hc hC
        have l1 := tw_has1 (X := X) (R := sy_R c) (J := J) hc hC.1.1.1 hn hk
        have l2 := tw_has1 (X := X) (R := sy_R c) (J := J) hc hC.1.1.1 hn hm
        rcases hc with rfl | rfl
        · (repeat' first | refine pm_s rfl rfl ?_ | refine pm_ifT (by assumption) ?_ | refine pm_ifF (by assumption) ?_ | refine pm_ial rfl rfl (by assumption) ?_ | refine pm_ias rfl rfl rfl (by assumption) ?_ | refine pm_r rfl rfl rfl ?_ | refine pm_rz rfl rfl rfl ?_)
          refine pm_cq rfl rfl rfl rfl rfl rfl l1 ?_
          (repeat' first | refine pm_s rfl rfl ?_ | refine pm_ifT (by assumption) ?_ | refine pm_ifF (by assumption) ?_ | refine pm_ial rfl rfl (by assumption) ?_ | refine pm_ias rfl rfl rfl (by assumption) ?_ | refine pm_r rfl rfl rfl ?_ | refine pm_rz rfl rfl rfl ?_)
          refine pm_cq rfl rfl rfl rfl rfl rfl l2 ?_
          (repeat' first | refine pm_s rfl rfl ?_ | refine pm_ifT (by assumption) ?_ | refine pm_ifF (by assumption) ?_ | refine pm_ial rfl rfl (by assumption) ?_ | refine pm_ias rfl rfl rfl (by assumption) ?_ | refine pm_r rfl rfl rfl ?_ | refine pm_rz rfl rfl rfl ?_)
          refine pm_cq rfl rfl rfl rfl rfl rfl (cl_beg0 hbad) ?_
          (repeat' first | refine pm_s rfl rfl ?_ | refine pm_ifT (by assumption) ?_ | refine pm_ifF (by assumption) ?_ | refine pm_ial rfl rfl (by assumption) ?_ | refine pm_ias rfl rfl rfl (by assumption) ?_ | refine pm_r rfl rfl rfl ?_ | refine pm_rz rfl rfl rfl ?_)
          exact cl_0 (Or.inl rfl) hC rfl
        · (repeat' first | refine pm_s rfl rfl ?_ | refine pm_ifT (by assumption) ?_ | refine pm_ifF (by assumption) ?_ | refine pm_ial rfl rfl (by assumption) ?_ | refine pm_ias rfl rfl rfl (by assumption) ?_ | refine pm_r rfl rfl rfl ?_ | refine pm_rz rfl rfl rfl ?_)
          refine pm_cq rfl rfl rfl rfl rfl rfl l1 ?_
          (repeat' first | refine pm_s rfl rfl ?_ | refine pm_ifT (by assumption) ?_ | refine pm_ifF (by assumption) ?_ | refine pm_ial rfl rfl (by assumption) ?_ | refine pm_ias rfl rfl rfl (by assumption) ?_ | refine pm_r rfl rfl rfl ?_ | refine pm_rz rfl rfl rfl ?_)
          refine pm_cq rfl rfl rfl rfl rfl rfl l2 ?_
          (repeat' first | refine pm_s rfl rfl ?_ | refine pm_ifT (by assumption) ?_ | refine pm_ifF (by assumption) ?_ | refine pm_ial rfl rfl (by assumption) ?_ | refine pm_ias rfl rfl rfl (by assumption) ?_ | refine pm_r rfl rfl rfl ?_ | refine pm_rz rfl rfl rfl ?_)
          refine pm_cq rfl rfl rfl rfl rfl rfl (cl_beg0 hbad) ?_
          (repeat' first | refine pm_s rfl rfl ?_ | refine pm_ifT (by assumption) ?_ | refine pm_ifF (by assumption) ?_ | refine pm_ial rfl rfl (by assumption) ?_ | refine pm_ias rfl rfl rfl (by assumption) ?_ | refine pm_r rfl rfl rfl ?_ | refine pm_rz rfl rfl rfl ?_)
          exact cl_0 (Or.inr rfl) hC rfl
      · intro c I J hc hC
        (repeat' first | refine pm_s rfl rfl ?_ | refine pm_ifT (by assumption) ?_ | refine pm_ifF (by assumption) ?_ | refine pm_ial rfl rfl (by assumption) ?_ | refine pm_ias rfl rfl rfl (by assumption) ?_ | refine pm_r rfl rfl rfl ?_ | refine pm_rz rfl rfl rfl ?_)
        refine pm_cq rfl rfl rfl rfl rfl rfl (md_isC1 hC.1.1.1 hn hk) ?_
        (repeat' first | refine pm_s rfl rfl ?_ | refine pm_ifT (by assumption) ?_ | refine pm_ifF (by assumption) ?_ | refine pm_ial rfl rfl (by assumption) ?_ | refine pm_ias rfl rfl rfl (by assumption) ?_ | refine pm_r rfl rfl rfl ?_ | refine pm_rz rfl rfl rfl ?_)
        refine pm_cq rfl rfl rfl rfl rfl rfl (md_isC1 hC.1.1.1 hn hm) ?_
        (repeat' first | refine pm_s rfl rfl ?_ | refine pm_ifT (by assumption) ?_ | refine pm_ifF (by assumption) ?_ | refine pm_ial rfl rfl (by assumption) ?_ | refine pm_ias rfl rfl rfl (by assumption) ?_ | refine pm_r rfl rfl rfl ?_ | refine pm_rz rfl rfl rfl ?_)
        refine pm_cq rfl rfl rfl rfl rfl rfl (md_in0 hbad) ?_
        (repeat' first | refine pm_s rfl rfl ?_ | refine pm_ifT (by assumption) ?_ | refine pm_ifF (by assumption) ?_ | refine pm_ial rfl rfl (by assumption) ?_ | refine pm_ias rfl rfl rfl (by assumption) ?_ | refine pm_r rfl rfl rfl ?_ | refine pm_rz rfl rfl rfl ?_)
        exact ml_0 hC rfl
    · obtain ⟨t, -, ht, rfl⟩ := rg (lo := 0) (hi := 9999) (fun q => hbad (Or.inl q)) (fun q => hbad (Or.inr q)) (by decide) (by decide)
      refine ⟨ov (spr al (my al (al 3 0) (al 10 0) 99) k t m), al, hW, ?_, ?_⟩
      · intro c I J hc hC
        have l1 := tw_has1 (X := X) (R := sy_R c) (J := J) hc hC.1.1.1 hn hk
        have l2 := tw_has1 (X := X) (R := sy_R c) (J := J) hc hC.1.1.1 hn hm
        have l3 := ww_lai (X := X) (c := c) (J := J) (st := 0) (lw := 0) hc hWS hC.1 hst hlw
        have fin : ∀ I1 : Nat → Nat → Int32, (∀ i, i < al 4 0 → I1 4 i = nI (ob (my al (al 3 0) (al 10 0) 99) i)) → (∀ x, x ≠ 4 → I1 x = I x) → pm_R X mm_X2_arrival.1 0 [some (.ref 3), some (.ref c), some (.int (nI k)), some (.int (nI m)), some (.int (nI t))] [] (41, sy_R c, I1, J) (fun o w' => ∃ v, o = some (.int v) ∧ v = ov (spr al (my al (al 3 0) (al 10 0) 99) k t m) ∧ ∃ I', w' = (41, sy_R c, I', J) ∧ ∀ x, x ≠ 5 → I' x = I1 x) := by
          intro I1 g1 g2
          exact ww_arr hc hWS ((hC.scr hc (fun x h4 _ => g2 x h4)).1) (by omega) hm (by omega) g1
        rcases hc with rfl | rfl
        all_goals (
          (repeat' first | refine pm_s rfl rfl ?_ | refine pm_ifT (by assumption) ?_ | refine pm_ifF (by assumption) ?_ | refine pm_ial rfl rfl (by assumption) ?_ | refine pm_ias rfl rfl rfl (by assumption) ?_ | refine pm_r rfl rfl rfl ?_ | refine pm_rz rfl rfl rfl ?_)
          refine pm_cq rfl rfl rfl rfl rfl rfl l1 ?_
          (repeat' first | refine pm_s rfl rfl ?_ | refine pm_ifT (by assumption) ?_ | refine pm_ifF (by assumption) ?_ | refine pm_ial rfl rfl (by assumption) ?_ | refine pm_ias rfl rfl rfl (by assumption) ?_ | refine pm_r rfl rfl rfl ?_ | refine pm_rz rfl rfl rfl ?_)
          refine pm_cq rfl rfl rfl rfl rfl rfl l2 ?_
          (repeat' first | refine pm_s rfl rfl ?_ | refine pm_ifT (by assumption) ?_ | refine pm_ifF (by assumption) ?_ | refine pm_ial rfl rfl (by assumption) ?_ | refine pm_ias rfl rfl rfl (by assumption) ?_ | refine pm_r rfl rfl rfl ?_ | refine pm_rz rfl rfl rfl ?_)
          refine pm_cq rfl rfl rfl rfl rfl rfl (cl_beg1 ht) ?_
          (repeat' first | refine pm_s rfl rfl ?_ | refine pm_ifT (by assumption) ?_ | refine pm_ifF (by assumption) ?_ | refine pm_ial rfl rfl (by assumption) ?_ | refine pm_ias rfl rfl rfl (by assumption) ?_ | refine pm_r rfl rfl rfl ?_ | refine pm_rz rfl rfl rfl ?_)
          refine pm_cv rfl rfl rfl rfl rfl rfl l3 ?_
          rintro w' ⟨I1, rfl, g1, g2⟩
          (repeat' first | refine pm_s rfl rfl ?_ | refine pm_ifT (by assumption) ?_ | refine pm_ifF (by assumption) ?_ | refine pm_ial rfl rfl (by assumption) ?_ | refine pm_ias rfl rfl rfl (by assumption) ?_ | refine pm_r rfl rfl rfl ?_ | refine pm_rz rfl rfl rfl ?_)
          refine pm_ci rfl rfl rfl rfl rfl rfl (fin I1 g1 g2) ?_
          rintro v w' ⟨hv, I2, rfl, g3⟩
          (repeat' first | refine pm_s rfl rfl ?_ | refine pm_ifT (by assumption) ?_ | refine pm_ifF (by assumption) ?_ | refine pm_ial rfl rfl (by assumption) ?_ | refine pm_ias rfl rfl rfl (by assumption) ?_ | refine pm_r rfl rfl rfl ?_ | refine pm_rz rfl rfl rfl ?_)
          refine cl_1 (by decide) (hC.scr (by decide) (fun x h4 h5 => (g3 x h5).trans (g2 x h4))) (fun x hx => (g3 x (by omega)).trans (g2 x (by omega))) hv)
      · intro c I J hc hC
        have l1 := md_soon (X := X) (c := c) (J := J) (a := k) (b := m) (t := t) hWS hC.q hst hlw (by omega) hm (by omega)
        have hbd := spr_bd (al := al) (mv := my al (al 3 0) (al 10 0) 99) (a := k) (t := t) hWS
        have hfe := fv_eq (o := spr al (my al (al 3 0) (al 10 0) 99) k t m) (fun b hb => by have := hbd m b hb; omega)
        (repeat' first | refine pm_s rfl rfl ?_ | refine pm_ifT (by assumption) ?_ | refine pm_ifF (by assumption) ?_ | refine pm_ial rfl rfl (by assumption) ?_ | refine pm_ias rfl rfl rfl (by assumption) ?_ | refine pm_r rfl rfl rfl ?_ | refine pm_rz rfl rfl rfl ?_)
        refine pm_cq rfl rfl rfl rfl rfl rfl (md_isC1 hC.1.1.1 hn hk) ?_
        (repeat' first | refine pm_s rfl rfl ?_ | refine pm_ifT (by assumption) ?_ | refine pm_ifF (by assumption) ?_ | refine pm_ial rfl rfl (by assumption) ?_ | refine pm_ias rfl rfl rfl (by assumption) ?_ | refine pm_r rfl rfl rfl ?_ | refine pm_rz rfl rfl rfl ?_)
        refine pm_cq rfl rfl rfl rfl rfl rfl (md_isC1 hC.1.1.1 hn hm) ?_
        (repeat' first | refine pm_s rfl rfl ?_ | refine pm_ifT (by assumption) ?_ | refine pm_ifF (by assumption) ?_ | refine pm_ial rfl rfl (by assumption) ?_ | refine pm_ias rfl rfl rfl (by assumption) ?_ | refine pm_r rfl rfl rfl ?_ | refine pm_rz rfl rfl rfl ?_)
        refine pm_cq rfl rfl rfl rfl rfl rfl (md_in1 (nI_pos' (by omega)) (nI_le (b := 9999) (by omega) (by decide))) ?_
        (repeat' first | refine pm_s rfl rfl ?_ | refine pm_ifT (by assumption) ?_ | refine pm_ifF (by assumption) ?_ | refine pm_ial rfl rfl (by assumption) ?_ | refine pm_ias rfl rfl rfl (by assumption) ?_ | refine pm_r rfl rfl rfl ?_ | refine pm_rz rfl rfl rfl ?_)
        refine pm_ci rfl rfl rfl rfl rfl rfl l1 ?_
        rintro v w' ⟨hv, I2, rfl, g3⟩
        subst hv
        cases hs : spr al (my al (al 3 0) (al 10 0) 99) k t m with
        | none =>
          have c1 : fv none = 10000000 := rfl
          (repeat' first | refine pm_s rfl rfl ?_ | refine pm_ifT (by assumption) ?_ | refine pm_ifF (by assumption) ?_ | refine pm_ial rfl rfl (by assumption) ?_ | refine pm_ias rfl rfl rfl (by assumption) ?_ | refine pm_r rfl rfl rfl ?_ | refine pm_rz rfl rfl rfl ?_)
          exact ml_1 (hC.scr g3) (fun x hx => g3 x (by omega)) rfl
        | some u =>
          rw [hs] at hfe
          have c1 : ¬ fv (some u) = 10000000 := by rw [hfe]; exact fun z => by cases z
          (repeat' first | refine pm_s rfl rfl ?_ | refine pm_ifT (by assumption) ?_ | refine pm_ifF (by assumption) ?_ | refine pm_ial rfl rfl (by assumption) ?_ | refine pm_ias rfl rfl rfl (by assumption) ?_ | refine pm_r rfl rfl rfl ?_ | refine pm_rz rfl rfl rfl ?_)
          exact ml_1 (hC.scr g3) (fun x hx => g3 x (by omega)) rfl
end
section
set_option maxHeartbeats 4000000 in
set_option maxRecDepth 100000 in
theorem op_home {X : Nat × (Nat → Int32)} {al : Nat → Nat → Nat} (hW : sy_W al) (a b : Int32) : sy_Op X mm_X3_home mm_X4_home [some (.int a), some (.int b)] al := by
  obtain ⟨w1, w2, w3, w4, w5, w6⟩ := id hW
  have hn := w1.1.2
  have hWS := w1.s
  have hst := hW.st.1
  have hlw := w1.2.2.2.2.2.2.1
  rcases bad_or (a := a) (b := b) hn with h | ⟨⟨k, hk, rfl⟩, h⟩ | ⟨k, m, hk, hm, rfl, rfl⟩
  · refine ⟨-2, al, hW, ?_, ?_⟩
    · intro c I J hc hC
      have l1 := tw_has0 (X := X) (R := sy_R c) (J := J) hc hC.1.1.1 hn h
      rcases hc with rfl | rfl
      · (repeat' first | refine pm_s rfl rfl ?_ | refine pm_ifT (by assumption) ?_ | refine pm_ifF (by assumption) ?_ | refine pm_ial rfl rfl (by assumption) ?_ | refine pm_ias rfl rfl rfl (by assumption) ?_ | refine pm_r rfl rfl rfl ?_ | refine pm_rz rfl rfl rfl ?_)
        refine pm_cq rfl rfl rfl rfl rfl rfl l1 ?_
        (repeat' first | refine pm_s rfl rfl ?_ | refine pm_ifT (by assumption) ?_ | refine pm_ifF (by assumption) ?_ | refine pm_ial rfl rfl (by assumption) ?_ | refine pm_ias rfl rfl rfl (by assumption) ?_ | refine pm_r rfl rfl rfl ?_ | refine pm_rz rfl rfl rfl ?_)
        exact cl_0 (Or.inl rfl) hC rfl
      · (repeat' first | refine pm_s rfl rfl ?_ | refine pm_ifT (by assumption) ?_ | refine pm_ifF (by assumption) ?_ | refine pm_ial rfl rfl (by assumption) ?_ | refine pm_ias rfl rfl rfl (by assumption) ?_ | refine pm_r rfl rfl rfl ?_ | refine pm_rz rfl rfl rfl ?_)
        refine pm_cq rfl rfl rfl rfl rfl rfl l1 ?_
        (repeat' first | refine pm_s rfl rfl ?_ | refine pm_ifT (by assumption) ?_ | refine pm_ifF (by assumption) ?_ | refine pm_ial rfl rfl (by assumption) ?_ | refine pm_ias rfl rfl rfl (by assumption) ?_ | refine pm_r rfl rfl rfl ?_ | refine pm_rz rfl rfl rfl ?_)
        exact cl_0 (Or.inr rfl) hC rfl
    · intro c I J hc hC
      (repeat' first | refine pm_s rfl rfl ?_ | refine pm_ifT (by assumption) ?_ | refine pm_ifF (by assumption) ?_ | refine pm_ial rfl rfl (by assumption) ?_ | refine pm_ias rfl rfl rfl (by assumption) ?_ | refine pm_r rfl rfl rfl ?_ | refine pm_rz rfl rfl rfl ?_)
      refine pm_cq rfl rfl rfl rfl rfl rfl (md_isC0 hC.1.1.1 hn h) ?_
      (repeat' first | refine pm_s rfl rfl ?_ | refine pm_ifT (by assumption) ?_ | refine pm_ifF (by assumption) ?_ | refine pm_ial rfl rfl (by assumption) ?_ | refine pm_ias rfl rfl rfl (by assumption) ?_ | refine pm_r rfl rfl rfl ?_ | refine pm_rz rfl rfl rfl ?_)
      exact ml_0 hC rfl
  · refine ⟨-2, al, hW, ?_, ?_⟩
    · intro c I J hc hC
      have l1 := tw_has1 (X := X) (R := sy_R c) (J := J) hc hC.1.1.1 hn hk
      have l2 := tw_has0 (X := X) (R := sy_R c) (J := J) hc hC.1.1.1 hn h
      rcases hc with rfl | rfl
      · (repeat' first | refine pm_s rfl rfl ?_ | refine pm_ifT (by assumption) ?_ | refine pm_ifF (by assumption) ?_ | refine pm_ial rfl rfl (by assumption) ?_ | refine pm_ias rfl rfl rfl (by assumption) ?_ | refine pm_r rfl rfl rfl ?_ | refine pm_rz rfl rfl rfl ?_)
        refine pm_cq rfl rfl rfl rfl rfl rfl l1 ?_
        (repeat' first | refine pm_s rfl rfl ?_ | refine pm_ifT (by assumption) ?_ | refine pm_ifF (by assumption) ?_ | refine pm_ial rfl rfl (by assumption) ?_ | refine pm_ias rfl rfl rfl (by assumption) ?_ | refine pm_r rfl rfl rfl ?_ | refine pm_rz rfl rfl rfl ?_)
        refine pm_cq rfl rfl rfl rfl rfl rfl l2 ?_
        (repeat' first | refine pm_s rfl rfl ?_ | refine pm_ifT (by assumption) ?_ | refine pm_ifF (by assumption) ?_ | refine pm_ial rfl rfl (by assumption) ?_ | refine pm_ias rfl rfl rfl (by assumption) ?_ | refine pm_r rfl rfl rfl ?_ | refine pm_rz rfl rfl rfl ?_)
        exact cl_0 (Or.inl rfl) hC rfl
      · (repeat' first | refine pm_s rfl rfl ?_ | refine pm_ifT (by assumption) ?_ | refine pm_ifF (by assumption) ?_ | refine pm_ial rfl rfl (by assumption) ?_ | refine pm_ias rfl rfl rfl (by assumption) ?_ | refine pm_r rfl rfl rfl ?_ | refine pm_rz rfl rfl rfl ?_)
        refine pm_cq rfl rfl rfl rfl rfl rfl l1 ?_
        (repeat' first | refine pm_s rfl rfl ?_ | refine pm_ifT (by assumption) ?_ | refine pm_ifF (by assumption) ?_ | refine pm_ial rfl rfl (by assumption) ?_ | refine pm_ias rfl rfl rfl (by assumption) ?_ | refine pm_r rfl rfl rfl ?_ | refine pm_rz rfl rfl rfl ?_)
        refine pm_cq rfl rfl rfl rfl rfl rfl l2 ?_
        (repeat' first | refine pm_s rfl rfl ?_ | refine pm_ifT (by assumption) ?_ | refine pm_ifF (by assumption) ?_ | refine pm_ial rfl rfl (by assumption) ?_ | refine pm_ias rfl rfl rfl (by assumption) ?_ | refine pm_r rfl rfl rfl ?_ | refine pm_rz rfl rfl rfl ?_)
        exact cl_0 (Or.inr rfl) hC rfl
    · intro c I J hc hC
      (repeat' first | refine pm_s rfl rfl ?_ | refine pm_ifT (by assumption) ?_ | refine pm_ifF (by assumption) ?_ | refine pm_ial rfl rfl (by assumption) ?_ | refine pm_ias rfl rfl rfl (by assumption) ?_ | refine pm_r rfl rfl rfl ?_ | refine pm_rz rfl rfl rfl ?_)
      refine pm_cq rfl rfl rfl rfl rfl rfl (md_isC1 hC.1.1.1 hn hk) ?_
      (repeat' first | refine pm_s rfl rfl ?_ | refine pm_ifT (by assumption) ?_ | refine pm_ifF (by assumption) ?_ | refine pm_ial rfl rfl (by assumption) ?_ | refine pm_ias rfl rfl rfl (by assumption) ?_ | refine pm_r rfl rfl rfl ?_ | refine pm_rz rfl rfl rfl ?_)
      refine pm_cq rfl rfl rfl rfl rfl rfl (md_isC0 hC.1.1.1 hn h) ?_
      (repeat' first | refine pm_s rfl rfl ?_ | refine pm_ifT (by assumption) ?_ | refine pm_ifF (by assumption) ?_ | refine pm_ial rfl rfl (by assumption) ?_ | refine pm_ias rfl rfl rfl (by assumption) ?_ | refine pm_r rfl rfl rfl ?_ | refine pm_rz rfl rfl rfl ?_)
      exact ml_0 hC rfl
  · have hbd := spr_bd (al := al) (mv := my al (al 3 0) (al 10 0) 99) (a := k) (t := 0) hWS
    have cls : ∀ r : Int32, (spr al (my al (al 3 0) (al 10 0) 99) k 0 m = none → r = -1) → (∀ u, spr al (my al (al 3 0) (al 10 0) 99) k 0 m = some u → r = ov (spr al (my al (al 3 0) (al 10 0) 99) m u k)) → sy_Cm X mm_X3_home [some (.ref 0), some (.int (nI k)), some (.int (nI m)), none] r al al := by
      intro r hr0 hr1 c I J hc hC
      have l1 := tw_has1 (X := X) (R := sy_R c) (J := J) hc hC.1.1.1 hn hk
      have l2 := tw_has1 (X := X) (R := sy_R c) (J := J) hc hC.1.1.1 hn hm
      have l3 := ww_lai (X := X) (c := c) (J := J) (st := 0) (lw := 0) hc hWS hC.1 hst hlw
      have fin : ∀ (I1 : Nat → Nat → Int32) (p q u : Nat), p < al 0 0 → q < al 0 0 → u ≤ 100000 → (∀ i, i < al 4 0 → I1 4 i = nI (ob (my al (al 3 0) (al 10 0) 99) i)) → (∀ x, x ≠ 4 → x ≠ 5 → I1 x = I x) → pm_R X mm_X2_arrival.1 0 [some (.ref 3), some (.ref c), some (.int (nI p)), some (.int (nI q)), some (.int (nI u))] [] (41, sy_R c, I1, J) (fun o w' => ∃ v, o = some (.int v) ∧ v = ov (spr al (my al (al 3 0) (al 10 0) 99) p u q) ∧ ∃ I', w' = (41, sy_R c, I', J) ∧ ∀ x, x ≠ 5 → I' x = I1 x) := by
        intro I1 p q u hp hq hu g1 g2
        exact ww_arr hc hWS ((hC.scr hc g2).1) (by omega) hq hu g1
      cases hs : spr al (my al (al 3 0) (al 10 0) 99) k 0 m with
      | none =>
        have hr := hr0 hs
        have c1 : ov none = -1 := rfl
        rcases hc with rfl | rfl
        all_goals (
          (repeat' first | refine pm_s rfl rfl ?_ | refine pm_ifT (by assumption) ?_ | refine pm_ifF (by assumption) ?_ | refine pm_ial rfl rfl (by assumption) ?_ | refine pm_ias rfl rfl rfl (by assumption) ?_ | refine pm_r rfl rfl rfl ?_ | refine pm_rz rfl rfl rfl ?_)
          refine pm_cq rfl rfl rfl rfl rfl rfl l1 ?_
          (repeat' first | refine pm_s rfl rfl ?_ | refine pm_ifT (by assumption) ?_ | refine pm_ifF (by assumption) ?_ | refine pm_ial rfl rfl (by assumption) ?_ | refine pm_ias rfl rfl rfl (by assumption) ?_ | refine pm_r rfl rfl rfl ?_ | refine pm_rz rfl rfl rfl ?_)
          refine pm_cq rfl rfl rfl rfl rfl rfl l2 ?_
          (repeat' first | refine pm_s rfl rfl ?_ | refine pm_ifT (by assumption) ?_ | refine pm_ifF (by assumption) ?_ | refine pm_ial rfl rfl (by assumption) ?_ | refine pm_ias rfl rfl rfl (by assumption) ?_ | refine pm_r rfl rfl rfl ?_ | refine pm_rz rfl rfl rfl ?_)
          refine pm_cv rfl rfl rfl rfl rfl rfl l3 ?_
          rintro w' ⟨I1, rfl, g1, g2⟩
          (repeat' first | refine pm_s rfl rfl ?_ | refine pm_ifT (by assumption) ?_ | refine pm_ifF (by assumption) ?_ | refine pm_ial rfl rfl (by assumption) ?_ | refine pm_ias rfl rfl rfl (by assumption) ?_ | refine pm_r rfl rfl rfl ?_ | refine pm_rz rfl rfl rfl ?_)
          refine pm_ci rfl rfl rfl rfl rfl rfl (fin I1 k m 0 hk hm (by omega) g1 (fun x h4 _ => g2 x h4)) ?_
          rintro v w' ⟨hv, I2, rfl, g3⟩
          rw [hs] at hv
          subst hv
          (repeat' first | refine pm_s rfl rfl ?_ | refine pm_ifT (by assumption) ?_ | refine pm_ifF (by assumption) ?_ | refine pm_ial rfl rfl (by assumption) ?_ | refine pm_ias rfl rfl rfl (by assumption) ?_ | refine pm_r rfl rfl rfl ?_ | refine pm_rz rfl rfl rfl ?_)
          exact cl_1 (by decide) (hC.scr (by decide) (fun x h4 h5 => (g3 x h5).trans (g2 x h4))) (fun x hx => (g3 x (by omega)).trans (g2 x (by omega))) hr.symm)
      | some u =>
        have hr := hr1 u hs
        have hu := hbd m u hs
        have c1 : ¬ ov (some u) = -1 := by rw [ov_m1 (fun z hz => by cases hz; omega)]; exact fun z => by cases z
        rcases hc with rfl | rfl
        all_goals (
          (repeat' first | refine pm_s rfl rfl ?_ | refine pm_ifT (by assumption) ?_ | refine pm_ifF (by assumption) ?_ | refine pm_ial rfl rfl (by assumption) ?_ | refine pm_ias rfl rfl rfl (by assumption) ?_ | refine pm_r rfl rfl rfl ?_ | refine pm_rz rfl rfl rfl ?_)
          refine pm_cq rfl rfl rfl rfl rfl rfl l1 ?_
          (repeat' first | refine pm_s rfl rfl ?_ | refine pm_ifT (by assumption) ?_ | refine pm_ifF (by assumption) ?_ | refine pm_ial rfl rfl (by assumption) ?_ | refine pm_ias rfl rfl rfl (by assumption) ?_ | refine pm_r rfl rfl rfl ?_ | refine pm_rz rfl rfl rfl ?_)
          refine pm_cq rfl rfl rfl rfl rfl rfl l2 ?_
          (repeat' first | refine pm_s rfl rfl ?_ | refine pm_ifT (by assumption) ?_ | refine pm_ifF (by assumption) ?_ | refine pm_ial rfl rfl (by assumption) ?_ | refine pm_ias rfl rfl rfl (by assumption) ?_ | refine pm_r rfl rfl rfl ?_ | refine pm_rz rfl rfl rfl ?_)
          refine pm_cv rfl rfl rfl rfl rfl rfl l3 ?_
          rintro w' ⟨I1, rfl, g1, g2⟩
          (repeat' first | refine pm_s rfl rfl ?_ | refine pm_ifT (by assumption) ?_ | refine pm_ifF (by assumption) ?_ | refine pm_ial rfl rfl (by assumption) ?_ | refine pm_ias rfl rfl rfl (by assumption) ?_ | refine pm_r rfl rfl rfl ?_ | refine pm_rz rfl rfl rfl ?_)
          refine pm_ci rfl rfl rfl rfl rfl rfl (fin I1 k m 0 hk hm (by omega) g1 (fun x h4 _ => g2 x h4)) ?_
          rintro v w' ⟨hv, I2, rfl, g3⟩
          rw [hs] at hv
          subst hv
          (repeat' first | refine pm_s rfl rfl ?_ | refine pm_ifT (by assumption) ?_ | refine pm_ifF (by assumption) ?_ | refine pm_ial rfl rfl (by assumption) ?_ | refine pm_ias rfl rfl rfl (by assumption) ?_ | refine pm_r rfl rfl rfl ?_ | refine pm_rz rfl rfl rfl ?_)
          refine pm_ci rfl rfl rfl rfl rfl rfl (fin I2 m k u hm hk (by omega) (fun i hi => by rw [g3 4 (by decide)]; exact g1 i hi) (fun x h4 h5 => (g3 x h5).trans (g2 x h4))) ?_
          rintro v w' ⟨hv, I3, rfl, g4⟩
          (repeat' first | refine pm_s rfl rfl ?_ | refine pm_ifT (by assumption) ?_ | refine pm_ifF (by assumption) ?_ | refine pm_ial rfl rfl (by assumption) ?_ | refine pm_ias rfl rfl rfl (by assumption) ?_ | refine pm_r rfl rfl rfl ?_ | refine pm_rz rfl rfl rfl ?_)
          exact cl_1 (by decide) (hC.scr (by decide) (fun x h4 h5 => (g4 x h5).trans ((g3 x h5).trans (g2 x h4)))) (fun x hx => (g4 x (by omega)).trans ((g3 x (by omega)).trans (g2 x (by omega)))) (hv.trans hr.symm))
    have mls : ∀ r : Int32, (spr al (my al (al 3 0) (al 10 0) 99) k 0 m = none → r = -1) → (∀ u, spr al (my al (al 3 0) (al 10 0) 99) k 0 m = some u → r = ov (spr al (my al (al 3 0) (al 10 0) 99) m u k)) → sy_Mm X mm_X4_home [some (.ref 30), some (.int (nI k)), some (.int (nI m)), none, none] r al al := by
      intro r hr0 hr1 c I J hc hC
      have l1 := md_soon (X := X) (c := c) (J := J) (a := k) (b := m) (t := 0) hWS hC.q hst hlw (by omega) hm (by omega)
      cases hs : spr al (my al (al 3 0) (al 10 0) 99) k 0 m with
      | none =>
        have hr := hr0 hs
        have c1 : fv none = 10000000 := rfl
        (repeat' first | refine pm_s rfl rfl ?_ | refine pm_ifT (by assumption) ?_ | refine pm_ifF (by assumption) ?_ | refine pm_ial rfl rfl (by assumption) ?_ | refine pm_ias rfl rfl rfl (by assumption) ?_ | refine pm_r rfl rfl rfl ?_ | refine pm_rz rfl rfl rfl ?_)
        refine pm_cq rfl rfl rfl rfl rfl rfl (md_isC1 hC.1.1.1 hn hk) ?_
        (repeat' first | refine pm_s rfl rfl ?_ | refine pm_ifT (by assumption) ?_ | refine pm_ifF (by assumption) ?_ | refine pm_ial rfl rfl (by assumption) ?_ | refine pm_ias rfl rfl rfl (by assumption) ?_ | refine pm_r rfl rfl rfl ?_ | refine pm_rz rfl rfl rfl ?_)
        refine pm_cq rfl rfl rfl rfl rfl rfl (md_isC1 hC.1.1.1 hn hm) ?_
        (repeat' first | refine pm_s rfl rfl ?_ | refine pm_ifT (by assumption) ?_ | refine pm_ifF (by assumption) ?_ | refine pm_ial rfl rfl (by assumption) ?_ | refine pm_ias rfl rfl rfl (by assumption) ?_ | refine pm_r rfl rfl rfl ?_ | refine pm_rz rfl rfl rfl ?_)
        refine pm_ci rfl rfl rfl rfl rfl rfl l1 ?_
        rintro v w' ⟨hv, I2, rfl, g3⟩
        rw [hs] at hv
        subst hv
        (repeat' first | refine pm_s rfl rfl ?_ | refine pm_ifT (by assumption) ?_ | refine pm_ifF (by assumption) ?_ | refine pm_ial rfl rfl (by assumption) ?_ | refine pm_ias rfl rfl rfl (by assumption) ?_ | refine pm_r rfl rfl rfl ?_ | refine pm_rz rfl rfl rfl ?_)
        exact ml_1 (hC.scr g3) (fun x hx => g3 x (by omega)) hr.symm
      | some u =>
        have hr := hr1 u hs
        have hu := hbd m u hs
        have hbd2 := spr_bd (al := al) (mv := my al (al 3 0) (al 10 0) 99) (a := m) (t := u) hWS
        have hfe := fv_eq (o := some u) (fun b hb => by cases hb; omega)
        have c1 : ¬ fv (some u) = 10000000 := by rw [hfe]; exact fun z => by cases z
        (repeat' first | refine pm_s rfl rfl ?_ | refine pm_ifT (by assumption) ?_ | refine pm_ifF (by assumption) ?_ | refine pm_ial rfl rfl (by assumption) ?_ | refine pm_ias rfl rfl rfl (by assumption) ?_ | refine pm_r rfl rfl rfl ?_ | refine pm_rz rfl rfl rfl ?_)
        refine pm_cq rfl rfl rfl rfl rfl rfl (md_isC1 hC.1.1.1 hn hk) ?_
        (repeat' first | refine pm_s rfl rfl ?_ | refine pm_ifT (by assumption) ?_ | refine pm_ifF (by assumption) ?_ | refine pm_ial rfl rfl (by assumption) ?_ | refine pm_ias rfl rfl rfl (by assumption) ?_ | refine pm_r rfl rfl rfl ?_ | refine pm_rz rfl rfl rfl ?_)
        refine pm_cq rfl rfl rfl rfl rfl rfl (md_isC1 hC.1.1.1 hn hm) ?_
        (repeat' first | refine pm_s rfl rfl ?_ | refine pm_ifT (by assumption) ?_ | refine pm_ifF (by assumption) ?_ | refine pm_ial rfl rfl (by assumption) ?_ | refine pm_ias rfl rfl rfl (by assumption) ?_ | refine pm_r rfl rfl rfl ?_ | refine pm_rz rfl rfl rfl ?_)
        refine pm_ci rfl rfl rfl rfl rfl rfl l1 ?_
        rintro v w' ⟨hv, I2, rfl, g3⟩
        rw [hs] at hv
        subst hv
        have hC2 : sy_M I2 al := hC.scr g3
        have l2 := md_soon (X := X) (c := c) (J := J) (a := m) (b := k) (t := u) hWS hC2.q hst hlw (by omega) hk (by omega)
        (repeat' first | refine pm_s rfl rfl ?_ | refine pm_ifT (by assumption) ?_ | refine pm_ifF (by assumption) ?_ | refine pm_ial rfl rfl (by assumption) ?_ | refine pm_ias rfl rfl rfl (by assumption) ?_ | refine pm_r rfl rfl rfl ?_ | refine pm_rz rfl rfl rfl ?_)
        refine pm_ci rfl rfl rfl rfl rfl rfl l2 ?_
        rintro v w' ⟨hv, I3, rfl, g4⟩
        have hfe2 := fv_eq (o := spr al (my al (al 3 0) (al 10 0) 99) m u k) (fun b hb => by have := hbd2 k b hb; omega)
        cases hs2 : spr al (my al (al 3 0) (al 10 0) 99) m u k with
        | none =>
          rw [hs2] at hv hr
          subst hv
          have c3 : fv none = 10000000 := rfl
          (repeat' first | refine pm_s rfl rfl ?_ | refine pm_ifT (by assumption) ?_ | refine pm_ifF (by assumption) ?_ | refine pm_ial rfl rfl (by assumption) ?_ | refine pm_ias rfl rfl rfl (by assumption) ?_ | refine pm_r rfl rfl rfl ?_ | refine pm_rz rfl rfl rfl ?_)
          exact ml_1 (hC2.scr g4) (fun x hx => (g4 x (by omega)).trans (g3 x (by omega))) hr.symm
        | some u2 =>
          rw [hs2] at hv hr hfe2
          subst hv
          have c3 : ¬ fv (some u2) = 10000000 := by rw [hfe2]; exact fun z => by cases z
          (repeat' first | refine pm_s rfl rfl ?_ | refine pm_ifT (by assumption) ?_ | refine pm_ifF (by assumption) ?_ | refine pm_ial rfl rfl (by assumption) ?_ | refine pm_ias rfl rfl rfl (by assumption) ?_ | refine pm_r rfl rfl rfl ?_ | refine pm_rz rfl rfl rfl ?_)
          exact ml_1 (hC2.scr g4) (fun x hx => (g4 x (by omega)).trans (g3 x (by omega))) hr.symm
    cases hs : spr al (my al (al 3 0) (al 10 0) 99) k 0 m with
    | none =>
      refine ⟨-1, al, hW, cls (-1) (fun _ => rfl) (fun u hu => ?_), mls (-1) (fun _ => rfl) (fun u hu => ?_)⟩
      · rw [hs] at hu; cases hu
      · rw [hs] at hu; cases hu
    | some u =>
      refine ⟨ov (spr al (my al (al 3 0) (al 10 0) 99) m u k), al, hW, cls _ (fun h => ?_) (fun u' hu => ?_), mls _ (fun h => ?_) (fun u' hu => ?_)⟩
      · rw [hs] at h; cases h
      · rw [hs] at hu; cases hu; rfl
      · rw [hs] at h; cases h
      · rw [hs] at hu; cases hu; rfl
end
section
/-! how many bits -/
def pc (k : Nat) : Nat := k % 2 + k / 2 % 2 + k / 4 % 2 + k / 8 % 2 + k / 16 % 2 + k / 32 % 2 + k / 64 % 2 + k / 128 % 2
def bc1 (x : Int32) : Int32 := x - ((x.toUInt32 >>> ((1 : Int32).toUInt32 &&& Int32.toUInt32 31)).toInt32 &&& 1431655765)
def bc2 (x : Int32) : Int32 := (x &&& 858993459) + ((x.toUInt32 >>> ((2 : Int32).toUInt32 &&& Int32.toUInt32 31)).toInt32 &&& 858993459)
def bc3 (x : Int32) : Int32 := (x + (x.toUInt32 >>> ((4 : Int32).toUInt32 &&& Int32.toUInt32 31)).toInt32) &&& 252645135
def bc4 (x : Int32) : Int32 := x + (x.toUInt32 >>> ((8 : Int32).toUInt32 &&& Int32.toUInt32 31)).toInt32
def bc5 (x : Int32) : Int32 := x + (x.toUInt32 >>> ((16 : Int32).toUInt32 &&& Int32.toUInt32 31)).toInt32
theorem bcE_all : (List.range 256).all (fun k => decide (bc5 (bc4 (bc3 (bc2 (bc1 (nI k))))) &&& 63 = nI (pc k))) = true := by decide +kernel
theorem bcE_ok {k : Nat} (hk : k < 256) : bc5 (bc4 (bc3 (bc2 (bc1 (nI k))))) &&& 63 = nI (pc k) := by simpa using List.all_eq_true.mp bcE_all k (List.mem_range.mpr hk)
section BT
variable {X : Nat × (Nat → Int32)} {w : pm_Wo} {K : Option Value → pm_Wo → Prop}
theorem bq5 {x : Int32} (h : K (some (.int (bc5 x &&& 63))) w) : pm_R X mm_J6_bitCount_0f7a4.1 41 [some (.int x)] [] w K := by
  (repeat' first | refine pm_s rfl rfl ?_ | refine pm_ifT (by assumption) ?_ | refine pm_ifF (by assumption) ?_ | refine pm_ial rfl rfl (by assumption) ?_ | refine pm_ias rfl rfl rfl (by assumption) ?_ | refine pm_r rfl rfl rfl ?_ | refine pm_rz rfl rfl rfl ?_)
  exact h
theorem bq4 {x : Int32} (h : pm_R X mm_J6_bitCount_0f7a4.1 41 [some (.int (bc4 x))] [] w K) : pm_R X mm_J6_bitCount_0f7a4.1 34 [some (.int x)] [] w K := by
  (repeat' first | refine pm_sx [41] rfl rfl rfl ?_ | refine pm_ifT (by assumption) ?_ | refine pm_ifF (by assumption) ?_ | refine pm_ial rfl rfl (by assumption) ?_ | refine pm_ias rfl rfl rfl (by assumption) ?_ | refine pm_r rfl rfl rfl ?_ | refine pm_rz rfl rfl rfl ?_)
  exact h
theorem bq3 {x : Int32} (h : pm_R X mm_J6_bitCount_0f7a4.1 34 [some (.int (bc3 x))] [] w K) : pm_R X mm_J6_bitCount_0f7a4.1 24 [some (.int x)] [] w K := by
  (repeat' first | refine pm_sx [34] rfl rfl rfl ?_ | refine pm_ifT (by assumption) ?_ | refine pm_ifF (by assumption) ?_ | refine pm_ial rfl rfl (by assumption) ?_ | refine pm_ias rfl rfl rfl (by assumption) ?_ | refine pm_r rfl rfl rfl ?_ | refine pm_rz rfl rfl rfl ?_)
  exact h
theorem bq2 {x : Int32} (h : pm_R X mm_J6_bitCount_0f7a4.1 24 [some (.int (bc2 x))] [] w K) : pm_R X mm_J6_bitCount_0f7a4.1 10 [some (.int x)] [] w K := by
  (repeat' first | refine pm_sx [24] rfl rfl rfl ?_ | refine pm_ifT (by assumption) ?_ | refine pm_ifF (by assumption) ?_ | refine pm_ial rfl rfl (by assumption) ?_ | refine pm_ias rfl rfl rfl (by assumption) ?_ | refine pm_r rfl rfl rfl ?_ | refine pm_rz rfl rfl rfl ?_)
  exact h
theorem bq1 {x : Int32} (h : pm_R X mm_J6_bitCount_0f7a4.1 10 [some (.int (bc1 x))] [] w K) : pm_R X mm_J6_bitCount_0f7a4.1 0 [some (.int x)] [] w K := by
  (repeat' first | refine pm_sx [10] rfl rfl rfl ?_ | refine pm_ifT (by assumption) ?_ | refine pm_ifF (by assumption) ?_ | refine pm_ial rfl rfl (by assumption) ?_ | refine pm_ias rfl rfl rfl (by assumption) ?_ | refine pm_r rfl rfl rfl ?_ | refine pm_rz rfl rfl rfl ?_)
  exact h
theorem jd_bc {k : Nat} (hk : k < 256) : pm_R X mm_J6_bitCount_0f7a4.1 0 [some (.int (nI k))] [] w (fun o w' => o = some (.int (nI (pc k))) ∧ w' = w) := by
  refine bq1 (bq2 (bq3 (bq4 (bq5 ?_))))
  rw [bcE_ok hk]
  exact ⟨rfl, rfl⟩
def btE (x : Int32) : Int32 := 0 + ((x >>> (((0 : Int32)) &&& 31)) &&& 1) + ((x >>> (((0 + 1 : Int32)) &&& 31)) &&& 1) + ((x >>> (((0 + 1 + 1 : Int32)) &&& 31)) &&& 1) + ((x >>> (((0 + 1 + 1 + 1 : Int32)) &&& 31)) &&& 1) + ((x >>> (((0 + 1 + 1 + 1 + 1 : Int32)) &&& 31)) &&& 1) + ((x >>> (((0 + 1 + 1 + 1 + 1 + 1 : Int32)) &&& 31)) &&& 1) + ((x >>> (((0 + 1 + 1 + 1 + 1 + 1 + 1 : Int32)) &&& 31)) &&& 1) + ((x >>> (((0 + 1 + 1 + 1 + 1 + 1 + 1 + 1 : Int32)) &&& 31)) &&& 1)
theorem btE_all : (List.range 256).all (fun k => decide (btE (nI k) = nI (pc k))) = true := by decide +kernel
theorem btE_ok {k : Nat} (hk : k < 256) : btE (nI k) = nI (pc k) := by simpa using List.all_eq_true.mp btE_all k (List.mem_range.mpr hk)
set_option maxHeartbeats 4000000 in
set_option maxRecDepth 100000 in
theorem md_bits {k : Nat} (hk : k < 256) : pm_R X mm_X4_bits.1 0 [some (.int (nI k)), none, none] [] w (fun o w' => o = some (.int (nI (pc k))) ∧ w' = w) := by
  rw [← btE_ok hk]
  unfold btE
  generalize nI k = x
  (repeat' first | refine pm_s rfl rfl ?_ | refine pm_ifT (by assumption) ?_ | refine pm_ifF (by assumption) ?_ | refine pm_ial rfl rfl (by assumption) ?_ | refine pm_ias rfl rfl rfl (by assumption) ?_ | refine pm_r rfl rfl rfl ?_ | refine pm_rz rfl rfl rfl ?_)
  exact ⟨rfl, rfl⟩
end BT
end
section
theorem tbF_bit {at_ : Nat → Option Nat} {last : Nat} : ∀ {j k : Nat}, (tbF at_ last j).testBit k = true ↔ k < j ∧ ∃ v, at_ k = some v ∧ v ≤ last := by
  intro j
  induction j with
  | zero => intro k; simp [tbF]
  | succ j ih =>
    intro k
    have hlt := tbF_lt (at_ := at_) last j
    have hset : ∀ x : Nat, (x ||| 2 ^ j).testBit k = (x.testBit k || decide (k = j)) := by
      intro x
      rw [Nat.testBit_or]
      by_cases h : j = k
      · subst h; simp
      · have h2 : ¬ k = j := fun e => h e.symm
        simp [Nat.testBit_two_pow, h, h2]
    cases ha : at_ j with
    | none =>
      have es : tbF at_ last (j + 1) = tbF at_ last j := by
        show (match at_ j with | none => _ | some v => _) = _
        rw [ha]
      rw [es, ih]
      constructor
      · rintro ⟨h1, h2⟩; exact ⟨by omega, h2⟩
      · rintro ⟨h1, v, h2, h3⟩
        refine ⟨?_, v, h2, h3⟩
        by_cases hkj : k = j
        · subst hkj; rw [ha] at h2; cases h2
        · omega
    | some v =>
      by_cases hv : v ≤ last
      · have es : tbF at_ last (j + 1) = tbF at_ last j ||| 2 ^ j := by
          show (match at_ j with | none => _ | some v => _) = _
          rw [ha]
          exact if_pos hv
        rw [es, hset]
        simp only [Bool.or_eq_true, decide_eq_true_eq, ih]
        constructor
        · rintro (⟨h1, h2⟩ | rfl)
          · exact ⟨by omega, h2⟩
          · exact ⟨by omega, v, ha, hv⟩
        · rintro ⟨h1, h2⟩
          by_cases hkj : k = j
          · exact Or.inr hkj
          · exact Or.inl ⟨by omega, h2⟩
      · have es : tbF at_ last (j + 1) = tbF at_ last j := by
          show (match at_ j with | none => _ | some v => _) = _
          rw [ha]
          exact if_neg hv
        rw [es, ih]
        constructor
        · rintro ⟨h1, h2⟩; exact ⟨by omega, h2⟩
        · rintro ⟨h1, u, h2, h3⟩
          refine ⟨?_, u, h2, h3⟩
          by_cases hkj : k = j
          · subst hkj; rw [ha] at h2; cases h2; exact absurd h3 hv
          · omega
/-- an errand is served -/
def sv (al : Nat → Nat → Nat) (mv : Nat → Nat → Nat → Bool) (e : Nat) : Bool := match spr al mv (al 12 e) 0 (al 13 e) with
  | some v => decide (v ≤ 2 * al 9 0)
  | none => false
def seF (al : Nat → Nat → Nat) (mv : Nat → Nat → Nat → Bool) : Nat → Nat
  | 0 => 0
  | j + 1 => if sv al mv j = true then seF al mv j ||| 2 ^ j else seF al mv j
theorem seF_lt {al : Nat → Nat → Nat} {mv : Nat → Nat → Nat → Bool} (j : Nat) : seF al mv j < 2 ^ j := by
  induction j with
  | zero => exact Nat.one_pos
  | succ j ih =>
    have h2 : 2 ^ j < 2 ^ (j + 1) := Nat.pow_lt_pow_right (by decide) (by omega)
    unfold seF
    split
    · exact Nat.or_lt_two_pow (by omega) h2
    · omega
theorem seF_256 {al : Nat → Nat → Nat} {mv : Nat → Nat → Nat → Bool} {j : Nat} (h : j ≤ 8) : seF al mv j < 256 := Nat.lt_of_lt_of_le (seF_lt j) (Nat.pow_le_pow_right (by decide) h)
section SA
variable {X : Nat × (Nat → Int32)} {al al' : Nat → Nat → Nat} {c : Nat} {I I' : Nat → Nat → Int32} {J J' : Nat → Nat → Int64} {K : Option Value → pm_Wo → Prop} {mv : Nat → Nat → Nat → Bool} {at_ : Nat → Option Nat}
/-- what the errands need of a town -/
def sy_WE (al : Nat → Nat → Nat) : Prop := sy_WS al ∧ al 11 0 ≤ 8 ∧ (∀ i, i < al 11 0 → al 12 i < al 0 0 ∧ al 13 i < al 0 0 ∧ al 12 i ≠ al 13 i)
theorem sy_WT.e (h : sy_WT al) : sy_WE al := ⟨h.s, h.2.2.2.2.2.2.2.1, h.2.2.2.2.2.2.2.2⟩
set_option maxHeartbeats 4000000 in
set_option maxRecDepth 100000 in
theorem ww_serves {T e : Nat} (hT : T = 6 ∨ T = 15) (hW : sy_WE al) (hTT : sy_T T I al) (he : e < al 11 0) (ho : ∀ i, i < al 4 0 → I 4 i = nI (ob mv i)) : pm_R X mm_X2_serves.1 0 [some (.ref 3), some (.ref T), some (.int (nI e)), none] [] (41, sy_R c, I, J) (fun o w' => ∃ v, o = some (.int v) ∧ v = (if sv al mv e = true then 1 else 0) ∧ ∃ I', w' = (41, sy_R c, I', J) ∧ ∀ x, x ≠ 5 → I' x = I x) := by
  obtain ⟨hWS, he8, hee⟩ := hW
  obtain ⟨k1, k2, k3⟩ := hee e he
  have hn := hWS.1
  have hH := hWS.2.2.2.2
  have hi := sy_idx (k := e) (N := 8) (by omega) (by decide)
  have te : (nI e).toNatClampNeg = e := nI_clamp (by omega)
  have q1 : I (T + 7) (nI e).toNatClampNeg = nI (al 12 e) := by rw [te]; exact (hTT.2.2.2 e (by omega)).1
  have l1 := ww_spread (X := X) (c := c) (J := J) (a := al 12 e) (t := 0) hT hWS hTT (by omega) ⟨Nat.zero_le _, by omega⟩ ho
  rw [← q1] at l1
  have hbd := spr_bd (al := al) (mv := mv) (a := al 12 e) (t := 0) hWS
  have htl : tbF (spr al mv (al 12 e) 0) (2 * al 9 0) (al 0 0) < 2 ^ 31 := Nat.lt_of_lt_of_le (tbF_lt _ _) (Nat.pow_le_pow_right (by decide) (by omega))
  have hbit : (tbF (spr al mv (al 12 e) 0) (2 * al 9 0) (al 0 0)).testBit (al 13 e) = sv al mv e := by
    unfold sv
    cases hs : spr al mv (al 12 e) 0 (al 13 e) with
    | none =>
      cases hb : (tbF (spr al mv (al 12 e) 0) (2 * al 9 0) (al 0 0)).testBit (al 13 e) with
      | false => rfl
      | true =>
        obtain ⟨-, v, hv, -⟩ := tbF_bit.mp hb
        rw [hs] at hv; cases hv
    | some v =>
      dsimp only
      by_cases hv : v ≤ 2 * al 9 0
      · rw [decide_eq_true hv]
        exact tbF_bit.mpr ⟨k2, v, hs, hv⟩
      · rw [decide_eq_false hv]
        cases hb : (tbF (spr al mv (al 12 e) 0) (2 * al 9 0) (al 0 0)).testBit (al 13 e) with
        | false => rfl
        | true =>
          obtain ⟨-, u, hu, hu2⟩ := tbF_bit.mp hb
          rw [hs] at hu; cases hu; exact absurd hu2 hv
  have hb1 := bt_t1 (n := tbF (spr al mv (al 12 e) 0) (2 * al 9 0) (al 0 0)) (k := al 13 e) htl (by omega)
  rw [hbit] at hb1
  have fin : ∀ I1 : Nat → Nat → Int32, (∀ k, k < 8 → I1 5 k = ov (spr al mv (al 12 e) 0 k)) → (∀ x, x ≠ 5 → I1 x = I x) → pm_R X mm_X2_thereBy.1 0 [some (.ref 3), some (.ref T), some (.int (2 * I1 T 9)), none, none] [] (41, sy_R c, I1, J) (fun o w' => o = some (.int (nI (tbF (spr al mv (al 12 e) 0) (2 * al 9 0) (al 0 0)))) ∧ w' = (41, sy_R c, I1, J)) := by
    intro I1 g1 g2
    have hT1 : sy_T T I1 al := hTT.cong (fun a h3 h4 => g2 a (by omega))
    rw [hT1.1.2.2.2.1, show (2 : Int32) = nI 2 from rfl, pk_mul]
    exact ww_by hT hn hT1.1.1 (by omega) (fun k v hv => by have := hbd k v hv; omega) g1
  have q2 : ∀ I1 : Nat → Nat → Int32, (∀ x, x ≠ 5 → I1 x = I x) → I1 (T + 8) (nI e).toNatClampNeg = nI (al 13 e) := by
    intro I1 g2
    rw [g2 (T + 8) (by omega), te]
    exact (hTT.2.2.2 e (by omega)).2
  cases hsv : sv al mv e with
  | true =>
    rw [hsv] at hb1
    rcases hT with rfl | rfl
    all_goals (
      (repeat' first | refine pm_s rfl rfl ?_ | refine pm_ifT (by assumption) ?_ | refine pm_ifF (by assumption) ?_ | refine pm_ial rfl rfl (by assumption) ?_ | refine pm_ias rfl rfl rfl (by assumption) ?_ | refine pm_r rfl rfl rfl ?_ | refine pm_rz rfl rfl rfl ?_)
      refine pm_cv rfl rfl rfl rfl rfl rfl l1 ?_
      rintro w' ⟨I1, rfl, g1, g2⟩
      have q3 := q2 I1 g2
      have cc : (nI (tbF (spr al mv (al 12 e) 0) (2 * al 9 0) (al 0 0)) >>> (nI (al 13 e) &&& 31)) &&& 1 = 1 := by rw [hb1]
      rw [← q3] at cc
      (repeat' first | refine pm_s rfl rfl ?_ | refine pm_ifT (by assumption) ?_ | refine pm_ifF (by assumption) ?_ | refine pm_ial rfl rfl (by assumption) ?_ | refine pm_ias rfl rfl rfl (by assumption) ?_ | refine pm_r rfl rfl rfl ?_ | refine pm_rz rfl rfl rfl ?_)
      refine pm_cq rfl rfl rfl rfl rfl rfl (fin I1 g1 g2) ?_
      (repeat' first | refine pm_s rfl rfl ?_ | refine pm_ifT (by assumption) ?_ | refine pm_ifF (by assumption) ?_ | refine pm_ial rfl rfl (by assumption) ?_ | refine pm_ias rfl rfl rfl (by assumption) ?_ | refine pm_r rfl rfl rfl ?_ | refine pm_rz rfl rfl rfl ?_)
      exact ⟨_, rfl, rfl, I1, rfl, g2⟩)
  | false =>
    rw [hsv] at hb1
    rcases hT with rfl | rfl
    all_goals (
      (repeat' first | refine pm_s rfl rfl ?_ | refine pm_ifT (by assumption) ?_ | refine pm_ifF (by assumption) ?_ | refine pm_ial rfl rfl (by assumption) ?_ | refine pm_ias rfl rfl rfl (by assumption) ?_ | refine pm_r rfl rfl rfl ?_ | refine pm_rz rfl rfl rfl ?_)
      refine pm_cv rfl rfl rfl rfl rfl rfl l1 ?_
      rintro w' ⟨I1, rfl, g1, g2⟩
      have q3 := q2 I1 g2
      have cc : ¬ (nI (tbF (spr al mv (al 12 e) 0) (2 * al 9 0) (al 0 0)) >>> (nI (al 13 e) &&& 31)) &&& 1 = 1 := by rw [hb1]; exact fun z => by cases z
      rw [← q3] at cc
      (repeat' first | refine pm_s rfl rfl ?_ | refine pm_ifT (by assumption) ?_ | refine pm_ifF (by assumption) ?_ | refine pm_ial rfl rfl (by assumption) ?_ | refine pm_ias rfl rfl rfl (by assumption) ?_ | refine pm_r rfl rfl rfl ?_ | refine pm_rz rfl rfl rfl ?_)
      refine pm_cq rfl rfl rfl rfl rfl rfl (fin I1 g1 g2) ?_
      (repeat' first | refine pm_s rfl rfl ?_ | refine pm_ifT (by assumption) ?_ | refine pm_ifF (by assumption) ?_ | refine pm_ial rfl rfl (by assumption) ?_ | refine pm_ias rfl rfl rfl (by assumption) ?_ | refine pm_r rfl rfl rfl ?_ | refine pm_rz rfl rfl rfl ?_)
      exact ⟨_, rfl, rfl, I1, rfl, g2⟩)
set_option maxHeartbeats 4000000 in
set_option maxRecDepth 100000 in
theorem ww_se {T : Nat} (hT : T = 6 ∨ T = 15) (hW : sy_WE al) (hTT : sy_T T I al) (ho : ∀ i, i < al 4 0 → I 4 i = nI (ob mv i)) : pm_R X mm_X2_servedErrands.1 0 [some (.ref 3), some (.ref T), none, none] [] (41, sy_R c, I, J) (fun o w' => ∃ v, o = some (.int v) ∧ v = nI (seF al mv (al 11 0)) ∧ ∃ I', w' = (41, sy_R c, I', J) ∧ ∀ x, x ≠ 5 → I' x = I x) := by
  have he8 := hW.2.1
  have key := pm_for (X := X) (tb := mm_X2_servedErrands.1) (K := fun o w' => ∃ v, o = some (.int v) ∧ v = nI (seF al mv (al 11 0)) ∧ ∃ I', w' = (41, sy_R c, I', J) ∧ ∀ x, x ≠ 5 → I' x = I x) (St := Nat → Nat → Int32) 4 (fun j _ => [some (.ref 3), some (.ref T), some (.int (nI (seF al mv j))), some (.int (nI j))]) (fun _ s => (41, sy_R c, s, J)) (fun _ s => ∀ x, x ≠ 5 → s x = I x) (al 11 0) ?_ ?_
  · have k0 := key 0 I (Nat.zero_le _) (fun _ _ => rfl)
    (repeat refine pm_sx [4] rfl rfl rfl ?_)
    exact k0
  · intro j I1 hj h2 ih
    have hT1 : sy_T T I1 al := hTT.cong (fun a h3 h4 => h2 a (by omega))
    have e4 : ¬ I1 T 11 ≤ nI j := by rw [hT1.1.2.2.2.2.2]; exact nI_ge hj (by omega)
    have l1 := ww_serves (X := X) (c := c) (J := J) hT hW hT1 hj (fun i hi => by rw [h2 4 (by decide)]; exact ho i hi)
    have hor : nI (seF al mv j) ||| (1 : Int32) <<< (nI j &&& 31) = nI (seF al mv j ||| 2 ^ j) := by rw [bt_shl (by omega), fa_or]
    cases hsv : sv al mv j with
    | true =>
      have es : seF al mv (j + 1) = seF al mv j ||| 2 ^ j := if_pos hsv
      rw [es] at ih
      rw [hsv] at l1
      rcases hT with rfl | rfl
      all_goals (
        refine pm_s rfl rfl ?_
        (repeat' first | refine pm_sx [4] rfl rfl rfl ?_ | refine pm_ifT (by assumption) ?_ | refine pm_ifF (by assumption) ?_ | refine pm_ial rfl rfl (by assumption) ?_ | refine pm_ias rfl rfl rfl (by assumption) ?_ | refine pm_r rfl rfl rfl ?_ | refine pm_rz rfl rfl rfl ?_)
        refine pm_ci rfl rfl rfl rfl rfl rfl l1 ?_
        rintro v w' ⟨rfl, I2, rfl, g3⟩
        (repeat' first | refine pm_sx [4] rfl rfl rfl ?_ | refine pm_ifT (by assumption) ?_ | refine pm_ifF (by assumption) ?_ | refine pm_ial rfl rfl (by assumption) ?_ | refine pm_ias rfl rfl rfl (by assumption) ?_ | refine pm_r rfl rfl rfl ?_ | refine pm_rz rfl rfl rfl ?_)
        rw [nI_1, hor]
        exact ih I2 (fun x hx => (g3 x hx).trans (h2 x hx)))
    | false =>
      have es : seF al mv (j + 1) = seF al mv j := if_neg (by rw [hsv]; decide)
      rw [es] at ih
      rw [hsv] at l1
      rcases hT with rfl | rfl
      all_goals (
        refine pm_s rfl rfl ?_
        (repeat' first | refine pm_sx [4] rfl rfl rfl ?_ | refine pm_ifT (by assumption) ?_ | refine pm_ifF (by assumption) ?_ | refine pm_ial rfl rfl (by assumption) ?_ | refine pm_ias rfl rfl rfl (by assumption) ?_ | refine pm_r rfl rfl rfl ?_ | refine pm_rz rfl rfl rfl ?_)
        refine pm_ci rfl rfl rfl rfl rfl rfl l1 ?_
        rintro v w' ⟨rfl, I2, rfl, g3⟩
        (repeat' first | refine pm_sx [4] rfl rfl rfl ?_ | refine pm_ifT (by assumption) ?_ | refine pm_ifF (by assumption) ?_ | refine pm_ial rfl rfl (by assumption) ?_ | refine pm_ias rfl rfl rfl (by assumption) ?_ | refine pm_r rfl rfl rfl ?_ | refine pm_rz rfl rfl rfl ?_)
        rw [nI_1]
        exact ih I2 (fun x hx => (g3 x hx).trans (h2 x hx)))
  · intro I1 h2
    have hT1 : sy_T T I1 al := hTT.cong (fun a h3 h4 => h2 a (by omega))
    have e4 : I1 T 11 ≤ nI (al 11 0) := by rw [hT1.1.2.2.2.2.2]; exact Int32.le_refl _
    rcases hT with rfl | rfl
    all_goals (
      (repeat' first | refine pm_s rfl rfl ?_ | refine pm_ifT (by assumption) ?_ | refine pm_ifF (by assumption) ?_ | refine pm_ial rfl rfl (by assumption) ?_ | refine pm_ias rfl rfl rfl (by assumption) ?_ | refine pm_r rfl rfl rfl ?_ | refine pm_rz rfl rfl rfl ?_)
      exact ⟨_, rfl, rfl, I1, rfl, h2⟩)
theorem ix2 {k m : Nat} (hk : k < 8) (hm : m ≤ 1) : ((0 : Int32) ≤ 2 * nI k + nI m ∧ (2 * nI k + nI m).toNatClampNeg < 16) ∧ (2 * nI k + nI m).toNatClampNeg = 2 * k + m := by
  rw [show (2 : Int32) = nI 2 from rfl, pk_mul, nI_add]
  exact ⟨sy_idx (by omega) (by decide), nI_clamp (by omega)⟩
theorem ix2z {k : Nat} (hk : k < 8) : ((0 : Int32) ≤ 2 * nI k ∧ (2 * nI k).toNatClampNeg < 16) ∧ (2 * nI k).toNatClampNeg = 2 * k := by
  rw [show (2 : Int32) = nI 2 from rfl, pk_mul]
  exact ⟨sy_idx (by omega) (by decide), nI_clamp (by omega)⟩
/-- what the reference's errands read -/
def sy_QE (I : Nat → Nat → Int32) (al : Nat → Nat → Nat) (st lw rp : Nat) : Prop := sy_Q I al st lw rp ∧ I 30 7 = nI (al 11 0) ∧ ∀ i, i < 8 → I 33 (2 * i) = nI (al 12 i) ∧ I 33 (2 * i + 1) = nI (al 13 i)
theorem sy_QE.cong {st lw rp : Nat} (h : sy_QE I al st lw rp) (hI : ∀ x, x ≠ 40 → I' x = I x) : sy_QE I' al st lw rp := by
  refine ⟨h.1.cong hI, ?_⟩
  rw [hI 30 (by decide), hI 33 (by decide)]
  exact h.2
theorem sy_M.qe (h : sy_M I al) : sy_QE I al (al 3 0) (al 10 0) 99 := ⟨h.q, h.1.1.2.2.2.2.2, h.1.2.2.2⟩
set_option maxHeartbeats 4000000 in
set_option maxRecDepth 100000 in
theorem md_se {st lw rp : Nat} (hW : sy_WE al) (hQ : sy_QE I al st lw rp) (hst : st < 2 ^ 31) (hlw : lw ≤ 2) : pm_R X mm_X4_servedNow.1 0 [some (.ref 30), none, none] [] (41, sy_R c, I, J) (fun o w' => ∃ v, o = some (.int v) ∧ v = nI (seF al (my al st lw rp) (al 11 0)) ∧ ∃ I', w' = (41, sy_R c, I', J) ∧ ∀ x, x ≠ 40 → I' x = I x) := by
  have he8 := hW.2.1
  have hWS := hW.1
  have hn := hWS.1
  have hH := hWS.2.2.2.2
  have key := pm_for (X := X) (tb := mm_X4_servedNow.1) (K := fun o w' => ∃ v, o = some (.int v) ∧ v = nI (seF al (my al st lw rp) (al 11 0)) ∧ ∃ I', w' = (41, sy_R c, I', J) ∧ ∀ x, x ≠ 40 → I' x = I x) (St := Nat → Nat → Int32) 4 (fun j _ => [some (.ref 30), some (.int (nI (seF al (my al st lw rp) j))), some (.int (nI j))]) (fun _ s => (41, sy_R c, s, J)) (fun _ s => ∀ x, x ≠ 40 → s x = I x) (al 11 0) ?_ ?_
  · have k0 := key 0 I (Nat.zero_le _) (fun _ _ => rfl)
    (repeat refine pm_sx [4] rfl rfl rfl ?_)
    exact k0
  · intro j I1 hj h2 ih
    have hQ1 : sy_QE I1 al st lw rp := hQ.cong h2
    obtain ⟨k1, k2, k3⟩ := hW.2.2 j hj
    obtain ⟨z1, z2⟩ := hQ1.2.2 j (by omega)
    have e4 : ¬ I1 30 7 ≤ nI j := by rw [hQ1.2.1]; exact nI_ge hj (by omega)
    obtain ⟨i0, t0⟩ := ix2z (k := j) (by omega)
    obtain ⟨i1, t1⟩ := ix2 (k := j) (m := 1) (by omega) (by omega)
    have i1 : (0 : Int32) ≤ 2 * nI j + 1 ∧ (2 * nI j + 1).toNatClampNeg < 16 := i1
    have t1 : (2 * nI j + 1).toNatClampNeg = 2 * j + 1 := t1
    have q1 : I1 33 (2 * nI j).toNatClampNeg = nI (al 12 j) := by rw [t0]; exact z1
    have q2 : I1 33 (2 * nI j + 1).toNatClampNeg = nI (al 13 j) := by rw [t1]; exact z2
    have l1 := md_soon (X := X) (c := c) (J := J) (a := al 12 j) (b := al 13 j) (t := 0) hWS hQ1.1 hst hlw (by omega) k2 (by omega)
    rw [← q1, ← q2] at l1
    have hbd := spr_bd (al := al) (mv := my al st lw rp) (a := al 12 j) (t := 0) hWS (al 13 j)
    have hor : nI (seF al (my al st lw rp) j) ||| (1 : Int32) <<< (nI j &&& 31) = nI (seF al (my al st lw rp) j ||| 2 ^ j) := by rw [bt_shl (by omega), fa_or]
    have hor0 : nI (seF al (my al st lw rp) j) ||| (0 : Int32) = nI (seF al (my al st lw rp) j) := by rw [show (0 : Int32) = nI 0 from rfl, fa_or, Nat.or_zero]
    have hcmp : ∀ I2 : Nat → Nat → Int32, (∀ x, x ≠ 40 → I2 x = I1 x) → (2 * I2 30 6 < fv (spr al (my al st lw rp) (al 12 j) 0 (al 13 j))) = ¬ (sv al (my al st lw rp) j = true) := by
      intro I2 g3
      rw [g3 30 (by decide), hQ1.1.2.2.2, show (2 : Int32) = nI 2 from rfl, pk_mul]
      unfold sv
      cases hs : spr al (my al st lw rp) (al 12 j) 0 (al 13 j) with
      | none =>
        refine propext ⟨fun _ z => (by cases z), fun _ => ?_⟩
        exact nI_lt (a := 2 * al 9 0) (b := 10000000) (by omega) (by decide)
      | some v =>
        have hv := hbd v hs
        show (nI (2 * al 9 0) < nI v) = _
        rw [nI_lt' (by omega) (by omega)]
        refine propext ⟨fun z z2 => ?_, fun z => ?_⟩
        · have := of_decide_eq_true z2; omega
        · exact Nat.not_le.mp (fun q => z (decide_eq_true q))
    cases hsv : sv al (my al st lw rp) j with
    | true =>
      have es : seF al (my al st lw rp) (j + 1) = seF al (my al st lw rp) j ||| 2 ^ j := if_pos hsv
      rw [es] at ih
      refine pm_s rfl rfl ?_
      (repeat' first | refine pm_sx [4] rfl rfl rfl ?_ | refine pm_ifT (by assumption) ?_ | refine pm_ifF (by assumption) ?_ | refine pm_ial rfl rfl (by assumption) ?_ | refine pm_ias rfl rfl rfl (by assumption) ?_ | refine pm_r rfl rfl rfl ?_ | refine pm_rz rfl rfl rfl ?_)
      refine pm_ci rfl rfl rfl rfl rfl rfl l1 ?_
      rintro v w' ⟨rfl, I2, rfl, g3⟩
      have cc : ¬ (2 * I2 30 6 < fv (spr al (my al st lw rp) (al 12 j) 0 (al 13 j))) := by rw [hcmp I2 g3, hsv]; exact fun z => z rfl
      (repeat' first | refine pm_sx [4] rfl rfl rfl ?_ | refine pm_ifT (by assumption) ?_ | refine pm_ifF (by assumption) ?_ | refine pm_ial rfl rfl (by assumption) ?_ | refine pm_ias rfl rfl rfl (by assumption) ?_ | refine pm_r rfl rfl rfl ?_ | refine pm_rz rfl rfl rfl ?_)
      rw [nI_1, hor]
      exact ih I2 (fun x hx => (g3 x hx).trans (h2 x hx))
    | false =>
      have es : seF al (my al st lw rp) (j + 1) = seF al (my al st lw rp) j := if_neg (by rw [hsv]; decide)
      rw [es] at ih
      refine pm_s rfl rfl ?_
      (repeat' first | refine pm_sx [4] rfl rfl rfl ?_ | refine pm_ifT (by assumption) ?_ | refine pm_ifF (by assumption) ?_ | refine pm_ial rfl rfl (by assumption) ?_ | refine pm_ias rfl rfl rfl (by assumption) ?_ | refine pm_r rfl rfl rfl ?_ | refine pm_rz rfl rfl rfl ?_)
      refine pm_ci rfl rfl rfl rfl rfl rfl l1 ?_
      rintro v w' ⟨rfl, I2, rfl, g3⟩
      have cc : (2 * I2 30 6 < fv (spr al (my al st lw rp) (al 12 j) 0 (al 13 j))) := by rw [hcmp I2 g3, hsv]; exact fun z => by cases z
      (repeat' first | refine pm_sx [4] rfl rfl rfl ?_ | refine pm_ifT (by assumption) ?_ | refine pm_ifF (by assumption) ?_ | refine pm_ial rfl rfl (by assumption) ?_ | refine pm_ias rfl rfl rfl (by assumption) ?_ | refine pm_r rfl rfl rfl ?_ | refine pm_rz rfl rfl rfl ?_)
      rw [nI_1, hor0]
      exact ih I2 (fun x hx => (g3 x hx).trans (h2 x hx))
  · intro I1 h2
    have hQ1 : sy_QE I1 al st lw rp := hQ.cong h2
    have e4 : I1 30 7 ≤ nI (al 11 0) := by rw [hQ1.2.1]; exact Int32.le_refl _
    (repeat' first | refine pm_s rfl rfl ?_ | refine pm_ifT (by assumption) ?_ | refine pm_ifF (by assumption) ?_ | refine pm_ial rfl rfl (by assumption) ?_ | refine pm_ias rfl rfl rfl (by assumption) ?_ | refine pm_r rfl rfl rfl ?_ | refine pm_rz rfl rfl rfl ?_)
    exact ⟨_, rfl, rfl, I1, rfl, h2⟩
end SA
set_option maxHeartbeats 4000000 in
set_option maxRecDepth 100000 in
theorem op_served {X : Nat × (Nat → Int32)} {al : Nat → Nat → Nat} (hW : sy_W al) : sy_Op X mm_X3_served mm_X4_served [] al := by
  obtain ⟨w1, w2, w3, w4, w5, w6⟩ := id hW
  have hWE := w1.e
  have hst := hW.st.1
  have hlw := w1.2.2.2.2.2.2.1
  refine ⟨nI (seF al (my al (al 3 0) (al 10 0) 99) (al 11 0)), al, hW, ?_, ?_⟩
  · intro c I J hc hC
    have l3 := ww_lai (X := X) (c := c) (J := J) (st := 0) (lw := 0) hc hWE.1 hC.1 hst hlw
    have fin : ∀ I1 : Nat → Nat → Int32, (∀ i, i < al 4 0 → I1 4 i = nI (ob (my al (al 3 0) (al 10 0) 99) i)) → (∀ x, x ≠ 4 → I1 x = I x) → pm_R X mm_X2_servedErrands.1 0 [some (.ref 3), some (.ref c), none, none] [] (41, sy_R c, I1, J) (fun o w' => ∃ v, o = some (.int v) ∧ v = nI (seF al (my al (al 3 0) (al 10 0) 99) (al 11 0)) ∧ ∃ I', w' = (41, sy_R c, I', J) ∧ ∀ x, x ≠ 5 → I' x = I1 x) := fun I1 g1 g2 => ww_se hc hWE ((hC.scr hc (fun x h4 _ => g2 x h4)).1) g1
    rcases hc with rfl | rfl
    all_goals (
      (repeat' first | refine pm_s rfl rfl ?_ | refine pm_ifT (by assumption) ?_ | refine pm_ifF (by assumption) ?_ | refine pm_ial rfl rfl (by assumption) ?_ | refine pm_ias rfl rfl rfl (by assumption) ?_ | refine pm_r rfl rfl rfl ?_ | refine pm_rz rfl rfl rfl ?_)
      refine pm_cv rfl rfl rfl rfl rfl rfl l3 ?_
      rintro w' ⟨I1, rfl, g1, g2⟩
      (repeat' first | refine pm_s rfl rfl ?_ | refine pm_ifT (by assumption) ?_ | refine pm_ifF (by assumption) ?_ | refine pm_ial rfl rfl (by assumption) ?_ | refine pm_ias rfl rfl rfl (by assumption) ?_ | refine pm_r rfl rfl rfl ?_ | refine pm_rz rfl rfl rfl ?_)
      refine pm_ci rfl rfl rfl rfl rfl rfl (fin I1 g1 g2) ?_
      rintro v w' ⟨hv, I2, rfl, g3⟩
      (repeat' first | refine pm_s rfl rfl ?_ | refine pm_ifT (by assumption) ?_ | refine pm_ifF (by assumption) ?_ | refine pm_ial rfl rfl (by assumption) ?_ | refine pm_ias rfl rfl rfl (by assumption) ?_ | refine pm_r rfl rfl rfl ?_ | refine pm_rz rfl rfl rfl ?_)
      exact cl_1 (by decide) (hC.scr (by decide) (fun x h4 h5 => (g3 x h5).trans (g2 x h4))) (fun x hx => (g3 x (by omega)).trans (g2 x (by omega))) hv)
  · intro c I J hc hC
    have l1 := md_se (X := X) (c := c) (J := J) hWE hC.qe hst hlw
    (repeat' first | refine pm_s rfl rfl ?_ | refine pm_ifT (by assumption) ?_ | refine pm_ifF (by assumption) ?_ | refine pm_ial rfl rfl (by assumption) ?_ | refine pm_ias rfl rfl rfl (by assumption) ?_ | refine pm_r rfl rfl rfl ?_ | refine pm_rz rfl rfl rfl ?_)
    refine pm_ci rfl rfl rfl rfl rfl rfl l1 ?_
    rintro v w' ⟨hv, I2, rfl, g3⟩
    (repeat' first | refine pm_s rfl rfl ?_ | refine pm_ifT (by assumption) ?_ | refine pm_ifF (by assumption) ?_ | refine pm_ial rfl rfl (by assumption) ?_ | refine pm_ias rfl rfl rfl (by assumption) ?_ | refine pm_r rfl rfl rfl ?_ | refine pm_rz rfl rfl rfl ?_)
    exact ml_1 (hC.scr g3) (fun x hx => g3 x (by omega)) hv
end
section
/-- the first at which f is most, and how much -/
def bm (f : Nat → Nat) : Nat → Option (Nat × Nat)
  | 0 => none
  | j + 1 => match bm f j with
    | none => some (j, f j)
    | some (b, m) => if m < f j then some (j, f j) else some (b, m)
def bmb (o : Option (Nat × Nat)) : Int32 := match o with
  | none => -1
  | some (b, _) => nI b
def bmm (o : Option (Nat × Nat)) : Int32 := match o with
  | none => -1
  | some (_, m) => nI m
theorem bm_bd {f : Nat → Nat} (hf : ∀ k, f k ≤ 100) {j b m : Nat} (h : bm f j = some (b, m)) : b < j ∧ m ≤ 100 := by
  induction j generalizing b m with
  | zero => cases h
  | succ j ih =>
    unfold bm at h
    split at h
    next => cases h; exact ⟨by omega, hf j⟩
    next b' m' hbm =>
      have := ih hbm
      split at h
      next => cases h; exact ⟨by omega, hf j⟩
      next => cases h; exact ⟨by omega, this.2⟩
/-- a step of it, as the machine compares -/
theorem bm_step {f : Nat → Nat} (hf : ∀ k, f k ≤ 100) (j : Nat) : (nI (f j) ≤ bmm (bm f j) → bm f (j + 1) = bm f j) ∧ (¬ nI (f j) ≤ bmm (bm f j) → bm f (j + 1) = some (j, f j)) := by
  cases hb : bm f j with
  | none =>
    have es : bm f (j + 1) = some (j, f j) := by
      show (match bm f j with | none => _ | some (b, m) => _) = _
      rw [hb]
    refine ⟨fun h => ?_, fun _ => es⟩
    have := Int32.le_iff_toInt_le.mp h
    have hfj := hf j
    rw [nI_toInt (by omega)] at this
    have e1 : (bmm none).toInt = -1 := rfl
    omega
  | some q =>
    obtain ⟨b, m⟩ := q
    have hfj := hf j
    have hm := (bm_bd hf hb).2
    have es : bm f (j + 1) = if m < f j then some (j, f j) else some (b, m) := by
      show (match bm f j with | none => _ | some (b, m) => _) = _
      rw [hb]
    have e1 : (nI (f j) ≤ bmm (some (b, m))) = (f j ≤ m) := nI_le' (by omega) (by omega)
    rw [e1, es]
    exact ⟨fun h => if_neg (by omega), fun h => if_pos (by omega)⟩
theorem pc_le (k : Nat) : pc k ≤ 100 := by unfold pc; omega
section LA
variable {X : Nat × (Nat → Int32)} {al al' : Nat → Nat → Nat} {c : Nat} {I I' : Nat → Nat → Int32} {J J' : Nat → Nat → Int64} {K : Option Value → pm_Wo → Prop} {mv : Nat → Nat → Nat → Bool}
end LA
set_option maxHeartbeats 4000000 in
set_option maxRecDepth 100000 in
theorem op_law {X : Nat × (Nat → Int32)} {al : Nat → Nat → Nat} (hW : sy_W al) (a : Int32) : sy_Op X mm_X3_law mm_X4_law [some (.int a)] al := by
  obtain ⟨w1, w2, w3, w4, w5, w6⟩ := id hW
  have hWE := w1.e
  have hst := hW.st.1
  have hlw := w1.2.2.2.2.2.2.1
  have he8 := hWE.2.1
  by_cases hbad : a = 0 ∨ a = 1
  · have F : ∃ f : Nat → Nat, f = fun l => pc (seF al (my al (al 3 0) l 99) (al 11 0)) := ⟨_, rfl⟩
    obtain ⟨f, hf⟩ := F
    have hfb : ∀ k, f k ≤ 100 := fun k => by rw [hf]; exact pc_le _
    obtain ⟨b3, m3, h3⟩ : ∃ b m, bm f 3 = some (b, m) := by
      have e1 : bm f 1 = some (0, f 0) := rfl
      cases hb : bm f 2 with
      | none =>
        have := (bm_step hfb 1)
        rw [e1] at this
        by_cases hx : nI (f 1) ≤ bmm (some (0, f 0))
        · rw [this.1 hx] at hb; cases hb
        · rw [this.2 hx] at hb; cases hb
      | some q =>
        have := (bm_step hfb 2)
        by_cases hx : nI (f 2) ≤ bmm (bm f 2)
        · exact ⟨q.1, q.2, by rw [this.1 hx, hb]⟩
        · exact ⟨2, f 2, this.2 hx⟩
    have cls : sy_Cm X mm_X3_law [some (.ref 0), some (.int a), none, none, none, none] (if a = 0 then nI b3 else nI m3) al al := by
      intro c I J hc hC
      have key := pm_for (X := X) (tb := mm_X3_law.1) (K := fun o w => o = some (.int (if a = 0 then nI b3 else nI m3)) ∧ ∃ c' I', (c' = 6 ∨ c' = 15) ∧ w = (41, sy_R c', I', J) ∧ sy_C c' I' al ∧ ∀ x, 30 ≤ x → I' x = I x) (St := (Nat → Nat → Int32) × Option Value) 19 (fun j s => [some (.ref 0), some (.int a), some (.int (bmb (bm f j))), some (.int (bmm (bm f j))), some (.int (nI j)), s.2]) (fun _ s => (41, sy_R c, s.1, J)) (fun _ s => ∀ x, x ≠ 4 → x ≠ 5 → s.1 x = I x) 3 ?_ ?_
      · have k0 := key 0 (I, none) (Nat.zero_le _) (fun _ _ _ => rfl)
        rcases hbad with rfl | rfl
        all_goals (
          (repeat refine pm_sx [19] rfl rfl rfl ?_)
          exact k0)
      · rintro j ⟨I1, g5⟩ hj h2 ih
        dsimp only at h2 ih ⊢
        have hC1 : sy_C c I1 al := hC.scr hc h2
        have c0 : ¬ (3 : Int32) ≤ nI j := nI_ge (b := 3) hj (by decide)
        have l1 := ww_lay (X := X) (c := c) (J := J) (lw := j) hc hWE.1 hC1.1 hst (by omega)
        rw [← hC1.1.1.2.1] at l1
        have l2 : ∀ I2 : Nat → Nat → Int32, (∀ i, i < al 4 0 → I2 4 i = nI (ob (my al (al 3 0) j 99) i)) → (∀ x, x ≠ 4 → I2 x = I1 x) → pm_R X mm_X2_servedErrands.1 0 [some (.ref 3), some (.ref c), none, none] [] (41, sy_R c, I2, J) (fun o w' => ∃ v, o = some (.int v) ∧ v = nI (seF al (my al (al 3 0) j 99) (al 11 0)) ∧ ∃ I', w' = (41, sy_R c, I', J) ∧ ∀ x, x ≠ 5 → I' x = I2 x) := fun I2 g1 g2 => ww_se hc hWE ((hC1.scr hc (fun x h4 _ => g2 x h4)).1) g1
        have hfj : pc (seF al (my al (al 3 0) j 99) (al 11 0)) = f j := by rw [hf]
        obtain ⟨s1, s2⟩ := bm_step hfb j
        by_cases hcmp : nI (f j) ≤ bmm (bm f j)
        · rw [s1 hcmp] at ih
          rw [← hfj] at hcmp
          rcases hc with rfl | rfl
          all_goals (
            refine pm_s rfl rfl ?_
            (repeat' first | refine pm_sx [19] rfl rfl rfl ?_ | refine pm_ifT (by assumption) ?_ | refine pm_ifF (by assumption) ?_ | refine pm_ial rfl rfl (by assumption) ?_ | refine pm_ias rfl rfl rfl (by assumption) ?_ | refine pm_r rfl rfl rfl ?_ | refine pm_rz rfl rfl rfl ?_)
            refine pm_cv rfl rfl rfl rfl rfl rfl l1 ?_
            rintro w' ⟨I2, rfl, g1, g2⟩
            (repeat' first | refine pm_sx [19] rfl rfl rfl ?_ | refine pm_ifT (by assumption) ?_ | refine pm_ifF (by assumption) ?_ | refine pm_ial rfl rfl (by assumption) ?_ | refine pm_ias rfl rfl rfl (by assumption) ?_ | refine pm_r rfl rfl rfl ?_ | refine pm_rz rfl rfl rfl ?_)
            refine pm_ci rfl rfl rfl rfl rfl rfl (l2 I2 g1 g2) ?_
            rintro v w' ⟨rfl, I3, rfl, g3⟩
            (repeat' first | refine pm_sx [19] rfl rfl rfl ?_ | refine pm_ifT (by assumption) ?_ | refine pm_ifF (by assumption) ?_ | refine pm_ial rfl rfl (by assumption) ?_ | refine pm_ias rfl rfl rfl (by assumption) ?_ | refine pm_r rfl rfl rfl ?_ | refine pm_rz rfl rfl rfl ?_)
            refine pm_cq rfl rfl rfl rfl rfl rfl (jd_bc (seF_256 he8)) ?_
            (repeat' first | refine pm_sx [19] rfl rfl rfl ?_ | refine pm_ifT (by assumption) ?_ | refine pm_ifF (by assumption) ?_ | refine pm_ial rfl rfl (by assumption) ?_ | refine pm_ias rfl rfl rfl (by assumption) ?_ | refine pm_r rfl rfl rfl ?_ | refine pm_rz rfl rfl rfl ?_)
            rw [nI_1]
            exact ih (I3, _) (fun x h4 h5 => (g3 x h5).trans ((g2 x h4).trans (h2 x h4 h5))))
        · rw [s2 hcmp] at ih
          have hf2 : bmm (some (j, f j)) = nI (pc (seF al (my al (al 3 0) j 99) (al 11 0))) := by rw [hfj]; rfl
          rw [hf2] at ih
          rw [← hfj] at hcmp
          rcases hc with rfl | rfl
          all_goals (
            refine pm_s rfl rfl ?_
            (repeat' first | refine pm_sx [19] rfl rfl rfl ?_ | refine pm_ifT (by assumption) ?_ | refine pm_ifF (by assumption) ?_ | refine pm_ial rfl rfl (by assumption) ?_ | refine pm_ias rfl rfl rfl (by assumption) ?_ | refine pm_r rfl rfl rfl ?_ | refine pm_rz rfl rfl rfl ?_)
            refine pm_cv rfl rfl rfl rfl rfl rfl l1 ?_
            rintro w' ⟨I2, rfl, g1, g2⟩
            (repeat' first | refine pm_sx [19] rfl rfl rfl ?_ | refine pm_ifT (by assumption) ?_ | refine pm_ifF (by assumption) ?_ | refine pm_ial rfl rfl (by assumption) ?_ | refine pm_ias rfl rfl rfl (by assumption) ?_ | refine pm_r rfl rfl rfl ?_ | refine pm_rz rfl rfl rfl ?_)
            refine pm_ci rfl rfl rfl rfl rfl rfl (l2 I2 g1 g2) ?_
            rintro v w' ⟨rfl, I3, rfl, g3⟩
            (repeat' first | refine pm_sx [19] rfl rfl rfl ?_ | refine pm_ifT (by assumption) ?_ | refine pm_ifF (by assumption) ?_ | refine pm_ial rfl rfl (by assumption) ?_ | refine pm_ias rfl rfl rfl (by assumption) ?_ | refine pm_r rfl rfl rfl ?_ | refine pm_rz rfl rfl rfl ?_)
            refine pm_cq rfl rfl rfl rfl rfl rfl (jd_bc (seF_256 he8)) ?_
            (repeat' first | refine pm_sx [19] rfl rfl rfl ?_ | refine pm_ifT (by assumption) ?_ | refine pm_ifF (by assumption) ?_ | refine pm_ial rfl rfl (by assumption) ?_ | refine pm_ias rfl rfl rfl (by assumption) ?_ | refine pm_r rfl rfl rfl ?_ | refine pm_rz rfl rfl rfl ?_)
            rw [nI_1]
            exact ih (I3, _) (fun x h4 h5 => (g3 x h5).trans ((g2 x h4).trans (h2 x h4 h5))))
      · rintro ⟨I1, g5⟩ h2
        dsimp only at h2 ⊢
        have hC1 : sy_C c I1 al := hC.scr hc h2
        rw [h3]
        rcases hbad with rfl | rfl
        · (repeat' first | refine pm_s rfl rfl ?_ | refine pm_ifT (by assumption) ?_ | refine pm_ifF (by assumption) ?_ | refine pm_ial rfl rfl (by assumption) ?_ | refine pm_ias rfl rfl rfl (by assumption) ?_ | refine pm_r rfl rfl rfl ?_ | refine pm_rz rfl rfl rfl ?_)
          exact cl_1 hc hC1 (fun x hx => h2 x (by omega) (by omega)) rfl
        · (repeat' first | refine pm_s rfl rfl ?_ | refine pm_ifT (by assumption) ?_ | refine pm_ifF (by assumption) ?_ | refine pm_ial rfl rfl (by assumption) ?_ | refine pm_ias rfl rfl rfl (by assumption) ?_ | refine pm_r rfl rfl rfl ?_ | refine pm_rz rfl rfl rfl ?_)
          exact cl_1 hc hC1 (fun x hx => h2 x (by omega) (by omega)) rfl
    have mls : sy_Mm X mm_X4_law [some (.ref 30), some (.int a), none, none, none, none, none] (if a = 0 then nI b3 else nI m3) al al := by
      intro c I J hc hC
      have e5 : I 30 5 = nI (al 10 0) := hC.1.1.2.2.2.2.1
      have fin : ∀ I1 : Nat → Nat → Int32, (∀ x, x ≠ 40 → x ≠ 30 → I1 x = I x) → (∀ y, y ≠ 5 → I1 30 y = I 30 y) → sy_M (pm_u I1 30 5 (I 30 5)) al := by
        intro I1 h1 h2
        have e : ∀ x, x ≠ 40 → pm_u I1 30 5 (I 30 5) x = I x := by
          intro x hx
          by_cases hx3 : x = 30
          · subst hx3
            funext y
            by_cases hy : y = 5
            · subst hy; exact pm_u_same
            · rw [pm_u_slot hy]; exact h2 y hy
          · rw [pm_u_cell hx3]; exact h1 x hx hx3
        exact hC.scr e
      have best0 : ∀ j, 0 < j → bmb (bm f j) = (match bm f j with | none => 0 | some (b, _) => nI b) := by
        intro j hj
        cases hb : bm f j with
        | none =>
          cases j with
          | zero => omega
          | succ j =>
            exfalso
            unfold bm at hb
            split at hb
            next => cases hb
            next => split at hb <;> cases hb
        | some q => rfl
      have key := pm_for (X := X) (tb := mm_X4_law.1) (K := fun o w => o = some (.int (if a = 0 then nI b3 else nI m3)) ∧ ∃ I' J', w = (41, sy_R c, I', J') ∧ sy_M I' al ∧ ∀ x, x < 30 → I' x = I x) (St := (Nat → Nat → Int32) × Option Value) 25 (fun j s => [some (.ref 30), some (.int a), some (.int (I 30 5)), some (.int (match bm f j with | none => 0 | some (b, _) => nI b)), some (.int (bmm (bm f j))), some (.int (nI j)), s.2]) (fun _ s => (41, sy_R c, s.1, J)) (fun _ s => (∀ x, x ≠ 40 → x ≠ 30 → s.1 x = I x) ∧ ∀ y, y ≠ 5 → s.1 30 y = I 30 y) 3 ?_ ?_
      · have k0 := key 0 (I, none) (Nat.zero_le _) ⟨fun _ _ _ => rfl, fun _ _ => rfl⟩
        rcases hbad with rfl | rfl
        all_goals (
          (repeat' first | refine pm_sx [25] rfl rfl rfl ?_ | refine pm_ifT (by assumption) ?_ | refine pm_ifF (by assumption) ?_ | refine pm_ial rfl rfl (by assumption) ?_ | refine pm_ias rfl rfl rfl (by assumption) ?_ | refine pm_r rfl rfl rfl ?_ | refine pm_rz rfl rfl rfl ?_)
          refine pm_cq rfl rfl rfl rfl rfl rfl (md_in1 (by decide) (by decide)) ?_
          (repeat' first | refine pm_sx [25] rfl rfl rfl ?_ | refine pm_ifT (by assumption) ?_ | refine pm_ifF (by assumption) ?_ | refine pm_ial rfl rfl (by assumption) ?_ | refine pm_ias rfl rfl rfl (by assumption) ?_ | refine pm_r rfl rfl rfl ?_ | refine pm_rz rfl rfl rfl ?_)
          exact k0)
      · rintro j ⟨I1, g6⟩ hj ⟨h1, h2⟩ ih
        dsimp only at h1 h2 ih ⊢
        have c0 : ¬ (3 : Int32) ≤ nI j := nI_ge (b := 3) hj (by decide)
        have hQ : sy_QE (pm_u I1 30 5 (nI j)) al (al 3 0) j 99 := by
          have h0 := hC.qe
          have e30 : ∀ y, y ≠ 5 → pm_u I1 30 5 (nI j) 30 y = I 30 y := fun y hy => by rw [pm_u_slot hy]; exact h2 y hy
          have ex : ∀ x, x ≠ 40 → x ≠ 30 → pm_u I1 30 5 (nI j) x = I x := fun x h4 h3 => by rw [pm_u_cell h3]; exact h1 x h4 h3
          refine ⟨⟨⟨?_, pm_u_same, ?_, ?_, ?_⟩, ?_, ?_, ?_⟩, ?_, ?_⟩
          · rw [e30 2 (by decide)]; exact h0.1.1.1
          · rw [ex 31 (by decide) (by decide)]; exact h0.1.1.2.2.1
          · rw [ex 32 (by decide) (by decide)]; exact h0.1.1.2.2.2.1
          · rw [e30 30 (by decide)]; exact h0.1.1.2.2.2.2
          · rw [e30 0 (by decide)]; exact h0.1.2.1
          · rw [e30 3 (by decide)]; exact h0.1.2.2.1
          · rw [e30 6 (by decide)]; exact h0.1.2.2.2
          · rw [e30 7 (by decide)]; exact h0.2.1
          · rw [ex 33 (by decide) (by decide)]; exact h0.2.2
        have l1 := md_se (X := X) (c := c) (J := J) hWE hQ hst (show j ≤ 2 by omega)
        have hfj : pc (seF al (my al (al 3 0) j 99) (al 11 0)) = f j := by rw [hf]
        obtain ⟨s1, s2⟩ := bm_step hfb j
        have inv : ∀ I2 : Nat → Nat → Int32, (∀ x, x ≠ 40 → I2 x = pm_u I1 30 5 (nI j) x) → (∀ x, x ≠ 40 → x ≠ 30 → I2 x = I x) ∧ ∀ y, y ≠ 5 → I2 30 y = I 30 y := by
          intro I2 g3
          refine ⟨fun x h4 h3 => ?_, fun y hy => ?_⟩
          · rw [g3 x h4, pm_u_cell h3]; exact h1 x h4 h3
          · rw [g3 30 (by decide), pm_u_slot hy]; exact h2 y hy
        by_cases hcmp : nI (f j) ≤ bmm (bm f j)
        · rw [s1 hcmp] at ih
          rw [← hfj] at hcmp
          refine pm_s rfl rfl ?_
          (repeat' first | refine pm_sx [25] rfl rfl rfl ?_ | refine pm_ifT (by assumption) ?_ | refine pm_ifF (by assumption) ?_ | refine pm_ial rfl rfl (by assumption) ?_ | refine pm_ias rfl rfl rfl (by assumption) ?_ | refine pm_r rfl rfl rfl ?_ | refine pm_rz rfl rfl rfl ?_)
          refine pm_ci rfl rfl rfl rfl rfl rfl l1 ?_
          rintro v w' ⟨rfl, I2, rfl, g3⟩
          (repeat' first | refine pm_sx [25] rfl rfl rfl ?_ | refine pm_ifT (by assumption) ?_ | refine pm_ifF (by assumption) ?_ | refine pm_ial rfl rfl (by assumption) ?_ | refine pm_ias rfl rfl rfl (by assumption) ?_ | refine pm_r rfl rfl rfl ?_ | refine pm_rz rfl rfl rfl ?_)
          refine pm_cq rfl rfl rfl rfl rfl rfl (md_bits (seF_256 he8)) ?_
          (repeat' first | refine pm_sx [25] rfl rfl rfl ?_ | refine pm_ifT (by assumption) ?_ | refine pm_ifF (by assumption) ?_ | refine pm_ial rfl rfl (by assumption) ?_ | refine pm_ias rfl rfl rfl (by assumption) ?_ | refine pm_r rfl rfl rfl ?_ | refine pm_rz rfl rfl rfl ?_)
          rw [nI_1]
          exact ih (I2, _) (inv I2 g3)
        · rw [s2 hcmp] at ih
          have hf2 : bmm (some (j, f j)) = nI (pc (seF al (my al (al 3 0) j 99) (al 11 0))) := by rw [hfj]; rfl
          rw [hf2] at ih
          rw [← hfj] at hcmp
          refine pm_s rfl rfl ?_
          (repeat' first | refine pm_sx [25] rfl rfl rfl ?_ | refine pm_ifT (by assumption) ?_ | refine pm_ifF (by assumption) ?_ | refine pm_ial rfl rfl (by assumption) ?_ | refine pm_ias rfl rfl rfl (by assumption) ?_ | refine pm_r rfl rfl rfl ?_ | refine pm_rz rfl rfl rfl ?_)
          refine pm_ci rfl rfl rfl rfl rfl rfl l1 ?_
          rintro v w' ⟨rfl, I2, rfl, g3⟩
          (repeat' first | refine pm_sx [25] rfl rfl rfl ?_ | refine pm_ifT (by assumption) ?_ | refine pm_ifF (by assumption) ?_ | refine pm_ial rfl rfl (by assumption) ?_ | refine pm_ias rfl rfl rfl (by assumption) ?_ | refine pm_r rfl rfl rfl ?_ | refine pm_rz rfl rfl rfl ?_)
          refine pm_cq rfl rfl rfl rfl rfl rfl (md_bits (seF_256 he8)) ?_
          (repeat' first | refine pm_sx [25] rfl rfl rfl ?_ | refine pm_ifT (by assumption) ?_ | refine pm_ifF (by assumption) ?_ | refine pm_ial rfl rfl (by assumption) ?_ | refine pm_ias rfl rfl rfl (by assumption) ?_ | refine pm_r rfl rfl rfl ?_ | refine pm_rz rfl rfl rfl ?_)
          rw [nI_1]
          exact ih (I2, _) (inv I2 g3)
      · rintro ⟨I1, g6⟩ ⟨h1, h2⟩
        dsimp only at h1 h2 ⊢
        have hfin := fin I1 h1 h2
        rw [h3]
        have hfr : ∀ x, x < 30 → pm_u I1 30 5 (I 30 5) x = I x := fun x hx => by rw [pm_u_cell (by omega)]; exact h1 x (by omega) (by omega)
        rcases hbad with rfl | rfl
        · (repeat' first | refine pm_s rfl rfl ?_ | refine pm_ifT (by assumption) ?_ | refine pm_ifF (by assumption) ?_ | refine pm_ial rfl rfl (by assumption) ?_ | refine pm_ias rfl rfl rfl (by assumption) ?_ | refine pm_r rfl rfl rfl ?_ | refine pm_rz rfl rfl rfl ?_)
          exact ml_1 hfin hfr rfl
        · (repeat' first | refine pm_s rfl rfl ?_ | refine pm_ifT (by assumption) ?_ | refine pm_ifF (by assumption) ?_ | refine pm_ial rfl rfl (by assumption) ?_ | refine pm_ias rfl rfl rfl (by assumption) ?_ | refine pm_r rfl rfl rfl ?_ | refine pm_rz rfl rfl rfl ?_)
          exact ml_1 hfin hfr rfl
    exact ⟨_, al, hW, cls, mls⟩
  · have n0 : ¬ a = 0 := fun q => hbad (Or.inl q)
    have n1 : ¬ a = 1 := fun q => hbad (Or.inr q)
    have hout : a < 0 ∨ 1 < a := by
      rcases pk_ix a (n := 2) (by decide) with h | h | ⟨j, hj, rfl⟩
      · exact Or.inl h
      · exact Or.inr (lt_of_nle (n := 2) (by decide) h)
      · rcases (show j = 0 ∨ j = 1 by omega) with rfl | rfl
        · exact absurd rfl n0
        · exact absurd rfl n1
    refine ⟨-3, al, hW, ?_, ?_⟩
    · intro c I J hc hC
      (repeat' first | refine pm_s rfl rfl ?_ | refine pm_ifT (by assumption) ?_ | refine pm_ifF (by assumption) ?_ | refine pm_ial rfl rfl (by assumption) ?_ | refine pm_ias rfl rfl rfl (by assumption) ?_ | refine pm_r rfl rfl rfl ?_ | refine pm_rz rfl rfl rfl ?_)
      exact cl_0 hc hC rfl
    · intro c I J hc hC
      (repeat' first | refine pm_s rfl rfl ?_ | refine pm_ifT (by assumption) ?_ | refine pm_ifF (by assumption) ?_ | refine pm_ial rfl rfl (by assumption) ?_ | refine pm_ias rfl rfl rfl (by assumption) ?_ | refine pm_r rfl rfl rfl ?_ | refine pm_rz rfl rfl rfl ?_)
      refine pm_cq rfl rfl rfl rfl rfl rfl (md_in0 hout) ?_
      (repeat' first | refine pm_s rfl rfl ?_ | refine pm_ifT (by assumption) ?_ | refine pm_ifF (by assumption) ?_ | refine pm_ial rfl rfl (by assumption) ?_ | refine pm_ias rfl rfl rfl (by assumption) ?_ | refine pm_r rfl rfl rfl ?_ | refine pm_rz rfl rfl rfl ?_)
      exact ml_0 hC rfl
end
section
theorem ob_rope {al : Nat → Nat → Nat} {st lw s i : Nat} (hi : i < 12) : ob (my al st lw s) i = if i = s then 15 else ob (my al st lw 99) i := by
  by_cases h : i = s
  · rw [if_pos h]
    have e : ∀ sd nt, my al st lw s i sd nt = true := fun sd nt => if_pos h
    unfold ob
    rw [e, e, e, e]
    rfl
  · rw [if_neg h]
    have e : ∀ sd nt, my al st lw s i sd nt = my al st lw 99 i sd nt := fun sd nt => by
      unfold my
      rw [if_neg h, if_neg (show ¬ i = 99 by omega)]
    unfold ob
    rw [e, e, e, e]
set_option maxHeartbeats 4000000 in
set_option maxRecDepth 100000 in
theorem op_rope {X : Nat × (Nat → Int32)} {al : Nat → Nat → Nat} (hW : sy_W al) (a : Int32) : sy_Op X mm_X3_rope mm_X4_rope [some (.int a)] al := by
  obtain ⟨w1, w2, w3, w4, w5, w6⟩ := id hW
  have hWE := w1.e
  have hst := hW.st.1
  have hlw := w1.2.2.2.2.2.2.1
  have he8 := hWE.2.1
  have hns := w1.2.2.2.1
  by_cases hbad : a = 0 ∨ a = 1
  · obtain ⟨f, hf⟩ : ∃ f : Nat → Nat, f = fun s => pc (seF al (my al (al 3 0) (al 10 0) s) (al 11 0)) := ⟨_, rfl⟩
    have hfb : ∀ k, f k ≤ 100 := fun k => by rw [hf]; exact pc_le _
    obtain ⟨p9, hp9⟩ : ∃ p9 : Nat, p9 = pc (seF al (my al (al 3 0) (al 10 0) 99) (al 11 0)) := ⟨_, rfl⟩
    have cls : sy_Cm X mm_X3_rope [some (.ref 0), some (.int a), none, none, none, none] (if a = 0 then bmb (bm f (al 4 0)) else if al 4 0 = 0 then nI p9 else bmm (bm f (al 4 0))) al al := by
      intro c I J hc hC
      have key := pm_for (X := X) (tb := mm_X3_rope.1) (K := fun o w => o = some (.int (if a = 0 then bmb (bm f (al 4 0)) else if al 4 0 = 0 then nI p9 else bmm (bm f (al 4 0)))) ∧ ∃ c' I', (c' = 6 ∨ c' = 15) ∧ w = (41, sy_R c', I', J) ∧ sy_C c' I' al ∧ ∀ x, 30 ≤ x → I' x = I x) (St := (Nat → Nat → Int32) × Option Value) 57 (fun j s => [some (.ref 0), some (.int a), some (.int (bmb (bm f j))), some (.int (if al 4 0 = 0 then nI p9 else bmm (bm f j))), some (.int (nI j)), s.2]) (fun _ s => (41, sy_R c, s.1, J)) (fun _ s => ∀ x, x ≠ 4 → x ≠ 5 → s.1 x = I x) (al 4 0) ?_ ?_
      · have l0 := ww_lai (X := X) (c := c) (J := J) (st := 0) (lw := 0) hc hWE.1 hC.1 hst hlw
        have l2 : ∀ I2 : Nat → Nat → Int32, (∀ i, i < al 4 0 → I2 4 i = nI (ob (my al (al 3 0) (al 10 0) 99) i)) → (∀ x, x ≠ 4 → I2 x = I x) → pm_R X mm_X2_servedErrands.1 0 [some (.ref 3), some (.ref c), none, none] [] (41, sy_R c, I2, J) (fun o w' => ∃ v, o = some (.int v) ∧ v = nI (seF al (my al (al 3 0) (al 10 0) 99) (al 11 0)) ∧ ∃ I', w' = (41, sy_R c, I', J) ∧ ∀ x, x ≠ 5 → I' x = I2 x) := fun I2 g1 g2 => ww_se hc hWE ((hC.scr hc (fun x h4 _ => g2 x h4)).1) g1
        have k0 : ∀ I2 : Nat → Nat → Int32, (∀ x, x ≠ 4 → x ≠ 5 → I2 x = I x) → _ := fun I2 h => key 0 (I2, none) (Nat.zero_le _) h
        by_cases hz : al 4 0 = 0
        · have hgo : ∀ I2 : Nat → Nat → Int32, (∀ x, x ≠ 4 → I2 x = I x) → I2 c 4 = 0 := fun I2 g2 => by rw [g2 c (by omega), hC.1.1.2.2.1, hz]; rfl
          simp only [if_pos hz, hp9] at k0 ⊢
          rcases hbad with rfl | rfl
          all_goals rcases hc with rfl | rfl
          all_goals (
            (repeat' first | refine pm_sx [57] rfl rfl rfl ?_ | refine pm_ifT (by assumption) ?_ | refine pm_ifF (by assumption) ?_ | refine pm_ial rfl rfl (by assumption) ?_ | refine pm_ias rfl rfl rfl (by assumption) ?_ | refine pm_r rfl rfl rfl ?_ | refine pm_rz rfl rfl rfl ?_)
            refine pm_cv rfl rfl rfl rfl rfl rfl l0 ?_
            rintro w' ⟨I2, rfl, g1, g2⟩
            have cz := hgo I2 g2
            (repeat' first | refine pm_sx [57] rfl rfl rfl ?_ | refine pm_ifT (by assumption) ?_ | refine pm_ifF (by assumption) ?_ | refine pm_ial rfl rfl (by assumption) ?_ | refine pm_ias rfl rfl rfl (by assumption) ?_ | refine pm_r rfl rfl rfl ?_ | refine pm_rz rfl rfl rfl ?_)
            refine pm_ci rfl rfl rfl rfl rfl rfl (l2 I2 g1 g2) ?_
            rintro v w' ⟨rfl, I3, rfl, g3⟩
            (repeat' first | refine pm_sx [57] rfl rfl rfl ?_ | refine pm_ifT (by assumption) ?_ | refine pm_ifF (by assumption) ?_ | refine pm_ial rfl rfl (by assumption) ?_ | refine pm_ias rfl rfl rfl (by assumption) ?_ | refine pm_r rfl rfl rfl ?_ | refine pm_rz rfl rfl rfl ?_)
            refine pm_cq rfl rfl rfl rfl rfl rfl (jd_bc (seF_256 he8)) ?_
            (repeat' first | refine pm_sx [57] rfl rfl rfl ?_ | refine pm_ifT (by assumption) ?_ | refine pm_ifF (by assumption) ?_ | refine pm_ial rfl rfl (by assumption) ?_ | refine pm_ias rfl rfl rfl (by assumption) ?_ | refine pm_r rfl rfl rfl ?_ | refine pm_rz rfl rfl rfl ?_)
            exact k0 I3 (fun x h4 h5 => (g3 x h5).trans (g2 x h4)))
        · have hgo : ∀ I2 : Nat → Nat → Int32, (∀ x, x ≠ 4 → I2 x = I x) → ¬ I2 c 4 = 0 := fun I2 g2 => by rw [g2 c (by omega), hC.1.1.2.2.1]; exact nI_ne0 (by omega) (by omega)
          simp only [if_neg hz] at k0 ⊢
          rcases hbad with rfl | rfl
          all_goals rcases hc with rfl | rfl
          all_goals (
            (repeat' first | refine pm_sx [57] rfl rfl rfl ?_ | refine pm_ifT (by assumption) ?_ | refine pm_ifF (by assumption) ?_ | refine pm_ial rfl rfl (by assumption) ?_ | refine pm_ias rfl rfl rfl (by assumption) ?_ | refine pm_r rfl rfl rfl ?_ | refine pm_rz rfl rfl rfl ?_)
            refine pm_cv rfl rfl rfl rfl rfl rfl l0 ?_
            rintro w' ⟨I2, rfl, g1, g2⟩
            have cz := hgo I2 g2
            (repeat' first | refine pm_sx [57] rfl rfl rfl ?_ | refine pm_ifT (by assumption) ?_ | refine pm_ifF (by assumption) ?_ | refine pm_ial rfl rfl (by assumption) ?_ | refine pm_ias rfl rfl rfl (by assumption) ?_ | refine pm_r rfl rfl rfl ?_ | refine pm_rz rfl rfl rfl ?_)
            exact k0 I2 (fun x h4 h5 => g2 x h4))
      · rintro j ⟨I1, g5⟩ hj h2 ih
        dsimp only at h2 ih ⊢
        have hz : ¬ al 4 0 = 0 := by omega
        simp only [if_neg hz] at ih ⊢
        have hC1 : sy_C c I1 al := hC.scr hc h2
        have c0 : ¬ I1 c 4 ≤ nI j := by rw [hC1.1.1.2.2.1]; exact nI_ge hj (by omega)
        have hi := sy_idx (k := j) (N := 12) (by omega) (by decide)
        have tj : (nI j).toNatClampNeg = j := nI_clamp (by omega)
        have l1 := ww_lai (X := X) (c := c) (J := J) (st := 0) (lw := 0) hc hWE.1 hC1.1 hst hlw
        have l2 : ∀ I2 : Nat → Nat → Int32, (∀ i, i < al 4 0 → I2 4 i = nI (ob (my al (al 3 0) (al 10 0) 99) i)) → (∀ x, x ≠ 4 → I2 x = I1 x) → pm_R X mm_X2_servedErrands.1 0 [some (.ref 3), some (.ref c), none, none] [] (41, sy_R c, pm_u I2 4 (nI j).toNatClampNeg 15, J) (fun o w' => ∃ v, o = some (.int v) ∧ v = nI (seF al (my al (al 3 0) (al 10 0) j) (al 11 0)) ∧ ∃ I', w' = (41, sy_R c, I', J) ∧ ∀ x, x ≠ 5 → I' x = pm_u I2 4 (nI j).toNatClampNeg 15 x) := by
          intro I2 g1 g2
          refine ww_se hc hWE ((hC1.scr hc (fun x h4 _ => by rw [pm_u_cell h4]; exact g2 x h4)).1) (fun i hi => ?_)
          rw [tj, ob_rope (by omega)]
          by_cases hij : i = j
          · rw [if_pos hij, hij, pm_u_same]; rfl
          · rw [if_neg hij, pm_u_slot hij]; exact g1 i hi
        have hfj : pc (seF al (my al (al 3 0) (al 10 0) j) (al 11 0)) = f j := by rw [hf]
        obtain ⟨s1, s2⟩ := bm_step hfb j
        have fr : ∀ I2 I3 : Nat → Nat → Int32, (∀ x, x ≠ 4 → I2 x = I1 x) → (∀ x, x ≠ 5 → I3 x = pm_u I2 4 (nI j).toNatClampNeg 15 x) → ∀ x, x ≠ 4 → x ≠ 5 → I3 x = I x := by
          intro I2 I3 g2 g3 x h4 h5
          rw [g3 x h5, pm_u_cell h4, g2 x h4]
          exact h2 x h4 h5
        by_cases hcmp : nI (f j) ≤ bmm (bm f j)
        · rw [s1 hcmp] at ih
          rw [← hfj] at hcmp
          rcases hc with rfl | rfl
          all_goals (
            refine pm_s rfl rfl ?_
            (repeat' first | refine pm_sx [57] rfl rfl rfl ?_ | refine pm_ifT (by assumption) ?_ | refine pm_ifF (by assumption) ?_ | refine pm_ial rfl rfl (by assumption) ?_ | refine pm_ias rfl rfl rfl (by assumption) ?_ | refine pm_r rfl rfl rfl ?_ | refine pm_rz rfl rfl rfl ?_)
            refine pm_cv rfl rfl rfl rfl rfl rfl l1 ?_
            rintro w' ⟨I2, rfl, g1, g2⟩
            (repeat' first | refine pm_sx [57] rfl rfl rfl ?_ | refine pm_ifT (by assumption) ?_ | refine pm_ifF (by assumption) ?_ | refine pm_ial rfl rfl (by assumption) ?_ | refine pm_ias rfl rfl rfl (by assumption) ?_ | refine pm_r rfl rfl rfl ?_ | refine pm_rz rfl rfl rfl ?_)
            refine pm_ci rfl rfl rfl rfl rfl rfl (l2 I2 g1 g2) ?_
            rintro v w' ⟨rfl, I3, rfl, g3⟩
            (repeat' first | refine pm_sx [57] rfl rfl rfl ?_ | refine pm_ifT (by assumption) ?_ | refine pm_ifF (by assumption) ?_ | refine pm_ial rfl rfl (by assumption) ?_ | refine pm_ias rfl rfl rfl (by assumption) ?_ | refine pm_r rfl rfl rfl ?_ | refine pm_rz rfl rfl rfl ?_)
            refine pm_cq rfl rfl rfl rfl rfl rfl (jd_bc (seF_256 he8)) ?_
            (repeat' first | refine pm_sx [57] rfl rfl rfl ?_ | refine pm_ifT (by assumption) ?_ | refine pm_ifF (by assumption) ?_ | refine pm_ial rfl rfl (by assumption) ?_ | refine pm_ias rfl rfl rfl (by assumption) ?_ | refine pm_r rfl rfl rfl ?_ | refine pm_rz rfl rfl rfl ?_)
            rw [nI_1]
            exact ih (I3, _) (fr I2 I3 g2 g3))
        · rw [s2 hcmp] at ih
          have hf2 : bmm (some (j, f j)) = nI (pc (seF al (my al (al 3 0) (al 10 0) j) (al 11 0))) := by rw [hfj]; rfl
          rw [hf2] at ih
          rw [← hfj] at hcmp
          rcases hc with rfl | rfl
          all_goals (
            refine pm_s rfl rfl ?_
            (repeat' first | refine pm_sx [57] rfl rfl rfl ?_ | refine pm_ifT (by assumption) ?_ | refine pm_ifF (by assumption) ?_ | refine pm_ial rfl rfl (by assumption) ?_ | refine pm_ias rfl rfl rfl (by assumption) ?_ | refine pm_r rfl rfl rfl ?_ | refine pm_rz rfl rfl rfl ?_)
            refine pm_cv rfl rfl rfl rfl rfl rfl l1 ?_
            rintro w' ⟨I2, rfl, g1, g2⟩
            (repeat' first | refine pm_sx [57] rfl rfl rfl ?_ | refine pm_ifT (by assumption) ?_ | refine pm_ifF (by assumption) ?_ | refine pm_ial rfl rfl (by assumption) ?_ | refine pm_ias rfl rfl rfl (by assumption) ?_ | refine pm_r rfl rfl rfl ?_ | refine pm_rz rfl rfl rfl ?_)
            refine pm_ci rfl rfl rfl rfl rfl rfl (l2 I2 g1 g2) ?_
            rintro v w' ⟨rfl, I3, rfl, g3⟩
            (repeat' first | refine pm_sx [57] rfl rfl rfl ?_ | refine pm_ifT (by assumption) ?_ | refine pm_ifF (by assumption) ?_ | refine pm_ial rfl rfl (by assumption) ?_ | refine pm_ias rfl rfl rfl (by assumption) ?_ | refine pm_r rfl rfl rfl ?_ | refine pm_rz rfl rfl rfl ?_)
            refine pm_cq rfl rfl rfl rfl rfl rfl (jd_bc (seF_256 he8)) ?_
            (repeat' first | refine pm_sx [57] rfl rfl rfl ?_ | refine pm_ifT (by assumption) ?_ | refine pm_ifF (by assumption) ?_ | refine pm_ial rfl rfl (by assumption) ?_ | refine pm_ias rfl rfl rfl (by assumption) ?_ | refine pm_r rfl rfl rfl ?_ | refine pm_rz rfl rfl rfl ?_)
            rw [nI_1]
            exact ih (I3, _) (fr I2 I3 g2 g3))
      · rintro ⟨I1, g5⟩ h2
        dsimp only at h2 ⊢
        have hC1 : sy_C c I1 al := hC.scr hc h2
        have c0 : I1 c 4 ≤ nI (al 4 0) := by rw [hC1.1.1.2.2.1]; exact Int32.le_refl _
        rcases hbad with rfl | rfl
        · rcases hc with rfl | rfl
          all_goals (
            (repeat' first | refine pm_s rfl rfl ?_ | refine pm_ifT (by assumption) ?_ | refine pm_ifF (by assumption) ?_ | refine pm_ial rfl rfl (by assumption) ?_ | refine pm_ias rfl rfl rfl (by assumption) ?_ | refine pm_r rfl rfl rfl ?_ | refine pm_rz rfl rfl rfl ?_)
            exact cl_1 (by decide) hC1 (fun x hx => h2 x (by omega) (by omega)) rfl)
        · rcases hc with rfl | rfl
          all_goals (
            (repeat' first | refine pm_s rfl rfl ?_ | refine pm_ifT (by assumption) ?_ | refine pm_ifF (by assumption) ?_ | refine pm_ial rfl rfl (by assumption) ?_ | refine pm_ias rfl rfl rfl (by assumption) ?_ | refine pm_r rfl rfl rfl ?_ | refine pm_rz rfl rfl rfl ?_)
            exact cl_1 (by decide) hC1 (fun x hx => h2 x (by omega) (by omega)) rfl)
    have mls : sy_Mm X mm_X4_rope [some (.ref 30), some (.int a), none, none, none, none] (if a = 0 then bmb (bm f (al 4 0)) else if al 4 0 = 0 then nI p9 else bmm (bm f (al 4 0))) al al := by
      intro c I J hc hC
      have e30 : I 30 30 = -1 := hC.2.2.2.2.2.2
      have fin : ∀ I1 : Nat → Nat → Int32, (∀ x, x ≠ 40 → x ≠ 30 → I1 x = I x) → (∀ y, y ≠ 30 → I1 30 y = I 30 y) → sy_M (pm_u I1 30 30 (-1)) al := by
        intro I1 h1 h2
        have e : ∀ x, x ≠ 40 → pm_u I1 30 30 (-1) x = I x := by
          intro x hx
          by_cases hx3 : x = 30
          · subst hx3
            funext y
            by_cases hy : y = 30
            · subst hy; rw [e30]; exact pm_u_same
            · rw [pm_u_slot hy]; exact h2 y hy
          · rw [pm_u_cell hx3]; exact h1 x hx hx3
        exact hC.scr e
      have key := pm_for (X := X) (tb := mm_X4_rope.1) (K := fun o w => o = some (.int (if a = 0 then bmb (bm f (al 4 0)) else if al 4 0 = 0 then nI p9 else bmm (bm f (al 4 0)))) ∧ ∃ I' J', w = (41, sy_R c, I', J') ∧ sy_M I' al ∧ ∀ x, x < 30 → I' x = I x) (St := (Nat → Nat → Int32) × Option Value) 19 (fun j s => [some (.ref 30), some (.int a), some (.int (bmb (bm f j))), some (.int (bmm (bm f j))), some (.int (nI j)), s.2]) (fun _ s => (41, sy_R c, s.1, J)) (fun _ s => (∀ x, x ≠ 40 → x ≠ 30 → s.1 x = I x) ∧ ∀ y, y ≠ 30 → s.1 30 y = I 30 y) (al 4 0) ?_ ?_
      · have k0 := key 0 (I, none) (Nat.zero_le _) ⟨fun _ _ _ => rfl, fun _ _ => rfl⟩
        rcases hbad with rfl | rfl
        all_goals (
          (repeat' first | refine pm_sx [19] rfl rfl rfl ?_ | refine pm_ifT (by assumption) ?_ | refine pm_ifF (by assumption) ?_ | refine pm_ial rfl rfl (by assumption) ?_ | refine pm_ias rfl rfl rfl (by assumption) ?_ | refine pm_r rfl rfl rfl ?_ | refine pm_rz rfl rfl rfl ?_)
          refine pm_cq rfl rfl rfl rfl rfl rfl (md_in1 (by decide) (by decide)) ?_
          (repeat' first | refine pm_sx [19] rfl rfl rfl ?_ | refine pm_ifT (by assumption) ?_ | refine pm_ifF (by assumption) ?_ | refine pm_ial rfl rfl (by assumption) ?_ | refine pm_ias rfl rfl rfl (by assumption) ?_ | refine pm_r rfl rfl rfl ?_ | refine pm_rz rfl rfl rfl ?_)
          exact k0)
      · rintro j ⟨I1, g5⟩ hj ⟨h1, h2⟩ ih
        dsimp only at h1 h2 ih ⊢
        have h0 := hC.qe
        have c0 : ¬ I1 30 3 ≤ nI j := by rw [h2 3 (by decide), h0.1.2.2.1]; exact nI_ge hj (by omega)
        have hQ : sy_QE (pm_u I1 30 30 (nI j)) al (al 3 0) (al 10 0) j := by
          have e30 : ∀ y, y ≠ 30 → pm_u I1 30 30 (nI j) 30 y = I 30 y := fun y hy => by rw [pm_u_slot hy]; exact h2 y hy
          have ex : ∀ x, x ≠ 40 → x ≠ 30 → pm_u I1 30 30 (nI j) x = I x := fun x h4 h3 => by rw [pm_u_cell h3]; exact h1 x h4 h3
          refine ⟨⟨⟨?_, ?_, ?_, ?_, ?_⟩, ?_, ?_, ?_⟩, ?_, ?_⟩
          · rw [e30 2 (by decide)]; exact h0.1.1.1
          · rw [e30 5 (by decide)]; exact h0.1.1.2.1
          · rw [ex 31 (by decide) (by decide)]; exact h0.1.1.2.2.1
          · rw [ex 32 (by decide) (by decide)]; exact h0.1.1.2.2.2.1
          · intro s hs
            rw [pm_u_same, nI_eq' (by omega) (by omega)]
          · rw [e30 0 (by decide)]; exact h0.1.2.1
          · rw [e30 3 (by decide)]; exact h0.1.2.2.1
          · rw [e30 6 (by decide)]; exact h0.1.2.2.2
          · rw [e30 7 (by decide)]; exact h0.2.1
          · rw [ex 33 (by decide) (by decide)]; exact h0.2.2
        have l1 := md_se (X := X) (c := c) (J := J) hWE hQ hst hlw
        have hfj : pc (seF al (my al (al 3 0) (al 10 0) j) (al 11 0)) = f j := by rw [hf]
        obtain ⟨s1, s2⟩ := bm_step hfb j
        have inv : ∀ I2 : Nat → Nat → Int32, (∀ x, x ≠ 40 → I2 x = pm_u I1 30 30 (nI j) x) → (∀ x, x ≠ 40 → x ≠ 30 → I2 x = I x) ∧ ∀ y, y ≠ 30 → I2 30 y = I 30 y := by
          intro I2 g3
          refine ⟨fun x h4 h3 => ?_, fun y hy => ?_⟩
          · rw [g3 x h4, pm_u_cell h3]; exact h1 x h4 h3
          · rw [g3 30 (by decide), pm_u_slot hy]; exact h2 y hy
        by_cases hcmp : nI (f j) ≤ bmm (bm f j)
        · rw [s1 hcmp] at ih
          rw [← hfj] at hcmp
          refine pm_s rfl rfl ?_
          (repeat' first | refine pm_sx [19] rfl rfl rfl ?_ | refine pm_ifT (by assumption) ?_ | refine pm_ifF (by assumption) ?_ | refine pm_ial rfl rfl (by assumption) ?_ | refine pm_ias rfl rfl rfl (by assumption) ?_ | refine pm_r rfl rfl rfl ?_ | refine pm_rz rfl rfl rfl ?_)
          refine pm_ci rfl rfl rfl rfl rfl rfl l1 ?_
          rintro v w' ⟨rfl, I2, rfl, g3⟩
          (repeat' first | refine pm_sx [19] rfl rfl rfl ?_ | refine pm_ifT (by assumption) ?_ | refine pm_ifF (by assumption) ?_ | refine pm_ial rfl rfl (by assumption) ?_ | refine pm_ias rfl rfl rfl (by assumption) ?_ | refine pm_r rfl rfl rfl ?_ | refine pm_rz rfl rfl rfl ?_)
          refine pm_cq rfl rfl rfl rfl rfl rfl (md_bits (seF_256 he8)) ?_
          (repeat' first | refine pm_sx [19] rfl rfl rfl ?_ | refine pm_ifT (by assumption) ?_ | refine pm_ifF (by assumption) ?_ | refine pm_ial rfl rfl (by assumption) ?_ | refine pm_ias rfl rfl rfl (by assumption) ?_ | refine pm_r rfl rfl rfl ?_ | refine pm_rz rfl rfl rfl ?_)
          rw [nI_1]
          exact ih (I2, _) (inv I2 g3)
        · rw [s2 hcmp] at ih
          have hf2 : bmm (some (j, f j)) = nI (pc (seF al (my al (al 3 0) (al 10 0) j) (al 11 0))) := by rw [hfj]; rfl
          rw [hf2] at ih
          rw [← hfj] at hcmp
          refine pm_s rfl rfl ?_
          (repeat' first | refine pm_sx [19] rfl rfl rfl ?_ | refine pm_ifT (by assumption) ?_ | refine pm_ifF (by assumption) ?_ | refine pm_ial rfl rfl (by assumption) ?_ | refine pm_ias rfl rfl rfl (by assumption) ?_ | refine pm_r rfl rfl rfl ?_ | refine pm_rz rfl rfl rfl ?_)
          refine pm_ci rfl rfl rfl rfl rfl rfl l1 ?_
          rintro v w' ⟨rfl, I2, rfl, g3⟩
          (repeat' first | refine pm_sx [19] rfl rfl rfl ?_ | refine pm_ifT (by assumption) ?_ | refine pm_ifF (by assumption) ?_ | refine pm_ial rfl rfl (by assumption) ?_ | refine pm_ias rfl rfl rfl (by assumption) ?_ | refine pm_r rfl rfl rfl ?_ | refine pm_rz rfl rfl rfl ?_)
          refine pm_cq rfl rfl rfl rfl rfl rfl (md_bits (seF_256 he8)) ?_
          (repeat' first | refine pm_sx [19] rfl rfl rfl ?_ | refine pm_ifT (by assumption) ?_ | refine pm_ifF (by assumption) ?_ | refine pm_ial rfl rfl (by assumption) ?_ | refine pm_ias rfl rfl rfl (by assumption) ?_ | refine pm_r rfl rfl rfl ?_ | refine pm_rz rfl rfl rfl ?_)
          rw [nI_1]
          exact ih (I2, _) (inv I2 g3)
      · rintro ⟨I1, g5⟩ ⟨h1, h2⟩
        dsimp only at h1 h2 ⊢
        have hfin := fin I1 h1 h2
        have c0 : I1 30 3 ≤ nI (al 4 0) := by rw [h2 3 (by decide), hC.1.1.2.2.1]; exact Int32.le_refl _
        have hfr : ∀ x, x < 30 → pm_u I1 30 30 (-1) x = I x := fun x hx => by rw [pm_u_cell (by omega)]; exact h1 x (by omega) (by omega)
        rcases hbad with rfl | rfl
        · (repeat' first | refine pm_s rfl rfl ?_ | refine pm_ifT (by assumption) ?_ | refine pm_ifF (by assumption) ?_ | refine pm_ial rfl rfl (by assumption) ?_ | refine pm_ias rfl rfl rfl (by assumption) ?_ | refine pm_r rfl rfl rfl ?_ | refine pm_rz rfl rfl rfl ?_)
          exact ml_1 hfin hfr rfl
        · by_cases hz : al 4 0 = 0
          · have eb : bmb (bm f (al 4 0)) = -1 := by rw [hz]; rfl
            have l1 := md_se (X := X) (c := c) (J := J) hWE hfin.qe hst hlw
            (repeat' first | refine pm_s rfl rfl ?_ | refine pm_ifT (by assumption) ?_ | refine pm_ifF (by assumption) ?_ | refine pm_ial rfl rfl (by assumption) ?_ | refine pm_ias rfl rfl rfl (by assumption) ?_ | refine pm_r rfl rfl rfl ?_ | refine pm_rz rfl rfl rfl ?_)
            refine pm_ci rfl rfl rfl rfl rfl rfl l1 ?_
            rintro v w' ⟨rfl, I2, rfl, g3⟩
            (repeat' first | refine pm_s rfl rfl ?_ | refine pm_ifT (by assumption) ?_ | refine pm_ifF (by assumption) ?_ | refine pm_ial rfl rfl (by assumption) ?_ | refine pm_ias rfl rfl rfl (by assumption) ?_ | refine pm_r rfl rfl rfl ?_ | refine pm_rz rfl rfl rfl ?_)
            refine pm_cq rfl rfl rfl rfl rfl rfl (md_bits (seF_256 he8)) ?_
            (repeat' first | refine pm_s rfl rfl ?_ | refine pm_ifT (by assumption) ?_ | refine pm_ifF (by assumption) ?_ | refine pm_ial rfl rfl (by assumption) ?_ | refine pm_ias rfl rfl rfl (by assumption) ?_ | refine pm_r rfl rfl rfl ?_ | refine pm_rz rfl rfl rfl ?_)
            refine ml_1 (hfin.scr g3) (fun x hx => (g3 x (by omega)).trans (hfr x hx)) ?_
            rw [if_neg (by decide), if_pos hz, hp9]
          · have eb : ¬ bmb (bm f (al 4 0)) = -1 := by
              cases hb : bm f (al 4 0) with
              | none =>
                exfalso
                cases hq : al 4 0 with
                | zero => exact hz hq
                | succ q =>
                  rw [hq] at hb
                  unfold bm at hb
                  split at hb
                  next => cases hb
                  next => split at hb <;> cases hb
              | some q =>
                have := (bm_bd hfb hb).1
                show ¬ nI q.1 = -1
                exact fun z => by
                  have h9 := congrArg Int32.toInt z
                  rw [nI_toInt (by omega)] at h9
                  have e1 : (-1 : Int32).toInt = -1 := rfl
                  omega
            (repeat' first | refine pm_s rfl rfl ?_ | refine pm_ifT (by assumption) ?_ | refine pm_ifF (by assumption) ?_ | refine pm_ial rfl rfl (by assumption) ?_ | refine pm_ias rfl rfl rfl (by assumption) ?_ | refine pm_r rfl rfl rfl ?_ | refine pm_rz rfl rfl rfl ?_)
            refine ml_1 hfin hfr ?_
            rw [if_neg (by decide), if_neg hz]
    exact ⟨_, al, hW, cls, mls⟩
  · have n0 : ¬ a = 0 := fun q => hbad (Or.inl q)
    have n1 : ¬ a = 1 := fun q => hbad (Or.inr q)
    have hout : a < 0 ∨ 1 < a := by
      rcases pk_ix a (n := 2) (by decide) with h | h | ⟨j, hj, rfl⟩
      · exact Or.inl h
      · exact Or.inr (lt_of_nle (n := 2) (by decide) h)
      · rcases (show j = 0 ∨ j = 1 by omega) with rfl | rfl
        · exact absurd rfl n0
        · exact absurd rfl n1
    refine ⟨-3, al, hW, ?_, ?_⟩
    · intro c I J hc hC
      (repeat' first | refine pm_s rfl rfl ?_ | refine pm_ifT (by assumption) ?_ | refine pm_ifF (by assumption) ?_ | refine pm_ial rfl rfl (by assumption) ?_ | refine pm_ias rfl rfl rfl (by assumption) ?_ | refine pm_r rfl rfl rfl ?_ | refine pm_rz rfl rfl rfl ?_)
      exact cl_0 hc hC rfl
    · intro c I J hc hC
      (repeat' first | refine pm_s rfl rfl ?_ | refine pm_ifT (by assumption) ?_ | refine pm_ifF (by assumption) ?_ | refine pm_ial rfl rfl (by assumption) ?_ | refine pm_ias rfl rfl rfl (by assumption) ?_ | refine pm_r rfl rfl rfl ?_ | refine pm_rz rfl rfl rfl ?_)
      refine pm_cq rfl rfl rfl rfl rfl rfl (md_in0 hout) ?_
      (repeat' first | refine pm_s rfl rfl ?_ | refine pm_ifT (by assumption) ?_ | refine pm_ifF (by assumption) ?_ | refine pm_ial rfl rfl (by assumption) ?_ | refine pm_ias rfl rfl rfl (by assumption) ?_ | refine pm_r rfl rfl rfl ?_ | refine pm_rz rfl rfl rfl ?_)
      exact ml_0 hC rfl
end
section
theorem look_1 : 1 = 1 := rfl
end
