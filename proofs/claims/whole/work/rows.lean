section
-- ===== PART A: goes FIRST, ahead of the names: the tables' words, and 'selects' of the private methods out of them =====
/-- a private method of a class that the tables say can be made, by its rows of tables_1 -/
def lw_okq (q : MethodName × Nat) : Prop := (q.1.cls ≠ "java/lang/invoke/MethodHandle" ∧ q.1.cls ≠ "java/lang/invoke/VarHandle") ∧ Cond.instantiable q.1.cls q.2 ∈ tables_1 ∧ Cond.privateMethod q.1 ∈ tables_1 ∧ Cond.instanceMethod q.1 ∈ tables_1
theorem lw_p0 : lw_okq (⟨"FlowNetwork$MaximumFlow", "hasEnds", "()Z"⟩, 6) := ⟨⟨by decide +kernel, by decide +kernel⟩, List.mem_of_getElem? (i := 74) (by decide +kernel), List.mem_of_getElem? (i := 231) (by decide +kernel), List.mem_of_getElem? (i := 232) (by decide +kernel)⟩
theorem lw_p1 : lw_okq (⟨"FlowNetwork$MaximumFlow", "greatestValue", "()I"⟩, 6) := ⟨⟨by decide +kernel, by decide +kernel⟩, List.mem_of_getElem? (i := 74) (by decide +kernel), List.mem_of_getElem? (i := 235) (by decide +kernel), List.mem_of_getElem? (i := 236) (by decide +kernel)⟩
theorem lw_p2 : lw_okq (⟨"FlowNetwork$MaximumFlow", "settle", "()V"⟩, 6) := ⟨⟨by decide +kernel, by decide +kernel⟩, List.mem_of_getElem? (i := 74) (by decide +kernel), List.mem_of_getElem? (i := 239) (by decide +kernel), List.mem_of_getElem? (i := 240) (by decide +kernel)⟩
theorem lw_p3 : lw_okq (⟨"FlowNetwork$Router", "route", "(III)I"⟩, 7) := ⟨⟨by decide +kernel, by decide +kernel⟩, List.mem_of_getElem? (i := 101) (by decide +kernel), List.mem_of_getElem? (i := 244) (by decide +kernel), List.mem_of_getElem? (i := 245) (by decide +kernel)⟩
theorem lw_p4 : lw_okq (⟨"FlowNetwork$Router", "setHeights", "()V"⟩, 7) := ⟨⟨by decide +kernel, by decide +kernel⟩, List.mem_of_getElem? (i := 101) (by decide +kernel), List.mem_of_getElem? (i := 248) (by decide +kernel), List.mem_of_getElem? (i := 249) (by decide +kernel)⟩
theorem lw_p5 : lw_okq (⟨"FlowNetwork$Router", "findBehind", "(II)I"⟩, 7) := ⟨⟨by decide +kernel, by decide +kernel⟩, List.mem_of_getElem? (i := 101) (by decide +kernel), List.mem_of_getElem? (i := 255) (by decide +kernel), List.mem_of_getElem? (i := 256) (by decide +kernel)⟩
theorem lw_p6 : lw_okq (⟨"FlowNetwork$Network", "otherEnd", "(II)I"⟩, 6) := ⟨⟨by decide +kernel, by decide +kernel⟩, List.mem_of_getElem? (i := 30) (by decide +kernel), List.mem_of_getElem? (i := 259) (by decide +kernel), List.mem_of_getElem? (i := 260) (by decide +kernel)⟩
theorem lw_p7 : lw_okq (⟨"FlowNetwork$Flow", "room", "(II)I"⟩, 3) := ⟨⟨by decide +kernel, by decide +kernel⟩, List.mem_of_getElem? (i := 80) (by decide +kernel), List.mem_of_getElem? (i := 263) (by decide +kernel), List.mem_of_getElem? (i := 264) (by decide +kernel)⟩
theorem lw_p8 : lw_okq (⟨"FlowNetwork$Router", "sweepOnce", "()Z"⟩, 7) := ⟨⟨by decide +kernel, by decide +kernel⟩, List.mem_of_getElem? (i := 101) (by decide +kernel), List.mem_of_getElem? (i := 268) (by decide +kernel), List.mem_of_getElem? (i := 269) (by decide +kernel)⟩
theorem lw_p9 : lw_okq (⟨"FlowNetwork$Router", "isActive", "(I)Z"⟩, 7) := ⟨⟨by decide +kernel, by decide +kernel⟩, List.mem_of_getElem? (i := 101) (by decide +kernel), List.mem_of_getElem? (i := 272) (by decide +kernel), List.mem_of_getElem? (i := 273) (by decide +kernel)⟩
theorem lw_p10 : lw_okq (⟨"FlowNetwork$Router", "pushOut", "(I)V"⟩, 7) := ⟨⟨by decide +kernel, by decide +kernel⟩, List.mem_of_getElem? (i := 101) (by decide +kernel), List.mem_of_getElem? (i := 276) (by decide +kernel), List.mem_of_getElem? (i := 277) (by decide +kernel)⟩
theorem lw_p11 : lw_okq (⟨"FlowNetwork$Flow", "send", "(III)V"⟩, 3) := ⟨⟨by decide +kernel, by decide +kernel⟩, List.mem_of_getElem? (i := 80) (by decide +kernel), List.mem_of_getElem? (i := 283) (by decide +kernel), List.mem_of_getElem? (i := 284) (by decide +kernel)⟩
theorem lw_p12 : lw_okq (⟨"FlowNetwork$Router", "lift", "(I)V"⟩, 7) := ⟨⟨by decide +kernel, by decide +kernel⟩, List.mem_of_getElem? (i := 101) (by decide +kernel), List.mem_of_getElem? (i := 287) (by decide +kernel), List.mem_of_getElem? (i := 288) (by decide +kernel)⟩
theorem lw_p13 : lw_okq (⟨"FlowNetwork$MaximumFlow", "smallestMask", "()I"⟩, 6) := ⟨⟨by decide +kernel, by decide +kernel⟩, List.mem_of_getElem? (i := 74) (by decide +kernel), List.mem_of_getElem? (i := 291) (by decide +kernel), List.mem_of_getElem? (i := 292) (by decide +kernel)⟩
theorem lw_p14 : lw_okq (⟨"FlowNetwork$Flow", "reachableFrom", "(I)I"⟩, 3) := ⟨⟨by decide +kernel, by decide +kernel⟩, List.mem_of_getElem? (i := 80) (by decide +kernel), List.mem_of_getElem? (i := 295) (by decide +kernel), List.mem_of_getElem? (i := 296) (by decide +kernel)⟩
theorem lw_p15 : lw_okq (⟨"FlowNetwork$Flow", "withNeighbours", "(I)I"⟩, 3) := ⟨⟨by decide +kernel, by decide +kernel⟩, List.mem_of_getElem? (i := 80) (by decide +kernel), List.mem_of_getElem? (i := 299) (by decide +kernel), List.mem_of_getElem? (i := 300) (by decide +kernel)⟩
def lw_privs_1 : List (MethodName × Nat) := [(⟨"FlowNetwork$MaximumFlow", "hasEnds", "()Z"⟩, 6), (⟨"FlowNetwork$MaximumFlow", "greatestValue", "()I"⟩, 6), (⟨"FlowNetwork$MaximumFlow", "settle", "()V"⟩, 6), (⟨"FlowNetwork$Router", "route", "(III)I"⟩, 7), (⟨"FlowNetwork$Router", "setHeights", "()V"⟩, 7), (⟨"FlowNetwork$Router", "findBehind", "(II)I"⟩, 7), (⟨"FlowNetwork$Network", "otherEnd", "(II)I"⟩, 6), (⟨"FlowNetwork$Flow", "room", "(II)I"⟩, 3), (⟨"FlowNetwork$Router", "sweepOnce", "()Z"⟩, 7), (⟨"FlowNetwork$Router", "isActive", "(I)Z"⟩, 7), (⟨"FlowNetwork$Router", "pushOut", "(I)V"⟩, 7), (⟨"FlowNetwork$Flow", "send", "(III)V"⟩, 3), (⟨"FlowNetwork$Router", "lift", "(I)V"⟩, 7), (⟨"FlowNetwork$MaximumFlow", "smallestMask", "()I"⟩, 6), (⟨"FlowNetwork$Flow", "reachableFrom", "(I)I"⟩, 3), (⟨"FlowNetwork$Flow", "withNeighbours", "(I)I"⟩, 3)]
theorem lw_r1 : ∀ q ∈ lw_privs_1, lw_okq q := List.forall_mem_cons.mpr ⟨lw_p0, List.forall_mem_cons.mpr ⟨lw_p1, List.forall_mem_cons.mpr ⟨lw_p2, List.forall_mem_cons.mpr ⟨lw_p3, List.forall_mem_cons.mpr ⟨lw_p4, List.forall_mem_cons.mpr ⟨lw_p5, List.forall_mem_cons.mpr ⟨lw_p6, List.forall_mem_cons.mpr ⟨lw_p7, List.forall_mem_cons.mpr ⟨lw_p8, List.forall_mem_cons.mpr ⟨lw_p9, List.forall_mem_cons.mpr ⟨lw_p10, List.forall_mem_cons.mpr ⟨lw_p11, List.forall_mem_cons.mpr ⟨lw_p12, List.forall_mem_cons.mpr ⟨lw_p13, List.forall_mem_cons.mpr ⟨lw_p14, List.forall_mem_cons.mpr ⟨lw_p15, fun _ h => absurd h List.not_mem_nil⟩⟩⟩⟩⟩⟩⟩⟩⟩⟩⟩⟩⟩⟩⟩⟩
theorem lw_p16 : lw_okq (⟨"FlowNetwork$MaximumFlow", "greatestMask", "()I"⟩, 6) := ⟨⟨by decide +kernel, by decide +kernel⟩, List.mem_of_getElem? (i := 74) (by decide +kernel), List.mem_of_getElem? (i := 307) (by decide +kernel), List.mem_of_getElem? (i := 308) (by decide +kernel)⟩
theorem lw_p17 : lw_okq (⟨"java/lang/Throwable", "fillInStackTrace", "(I)Ljava/lang/Throwable;"⟩, 6) := ⟨⟨by decide +kernel, by decide +kernel⟩, List.mem_of_getElem? (i := 358) (by decide +kernel), List.mem_of_getElem? (i := 356) (by decide +kernel), List.mem_of_getElem? (i := 357) (by decide +kernel)⟩
theorem lw_p18 : lw_okq (⟨"FlowNetwork$Network", "makeNode", "()I"⟩, 6) := ⟨⟨by decide +kernel, by decide +kernel⟩, List.mem_of_getElem? (i := 30) (by decide +kernel), List.mem_of_getElem? (i := 388) (by decide +kernel), List.mem_of_getElem? (i := 389) (by decide +kernel)⟩
theorem lw_p19 : lw_okq (⟨"FlowNetwork", "requireNode", "(I)V"⟩, 5) := ⟨⟨by decide +kernel, by decide +kernel⟩, List.mem_of_getElem? (i := 22) (by decide +kernel), List.mem_of_getElem? (i := 401) (by decide +kernel), List.mem_of_getElem? (i := 402) (by decide +kernel)⟩
theorem lw_p20 : lw_okq (⟨"FlowNetwork$Network", "makeArc", "(II)I"⟩, 6) := ⟨⟨by decide +kernel, by decide +kernel⟩, List.mem_of_getElem? (i := 30) (by decide +kernel), List.mem_of_getElem? (i := 446) (by decide +kernel), List.mem_of_getElem? (i := 447) (by decide +kernel)⟩
theorem lw_p21 : lw_okq (⟨"FlowNetwork$Network", "attach", "(II)V"⟩, 6) := ⟨⟨by decide +kernel, by decide +kernel⟩, List.mem_of_getElem? (i := 30) (by decide +kernel), List.mem_of_getElem? (i := 450) (by decide +kernel), List.mem_of_getElem? (i := 451) (by decide +kernel)⟩
theorem lw_p22 : lw_okq (⟨"FlowNetwork$MaximumFlow", "changeCapacity", "(II)V"⟩, 6) := ⟨⟨by decide +kernel, by decide +kernel⟩, List.mem_of_getElem? (i := 74) (by decide +kernel), List.mem_of_getElem? (i := 454) (by decide +kernel), List.mem_of_getElem? (i := 455) (by decide +kernel)⟩
theorem lw_p23 : lw_okq (⟨"FlowNetwork$MaximumFlow", "moveAway", "(III)V"⟩, 6) := ⟨⟨by decide +kernel, by decide +kernel⟩, List.mem_of_getElem? (i := 74) (by decide +kernel), List.mem_of_getElem? (i := 458) (by decide +kernel), List.mem_of_getElem? (i := 459) (by decide +kernel)⟩
theorem lw_p24 : lw_okq (⟨"FlowNetwork", "requireArc", "(I)V"⟩, 5) := ⟨⟨by decide +kernel, by decide +kernel⟩, List.mem_of_getElem? (i := 22) (by decide +kernel), List.mem_of_getElem? (i := 469) (by decide +kernel), List.mem_of_getElem? (i := 470) (by decide +kernel)⟩
theorem lw_p25 : lw_okq (⟨"FlowNetwork$MaximumFlow", "chooseEnds", "(II)Z"⟩, 6) := ⟨⟨by decide +kernel, by decide +kernel⟩, List.mem_of_getElem? (i := 74) (by decide +kernel), List.mem_of_getElem? (i := 498) (by decide +kernel), List.mem_of_getElem? (i := 499) (by decide +kernel)⟩
theorem lw_p26 : lw_okq (⟨"FlowNetwork", "requireEnds", "()V"⟩, 5) := ⟨⟨by decide +kernel, by decide +kernel⟩, List.mem_of_getElem? (i := 22) (by decide +kernel), List.mem_of_getElem? (i := 517) (by decide +kernel), List.mem_of_getElem? (i := 518) (by decide +kernel)⟩
theorem lw_p27 : lw_okq (⟨"FlowNetwork$MaximumFlow", "copy", "(LFlowNetwork$MaximumFlow;)V"⟩, 6) := ⟨⟨by decide +kernel, by decide +kernel⟩, List.mem_of_getElem? (i := 74) (by decide +kernel), List.mem_of_getElem? (i := 529) (by decide +kernel), List.mem_of_getElem? (i := 530) (by decide +kernel)⟩
theorem lw_p28 : lw_okq (⟨"FlowNetwork$Flow", "copy", "(LFlowNetwork$Flow;)V"⟩, 3) := ⟨⟨by decide +kernel, by decide +kernel⟩, List.mem_of_getElem? (i := 80) (by decide +kernel), List.mem_of_getElem? (i := 533) (by decide +kernel), List.mem_of_getElem? (i := 534) (by decide +kernel)⟩
theorem lw_p29 : lw_okq (⟨"FlowNetwork$Flow", "capacityOut", "(I)I"⟩, 3) := ⟨⟨by decide +kernel, by decide +kernel⟩, List.mem_of_getElem? (i := 80) (by decide +kernel), List.mem_of_getElem? (i := 561) (by decide +kernel), List.mem_of_getElem? (i := 562) (by decide +kernel)⟩
theorem lw_p30 : lw_okq (⟨"FlowNetwork", "movable", "(III)I"⟩, 5) := ⟨⟨by decide +kernel, by decide +kernel⟩, List.mem_of_getElem? (i := 22) (by decide +kernel), List.mem_of_getElem? (i := 573) (by decide +kernel), List.mem_of_getElem? (i := 574) (by decide +kernel)⟩
theorem lw_p31 : lw_okq (⟨"FlowNetwork$Flow", "block", "(I)V"⟩, 3) := ⟨⟨by decide +kernel, by decide +kernel⟩, List.mem_of_getElem? (i := 80) (by decide +kernel), List.mem_of_getElem? (i := 577) (by decide +kernel), List.mem_of_getElem? (i := 578) (by decide +kernel)⟩
def lw_privs_2 : List (MethodName × Nat) := [(⟨"FlowNetwork$MaximumFlow", "greatestMask", "()I"⟩, 6), (⟨"java/lang/Throwable", "fillInStackTrace", "(I)Ljava/lang/Throwable;"⟩, 6), (⟨"FlowNetwork$Network", "makeNode", "()I"⟩, 6), (⟨"FlowNetwork", "requireNode", "(I)V"⟩, 5), (⟨"FlowNetwork$Network", "makeArc", "(II)I"⟩, 6), (⟨"FlowNetwork$Network", "attach", "(II)V"⟩, 6), (⟨"FlowNetwork$MaximumFlow", "changeCapacity", "(II)V"⟩, 6), (⟨"FlowNetwork$MaximumFlow", "moveAway", "(III)V"⟩, 6), (⟨"FlowNetwork", "requireArc", "(I)V"⟩, 5), (⟨"FlowNetwork$MaximumFlow", "chooseEnds", "(II)Z"⟩, 6), (⟨"FlowNetwork", "requireEnds", "()V"⟩, 5), (⟨"FlowNetwork$MaximumFlow", "copy", "(LFlowNetwork$MaximumFlow;)V"⟩, 6), (⟨"FlowNetwork$Flow", "copy", "(LFlowNetwork$Flow;)V"⟩, 3), (⟨"FlowNetwork$Flow", "capacityOut", "(I)I"⟩, 3), (⟨"FlowNetwork", "movable", "(III)I"⟩, 5), (⟨"FlowNetwork$Flow", "block", "(I)V"⟩, 3)]
theorem lw_r2 : ∀ q ∈ lw_privs_2, lw_okq q := List.forall_mem_cons.mpr ⟨lw_p16, List.forall_mem_cons.mpr ⟨lw_p17, List.forall_mem_cons.mpr ⟨lw_p18, List.forall_mem_cons.mpr ⟨lw_p19, List.forall_mem_cons.mpr ⟨lw_p20, List.forall_mem_cons.mpr ⟨lw_p21, List.forall_mem_cons.mpr ⟨lw_p22, List.forall_mem_cons.mpr ⟨lw_p23, List.forall_mem_cons.mpr ⟨lw_p24, List.forall_mem_cons.mpr ⟨lw_p25, List.forall_mem_cons.mpr ⟨lw_p26, List.forall_mem_cons.mpr ⟨lw_p27, List.forall_mem_cons.mpr ⟨lw_p28, List.forall_mem_cons.mpr ⟨lw_p29, List.forall_mem_cons.mpr ⟨lw_p30, List.forall_mem_cons.mpr ⟨lw_p31, fun _ h => absurd h List.not_mem_nil⟩⟩⟩⟩⟩⟩⟩⟩⟩⟩⟩⟩⟩⟩⟩⟩
theorem lw_p32 : lw_okq (⟨"FlowNetwork", "isCut", "(I)Z"⟩, 5) := ⟨⟨by decide +kernel, by decide +kernel⟩, List.mem_of_getElem? (i := 22) (by decide +kernel), List.mem_of_getElem? (i := 598) (by decide +kernel), List.mem_of_getElem? (i := 599) (by decide +kernel)⟩
theorem lw_p33 : lw_okq (⟨"FlowNetwork$Network", "allNodes", "()I"⟩, 6) := ⟨⟨by decide +kernel, by decide +kernel⟩, List.mem_of_getElem? (i := 30) (by decide +kernel), List.mem_of_getElem? (i := 602) (by decide +kernel), List.mem_of_getElem? (i := 603) (by decide +kernel)⟩
theorem lw_p34 : lw_okq (⟨"FlowNetwork$Cuts", "find", "(LFlowNetwork$MaximumFlow;)V"⟩, 3) := ⟨⟨by decide +kernel, by decide +kernel⟩, List.mem_of_getElem? (i := 183) (by decide +kernel), List.mem_of_getElem? (i := 629) (by decide +kernel), List.mem_of_getElem? (i := 630) (by decide +kernel)⟩
theorem lw_p35 : lw_okq (⟨"FlowNetwork$Cuts", "nextAfter", "(III)I"⟩, 3) := ⟨⟨by decide +kernel, by decide +kernel⟩, List.mem_of_getElem? (i := 183) (by decide +kernel), List.mem_of_getElem? (i := 634) (by decide +kernel), List.mem_of_getElem? (i := 635) (by decide +kernel)⟩
theorem lw_p36 : lw_okq (⟨"FlowNetwork$Cuts", "withReachable", "(II)I"⟩, 3) := ⟨⟨by decide +kernel, by decide +kernel⟩, List.mem_of_getElem? (i := 183) (by decide +kernel), List.mem_of_getElem? (i := 638) (by decide +kernel), List.mem_of_getElem? (i := 639) (by decide +kernel)⟩
theorem lw_p37 : lw_okq (⟨"FlowNetwork$Levels", "store", "(LFlowNetwork$MaximumFlow;)V"⟩, 4) := ⟨⟨by decide +kernel, by decide +kernel⟩, List.mem_of_getElem? (i := 159) (by decide +kernel), List.mem_of_getElem? (i := 682) (by decide +kernel), List.mem_of_getElem? (i := 683) (by decide +kernel)⟩
theorem lw_p38 : lw_okq (⟨"FlowNetworkModel", "fail", "(I)I"⟩, 20) := ⟨⟨by decide +kernel, by decide +kernel⟩, List.mem_of_getElem? (i := 695) (by decide +kernel), List.mem_of_getElem? (i := 770) (by decide +kernel), List.mem_of_getElem? (i := 771) (by decide +kernel)⟩
theorem lw_p39 : lw_okq (⟨"FlowNetworkModel", "isNode", "(I)Z"⟩, 20) := ⟨⟨by decide +kernel, by decide +kernel⟩, List.mem_of_getElem? (i := 695) (by decide +kernel), List.mem_of_getElem? (i := 778) (by decide +kernel), List.mem_of_getElem? (i := 779) (by decide +kernel)⟩
theorem lw_p40 : lw_okq (⟨"FlowNetworkModel", "isArc", "(I)Z"⟩, 20) := ⟨⟨by decide +kernel, by decide +kernel⟩, List.mem_of_getElem? (i := 695) (by decide +kernel), List.mem_of_getElem? (i := 790) (by decide +kernel), List.mem_of_getElem? (i := 791) (by decide +kernel)⟩
theorem lw_p41 : lw_okq (⟨"FlowNetworkModel", "maximumNow", "()I"⟩, 20) := ⟨⟨by decide +kernel, by decide +kernel⟩, List.mem_of_getElem? (i := 695) (by decide +kernel), List.mem_of_getElem? (i := 846) (by decide +kernel), List.mem_of_getElem? (i := 847) (by decide +kernel)⟩
theorem lw_p42 : lw_okq (⟨"FlowNetworkModel", "empty", "()V"⟩, 20) := ⟨⟨by decide +kernel, by decide +kernel⟩, List.mem_of_getElem? (i := 695) (by decide +kernel), List.mem_of_getElem? (i := 850) (by decide +kernel), List.mem_of_getElem? (i := 851) (by decide +kernel)⟩
theorem lw_p43 : lw_okq (⟨"FlowNetworkModel", "fill", "(III)I"⟩, 20) := ⟨⟨by decide +kernel, by decide +kernel⟩, List.mem_of_getElem? (i := 695) (by decide +kernel), List.mem_of_getElem? (i := 855) (by decide +kernel), List.mem_of_getElem? (i := 856) (by decide +kernel)⟩
theorem lw_p44 : lw_okq (⟨"FlowNetworkModel", "reach", "(II)Z"⟩, 20) := ⟨⟨by decide +kernel, by decide +kernel⟩, List.mem_of_getElem? (i := 695) (by decide +kernel), List.mem_of_getElem? (i := 859) (by decide +kernel), List.mem_of_getElem? (i := 860) (by decide +kernel)⟩
theorem lw_p45 : lw_okq (⟨"FlowNetworkModel", "before", "(I)I"⟩, 20) := ⟨⟨by decide +kernel, by decide +kernel⟩, List.mem_of_getElem? (i := 695) (by decide +kernel), List.mem_of_getElem? (i := 864) (by decide +kernel), List.mem_of_getElem? (i := 865) (by decide +kernel)⟩
theorem lw_p46 : lw_okq (⟨"FlowNetworkModel", "look", "(I)I"⟩, 20) := ⟨⟨by decide +kernel, by decide +kernel⟩, List.mem_of_getElem? (i := 695) (by decide +kernel), List.mem_of_getElem? (i := 872) (by decide +kernel), List.mem_of_getElem? (i := 873) (by decide +kernel)⟩
theorem lw_p47 : lw_okq (⟨"FlowNetworkModel", "maximumIf", "(II)I"⟩, 20) := ⟨⟨by decide +kernel, by decide +kernel⟩, List.mem_of_getElem? (i := 695) (by decide +kernel), List.mem_of_getElem? (i := 876) (by decide +kernel), List.mem_of_getElem? (i := 877) (by decide +kernel)⟩
def lw_privs_3 : List (MethodName × Nat) := [(⟨"FlowNetwork", "isCut", "(I)Z"⟩, 5), (⟨"FlowNetwork$Network", "allNodes", "()I"⟩, 6), (⟨"FlowNetwork$Cuts", "find", "(LFlowNetwork$MaximumFlow;)V"⟩, 3), (⟨"FlowNetwork$Cuts", "nextAfter", "(III)I"⟩, 3), (⟨"FlowNetwork$Cuts", "withReachable", "(II)I"⟩, 3), (⟨"FlowNetwork$Levels", "store", "(LFlowNetwork$MaximumFlow;)V"⟩, 4), (⟨"FlowNetworkModel", "fail", "(I)I"⟩, 20), (⟨"FlowNetworkModel", "isNode", "(I)Z"⟩, 20), (⟨"FlowNetworkModel", "isArc", "(I)Z"⟩, 20), (⟨"FlowNetworkModel", "maximumNow", "()I"⟩, 20), (⟨"FlowNetworkModel", "empty", "()V"⟩, 20), (⟨"FlowNetworkModel", "fill", "(III)I"⟩, 20), (⟨"FlowNetworkModel", "reach", "(II)Z"⟩, 20), (⟨"FlowNetworkModel", "before", "(I)I"⟩, 20), (⟨"FlowNetworkModel", "look", "(I)I"⟩, 20), (⟨"FlowNetworkModel", "maximumIf", "(II)I"⟩, 20)]
theorem lw_r3 : ∀ q ∈ lw_privs_3, lw_okq q := List.forall_mem_cons.mpr ⟨lw_p32, List.forall_mem_cons.mpr ⟨lw_p33, List.forall_mem_cons.mpr ⟨lw_p34, List.forall_mem_cons.mpr ⟨lw_p35, List.forall_mem_cons.mpr ⟨lw_p36, List.forall_mem_cons.mpr ⟨lw_p37, List.forall_mem_cons.mpr ⟨lw_p38, List.forall_mem_cons.mpr ⟨lw_p39, List.forall_mem_cons.mpr ⟨lw_p40, List.forall_mem_cons.mpr ⟨lw_p41, List.forall_mem_cons.mpr ⟨lw_p42, List.forall_mem_cons.mpr ⟨lw_p43, List.forall_mem_cons.mpr ⟨lw_p44, List.forall_mem_cons.mpr ⟨lw_p45, List.forall_mem_cons.mpr ⟨lw_p46, List.forall_mem_cons.mpr ⟨lw_p47, fun _ h => absurd h List.not_mem_nil⟩⟩⟩⟩⟩⟩⟩⟩⟩⟩⟩⟩⟩⟩⟩⟩
theorem lw_p48 : lw_okq (⟨"FlowNetworkModel", "isIn", "(II)Z"⟩, 20) := ⟨⟨by decide +kernel, by decide +kernel⟩, List.mem_of_getElem? (i := 695) (by decide +kernel), List.mem_of_getElem? (i := 904) (by decide +kernel), List.mem_of_getElem? (i := 905) (by decide +kernel)⟩
theorem lw_p49 : lw_okq (⟨"FlowNetworkModel", "capacityOf", "(I)I"⟩, 20) := ⟨⟨by decide +kernel, by decide +kernel⟩, List.mem_of_getElem? (i := 695) (by decide +kernel), List.mem_of_getElem? (i := 908) (by decide +kernel), List.mem_of_getElem? (i := 909) (by decide +kernel)⟩
theorem lw_p50 : lw_okq (⟨"FlowNetworkModel", "smallest", "()I"⟩, 20) := ⟨⟨by decide +kernel, by decide +kernel⟩, List.mem_of_getElem? (i := 695) (by decide +kernel), List.mem_of_getElem? (i := 916) (by decide +kernel), List.mem_of_getElem? (i := 917) (by decide +kernel)⟩
theorem lw_p51 : lw_okq (⟨"FlowNetworkModel", "findReached", "()V"⟩, 20) := ⟨⟨by decide +kernel, by decide +kernel⟩, List.mem_of_getElem? (i := 695) (by decide +kernel), List.mem_of_getElem? (i := 920) (by decide +kernel), List.mem_of_getElem? (i := 921) (by decide +kernel)⟩
theorem lw_p52 : lw_okq (⟨"FlowNetworkModel", "greatest", "()I"⟩, 20) := ⟨⟨by decide +kernel, by decide +kernel⟩, List.mem_of_getElem? (i := 695) (by decide +kernel), List.mem_of_getElem? (i := 928) (by decide +kernel), List.mem_of_getElem? (i := 929) (by decide +kernel)⟩
theorem lw_p53 : lw_okq (⟨"FlowNetworkModel", "closed", "(II)I"⟩, 20) := ⟨⟨by decide +kernel, by decide +kernel⟩, List.mem_of_getElem? (i := 695) (by decide +kernel), List.mem_of_getElem? (i := 936) (by decide +kernel), List.mem_of_getElem? (i := 937) (by decide +kernel)⟩
theorem lw_p54 : lw_okq (⟨"FlowNetworkModel", "cutBehind", "(I)I"⟩, 20) := ⟨⟨by decide +kernel, by decide +kernel⟩, List.mem_of_getElem? (i := 695) (by decide +kernel), List.mem_of_getElem? (i := 940) (by decide +kernel), List.mem_of_getElem? (i := 941) (by decide +kernel)⟩
def lw_privs_4 : List (MethodName × Nat) := [(⟨"FlowNetworkModel", "isIn", "(II)Z"⟩, 20), (⟨"FlowNetworkModel", "capacityOf", "(I)I"⟩, 20), (⟨"FlowNetworkModel", "smallest", "()I"⟩, 20), (⟨"FlowNetworkModel", "findReached", "()V"⟩, 20), (⟨"FlowNetworkModel", "greatest", "()I"⟩, 20), (⟨"FlowNetworkModel", "closed", "(II)I"⟩, 20), (⟨"FlowNetworkModel", "cutBehind", "(I)I"⟩, 20)]
theorem lw_r4 : ∀ q ∈ lw_privs_4, lw_okq q := List.forall_mem_cons.mpr ⟨lw_p48, List.forall_mem_cons.mpr ⟨lw_p49, List.forall_mem_cons.mpr ⟨lw_p50, List.forall_mem_cons.mpr ⟨lw_p51, List.forall_mem_cons.mpr ⟨lw_p52, List.forall_mem_cons.mpr ⟨lw_p53, List.forall_mem_cons.mpr ⟨lw_p54, fun _ h => absurd h List.not_mem_nil⟩⟩⟩⟩⟩⟩⟩
def lw_privs : List (MethodName × Nat) := lw_privs_1 ++ (lw_privs_2 ++ (lw_privs_3 ++ (lw_privs_4)))
def lw_tbl : List Cond := k2_sels lw_privs ++ tables_1
theorem lw_privs_ok : ∀ q ∈ lw_privs, lw_okq q := by
  show ∀ q ∈ lw_privs_1 ++ (lw_privs_2 ++ (lw_privs_3 ++ (lw_privs_4))), lw_okq q
  exact List.forall_mem_append.mpr ⟨lw_r1, List.forall_mem_append.mpr ⟨lw_r2, List.forall_mem_append.mpr ⟨lw_r3, lw_r4⟩⟩⟩
/-- the streams that the claim lets the run draw from -/
abbrev lw_cs : List Choice := [Jvm.Choice.named "NaN.bits", Jvm.Choice.named "NaN.copy"]
theorem lw_bits : nanBits ∈ lw_cs := by first | decide | exact List.mem_cons_self | simp [lw_cs, nanBits]
end
section
/-- an array over arrays of ty can be made: the word that the row of new T[n][m] reads -/
def va_AOA (ty : FieldType) (U : State) : Prop := (Cond.arrayOver (.array ty)).before #[] U = true
theorem va_AOA.of {ty : FieldType} {A : Array Value} {U : State} (h : (Cond.arrayOver (.array ty)).before A U = true) : va_AOA ty U := h
theorem va_AOA.use {ty : FieldType} {A : Array Value} {U : State} (h : va_AOA ty U) : (Cond.arrayOver (.array ty)).before A U = true := h
/-! ===== BEGIN words of one list among another's, by their places ===== -/
theorem goodIn_r {big : List Cond} (ws : List Cond) (ps : List Nat) (hp : ws = ps.filterMap (fun i => big[i]?)) (h : ws.all goodWord = true) : GoodIn big ws := by
  intro w hw
  have h1 := List.all_eq_true.mp h w hw
  rw [hp] at hw
  obtain ⟨i, -, hi⟩ := List.mem_filterMap.mp hw
  have hm : w ∈ big := by first | exact List.mem_of_getElem? hi | exact List.getElem?_mem hi
  exact ⟨hm, good_of_word h1⟩
theorem goodIn_app {big a b : List Cond} (ha : GoodIn big a) (hb : GoodIn big b) : GoodIn big (a ++ b) := fun w h => (List.mem_append.mp h).elim (ha w) (hb w)
theorem goodIn_ca {big a b : List Cond} {c : Cond} (ha : GoodIn big (c :: a)) (hb : GoodIn big b) : GoodIn big (c :: (a ++ b)) := fun w h => (List.mem_cons.mp h).elim (fun e => ha w (List.mem_cons.mpr (Or.inl e))) (fun h => (List.mem_append.mp h).elim (fun h => ha w (List.mem_cons.mpr (Or.inr h))) (hb w))
theorem goodIn_sub {big ws : List Cond} (hm : ∀ w ∈ ws, w ∈ big) (h : ws.all goodWord = true) : GoodIn big ws := fun w hw => ⟨hm w hw, good_of_word (List.all_eq_true.mp h w hw)⟩
/-! ===== END ===== -/

/-! ===== BEGIN new T[n][m]: the outer array a place, the inner ones among the pooled ===== -/
/-- f, but v at every address of l -/
def vr_up {α : Type} (f : Nat → α) (l : List Nat) (v : α) : Nat → α := fun a => if a ∈ l then v else f a
theorem vr_up_in {α : Type} {f : Nat → α} {l : List Nat} {v : α} {a : Nat} (h : a ∈ l) : vr_up f l v a = v := if_pos h
theorem vr_up_ne {α : Type} {f : Nat → α} {l : List Nat} {v : α} {a : Nat} (h : a ∉ l) : vr_up f l v a = f a := if_neg h
theorem vr_rows {L l : List Nat} {f : Nat → va_E} {e : va_E} (h : ∀ a, a ∈ l → a ∉ L) : va_pl L f ++ l.map (fun a => (a, e)) = va_pl (L ++ l) (vr_up f l e) := by
  unfold va_pl
  rw [List.map_append]
  congr 1
  · apply List.map_congr_left
    intro a ha
    rw [vr_up_ne (fun q => h a q ha)]
  · apply List.map_congr_left
    intro a ha
    rw [vr_up_in ha]
theorem vr_lay {X rows : va_W} {x : Nat × va_E} {pl : va_W} {D : va_G} {cl : List vw_C} {H : Heap} (hP : va_P D cl (((X ++ pl) ++ [x]) ++ rows) H) : va_P D cl ((X ++ [x]) ++ (pl ++ rows)) H := by
  rw [List.append_assoc (X ++ pl)] at hP
  have h := va_P.swap hP
  rw [← List.append_assoc X] at h
  have h2 := va_P.swap h
  rw [List.append_assoc (X ++ [x])] at h2
  exact h2
theorem vr_layD {X rows : va_W} {x : Nat × va_E} {pl : va_W} {A : Nat → Prop} (hD : va_D A (((X ++ pl) ++ [x]) ++ rows)) : va_D A ((X ++ [x]) ++ (pl ++ rows)) := by
  rw [List.append_assoc (X ++ pl)] at hD
  have h := va_D.swap hD
  rw [← List.append_assoc X] at h
  have h2 := va_D.swap h
  rw [List.append_assoc (X ++ [x])] at h2
  exact h2
theorem vr_outer (c : ClassId) (N h0 : Nat) : ∀ i : Nat, Jvm.Free.Multi.outerC c N h0 i = arrV c N (fun j => va_rf (if j < i then some (h0 + 1 + j) else none))
  | 0 => by
    show ({ cls := c, slots := Array.replicate N .null, vm := .none } : Cell) = _
    rw [arrV_new]
    refine congrArg (arrV c N) (funext fun j => ?_)
    simp [va_rf]
  | i + 1 => by
    show (Jvm.Free.Multi.outerC c N h0 i).setSlot i (.ref (h0 + 1 + i)) = _
    rw [vr_outer c N h0 i, arrV_store]
    refine congrArg (arrV c N) (funext fun j => ?_)
    by_cases e : j = i
    · subst e
      simp [updV, va_rf]
    · by_cases h : j < i
      · simp [updV, e, h, Nat.lt_succ_of_lt h]
      · simp [updV, e, h, show ¬ j < i + 1 by omega]
section VGM
variable {p : Program} {l : Launch} {e : Env} {R : Room} {s : State} {m : MethodId} {args : Array Value} {below : List Frame} {meth : Method} {c : Code} {H : Heap} {locs : List Loc} {cells slots : Nat} {Q : State → Prop}
variable {cc : ByteArray} {pc : Nat} {ls : Array Slot} {rest : List Value} {D : va_G} {cl : List vw_C} {A : Nat → Prop} {a : Nat} {tys : List (ClassId × FieldType)} {ws : va_W} {H0 : Heap}
theorem va_mna {X : va_W} {L : List Nat} {f : Nat → va_E} {cc : ByteArray} (hexec : p.tables.exec = Jvm.exec) (hb : c.code = cc) {own : String} {index : Nat} {ty : FieldType} {cy : ClassId} (hown : s.vm.findClass own = some m.cls) (hclink : (Cond.classLink own index ("[" ++ (FieldType.array ty).toString)).before args s = true) (hover : va_AOA ty s) (harr : (Cond.arrayClass ty).before args s = true) (hcy : s.vm.findClass (FieldType.array ty).toString = some cy)
    (hK : va_K D cl tys s) (hP : va_P D cl (X ++ va_pl L f) H) (hD : va_D A (X ++ va_pl L f)) (hS : va_S A H0 H locs) (hA : ∀ q, H0.size ≤ q → A q) {n k : Int32} {N' K' : Nat} {z : vp_A} (hn : ¬ n < 0) (hk : ¬ k < 0) (hN : n.toNatClampNeg = N') (hM : k.toNatClampNeg = K')
    (hb1 : N' * 4 ≤ 536870912) (hb2 : K' * componentBytes ty ≤ 536870912) (hb3 : K' ≤ 536870912) (hdf : fits ty (defaultValue ty) = true) (hdd : (defaultValue ty).isDefault = true) (hcells : cells + (1 + N') ≤ R.cells) (hslots : slots + (N' + N' * K') ≤ R.slots) (hz : ∀ c : ClassId, Jvm.Free.Multi.innerC c K' (defaultValue ty) = vp_cell c z) (hdg : decode cc pc = .ok (.multianewarray index 2, 4))
    (kk : ∀ (q : Nat) (r : Nat → Nat) (cA : ClassId) (H1 : Heap), (∀ i j : Nat, i < N' → j < N' → r i = r j → i = j) → (∀ i : Nat, i < N' → r i ∉ L) → va_K D cl (tys ++ [(cA, .array ty)]) s →
      va_P D cl ((X ++ [(q, .inl (cA, N', .inr (.inr (.inr (.inr (fun i => if i < N' then some (r i) else none))))))]) ++ va_pl (L ++ (List.range N').map r) (vr_up f ((List.range N').map r) (.inl (cy, z)))) H1 → va_D A ((X ++ [(q, .inl (cA, N', .inr (.inr (.inr (.inr (fun i => if i < N' then some (r i) else none))))))]) ++ va_pl (L ++ (List.range N').map r) (vr_up f ((List.range N').map r) (.inl (cy, z)))) → va_S A H0 H1 locs →
      W p l e R s m args below meth c H1 locs (cells + 1 + N') (slots + N' + N' * K') Q (F0 m (pc + 4) ls (.ref q :: rest))) : W p l e R s m args below meth c H locs cells slots Q (F0 m pc ls (.int k :: .int n :: rest)) := by
  subst hN
  subst hM
  intro T hT Xs
  obtain ⟨vm₁, cA, comp, -, fA, fC, hO, -, X', step⟩ := Xs.multianewarray2F hexec hown hclink (va_AOA.use hover) harr (g := F0 m pc ls (.int k :: .int n :: rest)) rfl (by rw [hb]; exact hdg) rfl hn hk hb1 hb2 hb3 hdf hdd hcells hslots
  have ec : some cy = some comp := hcy.symm.trans fC
  cases ec
  generalize hF : Jvm.Free.Multi.fill (T.setVm vm₁) cA cy n.toNatClampNeg k.toNatClampNeg (defaultValue ty) n.toNatClampNeg = F at X' step
  have hTh : (T.setVm vm₁).heap = H := hT
  obtain ⟨f1, f2, -, -⟩ := Jvm.Free.Multi.fill_facts (T.setVm vm₁) cA cy n.toNatClampNeg k.toNatClampNeg (defaultValue ty) n.toNatClampNeg
  rw [hF, hTh] at f1 f2
  have hold : ∀ x : Nat, x < H.size → F.heap[x]? = H[x]? := fun x hx => by
    have := Jvm.Free.Multi.fill_old (T.setVm vm₁) cA cy n.toNatClampNeg k.toNatClampNeg (defaultValue ty) (a := x) (by rw [hTh]; exact hx) n.toNatClampNeg
    rw [hF, hTh] at this
    exact this
  have hrow : ∀ j : Nat, j < n.toNatClampNeg → F.heap[H.size + 1 + j]? = some (vp_cell cy z) := fun j hj => by
    have := Jvm.Free.Multi.fill_inner (T.setVm vm₁) cA cy n.toNatClampNeg k.toNatClampNeg (defaultValue ty) n.toNatClampNeg j hj
    rw [hF, hTh, hz] at this
    exact this
  have hout : Jvm.Free.Multi.outerC cA n.toNatClampNeg H.size n.toNatClampNeg = vp_cell cA (n.toNatClampNeg, .inr (.inr (.inr (.inr (fun i => if i < n.toNatClampNeg then some (H.size + 1 + i) else none))))) := by
    rw [vp_cell_q]
    exact vr_outer cA n.toNatClampNeg H.size n.toNatClampNeg
  rw [hout] at f2
  have hlt : ∀ a, a ∈ L → a < H.size := fun a ha => by
    obtain ⟨k9, hk9⟩ := va_pl_get (X := X) (f := f) ha
    exact (hP k9 _ hk9).lt
  have hnl : ∀ i : Nat, i < n.toNatClampNeg → H.size + 1 + i ∉ L := fun i _ h => by
    have := hlt _ h
    omega
  have hnm : ∀ a, a ∈ (List.range n.toNatClampNeg).map (fun i => H.size + 1 + i) → a ∉ L := fun a ha h => by
    obtain ⟨i, -, rfl⟩ := List.mem_map.mp ha
    have := hlt _ h
    omega
  have hP0 : va_P D cl (X ++ va_pl L f) F.heap := hP.kept (fun k9 x hx => hold x.1 ((hP k9 x hx).lt))
  have hP1 : va_P D cl ((X ++ va_pl L f) ++ [(H.size, .inl (cA, n.toNatClampNeg, .inr (.inr (.inr (.inr (fun i => if i < n.toNatClampNeg then some (H.size + 1 + i) else none))))))]) F.heap := hP0.app (fun k9 x hx => by
    have h0 : k9 < 1 := (List.getElem?_eq_some_iff.mp hx).1
    rw [show k9 = 0 by omega] at hx
    cases hx
    exact f2)
  have hP2 : va_P D cl (((X ++ va_pl L f) ++ [(H.size, .inl (cA, n.toNatClampNeg, .inr (.inr (.inr (.inr (fun i => if i < n.toNatClampNeg then some (H.size + 1 + i) else none))))))]) ++ ((List.range n.toNatClampNeg).map (fun i => H.size + 1 + i)).map (fun a => (a, .inl (cy, z)))) F.heap := hP1.app (fun k9 x hx => by
    obtain ⟨a, ha, rfl⟩ := List.mem_map.mp (List.mem_of_getElem? hx)
    obtain ⟨i, hi, rfl⟩ := List.mem_map.mp ha
    exact hrow i (List.mem_range.mp hi))
  have hD2 : va_D A (((X ++ va_pl L f) ++ [(H.size, .inl (cA, n.toNatClampNeg, .inr (.inr (.inr (.inr (fun i => if i < n.toNatClampNeg then some (H.size + 1 + i) else none))))))]) ++ ((List.range n.toNatClampNeg).map (fun i => H.size + 1 + i)).map (fun a => (a, .inl (cy, z)))) := by
    have hD1 := hD.push (e := .inl (cA, n.toNatClampNeg, .inr (.inr (.inr (.inr (fun i => if i < n.toNatClampNeg then some (H.size + 1 + i) else none)))))) hP rfl (hA _ hS.1)
    generalize hW1 : (X ++ va_pl L f) ++ [(H.size, .inl (cA, n.toNatClampNeg, .inr (.inr (.inr (.inr (fun i => if i < n.toNatClampNeg then some (H.size + 1 + i) else none))))))] = W1 at hD1 hP1 ⊢
    have hle : ∀ (k9 : Nat) (x : Nat × va_E), W1[k9]? = some x → x.1 ≤ H.size := fun k9 x hx => by
      rw [← hW1] at hx
      by_cases hl : k9 < (X ++ va_pl L f).length
      · rw [List.getElem?_append_left hl] at hx
        exact Nat.le_of_lt ((hP k9 x hx).lt)
      · rw [List.getElem?_append_right (by omega)] at hx
        have h0 : k9 - (X ++ va_pl L f).length < 1 := (List.getElem?_eq_some_iff.mp hx).1
        rw [show k9 - (X ++ va_pl L f).length = 0 by omega] at hx
        cases hx
        exact Nat.le_refl _
    have hr : ∀ (k9 : Nat) (x : Nat × va_E), (((List.range n.toNatClampNeg).map (fun i => H.size + 1 + i)).map (fun a => ((a, .inl (cy, z)) : Nat × va_E)))[k9]? = some x → x.1 = H.size + 1 + k9 := fun k9 x hx => by
      rw [List.getElem?_map, List.getElem?_map] at hx
      by_cases h9 : k9 < n.toNatClampNeg
      · rw [List.getElem?_range h9] at hx
        cases hx
        rfl
      · have hn0 : (List.range n.toNatClampNeg)[k9]? = none := List.getElem?_eq_none (by rw [List.length_range]; omega)
        rw [hn0] at hx
        cases hx
    refine ⟨fun i j x y hi hj hxy => ?_, fun k9 x hx => ?_⟩
    · by_cases h1 : i < W1.length <;> by_cases h2 : j < W1.length
      · rw [List.getElem?_append_left h1] at hi
        rw [List.getElem?_append_left h2] at hj
        exact hD1.1 i j x y hi hj hxy
      · rw [List.getElem?_append_left h1] at hi
        rw [List.getElem?_append_right (by omega)] at hj
        have := hle _ _ hi
        have := hr _ _ hj
        omega
      · rw [List.getElem?_append_right (by omega)] at hi
        rw [List.getElem?_append_left h2] at hj
        have := hle _ _ hj
        have := hr _ _ hi
        omega
      · rw [List.getElem?_append_right (by omega)] at hi hj
        have := hr _ _ hi
        have := hr _ _ hj
        omega
    · by_cases h1 : k9 < W1.length
      · rw [List.getElem?_append_left h1] at hx
        exact hD1.2 k9 x hx
      · rw [List.getElem?_append_right (by omega)] at hx
        have := hr _ _ hx
        exact hA _ (by have := hS.1; omega)
  have hAr : ArrOfT s cA (.array ty) := fun N9 z9 => by
    obtain ⟨-, k9, hk9, cm9, hkk9⟩ := (hO 0 0 0).1
    exact ⟨(fun q hq => by cases hq), k9, hk9, cm9, hkk9⟩
  have hK2 : va_K D cl (tys ++ [(cA, .array ty)]) s := ⟨hK.1, fun k9 x hx => by
    by_cases hl : k9 < tys.length
    · rw [List.getElem?_append_left hl] at hx
      exact hK.2 k9 x hx
    · rw [List.getElem?_append_right (by omega)] at hx
      have h0 : k9 - tys.length < 1 := (List.getElem?_eq_some_iff.mp hx).1
      rw [show k9 - tys.length = 0 by omega] at hx
      cases hx
      exact ⟨hAr, fA⟩⟩
  obtain ⟨t, a1, b1⟩ := kk H.size (fun i => H.size + 1 + i) cA F.heap (fun i j _ _ h => by have h9 : H.size + 1 + i = H.size + 1 + j := h; omega) hnl hK2 (by rw [← vr_rows hnm]; exact vr_lay hP2) (by rw [← vr_rows hnm]; exact vr_layD hD2) ⟨by rw [f1]; have := hS.1; omega, fun x h1 h2 => (hold x (Nat.lt_of_lt_of_le h1 hS.1)).trans (hS.2.1 x h1 h2), hS.2.2⟩ F rfl X'
  refine ⟨t, step t ?_, b1⟩
  have e : T.heap.size = H.size := by rw [hT]
  rw [e]
  exact a1
end VGM
/-! ===== END ===== -/

/-! ===== BEGIN exceptions that leave a method, and their catching by the caller (launches without stack traces) ===== -/
section VXA
/-! The laws vx_back, vx_callV, vx_callS, vx_callSW, vx_throw0, vx_throwS follow proofs of the library, with one case more: JvmDerived/Free/Laws.lean (Back.of_free), Shelf42/LK1.lean (callV, callS), Shelf/KitTraced.lean (throwNew0V, throwNewS). -/
/-- where a method has thrown q: the class by its name, the cell, what was written, the world -/
def vx_T (XC : String → State → State → Prop) (st : State) (q : Addr) (t : State) (mc ms : Nat) (free : Addr → Prop) : Prop :=
  ∃ (E : String) (ce : Cell) (L : List Loc), XC E st t ∧ t.heap[q]? = some ce ∧ ce.vm = .none ∧ st.vm.findClass E = some ce.cls ∧ st.WarmedH t.vm ∧ st.sameButNew ({ t with vm := st.vm } : State) L mc ms ∧ ∀ z ∈ L, free z.base
def vx_Q (Qc : Array Value → State → Outcome → State → Prop) (XC : String → State → State → Prop) (mc ms : Nat) (free : Addr → Prop) : Array Value → State → Outcome → State → Prop := fun a st o t =>
  (Qc a st o t ∧ ∃ L, FrameEnd st o t L mc ms ∧ ∀ q ∈ L, free q.base) ∨ ∃ q, o = .threw q ∧ vx_T XC st q t mc ms free
/-- a callee that returns or throws -/
def vx_Met (l : Launch) (y : MethodName) (ws : List Cond) (rm : Room) (Pc : Array Value → State → Prop) (Qc : Array Value → State → Outcome → State → Prop) (XC : String → State → State → Prop) (mc ms : Nat) (free : Addr → Prop) : Prop :=
  MetFree l y (headSpec ws rm) Pc (fun _ _ _ _ _ => True) (vx_Q Qc XC mc ms free)
def vx_Post (XC : String → State → State → Prop) (mc ms : Nat) (free : Addr → Prop) : Pt → Array Value → Addr → Pt → Prop := fun A a q B =>
  ∃ (g : JFrame) (mk : MethodId) (t : State) (L : List Loc) (E : String) (ce : Cell), B.U.heap = t.heap ∧ B.U.vm = t.vm ∧ XC E (A.U.calling g mk a) t ∧ t.heap[q]? = some ce ∧ ce.vm = .none ∧ A.U.vm.findClass E = some ce.cls ∧ B.locs = A.locs ++ L ∧ (∀ z ∈ L, free z.base) ∧ B.cells = A.cells + mc ∧ B.slots = A.slots + ms
def vx_Back (l : Launch) (R : Room) (p : Program) (e : Env) (below : List Frame) (s : State) (sargs : Array Value) (y : MethodName) (len W9 : Nat)
    (Pre : Pt → Array Value → Prop) (Post : Pt → Array Value → Option Value → Pt → Prop) (PostX : Pt → Array Value → Addr → Pt → Prop) : Prop :=
  ∀ (m : MethodId) (meth : Method) (c : Code) (A : Pt) (g : JFrame) (ig : Instr) (mk : MethodId) (a : Array Value),
    Stand p l e R s m sargs below meth c A.U A.locs A.cells A.slots → g.method = m → g.locals.size = c.maxLocals → decode c.code g.pc = .ok (ig, len) →
    2 * g.monitorRoom + (g.stack.map fun v => v.category).sum ≤ W9 → A.U.methodNamed? y = some mk → Pre A a →
    (∃ (v : Option Value) (B : Pt), Stand p l e R s m sargs below meth c B.U B.locs B.cells B.slots ∧ Post A a v B ∧
      Steps p.tables e below (doInvoke e (A.U.setTop g) [] mk a).1 (B.U.setTop { g with pc := g.pc + len, stack := v.toList ++ g.stack })) ∨
    (∃ (q : Addr) (B : Pt), Stand p l e R s m sargs below meth c B.U B.locs B.cells B.slots ∧ PostX A a q B ∧
      Steps p.tables e below (doInvoke e (A.U.setTop g) [] mk a).1 ((B.U.setTop g).pushFrame (.throwing q)))
section Payer
variable {l : Launch} {R : Room} {p : Program} {e : Env} {below : List Frame} {s : State} {sargs : Array Value} {y : MethodName} {len W9 : Nat}
theorem vx_back {ws : List Cond} {rm : Room} {Pc : Array Value → State → Prop} {Qc : Array Value → State → Outcome → State → Prop} {XC : String → State → State → Prop} {mc ms : Nat} {free : Addr → Prop} {bytes : ByteArray} {maxL : Nat} {ret : Option FieldType}
    (hM : vx_Met l y ws rm Pc Qc XC mc ms free) (hblind : FrameBlind Pc) (hrc : rm.cells = mc) (hrs : rm.slots = ms)
    (hframes : rm.frames + 1 ≤ R.frames) (hlocals : W9 + (maxL + 11) + rm.locals ≤ R.locals)
    (hws : ∀ w ∈ ws, ∀ a' U, s.WarmedH U.vm → w.before a' U = true) (hcode : Cond.code y bytes maxL ret ∈ ws) (hinit : ∀ a' U, s.WarmedH U.vm → (Cond.initialized y.cls).before a' U = true) :
    vx_Back l R p e below s sargs y len W9 (PreOf R mc ms Pc) (PostOf Qc mc ms free) (vx_Post XC mc ms free) := by
  intro m meth c A g ig mk a X hg hsize hdg hW hn hp
  have h1 : (headSpec ws rm).pre.before a A.U = true := atoms_intro fun w hw => hws w hw _ _ X.warmed
  have h2 : (Cond.code y bytes maxL ret).before a A.U = true := hws _ hcode _ _ X.warmed
  have h3 : (Cond.initialized y.cls).before a A.U = true := hinit _ _ X.warmed
  have h4 : A.cells + (headSpec ws rm).room.cells ≤ R.cells := by rw [show (headSpec ws rm).room.cells = mc from hrc]; exact hp.1
  have h5 : A.slots + (headSpec ws rm).room.slots ≤ R.slots := by rw [show (headSpec ws rm).room.slots = ms from hrs]; exact hp.2.1
  have hPc : Pc a (A.U.calling g mk a) := hblind _ _ _ _ hp.2.2
  obtain ⟨U, Ls, c0, s0⟩ := A
  dsimp only [Pt.U, Pt.locs, Pt.cells, Pt.slots] at h1 h2 h3 h4 h5 X hn hPc ⊢
  obtain ⟨methY, cY, hmY, hcY, -, hlY, -, -, -, -⟩ := Cond.code_spec hn h2
  obtain ⟨kY, hkY, -⟩ := className_of_methodNamed hn
  have hinitY : kY.init = .initialized := Cond.initialized_spec (findClass_of_methodNamed hn) hkY h3
  have h : At U g.method c below := by rw [hg]; exact X.here
  have hlocals9 : W9 + (maxL + 11) + (headSpec ws rm).room.locals ≤ R.locals := hlocals
  have happ : (headSpec ws rm).appliesLoose y e.platform (U.calling g mk a) = true :=
    Spec.appliesLoose_calling (g := g) h hdg hn hkY hinitY
      (X.room_calling (g := g) (R' := (headSpec ws rm).room) hsize hmY hcY hframes (by rw [hlY]; omega) h4 h5) h1
  obtain ⟨mid, hmid⟩ := h.above
  have hfr : (U.setTop g).frames = (.java g :: mid) ++ below := by rw [State.frames_setTop' g h.top, hmid]; rfl
  obtain ⟨o, s₂, hsteps, -, hend, hq⟩ := Steps.callFree hM p X.admits X.cas X.clock (acts := []) hfr happ hPc trivial
  have hq' : vx_Q Qc XC mc ms free a (U.calling g mk a) o s₂ := hq
  rw [State.frames_setTop' g h.top] at hend
  obtain ⟨g₀, hg0⟩ := Option.isSome_iff_exists.mp h.top
  obtain ⟨r, hr⟩ := State.topJava?_eq_some.mp hg0
  have hr' : (({ U with heap := s₂.heap, slotsUsed := s₂.slotsUsed } : State).setVm s₂.vm).frames = .java g₀ :: r := hr
  rcases hq' with ⟨hqc, L, hfe, hL⟩ | ⟨q, rfl, E, ce, L, hx, hce, hcv, hcl, hW₂, hsm, hL⟩
  · obtain ⟨⟨v, rfl⟩, hW₂, e2, q2, q3, q4, q5, q6⟩ := id hfe
    have e3 : s₂ = ({ (U.calling g mk a).setFrames s₂.frames with heap := s₂.heap, slotsUsed := s₂.slotsUsed } : State).setVm s₂.vm := by
      have : s₂ = ({ s₂ with vm := (U.calling g mk a).vm } : State).setVm s₂.vm := rfl
      rw [e2] at this
      exact this
    obtain ⟨c₂, i₂, len₂, hc₂, hd₂, hf₂⟩ := hend
    have hW' : U.WarmedH s₂.vm := hW₂
    have hcc : c₂ = c := by
      have h1 : s₂.code? g.method = U.code? g.method := by
        rw [State.code?_eq, State.code?_eq, hW'.alike.method?]
      exact Option.some.inj (hc₂.symm.trans (h1.trans h.code))
    subst hcc
    have hlen : len₂ = len := by rw [hdg] at hd₂; cases hd₂; rfl
    subst hlen
    have hs₂ : s₂ = (({ U with heap := s₂.heap, slotsUsed := s₂.slotsUsed } : State).setVm s₂.vm).setTop { g with pc := g.pc + len₂, stack := v.toList ++ g.stack } := by
      refine e3.trans ?_
      rw [hf₂, State.calling_eq h.top, State.setFrames_setFrames, State.setTop_of_frames _ hr', hr]
      rfl
    have hsame : U.sameButNew ({ U with heap := s₂.heap, slotsUsed := s₂.slotsUsed } : State) L mc ms := by
      refine ⟨?_, q2, q3, q4, q5, q6⟩
      obtain ⟨t, ht, -⟩ := State.frames_cons hr
      show ({ U with heap := s₂.heap, slotsUsed := s₂.slotsUsed } : State) = { U.setFrames U.frames with heap := s₂.heap, slotsUsed := s₂.slotsUsed }
      rw [State.setFrames_self ht]
    subst hg
    refine Or.inl ⟨v, ⟨(({ U with heap := s₂.heap, slotsUsed := s₂.slotsUsed } : State).setVm s₂.vm), Ls ++ L, c0 + mc, s0 + ms⟩,
      ⟨X.admits, X.cas, X.clock, X.frames, X.room, X.hears, X.method, X.code, (X.here.setHeapUsed s₂.heap s₂.slotsUsed).setVm hW'.alike, X.tail, State.WarmedH.trans X.warmed hW', X.limits, X.bytes, X.same.trans (hsame.setVm s.vm)⟩,
      ⟨g, mk, s₂, L, rfl, rfl, hqc, rfl, hL, rfl, rfl⟩, ?_⟩
    show Steps p.tables e below _ ((({ U with heap := s₂.heap, slotsUsed := s₂.slotsUsed } : State).setVm s₂.vm).setTop { g with pc := g.pc + len₂, stack := v.toList ++ g.stack })
    rw [← hs₂]
    exact hsteps
  · obtain ⟨e2, q2, q3, q4, q5, q6⟩ := id hsm
    have e3 : s₂ = ({ (U.calling g mk a).setFrames s₂.frames with heap := s₂.heap, slotsUsed := s₂.slotsUsed } : State).setVm s₂.vm := by
      have : s₂ = ({ s₂ with vm := (U.calling g mk a).vm } : State).setVm s₂.vm := rfl
      rw [e2] at this
      exact this
    have hf₂ : s₂.frames = .throwing q :: .java g :: U.frames.tail := hend
    have hW' : U.WarmedH s₂.vm := hW₂
    have hs₂ : s₂ = ((({ U with heap := s₂.heap, slotsUsed := s₂.slotsUsed } : State).setVm s₂.vm).setTop g).pushFrame (.throwing q) := by
      refine e3.trans ?_
      rw [hf₂, State.calling_eq h.top, State.setFrames_setFrames, State.pushFrame, State.frames_setTop _ hr', State.setTop_of_frames _ hr', State.setFrames_setFrames, hr]
      rfl
    have hsame : U.sameButNew ({ U with heap := s₂.heap, slotsUsed := s₂.slotsUsed } : State) L mc ms := by
      refine ⟨?_, q2, q3, q4, q5, q6⟩
      obtain ⟨t, ht, -⟩ := State.frames_cons hr
      show ({ U with heap := s₂.heap, slotsUsed := s₂.slotsUsed } : State) = { U.setFrames U.frames with heap := s₂.heap, slotsUsed := s₂.slotsUsed }
      rw [State.setFrames_self ht]
    subst hg
    refine Or.inr ⟨q, ⟨(({ U with heap := s₂.heap, slotsUsed := s₂.slotsUsed } : State).setVm s₂.vm), Ls ++ L, c0 + mc, s0 + ms⟩,
      ⟨X.admits, X.cas, X.clock, X.frames, X.room, X.hears, X.method, X.code, (X.here.setHeapUsed s₂.heap s₂.slotsUsed).setVm hW'.alike, X.tail, State.WarmedH.trans X.warmed hW', X.limits, X.bytes, X.same.trans (hsame.setVm s.vm)⟩,
      ⟨g, mk, s₂, L, E, ce, rfl, rfl, hx, hce, hcv, hcl, rfl, hL, rfl, rfl⟩, ?_⟩
    show Steps p.tables e below _ (((({ U with heap := s₂.heap, slotsUsed := s₂.slotsUsed } : State).setVm s₂.vm).setTop g).pushFrame (.throwing q))
    rw [← hs₂]
    exact hsteps
end Payer
section Calls
variable {p : Program} {l : Launch} {e : Env} {R : Room} {s : State} {m : MethodId} {args : Array Value} {below : List Frame} {meth : Method} {c : Code} {T : State} {locs : List Loc} {cells slots : Nat}
theorem vx_callV (X : Stand p l e R s m args below meth c T locs cells slots) (hexec : p.tables.exec = Jvm.exec) {own C : String} {index : Nat} {y : MethodName} {bytes : ByteArray} {maxL : Nat} {ret : Option FieldType}
    (hown : s.vm.findClass own = some m.cls) (hlink : (Cond.methodLink own index y).before args s = true) (hinst : (Cond.instanceMethod y).before args s = true) (hsel : (Cond.selects C y y).before args s = true)
    (hcode : (Cond.code y bytes maxL ret).before args s = true) (hy : y.cls ≠ "java/lang/invoke/MethodHandle" ∧ y.cls ≠ "java/lang/invoke/VarHandle")
    {W9 : Nat} {Pre : Pt → Array Value → Prop} {Post : Pt → Array Value → Option Value → Pt → Prop} {PostX : Pt → Array Value → Addr → Pt → Prop} (hK : vx_Back l R p e below s args y 3 W9 Pre Post PostX)
    {b : Addr} {cellB : Cell} (hcell : T.heap[b]? = some cellB) (hobj : cellB.vm.isStatics = false) (hcls : s.vm.findClass C = some cellB.cls)
    {g : JFrame} (hg : g.method = m) (hsize : g.locals.size = c.maxLocals) {argsL rest : List Value} (hlen : ∀ sig, parseMethodDescriptor y.desc = some sig → argsL.length = sig.parameters.length)
    (hstack : g.stack = argsL.reverse ++ .ref b :: rest) (hW : 2 * g.monitorRoom + (rest.map fun v => v.category).sum ≤ W9) (hdg : decode c.code g.pc = .ok (.invokevirtual index, 3))
    (hpre : ∀ vm₁, s.WarmedH vm₁ → Pre ⟨T.setVm vm₁, locs, cells, slots⟩ (Value.ref b :: argsL).toArray) :
    (∃ (v : Option Value) (vm₁ : Vm) (B : Pt), s.WarmedH vm₁ ∧ Stand p l e R s m args below meth c B.U B.locs B.cells B.slots ∧ Post ⟨T.setVm vm₁, locs, cells, slots⟩ (Value.ref b :: argsL).toArray v B ∧
      ∀ target, Steps p.tables e below (B.U.setTop { g with pc := g.pc + 3, stack := v.toList ++ rest }) target → Steps p.tables e below (T.setTop g) target) ∨
    (∃ (q : Addr) (vm₁ : Vm) (B : Pt), s.WarmedH vm₁ ∧ Stand p l e R s m args below meth c B.U B.locs B.cells B.slots ∧ PostX ⟨T.setVm vm₁, locs, cells, slots⟩ (Value.ref b :: argsL).toArray q B ∧
      Steps p.tables e below (T.setTop g) ((B.U.setTop { g with stack := rest }).pushFrame (.throwing q))) := by
  obtain ⟨mk, methM, hnamed, hmethM, hstM, habM⟩ := Cond.instanceMethod_spec hinst
  obtain ⟨methM', cM, hmethM', -, -, -, -, -, -, hsigM⟩ := Cond.code_spec hnamed hcode
  cases hmethM.symm.trans hmethM'
  obtain ⟨c2, r2, m2, q1, q2, q3, q4, kP, hkP, hkPi⟩ := Cond.selects_spec hsel
  cases hcls.symm.trans q1
  cases (State.methodFound?_of_named hnamed hy).symm.trans q2
  cases hnamed.symm.trans q3
  have hselP : selectMethod e.platform s.vm cellB.cls mk = .method mk := by rw [Launch.admits_selectMethod X.admits]; exact q4
  obtain ⟨vm₁, X₁, hstep₁⟩ := X.invokevirtual hexec hown hlink hnamed hmethM hstM hkP hkPi hy (a := b) (cell := cellB) hcell
    (fun z h => by rw [h] at hobj; cases hobj) hselP hmethM habM hkP hkPi (g := g) hg (argsL := argsL) (rest := rest) (hlen _ hsigM) hstack hdg
  rcases hK m meth c ⟨T.setVm vm₁, locs, cells, slots⟩ { g with stack := rest } (.invokevirtual index) mk (Value.ref b :: argsL).toArray X₁ hg hsize hdg hW (X₁.named hnamed) (hpre vm₁ X₁.warmed) with ⟨v, B, X', hpost, hsteps⟩ | ⟨q, B, X', hpost, hsteps⟩
  · exact Or.inl ⟨v, vm₁, B, X₁.warmed, X', hpost, fun target h => hstep₁ _ fun acts => by rw [doInvoke_state]; exact hsteps.trans h⟩
  · exact Or.inr ⟨q, vm₁, B, X₁.warmed, X', hpost, hstep₁ _ fun acts => by rw [doInvoke_state]; exact hsteps⟩
theorem vx_callS (X : Stand p l e R s m args below meth c T locs cells slots) (hexec : p.tables.exec = Jvm.exec) {own : String} {index : Nat} {y : MethodName} {bytes : ByteArray} {maxL : Nat} {ret : Option FieldType}
    (hown : s.vm.findClass own = some m.cls) (hlink : (Cond.methodLink own index y).before args s = true) (hstat : (Cond.static y).before args s = true) (hinit : (Cond.initialized y.cls).before args s = true)
    (hcode : (Cond.code y bytes maxL ret).before args s = true) (hy : y.cls ≠ "java/lang/invoke/MethodHandle" ∧ y.cls ≠ "java/lang/invoke/VarHandle")
    {W9 : Nat} {Pre : Pt → Array Value → Prop} {Post : Pt → Array Value → Option Value → Pt → Prop} {PostX : Pt → Array Value → Addr → Pt → Prop} (hK : vx_Back l R p e below s args y 3 W9 Pre Post PostX)
    {g : JFrame} (hg : g.method = m) (hsize : g.locals.size = c.maxLocals) {argsL rest : List Value} (hlen : ∀ sig, parseMethodDescriptor y.desc = some sig → argsL.length = sig.parameters.length)
    (hstack : g.stack = argsL.reverse ++ rest) (hW : 2 * g.monitorRoom + (rest.map fun v => v.category).sum ≤ W9) (hdg : decode c.code g.pc = .ok (.invokestatic index, 3))
    (hpre : ∀ vm₁, s.WarmedH vm₁ → Pre ⟨T.setVm vm₁, locs, cells, slots⟩ argsL.toArray) :
    (∃ (v : Option Value) (vm₁ : Vm) (B : Pt), s.WarmedH vm₁ ∧ Stand p l e R s m args below meth c B.U B.locs B.cells B.slots ∧ Post ⟨T.setVm vm₁, locs, cells, slots⟩ argsL.toArray v B ∧
      ∀ target, Steps p.tables e below (B.U.setTop { g with pc := g.pc + 3, stack := v.toList ++ rest }) target → Steps p.tables e below (T.setTop g) target) ∨
    (∃ (q : Addr) (vm₁ : Vm) (B : Pt), s.WarmedH vm₁ ∧ Stand p l e R s m args below meth c B.U B.locs B.cells B.slots ∧ PostX ⟨T.setVm vm₁, locs, cells, slots⟩ argsL.toArray q B ∧
      Steps p.tables e below (T.setTop g) ((B.U.setTop { g with stack := rest }).pushFrame (.throwing q))) := by
  obtain ⟨mk, hnamed⟩ := Cond.code_named hcode
  obtain ⟨methM, cM, hmethM, -, -, -, -, -, -, hsigM⟩ := Cond.code_spec hnamed hcode
  have hstatic : methM.isStatic = true := Cond.static_spec hnamed hmethM hstat
  obtain ⟨kP, hkP, -⟩ := className_of_methodNamed hnamed
  have hinitP : kP.init = .initialized := Cond.initialized_spec (findClass_of_methodNamed hnamed) hkP hinit
  obtain ⟨vm₁, X₁, hstep₁⟩ := X.invokestatic hexec hown hlink hnamed hmethM hstatic hkP hinitP hy (g := g) hg (argsL := argsL) (rest := rest) (hlen _ hsigM) hstack hdg
  rcases hK m meth c ⟨T.setVm vm₁, locs, cells, slots⟩ { g with stack := rest } (.invokestatic index) mk argsL.toArray X₁ hg hsize hdg hW (X₁.named hnamed) (hpre vm₁ X₁.warmed) with ⟨v, B, X', hpost, hsteps⟩ | ⟨q, B, X', hpost, hsteps⟩
  · exact Or.inl ⟨v, vm₁, B, X₁.warmed, X', hpost, fun target h => hstep₁ _ fun acts => by rw [doInvoke_state]; exact hsteps.trans h⟩
  · exact Or.inr ⟨q, vm₁, B, X₁.warmed, X', hpost, hstep₁ _ fun acts => by rw [doInvoke_state]; exact hsteps⟩
end Calls
theorem vx_cls {s : State} {T : State} {vm₁ : Vm} {E : String} {k : ClassId} (hW : s.WarmedH vm₁) (h : (T.setVm vm₁).vm.findClass E = some k) : s.vm.findClass E = some k := by
  have h1 : vm₁.findClass E = some k := h
  rw [hW.alike.findClass] at h1
  exact h1
/-- the method's frame g, with q thrown over it -/
def vx_W (p : Program) (l : Launch) (e : Env) (R : Room) (s : State) (m : MethodId) (args : Array Value) (below : List Frame) (meth : Method) (c : Code) (H : Heap) (locs : List Loc) (cells slots : Nat) (Q : State → Prop) (g : JFrame) (q : Addr) : Prop :=
  ∀ T : State, T.heap = H → Stand p l e R s m args below meth c T locs cells slots → ∃ t, Steps p.tables e below ((T.setTop g).pushFrame (.throwing q)) t ∧ Q t
def vx_Run (p : Program) (l : Launch) (e : Env) (R : Room) (s : State) (m : MethodId) (args : Array Value) (below : List Frame) (meth : Method) (c : Code) (H : Heap) (locs : List Loc) (cells slots mc ms : Nat) (g : JFrame) (rest : List Value) (Qa : State → Outcome → State → Prop) (XC : String → State → State → Prop) (free : Addr → Prop) : Prop :=
  ∀ T : State, T.heap = H → Stand p l e R s m args below meth c T locs cells slots →
    (∃ (v : Option Value) (st₀ t T' : State) (L : List Loc), st₀.heap = H ∧ Stand p l e R s m args below meth c T' (locs ++ L) (cells + mc) (slots + ms) ∧ (∀ q ∈ L, free q.base) ∧ T'.heap = t.heap ∧ T'.vm = t.vm ∧ Qa st₀ (.returned v) t ∧
      Goes p e below T g T' { g with pc := g.pc + 3, stack := v.toList ++ rest }) ∨
    (∃ (q : Addr) (st₀ t T' : State) (L : List Loc) (E : String) (ce : Cell), st₀.heap = H ∧ Stand p l e R s m args below meth c T' (locs ++ L) (cells + mc) (slots + ms) ∧ (∀ z ∈ L, free z.base) ∧ T'.heap = t.heap ∧ T'.vm = t.vm ∧ XC E st₀ t ∧ t.heap[q]? = some ce ∧ ce.vm = .none ∧ s.vm.findClass E = some ce.cls ∧
      Steps p.tables e below (T.setTop g) ((T'.setTop { g with stack := rest }).pushFrame (.throwing q)))
def vx_X {S : Type} (px : S → Prop) (B : String → S → State → Prop) (A : Nat → Prop) : String → State → State → Prop := fun E st t => ∃ u : S, px u ∧ B E u t ∧ va_F A st t
section Runs
variable {p : Program} {l : Launch} {e : Env} {R : Room} {s : State} {m : MethodId} {args : Array Value} {below : List Frame} {meth : Method} {c : Code} {H : Heap} {locs : List Loc} {cells slots : Nat}
variable {y : MethodName} {bytes cc : ByteArray} {maxL nL mc ms n index : Nat} {ret : Option FieldType} {ws : List Cond} {rm : Room} {Pc : Array Value → State → Prop} {Qc : Array Value → State → Outcome → State → Prop} {XC : String → State → State → Prop} {free : Addr → Prop} {Ts : List Cond} {own C : String} {b : Addr} {As rest : List Value} {g : JFrame}
theorem vx_callBack (cb : CallB R s args own index y bytes maxL ret ws rm mc ms n) (hM : vx_Met l y ws rm Pc Qc XC mc ms free) (hbl : FrameBlind Pc) : vx_Back l R p e below s args y 3 8 (PreOf R mc ms Pc) (PostOf Qc mc ms free) (vx_Post XC mc ms free) := by
  obtain ⟨hrc, hrs, hfr, hlo, hws, hcw, -, hini, -⟩ := cb
  exact vx_back (bytes := bytes) (maxL := maxL) (ret := ret) hM hbl hrc hrs hfr hlo hws hcw (fun a' U hW => word_at hW (Or.inl (by first | rfl | simp [Cond.onTables, Cond.keeps, Cond.steady])) hini)
theorem vx_runV (S : CallFix p m c cc nL s args Ts own) (hM : vx_Met l y ws rm Pc Qc XC mc ms free) (cw : CallW R s args own C index y bytes maxL ret ws rm mc ms n) (hp : PreV s H C b Pc As)
    (hg : g.method = m) (hn : As.length = n) (hsize : g.locals.size = nL) (hstack : g.stack = As.reverse ++ .ref b :: rest) (hW : 2 * g.monitorRoom + (rest.map fun v => v.category).sum ≤ 8) (hdg : decode cc g.pc = .ok (.invokevirtual index, 3)) (hf : cells + mc ≤ R.cells ∧ slots + ms ≤ R.slots) :
    vx_Run p l e R s m args below meth c H locs cells slots mc ms g rest (Qc (Value.ref b :: As).toArray) XC free := by
  have hK : vx_Back l R p e below s args y 3 8 (PreOf R mc ms Pc) (PostOf Qc mc ms free) (vx_Post XC mc ms free) := vx_callBack cw.1 hM hp.1
  obtain ⟨⟨-, -, -, -, -, -, hcode, -, hy, hlen, hl⟩, hin, hse⟩ := cw
  obtain ⟨hx, hb, hml, ho, -⟩ := S
  obtain ⟨-, ⟨cellB, hcB, hoB, hclB⟩, hPc⟩ := hp
  intro T hT X
  rcases vx_callV X hx (C := C) (bytes := bytes) (maxL := maxL) (ret := ret) ho hl hin hse hcode hy hK (by rw [hT]; exact hcB) hoB hclB hg (hsize.trans hml.symm) (argsL := As) (rest := rest) (fun sig h => hn.trans (hlen sig h)) hstack hW (by rw [hb]; exact hdg)
    (fun vm₁ hW₁ => ⟨hf.1, hf.2, hPc (T.setVm vm₁) hT hW₁⟩) with ⟨v, vm₁, ⟨U', l2, c2, s2⟩, hW₁, X', ⟨g', mk, t, L, e1, e2, hq, h1, hL, h2, h3⟩, st⟩ | ⟨q, vm₁, ⟨U', l2, c2, s2⟩, hW₁, X', ⟨g', mk, t, L, E, ce, e1, e2, hq, hce, hcv, hcl, h1, hL, h2, h3⟩, st⟩
  · dsimp only [Pt.U, Pt.locs, Pt.cells, Pt.slots] at X' e1 e2 h1 h2 h3 st
    subst h1; subst h2; subst h3
    exact Or.inl ⟨v, (T.setVm vm₁).calling g' mk (Value.ref b :: As).toArray, t, U', L, hT, X', hL, e1, e2, hq, st⟩
  · dsimp only [Pt.U, Pt.locs, Pt.cells, Pt.slots] at X' e1 e2 h1 h2 h3 st hcl
    subst h1; subst h2; subst h3
    exact Or.inr ⟨q, (T.setVm vm₁).calling g' mk (Value.ref b :: As).toArray, t, U', L, E, ce, hT, X', hL, e1, e2, hq, hce, hcv, vx_cls hW₁ hcl, st⟩
theorem vx_runS (S : CallFix p m c cc nL s args Ts own) (hM : vx_Met l y ws rm Pc Qc XC mc ms free) (cw : CallB R s args own index y bytes maxL ret ws rm mc ms n ∧ (Cond.static y).before args s = true) (hp : PreS s H Pc As)
    (hg : g.method = m) (hn : As.length = n) (hsize : g.locals.size = nL) (hstack : g.stack = As.reverse ++ rest) (hW : 2 * g.monitorRoom + (rest.map fun v => v.category).sum ≤ 8) (hdg : decode cc g.pc = .ok (.invokestatic index, 3)) (hf : cells + mc ≤ R.cells ∧ slots + ms ≤ R.slots) :
    vx_Run p l e R s m args below meth c H locs cells slots mc ms g rest (Qc As.toArray) XC free := by
  have hK : vx_Back l R p e below s args y 3 8 (PreOf R mc ms Pc) (PostOf Qc mc ms free) (vx_Post XC mc ms free) := vx_callBack cw.1 hM hp.1
  obtain ⟨⟨-, -, -, -, -, -, hcode, hini, hy, hlen, hl⟩, hstt⟩ := cw
  obtain ⟨hx, hb, hml, ho, -⟩ := S
  intro T hT X
  rcases vx_callS X hx (bytes := bytes) (maxL := maxL) (ret := ret) ho hl hstt hini hcode hy hK hg (hsize.trans hml.symm) (argsL := As) (rest := rest) (fun sig h => hn.trans (hlen sig h)) hstack hW (by rw [hb]; exact hdg)
    (fun vm₁ hW₁ => ⟨hf.1, hf.2, hp.2 (T.setVm vm₁) hT hW₁⟩) with ⟨v, vm₁, ⟨U', l2, c2, s2⟩, hW₁, X', ⟨g', mk, t, L, e1, e2, hq, h1, hL, h2, h3⟩, st⟩ | ⟨q, vm₁, ⟨U', l2, c2, s2⟩, hW₁, X', ⟨g', mk, t, L, E, ce, e1, e2, hq, hce, hcv, hcl, h1, hL, h2, h3⟩, st⟩
  · dsimp only [Pt.U, Pt.locs, Pt.cells, Pt.slots] at X' e1 e2 h1 h2 h3 st
    subst h1; subst h2; subst h3
    exact Or.inl ⟨v, (T.setVm vm₁).calling g' mk As.toArray, t, U', L, hT, X', hL, e1, e2, hq, st⟩
  · dsimp only [Pt.U, Pt.locs, Pt.cells, Pt.slots] at X' e1 e2 h1 h2 h3 st hcl
    subst h1; subst h2; subst h3
    exact Or.inr ⟨q, (T.setVm vm₁).calling g' mk As.toArray, t, U', L, E, ce, hT, X', hL, e1, e2, hq, hce, hcv, vx_cls hW₁ hcl, st⟩
end Runs
section Rows
variable {p : Program} {l : Launch} {e : Env} {R : Room} {s : State} {m : MethodId} {args : Array Value} {below : List Frame} {meth : Method} {c : Code} {H : Heap} {locs : List Loc} {cells slots : Nat} {Q : State → Prop}
variable {mc ms : Nat} {free : Addr → Prop} {A0 A1 : Nat → Prop} {H0 : Heap} {a : Array Value} {pc : Nat} {ls : Array Slot} {st0 rest : List Value}
theorem vx_keep {st₀ t T' : State} {L : List Loc} (h0 : st₀.heap = H) (e1 : T'.heap = t.heap) (hS : va_S A0 H0 H locs) (hA : ∀ q, q < H.size → A1 q → A0 q) (hf : ∀ q, free q → A0 q) (hL : ∀ q ∈ L, free q.base) (hF : va_F A1 st₀ t) :
    H.size ≤ T'.heap.size ∧ (∀ q : Nat, q < H.size → ¬ A1 q → T'.heap[q]? = H[q]?) ∧ va_S A0 H0 T'.heap (locs ++ L) := by
  obtain ⟨hz, hk⟩ := hF
  rw [h0] at hz hk
  exact ⟨by rw [e1]; exact hz, fun q h1 h2 => by rw [e1]; exact hk q h1 h2,
    ⟨Nat.le_trans hS.1 (by rw [e1]; exact hz), fun q h1 h2 => by rw [e1, hk q (Nat.lt_of_lt_of_le h1 hS.1) (fun z => h2 (hA q (Nat.lt_of_lt_of_le h1 hS.1) z))]; exact hS.2.1 q h1 h2, fun q hq => by
      rcases List.mem_append.mp hq with h | h
      · exact hS.2.2 q h
      · exact hf _ (hL q h)⟩⟩
theorem vx_calli {S SX : Type} {post : Int32 → S → Prop} {px : SX → Prop} {B : S → State → Prop} {BX : String → SX → State → Prop} {AX : Nat → Prop} (hr : vx_Run p l e R s m args below meth c H locs cells slots mc ms (F0 m pc ls st0) rest (va_Qi post B A1 a) (vx_X px BX AX) free) (hS : va_S A0 H0 H locs) (hA : ∀ q, q < H.size → A1 q → A0 q) (hf : ∀ q, free q → A0 q) (hAX : ∀ q, q < H.size → AX q → A0 q)
    (kx : ∀ (E : String) (ce : Cell) (q9 : Addr) (u : SX) (t : State) (H1 : Heap) (locs1 : List Loc), t.heap = H1 → s.vm.Alike t.vm → px u → BX E u t → H.size ≤ H1.size → (∀ q : Nat, q < H.size → ¬ AX q → H1[q]? = H[q]?) → va_S A0 H0 H1 locs1 → H1[q9]? = some ce → ce.vm = .none → s.vm.findClass E = some ce.cls → vx_W p l e R s m args below meth c H1 locs1 (cells + mc) (slots + ms) Q (F0 m pc ls rest) q9)
    (kk : ∀ (r : Int32) (u : S) (t : State) (H1 : Heap) (locs1 : List Loc), t.heap = H1 → s.vm.Alike t.vm → post r u → B u t → H.size ≤ H1.size → (∀ q : Nat, q < H.size → ¬ A1 q → H1[q]? = H[q]?) → va_S A0 H0 H1 locs1 → W p l e R s m args below meth c H1 locs1 (cells + mc) (slots + ms) Q (F0 m (pc + 3) ls (.int r :: rest))) : W p l e R s m args below meth c H locs cells slots Q (F0 m pc ls st0) := by
  intro T hT X
  rcases hr T hT X with ⟨v, st₀, t, T', L, h0, X', hL, e1, e2, ⟨⟨r, u, hv, hp, hb⟩, hF⟩, st⟩ | ⟨q, st₀, t, T', L, E, ce, h0, X', hL, e1, e2, ⟨u, hp, hb, hF⟩, hce, hcv, hcl, st⟩
  · cases hv
    obtain ⟨k1, k2, k3⟩ := vx_keep h0 e1 hS hA hf hL hF
    obtain ⟨t2, a1, b1⟩ := kk r u t T'.heap (locs ++ L) e1.symm (by rw [← e2]; exact X'.warmed.alike) hp hb k1 k2 k3 T' rfl X'
    exact ⟨t2, st t2 a1, b1⟩
  · obtain ⟨k1, k2, k3⟩ := vx_keep h0 e1 hS hAX hf hL hF
    obtain ⟨t2, a1, b1⟩ := kx E ce q u t T'.heap (locs ++ L) e1.symm (by rw [← e2]; exact X'.warmed.alike) hp hb k1 k2 k3 (by rw [e1]; exact hce) hcv hcl T' rfl X'
    exact ⟨t2, st.trans a1, b1⟩
theorem vx_calll {S SX : Type} {post : Int64 → S → Prop} {px : SX → Prop} {B : S → State → Prop} {BX : String → SX → State → Prop} {AX : Nat → Prop} (hr : vx_Run p l e R s m args below meth c H locs cells slots mc ms (F0 m pc ls st0) rest (va_Ql post B A1 a) (vx_X px BX AX) free) (hS : va_S A0 H0 H locs) (hA : ∀ q, q < H.size → A1 q → A0 q) (hf : ∀ q, free q → A0 q) (hAX : ∀ q, q < H.size → AX q → A0 q)
    (kx : ∀ (E : String) (ce : Cell) (q9 : Addr) (u : SX) (t : State) (H1 : Heap) (locs1 : List Loc), t.heap = H1 → s.vm.Alike t.vm → px u → BX E u t → H.size ≤ H1.size → (∀ q : Nat, q < H.size → ¬ AX q → H1[q]? = H[q]?) → va_S A0 H0 H1 locs1 → H1[q9]? = some ce → ce.vm = .none → s.vm.findClass E = some ce.cls → vx_W p l e R s m args below meth c H1 locs1 (cells + mc) (slots + ms) Q (F0 m pc ls rest) q9)
    (kk : ∀ (r : Int64) (u : S) (t : State) (H1 : Heap) (locs1 : List Loc), t.heap = H1 → s.vm.Alike t.vm → post r u → B u t → H.size ≤ H1.size → (∀ q : Nat, q < H.size → ¬ A1 q → H1[q]? = H[q]?) → va_S A0 H0 H1 locs1 → W p l e R s m args below meth c H1 locs1 (cells + mc) (slots + ms) Q (F0 m (pc + 3) ls (.long r :: rest))) : W p l e R s m args below meth c H locs cells slots Q (F0 m pc ls st0) := by
  intro T hT X
  rcases hr T hT X with ⟨v, st₀, t, T', L, h0, X', hL, e1, e2, ⟨⟨r, u, hv, hp, hb⟩, hF⟩, st⟩ | ⟨q, st₀, t, T', L, E, ce, h0, X', hL, e1, e2, ⟨u, hp, hb, hF⟩, hce, hcv, hcl, st⟩
  · cases hv
    obtain ⟨k1, k2, k3⟩ := vx_keep h0 e1 hS hA hf hL hF
    obtain ⟨t2, a1, b1⟩ := kk r u t T'.heap (locs ++ L) e1.symm (by rw [← e2]; exact X'.warmed.alike) hp hb k1 k2 k3 T' rfl X'
    exact ⟨t2, st t2 a1, b1⟩
  · obtain ⟨k1, k2, k3⟩ := vx_keep h0 e1 hS hAX hf hL hF
    obtain ⟨t2, a1, b1⟩ := kx E ce q u t T'.heap (locs ++ L) e1.symm (by rw [← e2]; exact X'.warmed.alike) hp hb k1 k2 k3 (by rw [e1]; exact hce) hcv hcl T' rfl X'
    exact ⟨t2, st.trans a1, b1⟩
theorem vx_callf {S SX : Type} {post : UInt32 → S → Prop} {px : SX → Prop} {B : S → State → Prop} {BX : String → SX → State → Prop} {AX : Nat → Prop} (hr : vx_Run p l e R s m args below meth c H locs cells slots mc ms (F0 m pc ls st0) rest (va_Qf post B A1 a) (vx_X px BX AX) free) (hS : va_S A0 H0 H locs) (hA : ∀ q, q < H.size → A1 q → A0 q) (hf : ∀ q, free q → A0 q) (hAX : ∀ q, q < H.size → AX q → A0 q)
    (kx : ∀ (E : String) (ce : Cell) (q9 : Addr) (u : SX) (t : State) (H1 : Heap) (locs1 : List Loc), t.heap = H1 → s.vm.Alike t.vm → px u → BX E u t → H.size ≤ H1.size → (∀ q : Nat, q < H.size → ¬ AX q → H1[q]? = H[q]?) → va_S A0 H0 H1 locs1 → H1[q9]? = some ce → ce.vm = .none → s.vm.findClass E = some ce.cls → vx_W p l e R s m args below meth c H1 locs1 (cells + mc) (slots + ms) Q (F0 m pc ls rest) q9)
    (kk : ∀ (r : UInt32) (u : S) (t : State) (H1 : Heap) (locs1 : List Loc), t.heap = H1 → s.vm.Alike t.vm → post r u → B u t → H.size ≤ H1.size → (∀ q : Nat, q < H.size → ¬ A1 q → H1[q]? = H[q]?) → va_S A0 H0 H1 locs1 → W p l e R s m args below meth c H1 locs1 (cells + mc) (slots + ms) Q (F0 m (pc + 3) ls (.float r :: rest))) : W p l e R s m args below meth c H locs cells slots Q (F0 m pc ls st0) := by
  intro T hT X
  rcases hr T hT X with ⟨v, st₀, t, T', L, h0, X', hL, e1, e2, ⟨⟨r, u, hv, hp, hb⟩, hF⟩, st⟩ | ⟨q, st₀, t, T', L, E, ce, h0, X', hL, e1, e2, ⟨u, hp, hb, hF⟩, hce, hcv, hcl, st⟩
  · cases hv
    obtain ⟨k1, k2, k3⟩ := vx_keep h0 e1 hS hA hf hL hF
    obtain ⟨t2, a1, b1⟩ := kk r u t T'.heap (locs ++ L) e1.symm (by rw [← e2]; exact X'.warmed.alike) hp hb k1 k2 k3 T' rfl X'
    exact ⟨t2, st t2 a1, b1⟩
  · obtain ⟨k1, k2, k3⟩ := vx_keep h0 e1 hS hAX hf hL hF
    obtain ⟨t2, a1, b1⟩ := kx E ce q u t T'.heap (locs ++ L) e1.symm (by rw [← e2]; exact X'.warmed.alike) hp hb k1 k2 k3 (by rw [e1]; exact hce) hcv hcl T' rfl X'
    exact ⟨t2, st.trans a1, b1⟩
theorem vx_calld {S SX : Type} {post : UInt64 → S → Prop} {px : SX → Prop} {B : S → State → Prop} {BX : String → SX → State → Prop} {AX : Nat → Prop} (hr : vx_Run p l e R s m args below meth c H locs cells slots mc ms (F0 m pc ls st0) rest (va_Qd post B A1 a) (vx_X px BX AX) free) (hS : va_S A0 H0 H locs) (hA : ∀ q, q < H.size → A1 q → A0 q) (hf : ∀ q, free q → A0 q) (hAX : ∀ q, q < H.size → AX q → A0 q)
    (kx : ∀ (E : String) (ce : Cell) (q9 : Addr) (u : SX) (t : State) (H1 : Heap) (locs1 : List Loc), t.heap = H1 → s.vm.Alike t.vm → px u → BX E u t → H.size ≤ H1.size → (∀ q : Nat, q < H.size → ¬ AX q → H1[q]? = H[q]?) → va_S A0 H0 H1 locs1 → H1[q9]? = some ce → ce.vm = .none → s.vm.findClass E = some ce.cls → vx_W p l e R s m args below meth c H1 locs1 (cells + mc) (slots + ms) Q (F0 m pc ls rest) q9)
    (kk : ∀ (r : UInt64) (u : S) (t : State) (H1 : Heap) (locs1 : List Loc), t.heap = H1 → s.vm.Alike t.vm → post r u → B u t → H.size ≤ H1.size → (∀ q : Nat, q < H.size → ¬ A1 q → H1[q]? = H[q]?) → va_S A0 H0 H1 locs1 → W p l e R s m args below meth c H1 locs1 (cells + mc) (slots + ms) Q (F0 m (pc + 3) ls (.double r :: rest))) : W p l e R s m args below meth c H locs cells slots Q (F0 m pc ls st0) := by
  intro T hT X
  rcases hr T hT X with ⟨v, st₀, t, T', L, h0, X', hL, e1, e2, ⟨⟨r, u, hv, hp, hb⟩, hF⟩, st⟩ | ⟨q, st₀, t, T', L, E, ce, h0, X', hL, e1, e2, ⟨u, hp, hb, hF⟩, hce, hcv, hcl, st⟩
  · cases hv
    obtain ⟨k1, k2, k3⟩ := vx_keep h0 e1 hS hA hf hL hF
    obtain ⟨t2, a1, b1⟩ := kk r u t T'.heap (locs ++ L) e1.symm (by rw [← e2]; exact X'.warmed.alike) hp hb k1 k2 k3 T' rfl X'
    exact ⟨t2, st t2 a1, b1⟩
  · obtain ⟨k1, k2, k3⟩ := vx_keep h0 e1 hS hAX hf hL hF
    obtain ⟨t2, a1, b1⟩ := kx E ce q u t T'.heap (locs ++ L) e1.symm (by rw [← e2]; exact X'.warmed.alike) hp hb k1 k2 k3 (by rw [e1]; exact hce) hcv hcl T' rfl X'
    exact ⟨t2, st.trans a1, b1⟩
theorem vx_callv {S SX : Type} {post : S → Prop} {px : SX → Prop} {B : S → State → Prop} {BX : String → SX → State → Prop} {AX : Nat → Prop} (hr : vx_Run p l e R s m args below meth c H locs cells slots mc ms (F0 m pc ls st0) rest (va_Qv post B A1 a) (vx_X px BX AX) free) (hS : va_S A0 H0 H locs) (hA : ∀ q, q < H.size → A1 q → A0 q) (hf : ∀ q, free q → A0 q) (hAX : ∀ q, q < H.size → AX q → A0 q)
    (kx : ∀ (E : String) (ce : Cell) (q9 : Addr) (u : SX) (t : State) (H1 : Heap) (locs1 : List Loc), t.heap = H1 → s.vm.Alike t.vm → px u → BX E u t → H.size ≤ H1.size → (∀ q : Nat, q < H.size → ¬ AX q → H1[q]? = H[q]?) → va_S A0 H0 H1 locs1 → H1[q9]? = some ce → ce.vm = .none → s.vm.findClass E = some ce.cls → vx_W p l e R s m args below meth c H1 locs1 (cells + mc) (slots + ms) Q (F0 m pc ls rest) q9)
    (kk : ∀ (u : S) (t : State) (H1 : Heap) (locs1 : List Loc), t.heap = H1 → s.vm.Alike t.vm → post u → B u t → H.size ≤ H1.size → (∀ q : Nat, q < H.size → ¬ A1 q → H1[q]? = H[q]?) → va_S A0 H0 H1 locs1 → W p l e R s m args below meth c H1 locs1 (cells + mc) (slots + ms) Q (F0 m (pc + 3) ls (rest))) : W p l e R s m args below meth c H locs cells slots Q (F0 m pc ls st0) := by
  intro T hT X
  rcases hr T hT X with ⟨v, st₀, t, T', L, h0, X', hL, e1, e2, ⟨⟨u, hv, hp, hb⟩, hF⟩, st⟩ | ⟨q, st₀, t, T', L, E, ce, h0, X', hL, e1, e2, ⟨u, hp, hb, hF⟩, hce, hcv, hcl, st⟩
  · cases hv
    obtain ⟨k1, k2, k3⟩ := vx_keep h0 e1 hS hA hf hL hF
    obtain ⟨t2, a1, b1⟩ := kk u t T'.heap (locs ++ L) e1.symm (by rw [← e2]; exact X'.warmed.alike) hp hb k1 k2 k3 T' rfl X'
    exact ⟨t2, st t2 a1, b1⟩
  · obtain ⟨k1, k2, k3⟩ := vx_keep h0 e1 hS hAX hf hL hF
    obtain ⟨t2, a1, b1⟩ := kx E ce q u t T'.heap (locs ++ L) e1.symm (by rw [← e2]; exact X'.warmed.alike) hp hb k1 k2 k3 (by rw [e1]; exact hce) hcv hcl T' rfl X'
    exact ⟨t2, st.trans a1, b1⟩
/-- caught by the row x of this method's table; the rows ahead don't take it -/
theorem vx_catch {own name : String} {E : String} {ce : Cell} {q : Addr} (hown : s.vm.findClass own = some m.cls) (pre : List ExceptionTableEntry) (x : ExceptionTableEntry) (suf : List ExceptionTableEntry) (hsplit : c.exceptionTable.toList = pre ++ x :: suf)
    (hpass : ∀ z ∈ pre, covers z pc = false ∨ (z.catchType ≠ 0 ∧ ∃ nm : String, (Cond.classLink own z.catchType nm).before args s = true ∧ va_Nc E nm s)) (hx : covers x pc = true) (h0 : x.catchType ≠ 0)
    (hlink : (Cond.classLink own x.catchType name).before args s = true) (hcast : (Cond.castable E name).before args s = true) (hcell : H[q]? = some ce) (hv : ce.vm = .none) (hcl : s.vm.findClass E = some ce.cls)
    (kk : W p l e R s m args below meth c H locs cells slots Q (F0 m x.handlerPc ls [.ref q])) : vx_W p l e R s m args below meth c H locs cells slots Q (F0 m pc ls rest) q := by
  intro T hT X
  have hpl : e.platform.magicAccessors = ({} : Platform).magicAccessors := by rw [X.admits.platform]
  obtain ⟨c3, c4, hc3, hc4, hasg⟩ := Cond.castable_spec hcast
  cases Option.some.inj (hc3.symm.trans hcl)
  obtain ⟨c5, hc5, hcl5⟩ := Cond.classLink_spec hown hlink e.platform hpl
  cases Option.some.inj (hc4.symm.trans hc5)
  obtain ⟨vm', X', st⟩ := X.thenCaughtThrough q (g := F0 m pc ls rest) rfl (Steps.refl _) (by rw [hT]; exact hcell) (by rw [hv]; rfl) (by obtain ⟨k9, h9, -⟩ := Vm.findClass_spec hcl; exact ⟨k9, h9⟩) pre x suf hsplit
    (fun z hz => by
      rcases hpass z hz with h | ⟨hz0, nm, hl1, hn1⟩
      · exact Or.inl h
      · obtain ⟨c6, hc6, hcl6⟩ := Cond.classLink_spec hown hl1 e.platform hpl
        obtain ⟨a8, b8, h1, h2, h3⟩ := hn1
        cases Option.some.inj (h1.symm.trans hcl)
        cases Option.some.inj (h2.symm.trans hc6)
        exact Or.inr ⟨hz0, _, hcl6, h3⟩) hx (Or.inr ⟨h0, c4, hcl5, hasg⟩)
  obtain ⟨t, a1, b1⟩ := kk (T.setVm vm') hT X'
  exact ⟨t, st.trans a1, b1⟩
end Rows
section Ends
variable {p : Program} {l : Launch} {e : Env} {R : Room} {s : State} {m : MethodId} {args : Array Value} {below : List Frame} {meth : Method} {c : Code} {H : Heap} {locs : List Loc} {cells slots : Nat} {Q : State → Prop}
variable {mc ms : Nat} {free : Addr → Prop} {A0 A1 : Nat → Prop} {H0 : Heap} {a : Array Value} {ls : Array Slot} {st0 rest : List Value}
variable {Qc : Array Value → State → Outcome → State → Prop} {XC : String → State → State → Prop}
/-- what a body that may throw owes at its end -/
def vx_MQ (below : List Frame) (Qc : Array Value → State → Outcome → State → Prop) (XC : String → State → State → Prop) (a : Array Value) (s : State) (mc ms : Nat) (free : Addr → Prop) : State → Prop := fun t =>
  ∃ o, t.status = .running ∧ Ended t below o ∧ vx_Q Qc XC mc ms free a s o t
theorem vx_ret {g : JFrame} {mc ms : Nat} (k : W p l e R s m args below meth c H locs cells slots (MQ below Qc args s mc ms free) g) : W p l e R s m args below meth c H locs cells slots (vx_MQ below Qc XC args s mc ms free) g := by
  intro T hT X
  obtain ⟨t, a1, o, b1, b2, b3, b4⟩ := k T hT X
  exact ⟨t, a1, o, b1, b2, Or.inl ⟨b3, b4⟩⟩
/-- not caught here: it goes on to the caller -/
theorem vx_widen {g : JFrame} {q : Addr} {k n : Nat} (h1 : cells ≤ k) (h2 : slots ≤ n) (kk : vx_W p l e R s m args below meth c H locs k n Q g q) : vx_W p l e R s m args below meth c H locs cells slots Q g q := fun T hT X => kk T hT (stand_widen X h1 h2)
theorem vx_out {pc : Nat} {E : String} {ce : Cell} {q : Addr} {mc ms : Nat} (hout : ∀ x ∈ c.exceptionTable.toList, covers x pc = false) (hlocks : meth.locks = false) (hcell : H[q]? = some ce) (hv : ce.vm = .none) (hcl : s.vm.findClass E = some ce.cls)
    (hx : ∀ t : State, t.heap = H → s.vm.Alike t.vm → XC E s t) (hf : ∀ z ∈ locs, free z.base) (hc : cells ≤ mc) (hs : slots ≤ ms) :
    vx_W p l e R s m args below meth c H locs cells slots (vx_MQ below Qc XC args s mc ms free) (F0 m pc ls rest) q := by
  intro T hT X
  obtain ⟨st1, hrun, hend, hW, hsm⟩ := X.leaveThrown q (g := F0 m pc ls rest) rfl rfl rfl hout hlocks
  have hcell9 : (T.setFrames (.throwing q :: below)).heap[q]? = some ce := by
    show T.heap[q]? = some ce
    rw [hT]; exact hcell
  exact ⟨_, st1, .threw q, hrun, hend, Or.inr ⟨q, rfl, E, ce, locs, hx _ hT hW.alike, hcell9, hv, hcl, hW, hsm.mono hc hs, hf⟩⟩
theorem vx_frame {U : State} {k n : Nat} (h : s.sameButNew ({ U with vm := s.vm } : State) locs k n) : s.heap.size ≤ U.heap.size ∧ ∀ q : Nat, q < s.heap.size → (∀ z ∈ locs, z.base ≠ q) → U.heap[q]? = s.heap[q]? := by
  obtain ⟨-, h2, -, -, -, h6⟩ := h
  refine ⟨h2, fun q hq hz => ?_⟩
  obtain ⟨c9, e1, e2, e3, e4⟩ := h6 q _ (Array.getElem?_eq_getElem hq)
  have hs : c9.slots = (s.heap[q]).slots := Array.ext_getElem? fun i => e4 i fun hm => hz _ hm rfl
  have h9 : c9 = s.heap[q] := by
    rw [hs] at e2
    exact e2
  have e5 : U.heap[q]? = some c9 := e1
  rw [e5, h9, Array.getElem?_eq_getElem hq]
/-- the words of a throw but the four that speak of the heap -/
def vx_no (w : Cond) : Bool := decide (w ≠ .isRef (.static Bundle.tN "UNASSIGNED_STACK" Bundle.steD)) && decide (w ≠ .isRef (.static Bundle.tN "SUPPRESSED_SENTINEL" Bundle.listD)) && decide (w ≠ .laysStatic Bundle.tN "UNASSIGNED_STACK" Bundle.steD) && decide (w ≠ .laysStatic Bundle.tN "SUPPRESSED_SENTINEL" Bundle.listD)
def vx_at0 (own : String) (ic : Nat) (X : String) (names : List String) : List Cond := (Bundle.ownAtoms0 own ic X names).filter vx_no
def vx_atS (own : String) (ic : Nat) (X : String) (names : List String) : List Cond := (Bundle.ownAtoms own ic X names).filter vx_no
/-- a word that the tables alone decide, or a good one -/
def vx_ot (w : Cond) : Bool := w.onTables || goodWord w
theorem vx_ot_at {args a' : Array Value} {s U : State} {w : Cond} (hW : s.WarmedH U.vm) (hvm : s.vm = U.vm) (hg : vx_ot w = true) (h : w.before args s = true) : w.before a' U = true := by
  simp only [vx_ot, Bool.or_eq_true] at hg
  rcases hg with hg | hg
  · exact va_tabs hg hvm h
  · exact word_at hW (good_of_word hg) h
/-- a list's words: the good ones out of the method's own list, the others by premises of their own -/
theorem vx_hat {args : Array Value} {s : State} {L B : List Cond} (h1 : ∀ w ∈ L.filter goodWord, w.before args s = true) (h2 : ∀ w ∈ L.filter (fun w => !goodWord w), w ∈ B) (h3 : ∀ w ∈ B, w.before args s = true) : ∀ w ∈ L, w.before args s = true := by
  intro w hw
  by_cases g : goodWord w = true
  · exact h1 w (List.mem_filter.mpr ⟨hw, g⟩)
  · refine h3 w (h2 w (List.mem_filter.mpr ⟨hw, ?_⟩))
    show (!goodWord w) = true
    cases hgw : goodWord w
    · rfl
    · exact absurd hgw g
theorem vx_c {args : Array Value} {s : State} {w : Cond} {B : List Cond} (h : w.before args s = true) (t : ∀ w ∈ B, w.before args s = true) : ∀ w' ∈ w :: B, w'.before args s = true := fun w' h' => (List.mem_cons.mp h').elim (fun e => by rw [e]; exact h) (t w')
theorem vx_n {args : Array Value} {s : State} : ∀ w ∈ ([] : List Cond), w.before args s = true := fun _ h => nomatch h
theorem vx_own {args : Array Value} {s : State} {L : List Cond} (h1 : ∀ w ∈ L.filter vx_no, w.before args s = true)
    (hU : (Cond.isRef (.static Bundle.tN "UNASSIGNED_STACK" Bundle.steD)).before args s = true) (hN : (Cond.isRef (.static Bundle.tN "SUPPRESSED_SENTINEL" Bundle.listD)).before args s = true)
    (lU : (Cond.laysStatic Bundle.tN "UNASSIGNED_STACK" Bundle.steD).before args s = true) (lN : (Cond.laysStatic Bundle.tN "SUPPRESSED_SENTINEL" Bundle.listD).before args s = true) : ∀ w ∈ L, w.before args s = true := by
  intro w hw
  by_cases e1 : w = .isRef (.static Bundle.tN "UNASSIGNED_STACK" Bundle.steD)
  · rw [e1]; exact hU
  · by_cases e2 : w = .isRef (.static Bundle.tN "SUPPRESSED_SENTINEL" Bundle.listD)
    · rw [e2]; exact hN
    · by_cases e3 : w = .laysStatic Bundle.tN "UNASSIGNED_STACK" Bundle.steD
      · rw [e3]; exact lU
      · by_cases e4 : w = .laysStatic Bundle.tN "SUPPRESSED_SENTINEL" Bundle.listD
        · rw [e4]; exact lN
        · exact h1 w (List.mem_filter.mpr ⟨hw, by unfold vx_no; rw [decide_eq_true e1, decide_eq_true e2, decide_eq_true e3, decide_eq_true e4]; rfl⟩)
/-- where a static field lies, its class's statics cell in H -/
def vx_L (C n d : String) (A : Nat → Prop) (U : State) (H : Heap) : Prop := ∃ (c : ClassId) (k : Class) (i : Nat) (f : Field) (a : Nat) (cell : Cell), U.vm.findClass C = some c ∧ U.fieldFound? C n d = some (c, k, i, f) ∧ f.isStatic = true ∧ k.statics = some a ∧ H[a]? = some cell ∧ cell.vm.isStatics = true ∧ cell.cls = c ∧ f.slot < cell.slots.size ∧ k.staticTypes[f.slot]? = some f.type ∧ ¬ A a
theorem vx_L.moved {C n d : String} {A : Nat → Prop} {u U : State} {H : Heap} (hvm : u.vm.Alike U.vm) (h : vx_L C n d A u H) : vx_L C n d A U H := by
  obtain ⟨c, k, i, f, a, cell, h1, h2, h3, h4, h5, h6, h7, h8, h9, h10⟩ := h
  obtain ⟨k', hi', he⟩ := State.fieldFound?_setVm hvm h2
  exact ⟨c, k', i, f, a, cell, by rw [hvm.findClass]; exact h1, hi', h3, by rw [he]; exact h4, h5, h6, h7, h8, by rw [he]; exact h9, h10⟩
theorem vx_L.kept {C n d : String} {A : Nat → Prop} {U : State} {H H1 : Heap} (h : vx_L C n d A U H) (hq : ∀ a : Nat, a < H.size → ¬ A a → H1[a]? = H[a]?) : vx_L C n d A U H1 := by
  obtain ⟨c, k, i, f, a, cell, h1, h2, h3, h4, h5, h6, h7, h8, h9, h10⟩ := h
  exact ⟨c, k, i, f, a, cell, h1, h2, h3, h4, by rw [hq a (Array.getElem?_eq_some_iff.mp h5).1 h10]; exact h5, h6, h7, h8, h9, h10⟩
theorem vx_L.narrow {C n d : String} {A B : Nat → Prop} {U : State} {H : Heap} (h : vx_L C n d A U H) (hAB : ∀ q, B q → A q) : vx_L C n d B U H := by
  obtain ⟨c, k, i, f, a, cell, h1, h2, h3, h4, h5, h6, h7, h8, h9, h10⟩ := h
  exact ⟨c, k, i, f, a, cell, h1, h2, h3, h4, h5, h6, h7, h8, h9, fun z => h10 (hAB _ z)⟩
theorem vx_L.word {C n d : String} {A : Nat → Prop} {s : State} {args : Array Value} (h : vx_L C n d A s s.heap) : (Cond.laysStatic C n d).before args s = true := by
  obtain ⟨c, k, i, f, a, cell, h1, h2, h3, h4, h5, h6, h7, h8, h9, -⟩ := h
  show (Cond.laysStatic C n d).holds args s none s [] = true
  exact Cond.laysStatic_of h1 h2 h3 h4 h5 h6 h7 h8 h9
/-- .. and what it holds: null or some reference -/
def vx_Zq (C n d : String) (A : Nat → Prop) (U : State) (H : Heap) : Prop := va_Zq C n d A U H ∧ vx_L C n d A U H
theorem vx_Zq.moved {C n d : String} {A : Nat → Prop} {u U : State} {H : Heap} (hvm : u.vm.Alike U.vm) (h : vx_Zq C n d A u H) : vx_Zq C n d A U H := ⟨va_Zq.moved hvm h.1, vx_L.moved hvm h.2⟩
theorem vx_Zq.kept {C n d : String} {A : Nat → Prop} {U : State} {H H1 : Heap} (h : vx_Zq C n d A U H) (hq : ∀ a : Nat, a < H.size → ¬ A a → H1[a]? = H[a]?) : vx_Zq C n d A U H1 := ⟨va_Zq.kept h.1 hq, vx_L.kept h.2 hq⟩
theorem vx_Zq.narrow {C n d : String} {A B : Nat → Prop} {U : State} {H : Heap} (h : vx_Zq C n d A U H) (hAB : ∀ q, B q → A q) : vx_Zq C n d B U H := ⟨va_Zq.narrow h.1 hAB, vx_L.narrow h.2 hAB⟩
theorem vx_Zqof {args : Array Value} {s : State} {C n d : String} {A : Nat → Prop} (hl : (Cond.laysStatic C n d).before args s = true) (hini : (Cond.initialized C).before args s = true) (h : (Cond.isRef (.static C n d)).before args s = true) (hA : ∀ a : Nat, a < s.heap.size → ¬ A a) : vx_Zq C n d A s s.heap := by
  refine ⟨va_Zqof hl hini h hA, ?_⟩
  obtain ⟨c, k, i, f, a, cell, h1, h2, h3, h4, h5, h6, h7, h8, h9⟩ := Cond.laysStatic_spec hl
  exact ⟨c, k, i, f, a, cell, h1, h2, h3, h4, h5, h6, h7, h8, h9, hA a (Array.getElem?_eq_some_iff.mp h5).1⟩
theorem vx_isRef {C n d : String} {v : Value} {A : Nat → Prop} {s : State} {args : Array Value} (h : va_Z C n d v A s s.heap) (hv : v.isRef = true) : (Cond.isRef (.static C n d)).before args s = true := by
  obtain ⟨cf, kf, fi, f, a, cell, h1, h2, h3, h4, h5, h6, h7, -⟩ := h
  have he : (Term.static C n d).eval args s none [] s = some v := by
    simp [Term.eval, State.fieldNamed?, h1, h2, h4, h5, h6, h7]
  simp only [Cond.before, Cond.holds, Cond.value, he]
  cases v <;> simp_all [Value.isRef]
theorem vx_isRefq {C n d : String} {A : Nat → Prop} {s : State} {args : Array Value} (h : va_Zq C n d A s s.heap) : (Cond.isRef (.static C n d)).before args s = true := by
  rcases h with h | ⟨t, h⟩
  · exact vx_isRef h rfl
  · exact vx_isRef h rfl
/-- the same frame, seen from here: as if the method were called anew in this heap -/
theorem vx_rebase {T : State} (X : Stand p l e R s m args below meth c T locs cells slots) {R' : Room} (hf : R'.frames ≤ R.frames) (hl : R'.locals ≤ R.locals) (hc : cells + R'.cells ≤ R.cells) (hs : slots + R'.slots ≤ R.slots) :
    Stand p l e R' ((T.setVm s.vm).setFrames (.invoking m args :: below)) m args below meth c T [] 0 0 := by
  have htop : (T.setVm s.vm).topJava?.isSome := X.here.top
  have hF : ((T.setVm s.vm).setFrames (.invoking m args :: below)).frames = .invoking m args :: below := State.frames_setFrames _ (State.cur_lt_of_top htop)
  obtain ⟨g₀, hg0⟩ := Option.isSome_iff_exists.mp htop
  obtain ⟨r, hr⟩ := State.topJava?_eq_some.mp hg0
  have hl9 : e.platform.stackLimits (T.setVm s.vm).me = e.platform.stackLimits s.me := X.limits
  have hb9 : (T.setVm s.vm).me.stackBytes = s.me.stackBytes := X.bytes
  refine ⟨X.admits, X.cas, X.clock, hF, ?_, X.hears, X.method, X.code, X.here, X.tail, X.warmed, ?_, ?_, ?_⟩
  · have h := X.room
    have hU : ((T.setVm s.vm).setFrames (.invoking m args :: below)).localsInUse = s.localsInUse := by
      rw [State.localsInUse_invoking hF (meth := meth) (c := c) X.method X.code, State.localsInUse_invoking X.frames X.method X.code]
    simp only [State.hasRoom, Bool.and_eq_true, decide_eq_true_eq] at h ⊢
    obtain ⟨⟨⟨⟨h1, h2, h3, h4, h5, h6⟩, h7⟩, h8⟩, h9⟩ := h
    rw [X.frames, List.length_cons] at h2 h3
    have q1 := X.heapSize
    have q2 := X.used
    simp only [hF, hU, List.length_cons, State.stackLimits_setFrames, State.stackBytes_setFrames, hl9, hb9]
    refine ⟨⟨⟨⟨by omega, by omega, by omega, by omega, by omega, h6⟩, ?_⟩, ?_⟩, X.book⟩
    · show T.heap.size + R'.cells ≤ e.platform.maxCells
      omega
    · show T.slotsUsed + R'.slots ≤ e.platform.maxSlots
      omega
  · rw [State.stackLimits_setFrames]; rfl
  · rw [State.stackBytes_setFrames]; rfl
  · refine ⟨?_, Nat.le_refl _, Nat.le_refl _, ?_, ?_, fun a c9 h9 => ⟨c9, h9, rfl, rfl, fun _ _ => rfl⟩⟩
    · obtain ⟨t, ht, -⟩ := State.frames_cons hr
      show T.setVm s.vm = { ((T.setVm s.vm).setFrames (.invoking m args :: below)).setFrames (T.setVm s.vm).frames with heap := T.heap, slotsUsed := T.slotsUsed }
      rw [State.setFrames_setFrames, State.setFrames_self ht]
      rfl
    · show T.slotsUsed = T.slotsUsed + ((T.heap.toList.drop T.heap.size).map (·.slots.size)).sum
      rw [List.drop_eq_nil_of_le (Nat.le_of_eq Array.length_toList)]
      rfl
    · show ((T.heap.toList.drop T.heap.size).map (·.slots.size)).sum ≤ 0
      rw [List.drop_eq_nil_of_le (Nat.le_of_eq Array.length_toList)]
      exact Nat.le_refl _
/-- 'throw new E()': new; dup; invokespecial; athrow -/
theorem vx_throw0 {cc : ByteArray} {pc : Nat} (hexec : p.tables.exec = Jvm.exec) (hb : c.code = cc) (hl : l.stackTraces = false) {own cls : String} {names : List String} {ik ic mc ms : Nat} {A : Nat → Prop}
    (hown : s.vm.findClass own = some m.cls) (hcls : Bundle.fit cls = true) (hnames : ∀ n ∈ names, Bundle.fit n = true)
    (hk : (Cond.classLink own ik cls).before args s = true) (hini : (Cond.initialized cls).before args s = true) (hat : ∀ w ∈ vx_at0 own ic cls names, w.before args s = true)
    (hgood : ∀ w ∈ Cond.classLink own ik cls :: Cond.initialized cls :: vx_at0 own ic cls names, vx_ot w = true)
    (hU : vx_Zq Bundle.tN "UNASSIGNED_STACK" Bundle.steD A s s.heap) (hN : vx_Zq Bundle.tN "SUPPRESSED_SENTINEL" Bundle.listD A s s.heap) (hS : va_S A s.heap H locs) (hsize : ls.size = c.maxLocals)
    (d0 : decode cc pc = .ok (.new ik, 3)) (d3 : decode cc (pc + 3) = .ok (.dup, 1)) (d4 : decode cc (pc + 4) = .ok (.invokespecial ic, 3)) (d7 : decode cc (pc + 7) = .ok (.athrow, 1))
    (hout : ∀ x ∈ c.exceptionTable.toList, covers x (pc + 7) = false)
    (hRframes : names.length + 3 < R.frames) (hRlocals : (rest.map fun v => v.category).sum + (13 * (names.length + 1) + 42) ≤ R.locals) (hRcells : cells + 1 ≤ R.cells) (hRslots : slots + 6 ≤ R.slots) (hlocks : meth.locks = false)
    (hx : ∀ t : State, s.vm.Alike t.vm → H.size ≤ t.heap.size → (∀ q : Nat, q < H.size → t.heap[q]? = H[q]?) → XC cls s t)
    (hf : ∀ z ∈ locs, free z.base) (hc : cells + 1 ≤ mc) (hs : slots + 6 ≤ ms) :
    W p l e R s m args below meth c H locs cells slots (vx_MQ below Qc XC args s mc ms free) (F0 m pc ls rest) := by
  intro T hT X
  have htr : e.platform.stackTraces = false := (show e.platform.stackTraces = l.stackTraces by rw [X.admits.platform]).trans hl
  have Y := vx_rebase X (R' := { frames := R.frames, locals := R.locals, cells := 1, slots := 6 }) (Nat.le_refl _) (Nat.le_refl _) hRcells hRslots
  obtain ⟨s', hA⟩ : ∃ z, z = (T.setVm s.vm).setFrames (.invoking m args :: below) := ⟨_, rfl⟩
  rw [← hA] at Y
  have hvm : s'.vm = s.vm := by rw [hA]; rfl
  have hhp : s'.heap = H := by rw [hA]; exact hT
  have hW0 : s.WarmedH s'.vm := by rw [hvm]; exact State.WarmedH.refl s
  have hat' : ∀ w ∈ vx_at0 own ic cls names, w.before args s' = true := fun w hw => vx_ot_at hW0 hvm.symm (hgood w (List.mem_cons_of_mem _ (List.mem_cons_of_mem _ hw))) (hat w hw)
  have hk' : (Cond.classLink own ik cls).before args s' = true := vx_ot_at hW0 hvm.symm (hgood _ List.mem_cons_self) hk
  have hini' : (Cond.initialized cls).before args s' = true := vx_ot_at hW0 hvm.symm (hgood _ (List.mem_cons_of_mem _ List.mem_cons_self)) hini
  have hU' : vx_Zq Bundle.tN "UNASSIGNED_STACK" Bundle.steD A s' s'.heap := by rw [hhp]; exact vx_Zq.moved hW0.alike (hU.kept hS.2.1)
  have hN' : vx_Zq Bundle.tN "SUPPRESSED_SENTINEL" Bundle.listD A s' s'.heap := by rw [hhp]; exact vx_Zq.moved hW0.alike (hN.kept hS.2.1)
  have h : ∀ w ∈ Bundle.ownAtoms0 own ic cls names, w.before args s' = true := vx_own hat' (vx_isRefq hU'.1) (vx_isRefq hN'.1) hU'.2.word hN'.2.word
  have hown' : s'.vm.findClass own = some m.cls := by rw [hvm]; exact hown
  have hins : (Cond.instantiable cls 6).before args s' = true := h _ (by simp [Bundle.ownAtoms0])
  obtain ⟨vm₁, cX, kX, hfX, hkX, -, -, X₁, st1⟩ := Y.newCold hexec (own := own) (C := cls) (index := ik) (n := 6) hown' hk' hins hini'
    (g := F0 m pc ls rest) rfl (by rw [hb]; exact d0) (Nat.le_refl _) (Nat.le_refl _)
  generalize hT1 : (T.setVm vm₁).pushCell { cls := cX, slots := kX.instanceTypes.map defaultValue, vm := .none } = T1 at X₁ st1
  have hcat : (Value.ref T.heap.size).category = 1 := rfl
  have hcellA : T1.heap[T.heap.size]? = some (freshCell cX kX) := by rw [← hT1]; exact State.heap_pushCell_size _ _
  have d3' : decode c.code (pc + 3) = .ok (.dup, 1) := by rw [hb]; exact d3
  obtain ⟨U, hsteps, hrun, hend, hW, hsame, ce, hce, hO⟩ := X₁.ctorThrow0 hexec htr (own := own) (cls := cls) (names := names) (ic := ic) hown' hcls hnames h (fun x hx => nomatch hx) hfX hkX hcellA (by rw [hhp, hT]; exact Nat.le_refl _)
    (g := { method := m, pc := pc + 4, locals := ls, stack := .ref T.heap.size :: .ref T.heap.size :: rest, locked := none }) rfl hsize rfl rfl (rest := rest) rfl
    (by rw [hb]; exact d4) (by rw [hb]; exact d7) hout hRframes (by simp only [List.map_cons, List.sum_cons, hcat]; omega) hlocks
  obtain ⟨f1, f2⟩ := vx_frame hsame
  rw [hhp] at f1 f2
  have hWs : s.WarmedH U.vm := State.WarmedH.trans hW0 hW
  have hcl : s.vm.findClass cls = some ce.cls := by
    have h9 := hO.cls
    rw [hvm] at h9
    exact h9
  have hall : s.sameButNew ({ U with vm := s.vm } : State) locs mc ms := by
    subst hA
    obtain ⟨e1, e2⟩ := hsame
    rw [State.setFrames_setFrames] at e1
    have h2 : (T.setVm s.vm).sameButNew ({ U with vm := s.vm } : State) [] (0 + 1) (0 + 6) := ⟨e1, e2⟩
    have h3 := X.same.trans h2
    rw [List.append_nil] at h3
    exact h3.mono hc hs
  refine ⟨U, ?_, .threw T.heap.size, hrun, hend, Or.inr ⟨T.heap.size, rfl, cls, ce, locs, hx U hWs.alike f1 (fun q hq => f2 q hq (fun z hz => nomatch hz)), hce, hO.vm, hcl, hWs, hall, hf⟩⟩
  refine st1 _ ?_
  show Steps p.tables e below (T1.setTop { method := m, pc := pc + 3, locals := ls, stack := .ref T.heap.size :: rest, locked := none }) _
  jvm_step X₁.here [X₁.here.top, hexec, d3', Value.category]
  exact hsteps
/-- 'throw new E("text")': new; dup; ldc; invokespecial; athrow -/
theorem vx_throwS {cc : ByteArray} {pc : Nat} (hexec : p.tables.exec = Jvm.exec) (hb : c.code = cc) (hl : l.stackTraces = false) {own cls text : String} {names : List String} {ik is ic mc ms sa : Nat} {A : Nat → Prop}
    (hown : s.vm.findClass own = some m.cls) (hcls : Bundle.fit cls = true) (hnames : ∀ n ∈ names, Bundle.fit n = true)
    (hk : (Cond.classLink own ik cls).before args s = true) (hini : (Cond.initialized cls).before args s = true) (hstr : vk_R own is text sa s) (hat : ∀ w ∈ vx_atS own ic cls names, w.before args s = true)
    (hgood : ∀ w ∈ Cond.classLink own ik cls :: Cond.initialized cls :: vx_atS own ic cls names, vx_ot w = true)
    (hU : vx_Zq Bundle.tN "UNASSIGNED_STACK" Bundle.steD A s s.heap) (hN : vx_Zq Bundle.tN "SUPPRESSED_SENTINEL" Bundle.listD A s s.heap) (hS : va_S A s.heap H locs) (hsize : ls.size = c.maxLocals)
    (d0 : decode cc pc = .ok (.new ik, 3)) (d3 : decode cc (pc + 3) = .ok (.dup, 1)) (d4 : decode cc (pc + 4) = .ok (.ldc is, 2)) (d6 : decode cc (pc + 6) = .ok (.invokespecial ic, 3)) (d9 : decode cc (pc + 9) = .ok (.athrow, 1))
    (hout : ∀ x ∈ c.exceptionTable.toList, covers x (pc + 9) = false)
    (hRframes : names.length + 3 < R.frames) (hRlocals : (rest.map fun v => v.category).sum + (13 * (names.length + 1) + 43) ≤ R.locals) (hRcells : cells + 1 ≤ R.cells) (hRslots : slots + 6 ≤ R.slots) (hlocks : meth.locks = false)
    (hx : ∀ t : State, s.vm.Alike t.vm → H.size ≤ t.heap.size → (∀ q : Nat, q < H.size → t.heap[q]? = H[q]?) → XC cls s t)
    (hf : ∀ z ∈ locs, free z.base) (hc : cells + 1 ≤ mc) (hs : slots + 6 ≤ ms) :
    W p l e R s m args below meth c H locs cells slots (vx_MQ below Qc XC args s mc ms free) (F0 m pc ls rest) := by
  intro T hT X
  have htr : e.platform.stackTraces = false := (show e.platform.stackTraces = l.stackTraces by rw [X.admits.platform]).trans hl
  have Y := vx_rebase X (R' := { frames := R.frames, locals := R.locals, cells := 1, slots := 6 }) (Nat.le_refl _) (Nat.le_refl _) hRcells hRslots
  obtain ⟨s', hA⟩ : ∃ z, z = (T.setVm s.vm).setFrames (.invoking m args :: below) := ⟨_, rfl⟩
  rw [← hA] at Y
  have hvm : s'.vm = s.vm := by rw [hA]; rfl
  have hhp : s'.heap = H := by rw [hA]; exact hT
  have hW0 : s.WarmedH s'.vm := by rw [hvm]; exact State.WarmedH.refl s
  have hat' : ∀ w ∈ vx_atS own ic cls names, w.before args s' = true := fun w hw => vx_ot_at hW0 hvm.symm (hgood w (List.mem_cons_of_mem _ (List.mem_cons_of_mem _ hw))) (hat w hw)
  have hk' : (Cond.classLink own ik cls).before args s' = true := vx_ot_at hW0 hvm.symm (hgood _ List.mem_cons_self) hk
  have hini' : (Cond.initialized cls).before args s' = true := vx_ot_at hW0 hvm.symm (hgood _ (List.mem_cons_of_mem _ List.mem_cons_self)) hini
  have hU' : vx_Zq Bundle.tN "UNASSIGNED_STACK" Bundle.steD A s' s'.heap := by rw [hhp]; exact vx_Zq.moved hW0.alike (hU.kept hS.2.1)
  have hN' : vx_Zq Bundle.tN "SUPPRESSED_SENTINEL" Bundle.listD A s' s'.heap := by rw [hhp]; exact vx_Zq.moved hW0.alike (hN.kept hS.2.1)
  have h : ∀ w ∈ Bundle.ownAtoms own ic cls names, w.before args s' = true := vx_own hat' (vx_isRefq hU'.1) (vx_isRefq hN'.1) hU'.2.word hN'.2.word
  have hown' : s'.vm.findClass own = some m.cls := by rw [hvm]; exact hown
  have hins : (Cond.instantiable cls 6).before args s' = true := h _ (by simp [Bundle.ownAtoms])
  obtain ⟨vm₁, cX, kX, hfX, hkX, -, -, X₁, st1⟩ := Y.newCold hexec (own := own) (C := cls) (index := ik) (n := 6) hown' hk' hins hini'
    (g := F0 m pc ls rest) rfl (by rw [hb]; exact d0) (Nat.le_refl _) (Nat.le_refl _)
  generalize hT1 : (T.setVm vm₁).pushCell { cls := cX, slots := kX.instanceTypes.map defaultValue, vm := .none } = T1 at X₁ st1
  have hcat : (Value.ref T.heap.size).category = 1 := rfl
  have hcellA : T1.heap[T.heap.size]? = some (freshCell cX kX) := by rw [← hT1]; exact State.heap_pushCell_size _ _
  have d3' : decode c.code (pc + 3) = .ok (.dup, 1) := by rw [hb]; exact d3
  have d4' : decode c.code (pc + 4) = .ok (.ldc is, 2) := by rw [hb]; exact d4
  have hstr' : vk_R own is text sa s' := vk_R.warm hW0 hstr
  obtain ⟨U, hsteps, hrun, hend, hW, hsame, ce, hce, hO⟩ := X₁.ctorThrowS hexec htr (own := own) (cls := cls) (names := names) (ic := ic) hown' hcls hnames h (fun x hx => nomatch hx) hfX hkX hcellA (by rw [hhp, hT]; exact Nat.le_refl _) (msg := .ref sa) rfl
    (g := { method := m, pc := pc + 6, locals := ls, stack := .ref sa :: .ref T.heap.size :: .ref T.heap.size :: rest, locked := none }) rfl hsize rfl rfl (rest := rest) rfl
    (by rw [hb]; exact d6) (by rw [hb]; exact d9) hout hRframes (by simp only [List.map_cons, List.sum_cons, hcat]; omega) hlocks
  obtain ⟨f1, f2⟩ := vx_frame hsame
  rw [hhp] at f1 f2
  have hWs : s.WarmedH U.vm := State.WarmedH.trans hW0 hW
  have hcl : s.vm.findClass cls = some ce.cls := by
    have h9 := hO.cls
    rw [hvm] at h9
    exact h9
  have hall : s.sameButNew ({ U with vm := s.vm } : State) locs mc ms := by
    subst hA
    obtain ⟨e1, e2⟩ := hsame
    rw [State.setFrames_setFrames] at e1
    have h2 : (T.setVm s.vm).sameButNew ({ U with vm := s.vm } : State) [] (0 + 1) (0 + 6) := ⟨e1, e2⟩
    have h3 := X.same.trans h2
    rw [List.append_nil] at h3
    exact h3.mono hc hs
  refine ⟨U, ?_, .threw T.heap.size, hrun, hend, Or.inr ⟨T.heap.size, rfl, cls, ce, locs, hx U hWs.alike f1 (fun q hq => f2 q hq (fun z hz => nomatch hz)), hce, hO.vm, hcl, hWs, hall, hf⟩⟩
  refine st1 _ ?_
  show Steps p.tables e below (T1.setTop { method := m, pc := pc + 3, locals := ls, stack := .ref T.heap.size :: rest, locked := none }) _
  jvm_step X₁.here [X₁.here.top, hexec, d3', Value.category]
  exact X₁.ldcString hexec (own := own) (text := text) (index := is) (a := sa) hown' hstr'.1 hstr'.2
    (g := { method := m, pc := pc + 4, locals := ls, stack := .ref T.heap.size :: .ref T.heap.size :: rest, locked := none }) rfl d4' _ hsteps
/-- 'throw new E("text")', the text by a wide index -/
theorem vx_throwSW {cc : ByteArray} {pc : Nat} (hexec : p.tables.exec = Jvm.exec) (hb : c.code = cc) (hl : l.stackTraces = false) {own cls text : String} {names : List String} {ik is ic mc ms sa : Nat} {A : Nat → Prop}
    (hown : s.vm.findClass own = some m.cls) (hcls : Bundle.fit cls = true) (hnames : ∀ n ∈ names, Bundle.fit n = true)
    (hk : (Cond.classLink own ik cls).before args s = true) (hini : (Cond.initialized cls).before args s = true) (hstr : vk_R own is text sa s) (hat : ∀ w ∈ vx_atS own ic cls names, w.before args s = true)
    (hgood : ∀ w ∈ Cond.classLink own ik cls :: Cond.initialized cls :: vx_atS own ic cls names, vx_ot w = true)
    (hU : vx_Zq Bundle.tN "UNASSIGNED_STACK" Bundle.steD A s s.heap) (hN : vx_Zq Bundle.tN "SUPPRESSED_SENTINEL" Bundle.listD A s s.heap) (hS : va_S A s.heap H locs) (hsize : ls.size = c.maxLocals)
    (d0 : decode cc pc = .ok (.new ik, 3)) (d3 : decode cc (pc + 3) = .ok (.dup, 1)) (d4 : decode cc (pc + 4) = .ok (.ldc_w is, 3)) (d7 : decode cc (pc + 7) = .ok (.invokespecial ic, 3)) (d10 : decode cc (pc + 10) = .ok (.athrow, 1))
    (hout : ∀ x ∈ c.exceptionTable.toList, covers x (pc + 10) = false)
    (hRframes : names.length + 3 < R.frames) (hRlocals : (rest.map fun v => v.category).sum + (13 * (names.length + 1) + 43) ≤ R.locals) (hRcells : cells + 1 ≤ R.cells) (hRslots : slots + 6 ≤ R.slots) (hlocks : meth.locks = false)
    (hx : ∀ t : State, s.vm.Alike t.vm → H.size ≤ t.heap.size → (∀ q : Nat, q < H.size → t.heap[q]? = H[q]?) → XC cls s t)
    (hf : ∀ z ∈ locs, free z.base) (hc : cells + 1 ≤ mc) (hs : slots + 6 ≤ ms) :
    W p l e R s m args below meth c H locs cells slots (vx_MQ below Qc XC args s mc ms free) (F0 m pc ls rest) := by
  intro T hT X
  have htr : e.platform.stackTraces = false := (show e.platform.stackTraces = l.stackTraces by rw [X.admits.platform]).trans hl
  have Y := vx_rebase X (R' := { frames := R.frames, locals := R.locals, cells := 1, slots := 6 }) (Nat.le_refl _) (Nat.le_refl _) hRcells hRslots
  obtain ⟨s', hA⟩ : ∃ z, z = (T.setVm s.vm).setFrames (.invoking m args :: below) := ⟨_, rfl⟩
  rw [← hA] at Y
  have hvm : s'.vm = s.vm := by rw [hA]; rfl
  have hhp : s'.heap = H := by rw [hA]; exact hT
  have hW0 : s.WarmedH s'.vm := by rw [hvm]; exact State.WarmedH.refl s
  have hat' : ∀ w ∈ vx_atS own ic cls names, w.before args s' = true := fun w hw => vx_ot_at hW0 hvm.symm (hgood w (List.mem_cons_of_mem _ (List.mem_cons_of_mem _ hw))) (hat w hw)
  have hk' : (Cond.classLink own ik cls).before args s' = true := vx_ot_at hW0 hvm.symm (hgood _ List.mem_cons_self) hk
  have hini' : (Cond.initialized cls).before args s' = true := vx_ot_at hW0 hvm.symm (hgood _ (List.mem_cons_of_mem _ List.mem_cons_self)) hini
  have hU' : vx_Zq Bundle.tN "UNASSIGNED_STACK" Bundle.steD A s' s'.heap := by rw [hhp]; exact vx_Zq.moved hW0.alike (hU.kept hS.2.1)
  have hN' : vx_Zq Bundle.tN "SUPPRESSED_SENTINEL" Bundle.listD A s' s'.heap := by rw [hhp]; exact vx_Zq.moved hW0.alike (hN.kept hS.2.1)
  have h : ∀ w ∈ Bundle.ownAtoms own ic cls names, w.before args s' = true := vx_own hat' (vx_isRefq hU'.1) (vx_isRefq hN'.1) hU'.2.word hN'.2.word
  have hown' : s'.vm.findClass own = some m.cls := by rw [hvm]; exact hown
  have hins : (Cond.instantiable cls 6).before args s' = true := h _ (by simp [Bundle.ownAtoms])
  obtain ⟨vm₁, cX, kX, hfX, hkX, -, -, X₁, st1⟩ := Y.newCold hexec (own := own) (C := cls) (index := ik) (n := 6) hown' hk' hins hini'
    (g := F0 m pc ls rest) rfl (by rw [hb]; exact d0) (Nat.le_refl _) (Nat.le_refl _)
  generalize hT1 : (T.setVm vm₁).pushCell { cls := cX, slots := kX.instanceTypes.map defaultValue, vm := .none } = T1 at X₁ st1
  have hcat : (Value.ref T.heap.size).category = 1 := rfl
  have hcellA : T1.heap[T.heap.size]? = some (freshCell cX kX) := by rw [← hT1]; exact State.heap_pushCell_size _ _
  have d3' : decode c.code (pc + 3) = .ok (.dup, 1) := by rw [hb]; exact d3
  have d4' : decode c.code (pc + 4) = .ok (.ldc_w is, 3) := by rw [hb]; exact d4
  have hstr' : vk_R own is text sa s' := vk_R.warm hW0 hstr
  obtain ⟨U, hsteps, hrun, hend, hW, hsame, ce, hce, hO⟩ := X₁.ctorThrowS hexec htr (own := own) (cls := cls) (names := names) (ic := ic) hown' hcls hnames h (fun x hx => nomatch hx) hfX hkX hcellA (by rw [hhp, hT]; exact Nat.le_refl _) (msg := .ref sa) rfl
    (g := { method := m, pc := pc + 7, locals := ls, stack := .ref sa :: .ref T.heap.size :: .ref T.heap.size :: rest, locked := none }) rfl hsize rfl rfl (rest := rest) rfl
    (by rw [hb]; exact d7) (by rw [hb]; exact d10) hout hRframes (by simp only [List.map_cons, List.sum_cons, hcat]; omega) hlocks
  obtain ⟨f1, f2⟩ := vx_frame hsame
  rw [hhp] at f1 f2
  have hWs : s.WarmedH U.vm := State.WarmedH.trans hW0 hW
  have hcl : s.vm.findClass cls = some ce.cls := by
    have h9 := hO.cls
    rw [hvm] at h9
    exact h9
  have hall : s.sameButNew ({ U with vm := s.vm } : State) locs mc ms := by
    subst hA
    obtain ⟨e1, e2⟩ := hsame
    rw [State.setFrames_setFrames] at e1
    have h2 : (T.setVm s.vm).sameButNew ({ U with vm := s.vm } : State) [] (0 + 1) (0 + 6) := ⟨e1, e2⟩
    have h3 := X.same.trans h2
    rw [List.append_nil] at h3
    exact h3.mono hc hs
  refine ⟨U, ?_, .threw T.heap.size, hrun, hend, Or.inr ⟨T.heap.size, rfl, cls, ce, locs, hx U hWs.alike f1 (fun q hq => f2 q hq (fun z hz => nomatch hz)), hce, hO.vm, hcl, hWs, hall, hf⟩⟩
  refine st1 _ ?_
  show Steps p.tables e below (T1.setTop { method := m, pc := pc + 3, locals := ls, stack := .ref T.heap.size :: rest, locked := none }) _
  jvm_step X₁.here [X₁.here.top, hexec, d3', Value.category]
  exact X₁.ldcStringW hexec (own := own) (text := text) (index := is) (a := sa) hown' hstr'.1 hstr'.2
    (g := { method := m, pc := pc + 4, locals := ls, stack := .ref T.heap.size :: .ref T.heap.size :: rest, locked := none }) rfl d4' _ hsteps
end Ends
section Bodies
variable {l : Launch}
theorem vx_ofW {y : MethodName} {ws ws' : List Cond} {rm : Room} {Pc : Array Value → State → Prop} {Qc : Array Value → State → Outcome → State → Prop} {XC : String → State → State → Prop} {mc ms : Nat} {free : Addr → Prop} {cc : ByteArray} {maxL : Nat} {ret : Option FieldType}
    (hy : plainName y.cls = true) (hw : ws = Cond.code y cc maxL ret :: ws')
    (body : ∀ p e s m args below meth c s₁, BodyLoose p l y (headSpec ws rm) cc maxL ret e s m args below meth c s₁ → c.maxLocals = maxL → (∀ x ∈ c.exceptionTable.toList, False) → Pc args s →
      W p l e (headSpec ws rm).room s m args below meth c s.heap [] 0 0 (vx_MQ below Qc XC args s mc ms free) (entryFrame m args maxL)) : vx_Met l y ws rm Pc Qc XC mc ms free := by
  refine MetFree.of_bodyS (code := cc) (maxLocals := maxL) (ret := ret) hy ?_ ?_
  · intro args s m h hn
    obtain ⟨meth, c, h1, h2, h3, h4, h5, h6, -, -⟩ := Cond.code_spec hn (atoms_spec (ws := ws) h _ (by rw [hw]; exact List.mem_cons_self))
    exact ⟨meth, c, h1, h2, h3, h4, h5, h6⟩
  · intro p e s m args below meth c s₁ B hml hP _
    have hh0 : s₁.heap = s.heap := by rw [B.state]; rfl
    have ht : ∀ x ∈ c.exceptionTable.toList, False := by
      obtain ⟨meth9, c9, h1, h2, -, -, -, -, h7, -⟩ := Cond.code_spec B.named (atoms_spec (ws := ws) B.pre _ (by rw [hw]; exact List.mem_cons_self))
      cases Option.some.inj (h1.symm.trans B.method)
      cases Option.some.inj (h2.symm.trans (Stand.of_body B).code)
      intro x hx
      rw [Array.isEmpty_iff.mp h7] at hx
      cases hx
    obtain ⟨t, a1, o, b1, b2, b3⟩ := body p e s m args below meth c s₁ B hml ht hP s₁ hh0 (Stand.of_body B)
    exact ⟨t, o, a1, b1, b2, b3⟩
/-- the table of a body with handlers -/
theorem vx_table {p : Program} {x y : MethodName} {S : Spec} {cc bytes : ByteArray} {maxL maxL' : Nat} {ret ret' : Option FieldType} {e : Env} {s s₁ : State} {m : MethodId} {args : Array Value} {below : List Frame} {meth : Method} {c : Code} {hh : List (Nat × Nat × Nat × Nat)}
    (B : BodyLoose p l y S cc maxL ret e s m args below meth c s₁) (h : (Cond.codeWith y bytes maxL' ret' hh).before args s = true) : c.exceptionTable.toList = tableOf hh := by
  obtain ⟨m9, meth9, c9, hn9, h1, h2, -, -, h6, -⟩ := Cond.codeWith_spec h
  cases Option.some.inj (hn9.symm.trans B.named)
  cases Option.some.inj (h1.symm.trans B.method)
  cases Option.some.inj (h2.symm.trans (Stand.of_body B).code)
  rw [← h6, table_eq]
end Bodies
end VXA
/-! ===== END ===== -/
/-! ===== BEGIN a static call of a method with an exception table ===== -/
section VXS
variable {p : Program} {l : Launch} {e : Env} {R : Room} {s : State} {m : MethodId} {args : Array Value} {below : List Frame} {meth : Method} {c : Code} {T : State} {H : Heap} {locs : List Loc} {cells slots : Nat}
abbrev vx_CSW (R : Room) (s : State) (args : Array Value) (own : String) (index : Nat) (y : MethodName) (bytes : ByteArray) (maxL : Nat) (ret : Option FieldType) (hh : List (Nat × Nat × Nat × Nat)) (ws : List Cond) (rm : Room) (mc ms n : Nat) : Prop :=
  (rm.cells = mc ∧ rm.slots = ms ∧ rm.frames + 1 ≤ R.frames ∧ 8 + (maxL + 11) + rm.locals ≤ R.locals ∧ (∀ w ∈ ws, ∀ (a' : Array Value) (U : State), s.WarmedH U.vm → w.before a' U = true) ∧ Cond.codeWith y bytes maxL ret hh ∈ ws) ∧
  (Cond.codeWith y bytes maxL ret hh).before args s = true ∧ (Cond.initialized y.cls).before args s = true ∧ (y.cls ≠ "java/lang/invoke/MethodHandle" ∧ y.cls ≠ "java/lang/invoke/VarHandle") ∧
  (∀ sig, parseMethodDescriptor y.desc = some sig → n = sig.parameters.length) ∧ (Cond.methodLink own index y).before args s = true ∧ (Cond.static y).before args s = true
theorem vx_cwSW {own : String} {index maxL mc ms : Nat} {y : MethodName} {bytes : ByteArray} {ret : Option FieldType} {hh : List (Nat × Nat × Nat × Nat)} {Ts ws ws' : List Cond} {rm : Room} (n : Nat) (ht : ∀ w ∈ Ts, w.before args s = true) (hT : GoodIn Ts (va_wsS own index y ws)) (hw : ws = Cond.codeWith y bytes maxL ret hh :: ws') (hrc : rm.cells = mc) (hrs : rm.slots = ms)
    (hd : y.cls ≠ "java/lang/invoke/MethodHandle" ∧ y.cls ≠ "java/lang/invoke/VarHandle" ∧ (parseMethodDescriptor y.desc).map (fun d => d.parameters.length) = some n) (hR : rm.frames + 1 ≤ R.frames ∧ 8 + (maxL + 11) + rm.locals ≤ R.locals) :
    vx_CSW R s args own index y bytes maxL ret hh ws rm mc ms n := by
  have ok : ∀ w ∈ va_wsS own index y ws, w.before args s = true := fun w h => ht w (hT w h).1
  have hG : GoodIn Ts ws := fun w h => hT w (by unfold va_wsS; exact List.mem_append_right _ h)
  have hc : Cond.codeWith y bytes maxL ret hh ∈ ws := by rw [hw]; exact List.mem_cons_self
  refine ⟨⟨hrc, hrs, hR.1, hR.2, pay_in ht hG, hc⟩, ht _ (hG _ hc).1, ok _ (by simp [va_wsS]), ⟨hd.1, hd.2.1⟩, fun sig h => ?_, ok _ (by simp [va_wsS]), ok _ (by simp [va_wsS])⟩
  have h2 := hd.2.2
  rw [h] at h2
  exact (Option.some.inj h2).symm
theorem vx_callSW (X : Stand p l e R s m args below meth c T locs cells slots) (hexec : p.tables.exec = Jvm.exec) {own : String} {index : Nat} {y : MethodName} {bytes : ByteArray} {maxL : Nat} {ret : Option FieldType} {hh : List (Nat × Nat × Nat × Nat)}
    (hown : s.vm.findClass own = some m.cls) (hlink : (Cond.methodLink own index y).before args s = true) (hstat : (Cond.static y).before args s = true) (hinit : (Cond.initialized y.cls).before args s = true)
    (hcode : (Cond.codeWith y bytes maxL ret hh).before args s = true) (hy : y.cls ≠ "java/lang/invoke/MethodHandle" ∧ y.cls ≠ "java/lang/invoke/VarHandle")
    {W9 : Nat} {Pre : Pt → Array Value → Prop} {Post : Pt → Array Value → Option Value → Pt → Prop} (hK : Back l R p e below s args y 3 W9 Pre Post)
    {g : JFrame} (hg : g.method = m) (hsize : g.locals.size = c.maxLocals) {argsL rest : List Value} (hlen : ∀ sig, parseMethodDescriptor y.desc = some sig → argsL.length = sig.parameters.length)
    (hstack : g.stack = argsL.reverse ++ rest) (hW : 2 * g.monitorRoom + (rest.map fun v => v.category).sum ≤ W9) (hdg : decode c.code g.pc = .ok (.invokestatic index, 3))
    (hpre : ∀ vm₁, s.WarmedH vm₁ → Pre ⟨T.setVm vm₁, locs, cells, slots⟩ argsL.toArray) :
    ∃ (v : Option Value) (vm₁ : Vm) (B : Pt), s.WarmedH vm₁ ∧ Stand p l e R s m args below meth c B.U B.locs B.cells B.slots ∧ Post ⟨T.setVm vm₁, locs, cells, slots⟩ argsL.toArray v B ∧
      ∀ target, Steps p.tables e below (B.U.setTop { g with pc := g.pc + 3, stack := v.toList ++ rest }) target → Steps p.tables e below (T.setTop g) target := by
  obtain ⟨mk, methM, cM, hnamed, hmethM, -, -, -, -, -, -, hsigM⟩ := Cond.codeWith_spec hcode
  have hstatic : methM.isStatic = true := Cond.static_spec hnamed hmethM hstat
  obtain ⟨kP, hkP, -⟩ := className_of_methodNamed hnamed
  have hinitP : kP.init = .initialized := Cond.initialized_spec (findClass_of_methodNamed hnamed) hkP hinit
  obtain ⟨vm₁, X₁, hstep₁⟩ := X.invokestatic hexec hown hlink hnamed hmethM hstatic hkP hinitP hy (g := g) hg (argsL := argsL) (rest := rest) (hlen _ hsigM) hstack hdg
  obtain ⟨v, B, X', hpost, hsteps⟩ := hK m meth c ⟨T.setVm vm₁, locs, cells, slots⟩ { g with stack := rest } (.invokestatic index) mk argsL.toArray X₁ hg hsize hdg hW (X₁.named hnamed) (hpre vm₁ X₁.warmed)
  exact ⟨v, vm₁, B, X₁.warmed, X', hpost, fun target h => hstep₁ _ fun acts => by rw [doInvoke_state]; exact hsteps.trans h⟩
theorem vx_runSW {y : MethodName} {bytes cc : ByteArray} {maxL nL mc ms n index : Nat} {ret : Option FieldType} {hh : List (Nat × Nat × Nat × Nat)} {ws : List Cond} {rm : Room} {Pc : Array Value → State → Prop} {Qc : Array Value → State → Outcome → State → Prop} {free : Addr → Prop} {Ts : List Cond} {own : String} {As rest : List Value} {g : JFrame}
    (S : CallFix p m c cc nL s args Ts own) (hM : Met l y ws rm Pc Qc mc ms free) (cw : vx_CSW R s args own index y bytes maxL ret hh ws rm mc ms n) (hp : PreS s H Pc As)
    (hg : g.method = m) (hn : As.length = n) (hsize : g.locals.size = nL) (hstack : g.stack = As.reverse ++ rest) (hW : 2 * g.monitorRoom + (rest.map fun v => v.category).sum ≤ 8) (hdg : decode cc g.pc = .ok (.invokestatic index, 3)) (hf : cells + mc ≤ R.cells ∧ slots + ms ≤ R.slots) :
    va_Run p l e R s m args below meth c H locs cells slots mc ms g rest (Qc As.toArray) (free) := by
  obtain ⟨⟨hrc, hrs, hfr, hlo, hws, hcw⟩, hcode, hini, hy, hlen, hl, hstt⟩ := cw
  have hK : Back l R p e below s args y 3 8 (PreOf R mc ms Pc) (PostOf Qc mc ms free) := va_backW (hh := hh) (bytes := bytes) (maxL := maxL) (ret := ret) hM hp.1 hrc hrs hfr hlo hws hcw (fun a' U hW => word_at hW (Or.inl (by first | rfl | simp [Cond.onTables, Cond.keeps, Cond.steady])) hini)
  obtain ⟨hx, hb, hml, ho, -⟩ := S
  intro T hT X
  obtain ⟨v, vm₁, ⟨U', l2, c2, s2⟩, hW₁, X', ⟨g', mk, t, L, e1, e2, hq, h1, hL, h2, h3⟩, st⟩ := vx_callSW X hx (hh := hh) (bytes := bytes) (maxL := maxL) (ret := ret) ho hl hstt hini hcode hy hK hg (hsize.trans hml.symm) (argsL := As) (rest := rest) (fun sig h => hn.trans (hlen sig h)) hstack hW (by rw [hb]; exact hdg)
    (fun vm₁ hW₁ => ⟨hf.1, hf.2, hp.2 (T.setVm vm₁) hT hW₁⟩)
  dsimp only [Pt.U, Pt.locs, Pt.cells, Pt.slots] at X' e1 e2 h1 h2 h3 st
  subst h1; subst h2; subst h3
  exact ⟨v, (T.setVm vm₁).calling g' mk As.toArray, t, U', L, hT, X', hL, e1, e2, hq, st⟩
/-- not caught here, past rows that name other classes: it goes on to the caller -/
theorem vx_outP {p : Program} {l : Launch} {e : Env} {R : Room} {s : State} {m : MethodId} {args : Array Value} {below : List Frame} {meth : Method} {c : Code} {H : Heap} {locs : List Loc} {cells slots : Nat} {free : Addr → Prop} {ls : Array Slot} {rest : List Value} {Qc : Array Value → State → Outcome → State → Prop} {XC : String → State → State → Prop}
    {pc : Nat} {own E : String} {ce : Cell} {q : Addr} {mc ms : Nat} (hown : s.vm.findClass own = some m.cls) (hlocks : meth.locks = false)
    (hpass : ∀ z ∈ c.exceptionTable.toList, covers z pc = false ∨ (z.catchType ≠ 0 ∧ ∃ nm : String, (Cond.classLink own z.catchType nm).before args s = true ∧ va_Nc E nm s)) (hcell : H[q]? = some ce) (hv : ce.vm = .none) (hcl : s.vm.findClass E = some ce.cls)
    (hx : ∀ t : State, t.heap = H → s.vm.Alike t.vm → XC E s t) (hf : ∀ z ∈ locs, free z.base) (hc : cells ≤ mc) (hs : slots ≤ ms) :
    vx_W p l e R s m args below meth c H locs cells slots (vx_MQ below Qc XC args s mc ms free) (F0 m pc ls rest) q := by
  intro T hT X
  have hpl : e.platform.magicAccessors = ({} : Platform).magicAccessors := by rw [X.admits.platform]
  obtain ⟨vm', hW', X', st⟩ := X.outThrough hlocks q (g := F0 m pc ls rest) rfl rfl rfl (cell := ce) (by rw [hT]; exact hcell) (by rw [hv]; rfl)
    (by obtain ⟨k9, h9, -⟩ := Vm.findClass_spec hcl; exact ⟨k9, h9⟩) (fun z hz => by
      rcases hpass z hz with h | ⟨hz0, nm, hl1, hn1⟩
      · exact Or.inl h
      · obtain ⟨c6, hc6, hcl6⟩ := Cond.classLink_spec hown hl1 e.platform hpl
        obtain ⟨a8, b8, h1, h2, h3⟩ := hn1
        cases Option.some.inj (h1.symm.trans hcl)
        cases Option.some.inj (h2.symm.trans hc6)
        exact Or.inr ⟨hz0, _, hcl6, h3⟩)
  obtain ⟨g₀, hfr⟩ := X'.frames_eq
  have hcell9 : ((T.setVm vm').setFrames (.throwing q :: below)).heap[q]? = some ce := by
    show T.heap[q]? = some ce
    rw [hT]; exact hcell
  have hend : Ended ((T.setVm vm').setFrames (.throwing q :: below)) below (.threw q) := State.frames_setFrames _ (State.cur_lt_of_frames hfr)
  refine ⟨(T.setVm vm').setFrames (.throwing q :: below), ?_, .threw q, X'.here.running, hend, Or.inr ⟨q, rfl, E, ce, locs, hx _ hT (X'.ends _).1.alike, hcell9, hv, hcl, (X'.ends _).1, (X'.ends _).2.mono hc hs, hf⟩⟩
  rw [X.pushThrowing_eq]
  exact st
/-- a thing of a world lies in the heap -/
theorem vx_lt {D : va_G} {cl : List vw_C} {ws : va_W} {H1 : Heap} (h : va_P D cl ws H1) {k : Nat} {q : Nat × va_E} (hk : ws[k]? = some q) : q.1 < H1.size := (h k q hk).lt
end VXS
/-! ===== END ===== -/
/-! ===== BEGIN methods with a table of their own: called by a name, returning or throwing ===== -/
section VXH
/-! vx_backW, vx_callVX, vx_callSX, vx_callVW, vx_runVW, vx_runVX, vx_runSX, vx_ofWH follow the same proofs as their sisters above (Free/Laws.lean, Shelf42/LK1.lean); vx_outP calls Shelf42/NT130.lean (outThrough). -/
section
variable {l : Launch} {R : Room} {p : Program} {e : Env} {below : List Frame} {s : State} {sargs : Array Value} {y : MethodName} {len W9 : Nat}
theorem vx_backW {ws : List Cond} {rm : Room} {Pc : Array Value → State → Prop} {Qc : Array Value → State → Outcome → State → Prop} {XC : String → State → State → Prop} {mc ms : Nat} {free : Addr → Prop} {bytes : ByteArray} {maxL : Nat} {ret : Option FieldType} {hh : List (Nat × Nat × Nat × Nat)}
    (hM : vx_Met l y ws rm Pc Qc XC mc ms free) (hblind : FrameBlind Pc) (hrc : rm.cells = mc) (hrs : rm.slots = ms)
    (hframes : rm.frames + 1 ≤ R.frames) (hlocals : W9 + (maxL + 11) + rm.locals ≤ R.locals)
    (hws : ∀ w ∈ ws, ∀ a' U, s.WarmedH U.vm → w.before a' U = true) (hcode : Cond.codeWith y bytes maxL ret hh ∈ ws) (hinit : ∀ a' U, s.WarmedH U.vm → (Cond.initialized y.cls).before a' U = true) :
    vx_Back l R p e below s sargs y len W9 (PreOf R mc ms Pc) (PostOf Qc mc ms free) (vx_Post XC mc ms free) := by
  intro m meth c A g ig mk a X hg hsize hdg hW hn hp
  have h1 : (headSpec ws rm).pre.before a A.U = true := atoms_intro fun w hw => hws w hw _ _ X.warmed
  have h2 : (Cond.codeWith y bytes maxL ret hh).before a A.U = true := hws _ hcode _ _ X.warmed
  have h3 : (Cond.initialized y.cls).before a A.U = true := hinit _ _ X.warmed
  have h4 : A.cells + (headSpec ws rm).room.cells ≤ R.cells := by rw [show (headSpec ws rm).room.cells = mc from hrc]; exact hp.1
  have h5 : A.slots + (headSpec ws rm).room.slots ≤ R.slots := by rw [show (headSpec ws rm).room.slots = ms from hrs]; exact hp.2.1
  have hPc : Pc a (A.U.calling g mk a) := hblind _ _ _ _ hp.2.2
  obtain ⟨U, Ls, c0, s0⟩ := A
  dsimp only [Pt.U, Pt.locs, Pt.cells, Pt.slots] at h1 h2 h3 h4 h5 X hn hPc ⊢
  obtain ⟨m9, methY, cY, hn9, hmY, hcY, -, hlY, -⟩ := Cond.codeWith_spec h2
  cases Option.some.inj (hn9.symm.trans hn)
  obtain ⟨kY, hkY, -⟩ := className_of_methodNamed hn
  have hinitY : kY.init = .initialized := Cond.initialized_spec (findClass_of_methodNamed hn) hkY h3
  have h : At U g.method c below := by rw [hg]; exact X.here
  have hlocals9 : W9 + (maxL + 11) + (headSpec ws rm).room.locals ≤ R.locals := hlocals
  have happ : (headSpec ws rm).appliesLoose y e.platform (U.calling g mk a) = true :=
    Spec.appliesLoose_calling (g := g) h hdg hn hkY hinitY
      (X.room_calling (g := g) (R' := (headSpec ws rm).room) hsize hmY hcY hframes (by rw [hlY]; omega) h4 h5) h1
  obtain ⟨mid, hmid⟩ := h.above
  have hfr : (U.setTop g).frames = (.java g :: mid) ++ below := by rw [State.frames_setTop' g h.top, hmid]; rfl
  obtain ⟨o, s₂, hsteps, -, hend, hq⟩ := Steps.callFree hM p X.admits X.cas X.clock (acts := []) hfr happ hPc trivial
  have hq' : vx_Q Qc XC mc ms free a (U.calling g mk a) o s₂ := hq
  rw [State.frames_setTop' g h.top] at hend
  obtain ⟨g₀, hg0⟩ := Option.isSome_iff_exists.mp h.top
  obtain ⟨r, hr⟩ := State.topJava?_eq_some.mp hg0
  have hr' : (({ U with heap := s₂.heap, slotsUsed := s₂.slotsUsed } : State).setVm s₂.vm).frames = .java g₀ :: r := hr
  rcases hq' with ⟨hqc, L, hfe, hL⟩ | ⟨q, rfl, E, ce, L, hx, hce, hcv, hcl, hW₂, hsm, hL⟩
  · obtain ⟨⟨v, rfl⟩, hW₂, e2, q2, q3, q4, q5, q6⟩ := id hfe
    have e3 : s₂ = ({ (U.calling g mk a).setFrames s₂.frames with heap := s₂.heap, slotsUsed := s₂.slotsUsed } : State).setVm s₂.vm := by
      have : s₂ = ({ s₂ with vm := (U.calling g mk a).vm } : State).setVm s₂.vm := rfl
      rw [e2] at this
      exact this
    obtain ⟨c₂, i₂, len₂, hc₂, hd₂, hf₂⟩ := hend
    have hW' : U.WarmedH s₂.vm := hW₂
    have hcc : c₂ = c := by
      have h1 : s₂.code? g.method = U.code? g.method := by
        rw [State.code?_eq, State.code?_eq, hW'.alike.method?]
      exact Option.some.inj (hc₂.symm.trans (h1.trans h.code))
    subst hcc
    have hlen : len₂ = len := by rw [hdg] at hd₂; cases hd₂; rfl
    subst hlen
    have hs₂ : s₂ = (({ U with heap := s₂.heap, slotsUsed := s₂.slotsUsed } : State).setVm s₂.vm).setTop { g with pc := g.pc + len₂, stack := v.toList ++ g.stack } := by
      refine e3.trans ?_
      rw [hf₂, State.calling_eq h.top, State.setFrames_setFrames, State.setTop_of_frames _ hr', hr]
      rfl
    have hsame : U.sameButNew ({ U with heap := s₂.heap, slotsUsed := s₂.slotsUsed } : State) L mc ms := by
      refine ⟨?_, q2, q3, q4, q5, q6⟩
      obtain ⟨t, ht, -⟩ := State.frames_cons hr
      show ({ U with heap := s₂.heap, slotsUsed := s₂.slotsUsed } : State) = { U.setFrames U.frames with heap := s₂.heap, slotsUsed := s₂.slotsUsed }
      rw [State.setFrames_self ht]
    subst hg
    refine Or.inl ⟨v, ⟨(({ U with heap := s₂.heap, slotsUsed := s₂.slotsUsed } : State).setVm s₂.vm), Ls ++ L, c0 + mc, s0 + ms⟩,
      ⟨X.admits, X.cas, X.clock, X.frames, X.room, X.hears, X.method, X.code, (X.here.setHeapUsed s₂.heap s₂.slotsUsed).setVm hW'.alike, X.tail, State.WarmedH.trans X.warmed hW', X.limits, X.bytes, X.same.trans (hsame.setVm s.vm)⟩,
      ⟨g, mk, s₂, L, rfl, rfl, hqc, rfl, hL, rfl, rfl⟩, ?_⟩
    show Steps p.tables e below _ ((({ U with heap := s₂.heap, slotsUsed := s₂.slotsUsed } : State).setVm s₂.vm).setTop { g with pc := g.pc + len₂, stack := v.toList ++ g.stack })
    rw [← hs₂]
    exact hsteps
  · obtain ⟨e2, q2, q3, q4, q5, q6⟩ := id hsm
    have e3 : s₂ = ({ (U.calling g mk a).setFrames s₂.frames with heap := s₂.heap, slotsUsed := s₂.slotsUsed } : State).setVm s₂.vm := by
      have : s₂ = ({ s₂ with vm := (U.calling g mk a).vm } : State).setVm s₂.vm := rfl
      rw [e2] at this
      exact this
    have hf₂ : s₂.frames = .throwing q :: .java g :: U.frames.tail := hend
    have hW' : U.WarmedH s₂.vm := hW₂
    have hs₂ : s₂ = ((({ U with heap := s₂.heap, slotsUsed := s₂.slotsUsed } : State).setVm s₂.vm).setTop g).pushFrame (.throwing q) := by
      refine e3.trans ?_
      rw [hf₂, State.calling_eq h.top, State.setFrames_setFrames, State.pushFrame, State.frames_setTop _ hr', State.setTop_of_frames _ hr', State.setFrames_setFrames, hr]
      rfl
    have hsame : U.sameButNew ({ U with heap := s₂.heap, slotsUsed := s₂.slotsUsed } : State) L mc ms := by
      refine ⟨?_, q2, q3, q4, q5, q6⟩
      obtain ⟨t, ht, -⟩ := State.frames_cons hr
      show ({ U with heap := s₂.heap, slotsUsed := s₂.slotsUsed } : State) = { U.setFrames U.frames with heap := s₂.heap, slotsUsed := s₂.slotsUsed }
      rw [State.setFrames_self ht]
    subst hg
    refine Or.inr ⟨q, ⟨(({ U with heap := s₂.heap, slotsUsed := s₂.slotsUsed } : State).setVm s₂.vm), Ls ++ L, c0 + mc, s0 + ms⟩,
      ⟨X.admits, X.cas, X.clock, X.frames, X.room, X.hears, X.method, X.code, (X.here.setHeapUsed s₂.heap s₂.slotsUsed).setVm hW'.alike, X.tail, State.WarmedH.trans X.warmed hW', X.limits, X.bytes, X.same.trans (hsame.setVm s.vm)⟩,
      ⟨g, mk, s₂, L, E, ce, rfl, rfl, hx, hce, hcv, hcl, rfl, hL, rfl, rfl⟩, ?_⟩
    show Steps p.tables e below _ (((({ U with heap := s₂.heap, slotsUsed := s₂.slotsUsed } : State).setVm s₂.vm).setTop g).pushFrame (.throwing q))
    rw [← hs₂]
    exact hsteps
end
variable {p : Program} {l : Launch} {e : Env} {R : Room} {s : State} {m : MethodId} {args : Array Value} {below : List Frame} {meth : Method} {c : Code} {T : State} {H : Heap} {locs : List Loc} {cells slots : Nat}
theorem vx_callVX (X : Stand p l e R s m args below meth c T locs cells slots) (hexec : p.tables.exec = Jvm.exec) {own C : String} {index : Nat} {y : MethodName} {bytes : ByteArray} {maxL : Nat} {ret : Option FieldType} {hh : List (Nat × Nat × Nat × Nat)}
    (hown : s.vm.findClass own = some m.cls) (hlink : (Cond.methodLink own index y).before args s = true) (hinst : (Cond.instanceMethod y).before args s = true) (hsel : (Cond.selects C y y).before args s = true)
    (hcode : (Cond.codeWith y bytes maxL ret hh).before args s = true) (hy : y.cls ≠ "java/lang/invoke/MethodHandle" ∧ y.cls ≠ "java/lang/invoke/VarHandle")
    {W9 : Nat} {Pre : Pt → Array Value → Prop} {Post : Pt → Array Value → Option Value → Pt → Prop} {PostX : Pt → Array Value → Addr → Pt → Prop} (hK : vx_Back l R p e below s args y 3 W9 Pre Post PostX)
    {b : Addr} {cellB : Cell} (hcell : T.heap[b]? = some cellB) (hobj : cellB.vm.isStatics = false) (hcls : s.vm.findClass C = some cellB.cls)
    {g : JFrame} (hg : g.method = m) (hsize : g.locals.size = c.maxLocals) {argsL rest : List Value} (hlen : ∀ sig, parseMethodDescriptor y.desc = some sig → argsL.length = sig.parameters.length)
    (hstack : g.stack = argsL.reverse ++ .ref b :: rest) (hW : 2 * g.monitorRoom + (rest.map fun v => v.category).sum ≤ W9) (hdg : decode c.code g.pc = .ok (.invokevirtual index, 3))
    (hpre : ∀ vm₁, s.WarmedH vm₁ → Pre ⟨T.setVm vm₁, locs, cells, slots⟩ (Value.ref b :: argsL).toArray) :
    (∃ (v : Option Value) (vm₁ : Vm) (B : Pt), s.WarmedH vm₁ ∧ Stand p l e R s m args below meth c B.U B.locs B.cells B.slots ∧ Post ⟨T.setVm vm₁, locs, cells, slots⟩ (Value.ref b :: argsL).toArray v B ∧
      ∀ target, Steps p.tables e below (B.U.setTop { g with pc := g.pc + 3, stack := v.toList ++ rest }) target → Steps p.tables e below (T.setTop g) target) ∨
    (∃ (q : Addr) (vm₁ : Vm) (B : Pt), s.WarmedH vm₁ ∧ Stand p l e R s m args below meth c B.U B.locs B.cells B.slots ∧ PostX ⟨T.setVm vm₁, locs, cells, slots⟩ (Value.ref b :: argsL).toArray q B ∧
      Steps p.tables e below (T.setTop g) ((B.U.setTop { g with stack := rest }).pushFrame (.throwing q))) := by
  obtain ⟨mk, methM, hnamed, hmethM, hstM, habM⟩ := Cond.instanceMethod_spec hinst
  obtain ⟨m8, methM', cM, hn8, hmethM', -, -, -, -, -, -, hsigM⟩ := Cond.codeWith_spec hcode
  cases Option.some.inj (hn8.symm.trans hnamed)
  cases hmethM.symm.trans hmethM'
  obtain ⟨c2, r2, m2, q1, q2, q3, q4, kP, hkP, hkPi⟩ := Cond.selects_spec hsel
  cases hcls.symm.trans q1
  cases (State.methodFound?_of_named hnamed hy).symm.trans q2
  cases hnamed.symm.trans q3
  have hselP : selectMethod e.platform s.vm cellB.cls mk = .method mk := by rw [Launch.admits_selectMethod X.admits]; exact q4
  obtain ⟨vm₁, X₁, hstep₁⟩ := X.invokevirtual hexec hown hlink hnamed hmethM hstM hkP hkPi hy (a := b) (cell := cellB) hcell
    (fun z h => by rw [h] at hobj; cases hobj) hselP hmethM habM hkP hkPi (g := g) hg (argsL := argsL) (rest := rest) (hlen _ hsigM) hstack hdg
  rcases hK m meth c ⟨T.setVm vm₁, locs, cells, slots⟩ { g with stack := rest } (.invokevirtual index) mk (Value.ref b :: argsL).toArray X₁ hg hsize hdg hW (X₁.named hnamed) (hpre vm₁ X₁.warmed) with ⟨v, B, X', hpost, hsteps⟩ | ⟨q, B, X', hpost, hsteps⟩
  · exact Or.inl ⟨v, vm₁, B, X₁.warmed, X', hpost, fun target h => hstep₁ _ fun acts => by rw [doInvoke_state]; exact hsteps.trans h⟩
  · exact Or.inr ⟨q, vm₁, B, X₁.warmed, X', hpost, hstep₁ _ fun acts => by rw [doInvoke_state]; exact hsteps⟩
theorem vx_callSX (X : Stand p l e R s m args below meth c T locs cells slots) (hexec : p.tables.exec = Jvm.exec) {own : String} {index : Nat} {y : MethodName} {bytes : ByteArray} {maxL : Nat} {ret : Option FieldType} {hh : List (Nat × Nat × Nat × Nat)}
    (hown : s.vm.findClass own = some m.cls) (hlink : (Cond.methodLink own index y).before args s = true) (hstat : (Cond.static y).before args s = true) (hinit : (Cond.initialized y.cls).before args s = true)
    (hcode : (Cond.codeWith y bytes maxL ret hh).before args s = true) (hy : y.cls ≠ "java/lang/invoke/MethodHandle" ∧ y.cls ≠ "java/lang/invoke/VarHandle")
    {W9 : Nat} {Pre : Pt → Array Value → Prop} {Post : Pt → Array Value → Option Value → Pt → Prop} {PostX : Pt → Array Value → Addr → Pt → Prop} (hK : vx_Back l R p e below s args y 3 W9 Pre Post PostX)
    {g : JFrame} (hg : g.method = m) (hsize : g.locals.size = c.maxLocals) {argsL rest : List Value} (hlen : ∀ sig, parseMethodDescriptor y.desc = some sig → argsL.length = sig.parameters.length)
    (hstack : g.stack = argsL.reverse ++ rest) (hW : 2 * g.monitorRoom + (rest.map fun v => v.category).sum ≤ W9) (hdg : decode c.code g.pc = .ok (.invokestatic index, 3))
    (hpre : ∀ vm₁, s.WarmedH vm₁ → Pre ⟨T.setVm vm₁, locs, cells, slots⟩ argsL.toArray) :
    (∃ (v : Option Value) (vm₁ : Vm) (B : Pt), s.WarmedH vm₁ ∧ Stand p l e R s m args below meth c B.U B.locs B.cells B.slots ∧ Post ⟨T.setVm vm₁, locs, cells, slots⟩ argsL.toArray v B ∧
      ∀ target, Steps p.tables e below (B.U.setTop { g with pc := g.pc + 3, stack := v.toList ++ rest }) target → Steps p.tables e below (T.setTop g) target) ∨
    (∃ (q : Addr) (vm₁ : Vm) (B : Pt), s.WarmedH vm₁ ∧ Stand p l e R s m args below meth c B.U B.locs B.cells B.slots ∧ PostX ⟨T.setVm vm₁, locs, cells, slots⟩ argsL.toArray q B ∧
      Steps p.tables e below (T.setTop g) ((B.U.setTop { g with stack := rest }).pushFrame (.throwing q))) := by
  obtain ⟨mk, methM, cM, hnamed, hmethM, -, -, -, -, -, -, hsigM⟩ := Cond.codeWith_spec hcode
  have hstatic : methM.isStatic = true := Cond.static_spec hnamed hmethM hstat
  obtain ⟨kP, hkP, -⟩ := className_of_methodNamed hnamed
  have hinitP : kP.init = .initialized := Cond.initialized_spec (findClass_of_methodNamed hnamed) hkP hinit
  obtain ⟨vm₁, X₁, hstep₁⟩ := X.invokestatic hexec hown hlink hnamed hmethM hstatic hkP hinitP hy (g := g) hg (argsL := argsL) (rest := rest) (hlen _ hsigM) hstack hdg
  rcases hK m meth c ⟨T.setVm vm₁, locs, cells, slots⟩ { g with stack := rest } (.invokestatic index) mk argsL.toArray X₁ hg hsize hdg hW (X₁.named hnamed) (hpre vm₁ X₁.warmed) with ⟨v, B, X', hpost, hsteps⟩ | ⟨q, B, X', hpost, hsteps⟩
  · exact Or.inl ⟨v, vm₁, B, X₁.warmed, X', hpost, fun target h => hstep₁ _ fun acts => by rw [doInvoke_state]; exact hsteps.trans h⟩
  · exact Or.inr ⟨q, vm₁, B, X₁.warmed, X', hpost, hstep₁ _ fun acts => by rw [doInvoke_state]; exact hsteps⟩
theorem vx_callVW (X : Stand p l e R s m args below meth c T locs cells slots) (hexec : p.tables.exec = Jvm.exec) {own C : String} {index : Nat} {y : MethodName} {bytes : ByteArray} {maxL : Nat} {ret : Option FieldType} {hh : List (Nat × Nat × Nat × Nat)}
    (hown : s.vm.findClass own = some m.cls) (hlink : (Cond.methodLink own index y).before args s = true) (hinst : (Cond.instanceMethod y).before args s = true) (hsel : (Cond.selects C y y).before args s = true)
    (hcode : (Cond.codeWith y bytes maxL ret hh).before args s = true) (hy : y.cls ≠ "java/lang/invoke/MethodHandle" ∧ y.cls ≠ "java/lang/invoke/VarHandle")
    {W9 : Nat} {Pre : Pt → Array Value → Prop} {Post : Pt → Array Value → Option Value → Pt → Prop} (hK : Back l R p e below s args y 3 W9 Pre Post)
    {b : Addr} {cellB : Cell} (hcell : T.heap[b]? = some cellB) (hobj : cellB.vm.isStatics = false) (hcls : s.vm.findClass C = some cellB.cls)
    {g : JFrame} (hg : g.method = m) (hsize : g.locals.size = c.maxLocals) {argsL rest : List Value} (hlen : ∀ sig, parseMethodDescriptor y.desc = some sig → argsL.length = sig.parameters.length)
    (hstack : g.stack = argsL.reverse ++ .ref b :: rest) (hW : 2 * g.monitorRoom + (rest.map fun v => v.category).sum ≤ W9) (hdg : decode c.code g.pc = .ok (.invokevirtual index, 3))
    (hpre : ∀ vm₁, s.WarmedH vm₁ → Pre ⟨T.setVm vm₁, locs, cells, slots⟩ (Value.ref b :: argsL).toArray) :
    ∃ (v : Option Value) (vm₁ : Vm) (B : Pt), s.WarmedH vm₁ ∧ Stand p l e R s m args below meth c B.U B.locs B.cells B.slots ∧ Post ⟨T.setVm vm₁, locs, cells, slots⟩ (Value.ref b :: argsL).toArray v B ∧
      ∀ target, Steps p.tables e below (B.U.setTop { g with pc := g.pc + 3, stack := v.toList ++ rest }) target → Steps p.tables e below (T.setTop g) target := by
  obtain ⟨mk, methM, hnamed, hmethM, hstM, habM⟩ := Cond.instanceMethod_spec hinst
  obtain ⟨m8, methM', cM, hn8, hmethM', -, -, -, -, -, -, hsigM⟩ := Cond.codeWith_spec hcode
  cases Option.some.inj (hn8.symm.trans hnamed)
  cases hmethM.symm.trans hmethM'
  obtain ⟨c2, r2, m2, q1, q2, q3, q4, kP, hkP, hkPi⟩ := Cond.selects_spec hsel
  cases hcls.symm.trans q1
  cases (State.methodFound?_of_named hnamed hy).symm.trans q2
  cases hnamed.symm.trans q3
  have hselP : selectMethod e.platform s.vm cellB.cls mk = .method mk := by rw [Launch.admits_selectMethod X.admits]; exact q4
  obtain ⟨vm₁, X₁, hstep₁⟩ := X.invokevirtual hexec hown hlink hnamed hmethM hstM hkP hkPi hy (a := b) (cell := cellB) hcell
    (fun z h => by rw [h] at hobj; cases hobj) hselP hmethM habM hkP hkPi (g := g) hg (argsL := argsL) (rest := rest) (hlen _ hsigM) hstack hdg
  obtain ⟨v, B, X', hpost, hsteps⟩ := hK m meth c ⟨T.setVm vm₁, locs, cells, slots⟩ { g with stack := rest } (.invokevirtual index) mk (Value.ref b :: argsL).toArray X₁ hg hsize hdg hW (X₁.named hnamed) (hpre vm₁ X₁.warmed)
  exact ⟨v, vm₁, B, X₁.warmed, X', hpost, fun target h => hstep₁ _ fun acts => by rw [doInvoke_state]; exact hsteps.trans h⟩
abbrev vx_CVW (R : Room) (s : State) (args : Array Value) (own C : String) (index : Nat) (y : MethodName) (bytes : ByteArray) (maxL : Nat) (ret : Option FieldType) (hh : List (Nat × Nat × Nat × Nat)) (ws : List Cond) (rm : Room) (mc ms n : Nat) : Prop :=
  (rm.cells = mc ∧ rm.slots = ms ∧ rm.frames + 1 ≤ R.frames ∧ 8 + (maxL + 11) + rm.locals ≤ R.locals ∧ (∀ w ∈ ws, ∀ (a' : Array Value) (U : State), s.WarmedH U.vm → w.before a' U = true) ∧ Cond.codeWith y bytes maxL ret hh ∈ ws) ∧
  (Cond.codeWith y bytes maxL ret hh).before args s = true ∧ (Cond.initialized y.cls).before args s = true ∧ (y.cls ≠ "java/lang/invoke/MethodHandle" ∧ y.cls ≠ "java/lang/invoke/VarHandle") ∧
  (∀ sig, parseMethodDescriptor y.desc = some sig → n = sig.parameters.length) ∧ (Cond.methodLink own index y).before args s = true ∧ (Cond.instanceMethod y).before args s = true ∧ (Cond.selects C y y).before args s = true
theorem vx_cwVW {own C : String} {index maxL mc ms : Nat} {y : MethodName} {bytes : ByteArray} {ret : Option FieldType} {hh : List (Nat × Nat × Nat × Nat)} {Ts ws ws' : List Cond} {rm : Room} (n : Nat) (ht : ∀ w ∈ Ts, w.before args s = true) (hT : GoodIn Ts (wsV own index C y ws)) (hw : ws = Cond.codeWith y bytes maxL ret hh :: ws') (hrc : rm.cells = mc) (hrs : rm.slots = ms)
    (hd : y.cls = C ∧ y.cls ≠ "java/lang/invoke/MethodHandle" ∧ y.cls ≠ "java/lang/invoke/VarHandle" ∧ (parseMethodDescriptor y.desc).map (fun d => d.parameters.length) = some n) (hR : rm.frames + 1 ≤ R.frames ∧ 8 + (maxL + 11) + rm.locals ≤ R.locals) :
    vx_CVW R s args own C index y bytes maxL ret hh ws rm mc ms n := by
  obtain ⟨hC, hd⟩ := hd
  subst hC
  have ok : ∀ w ∈ wsV own index y.cls y ws, w.before args s = true := fun w h => ht w (hT w h).1
  have hG : GoodIn Ts ws := fun w h => hT w (by unfold wsV; exact List.mem_append_right _ h)
  have hc : Cond.codeWith y bytes maxL ret hh ∈ ws := by rw [hw]; exact List.mem_cons_self
  refine ⟨⟨hrc, hrs, hR.1, hR.2, pay_in ht hG, hc⟩, ht _ (hG _ hc).1, ok _ (by simp [wsV]), ⟨hd.1, hd.2.1⟩, fun sig h => ?_, ok _ (by simp [wsV]), ok _ (by simp [wsV]), ok _ (by simp [wsV])⟩
  have h2 := hd.2.2
  rw [h] at h2
  exact (Option.some.inj h2).symm
theorem vx_runVW {y : MethodName} {bytes cc : ByteArray} {maxL nL mc ms n index : Nat} {ret : Option FieldType} {hh : List (Nat × Nat × Nat × Nat)} {ws : List Cond} {rm : Room} {Pc : Array Value → State → Prop} {Qc : Array Value → State → Outcome → State → Prop} {free : Addr → Prop} {Ts : List Cond} {own C : String} {b : Addr} {As rest : List Value} {g : JFrame}
    (S : CallFix p m c cc nL s args Ts own) (hM : Met l y ws rm Pc Qc mc ms free) (cw : vx_CVW R s args own C index y bytes maxL ret hh ws rm mc ms n) (hp : PreV s H C b Pc As)
    (hg : g.method = m) (hn : As.length = n) (hsize : g.locals.size = nL) (hstack : g.stack = As.reverse ++ .ref b :: rest) (hW : 2 * g.monitorRoom + (rest.map fun v => v.category).sum ≤ 8) (hdg : decode cc g.pc = .ok (.invokevirtual index, 3)) (hf : cells + mc ≤ R.cells ∧ slots + ms ≤ R.slots) :
    va_Run p l e R s m args below meth c H locs cells slots mc ms g rest (Qc (Value.ref b :: As).toArray) free := by
  obtain ⟨⟨hrc, hrs, hfr, hlo, hws, hcw⟩, hcode, hini, hy, hlen, hl, hin, hse⟩ := cw
  have hK : Back l R p e below s args y 3 8 (PreOf R mc ms Pc) (PostOf Qc mc ms free) := va_backW (hh := hh) (bytes := bytes) (maxL := maxL) (ret := ret) hM hp.1 hrc hrs hfr hlo hws hcw (fun a' U hW => word_at hW (Or.inl (by first | rfl | simp [Cond.onTables, Cond.keeps, Cond.steady])) hini)
  obtain ⟨hx, hb, hml, ho, -⟩ := S
  obtain ⟨-, ⟨cellB, hcB, hoB, hclB⟩, hPc⟩ := hp
  intro T hT X
  obtain ⟨v, vm₁, ⟨U', l2, c2, s2⟩, hW₁, X', ⟨g', mk, t, L, e1, e2, hq, h1, hL, h2, h3⟩, st⟩ := vx_callVW X hx (C := C) (hh := hh) (bytes := bytes) (maxL := maxL) (ret := ret) ho hl hin hse hcode hy hK (by rw [hT]; exact hcB) hoB hclB hg (hsize.trans hml.symm) (argsL := As) (rest := rest) (fun sig h => hn.trans (hlen sig h)) hstack hW (by rw [hb]; exact hdg)
    (fun vm₁ hW₁ => ⟨hf.1, hf.2, hPc (T.setVm vm₁) hT hW₁⟩)
  dsimp only [Pt.U, Pt.locs, Pt.cells, Pt.slots] at X' e1 e2 h1 h2 h3 st
  subst h1; subst h2; subst h3
  exact ⟨v, (T.setVm vm₁).calling g' mk (Value.ref b :: As).toArray, t, U', L, hT, X', hL, e1, e2, hq, st⟩
section
variable {y : MethodName} {bytes cc : ByteArray} {maxL nL mc ms n index : Nat} {ret : Option FieldType} {ws : List Cond} {rm : Room} {Pc : Array Value → State → Prop} {Qc : Array Value → State → Outcome → State → Prop} {XC : String → State → State → Prop} {free : Addr → Prop} {Ts : List Cond} {own C : String} {b : Addr} {As rest : List Value} {g : JFrame}
theorem vx_runVX {hh : List (Nat × Nat × Nat × Nat)} (S : CallFix p m c cc nL s args Ts own) (hM : vx_Met l y ws rm Pc Qc XC mc ms free) (cw : vx_CVW R s args own C index y bytes maxL ret hh ws rm mc ms n) (hp : PreV s H C b Pc As)
    (hg : g.method = m) (hn : As.length = n) (hsize : g.locals.size = nL) (hstack : g.stack = As.reverse ++ .ref b :: rest) (hW : 2 * g.monitorRoom + (rest.map fun v => v.category).sum ≤ 8) (hdg : decode cc g.pc = .ok (.invokevirtual index, 3)) (hf : cells + mc ≤ R.cells ∧ slots + ms ≤ R.slots) :
    vx_Run p l e R s m args below meth c H locs cells slots mc ms g rest (Qc (Value.ref b :: As).toArray) XC free := by
  obtain ⟨⟨hrc, hrs, hfr, hlo, hws, hcw⟩, hcode, hini, hy, hlen, hl, hin, hse⟩ := cw
  have hK : vx_Back l R p e below s args y 3 8 (PreOf R mc ms Pc) (PostOf Qc mc ms free) (vx_Post XC mc ms free) := vx_backW (hh := hh) (bytes := bytes) (maxL := maxL) (ret := ret) hM hp.1 hrc hrs hfr hlo hws hcw (fun a' U hW => word_at hW (Or.inl (by first | rfl | simp [Cond.onTables, Cond.keeps, Cond.steady])) hini)
  obtain ⟨hx, hb, hml, ho, -⟩ := S
  obtain ⟨-, ⟨cellB, hcB, hoB, hclB⟩, hPc⟩ := hp
  intro T hT X
  rcases vx_callVX X hx (C := C) (hh := hh) (bytes := bytes) (maxL := maxL) (ret := ret) ho hl hin hse hcode hy hK (by rw [hT]; exact hcB) hoB hclB hg (hsize.trans hml.symm) (argsL := As) (rest := rest) (fun sig h => hn.trans (hlen sig h)) hstack hW (by rw [hb]; exact hdg)
    (fun vm₁ hW₁ => ⟨hf.1, hf.2, hPc (T.setVm vm₁) hT hW₁⟩) with ⟨v, vm₁, ⟨U', l2, c2, s2⟩, hW₁, X', ⟨g', mk, t, L, e1, e2, hq, h1, hL, h2, h3⟩, st⟩ | ⟨q, vm₁, ⟨U', l2, c2, s2⟩, hW₁, X', ⟨g', mk, t, L, E, ce, e1, e2, hq, hce, hcv, hcl, h1, hL, h2, h3⟩, st⟩
  · dsimp only [Pt.U, Pt.locs, Pt.cells, Pt.slots] at X' e1 e2 h1 h2 h3 st
    subst h1; subst h2; subst h3
    exact Or.inl ⟨v, (T.setVm vm₁).calling g' mk (Value.ref b :: As).toArray, t, U', L, hT, X', hL, e1, e2, hq, st⟩
  · dsimp only [Pt.U, Pt.locs, Pt.cells, Pt.slots] at X' e1 e2 h1 h2 h3 st hcl
    subst h1; subst h2; subst h3
    exact Or.inr ⟨q, (T.setVm vm₁).calling g' mk (Value.ref b :: As).toArray, t, U', L, E, ce, hT, X', hL, e1, e2, hq, hce, hcv, vx_cls hW₁ hcl, st⟩
theorem vx_runSX {hh : List (Nat × Nat × Nat × Nat)} (S : CallFix p m c cc nL s args Ts own) (hM : vx_Met l y ws rm Pc Qc XC mc ms free) (cw : vx_CSW R s args own index y bytes maxL ret hh ws rm mc ms n) (hp : PreS s H Pc As)
    (hg : g.method = m) (hn : As.length = n) (hsize : g.locals.size = nL) (hstack : g.stack = As.reverse ++ rest) (hW : 2 * g.monitorRoom + (rest.map fun v => v.category).sum ≤ 8) (hdg : decode cc g.pc = .ok (.invokestatic index, 3)) (hf : cells + mc ≤ R.cells ∧ slots + ms ≤ R.slots) :
    vx_Run p l e R s m args below meth c H locs cells slots mc ms g rest (Qc As.toArray) XC free := by
  obtain ⟨⟨hrc, hrs, hfr, hlo, hws, hcw⟩, hcode, hini, hy, hlen, hl, hstt⟩ := cw
  have hK : vx_Back l R p e below s args y 3 8 (PreOf R mc ms Pc) (PostOf Qc mc ms free) (vx_Post XC mc ms free) := vx_backW (hh := hh) (bytes := bytes) (maxL := maxL) (ret := ret) hM hp.1 hrc hrs hfr hlo hws hcw (fun a' U hW => word_at hW (Or.inl (by first | rfl | simp [Cond.onTables, Cond.keeps, Cond.steady])) hini)
  obtain ⟨hx, hb, hml, ho, -⟩ := S
  intro T hT X
  rcases vx_callSX X hx (hh := hh) (bytes := bytes) (maxL := maxL) (ret := ret) ho hl hstt hini hcode hy hK hg (hsize.trans hml.symm) (argsL := As) (rest := rest) (fun sig h => hn.trans (hlen sig h)) hstack hW (by rw [hb]; exact hdg)
    (fun vm₁ hW₁ => ⟨hf.1, hf.2, hp.2 (T.setVm vm₁) hT hW₁⟩) with ⟨v, vm₁, ⟨U', l2, c2, s2⟩, hW₁, X', ⟨g', mk, t, L, e1, e2, hq, h1, hL, h2, h3⟩, st⟩ | ⟨q, vm₁, ⟨U', l2, c2, s2⟩, hW₁, X', ⟨g', mk, t, L, E, ce, e1, e2, hq, hce, hcv, hcl, h1, hL, h2, h3⟩, st⟩
  · dsimp only [Pt.U, Pt.locs, Pt.cells, Pt.slots] at X' e1 e2 h1 h2 h3 st
    subst h1; subst h2; subst h3
    exact Or.inl ⟨v, (T.setVm vm₁).calling g' mk As.toArray, t, U', L, hT, X', hL, e1, e2, hq, st⟩
  · dsimp only [Pt.U, Pt.locs, Pt.cells, Pt.slots] at X' e1 e2 h1 h2 h3 st hcl
    subst h1; subst h2; subst h3
    exact Or.inr ⟨q, (T.setVm vm₁).calling g' mk As.toArray, t, U', L, E, ce, hT, X', hL, e1, e2, hq, hce, hcv, vx_cls hW₁ hcl, st⟩
end
end VXH
theorem vx_ofWH {l : Launch} {y : MethodName} {ws ws' : List Cond} {rm : Room} {Pc : Array Value → State → Prop} {Qc : Array Value → State → Outcome → State → Prop} {XC : String → State → State → Prop} {mc ms : Nat} {free : Addr → Prop} {cc : ByteArray} {maxL : Nat} {ret : Option FieldType} {hh : List (Nat × Nat × Nat × Nat)}
    (hy : plainName y.cls = true) (hw : ws = Cond.codeWith y cc maxL ret hh :: ws')
    (body : ∀ p e s m args below meth c s₁, BodyLoose p l y (headSpec ws rm) cc maxL ret e s m args below meth c s₁ → c.maxLocals = maxL → Pc args s →
      W p l e (headSpec ws rm).room s m args below meth c s.heap [] 0 0 (vx_MQ below Qc XC args s mc ms free) (entryFrame m args maxL)) : vx_Met l y ws rm Pc Qc XC mc ms free := by
  refine MetFree.of_bodyS (code := cc) (maxLocals := maxL) (ret := ret) hy ?_ ?_
  · intro args s m h hn
    obtain ⟨m9, meth, c, hn9, h1, h2, h3, h4, -, h5, h6, -⟩ := Cond.codeWith_spec (atoms_spec (ws := ws) h _ (by rw [hw]; exact List.mem_cons_self))
    cases hn.symm.trans hn9
    exact ⟨meth, c, h1, h2, h3, h4, h5, h6⟩
  · intro p e s m args below meth c s₁ B hml hP _
    have hh0 : s₁.heap = s.heap := by rw [B.state]; rfl
    obtain ⟨t, a1, o, b1, b2, b3⟩ := body p e s m args below meth c s₁ B hml hP s₁ hh0 (Stand.of_body B)
    exact ⟨t, o, a1, b1, b2, b3⟩
/-! ===== END ===== -/
end
section
/-! ===== BEGIN printed: names, fields, word lists, decode rows ===== -/
def RX0 : String := "FlowNetwork$Cuts"
def TX0 : u_T := fun k => match k with
  | 0 => ("FlowNetwork$Cuts", "count", "I", false)
  | 1 => ("FlowNetwork$Cuts", "masks", "[I", true)
  | _ => ("FlowNetwork$Cuts", "reachable", "[I", true)
def tyX0 : Nat → FieldType := fun k => match k with
  | 0 => .int
  | 1 => .array .int
  | _ => .array .int
abbrev wsX00 : List Cond := u_ws RX0 TX0 3
theorem nmX0 : ∀ a, a < 3 → ∀ b, b < 3 → a ≠ b → (TX0 a).2.1 ≠ (TX0 b).2.1 := by decide +kernel
theorem tyX0_ok : ∀ k, k < 3 → parseFieldDescriptor (TX0 k).2.2.1 = some (tyX0 k) := by decide +kernel
abbrev cX0_init : ByteArray := prog_2_method_1_code
def yX0_init : MethodName := ⟨RX0, "<init>", "()V"⟩
abbrev cX0_find : ByteArray := prog_2_method_2_code
def yX0_find : MethodName := ⟨RX0, "find", "(LFlowNetwork$MaximumFlow;)V"⟩
abbrev cX0_nextAfter : ByteArray := prog_2_method_3_code
def yX0_nextAfter : MethodName := ⟨RX0, "nextAfter", "(III)I"⟩
abbrev cX0_withReachable : ByteArray := prog_2_method_4_code
def yX0_withReachable : MethodName := ⟨RX0, "withReachable", "(II)I"⟩
def RX1 : String := "FlowNetwork$Flow"
def TX1 : u_T := fun k => match k with
  | 0 => ("FlowNetwork$Flow", "network", "LFlowNetwork$Network;", true)
  | 1 => ("FlowNetwork$Flow", "capacity", "[I", true)
  | _ => ("FlowNetwork$Flow", "amount", "[I", true)
def tyX1 : Nat → FieldType := fun k => match k with
  | 0 => .object "FlowNetwork$Network"
  | 1 => .array .int
  | _ => .array .int
abbrev wsX10 : List Cond := u_ws RX1 TX1 3
theorem nmX1 : ∀ a, a < 3 → ∀ b, b < 3 → a ≠ b → (TX1 a).2.1 ≠ (TX1 b).2.1 := by decide +kernel
theorem tyX1_ok : ∀ k, k < 3 → parseFieldDescriptor (TX1 k).2.2.1 = some (tyX1 k) := by decide +kernel
abbrev cX1_init : ByteArray := prog_3_method_1_code
def yX1_init : MethodName := ⟨RX1, "<init>", "(LFlowNetwork$Network;)V"⟩
abbrev cX1_copy : ByteArray := prog_3_method_2_code
def yX1_copy : MethodName := ⟨RX1, "copy", "(LFlowNetwork$Flow;)V"⟩
abbrev cX1_block : ByteArray := prog_3_method_3_code
def yX1_block : MethodName := ⟨RX1, "block", "(I)V"⟩
abbrev cX1_room : ByteArray := prog_3_method_4_code
def yX1_room : MethodName := ⟨RX1, "room", "(II)I"⟩
abbrev cX1_send : ByteArray := prog_3_method_5_code
def yX1_send : MethodName := ⟨RX1, "send", "(III)V"⟩
abbrev cX1_reachableFrom : ByteArray := prog_3_method_6_code
def yX1_reachableFrom : MethodName := ⟨RX1, "reachableFrom", "(I)I"⟩
abbrev cX1_withNeighbours : ByteArray := prog_3_method_7_code
def yX1_withNeighbours : MethodName := ⟨RX1, "withNeighbours", "(I)I"⟩
abbrev cX1_capacityOut : ByteArray := prog_3_method_8_code
def yX1_capacityOut : MethodName := ⟨RX1, "capacityOut", "(I)I"⟩
def RX2 : String := "FlowNetwork$Levels"
def TX2 : u_T := fun k => match k with
  | 0 => ("FlowNetwork$Levels", "count", "I", false)
  | 1 => ("FlowNetwork$Levels", "capacity", "[[I", true)
  | 2 => ("FlowNetwork$Levels", "source", "[I", true)
  | _ => ("FlowNetwork$Levels", "sink", "[I", true)
def tyX2 : Nat → FieldType := fun k => match k with
  | 0 => .int
  | 1 => .array (.array .int)
  | 2 => .array .int
  | _ => .array .int
abbrev wsX20 : List Cond := u_ws RX2 TX2 4
theorem nmX2 : ∀ a, a < 4 → ∀ b, b < 4 → a ≠ b → (TX2 a).2.1 ≠ (TX2 b).2.1 := by decide +kernel
theorem tyX2_ok : ∀ k, k < 4 → parseFieldDescriptor (TX2 k).2.2.1 = some (tyX2 k) := by decide +kernel
abbrev cX2_init : ByteArray := prog_4_method_1_code
def yX2_init : MethodName := ⟨RX2, "<init>", "()V"⟩
abbrev cX2_store : ByteArray := prog_4_method_2_code
def yX2_store : MethodName := ⟨RX2, "store", "(LFlowNetwork$MaximumFlow;)V"⟩
def RX3 : String := "FlowNetwork$MaximumFlow"
def TX3 : u_T := fun k => match k with
  | 0 => ("FlowNetwork$MaximumFlow", "network", "LFlowNetwork$Network;", true)
  | 1 => ("FlowNetwork$MaximumFlow", "flow", "LFlowNetwork$Flow;", true)
  | 2 => ("FlowNetwork$MaximumFlow", "router", "LFlowNetwork$Router;", true)
  | 3 => ("FlowNetwork$MaximumFlow", "source", "I", false)
  | 4 => ("FlowNetwork$MaximumFlow", "sink", "I", false)
  | _ => ("FlowNetwork$MaximumFlow", "settled", "Z", false)
def tyX3 : Nat → FieldType := fun k => match k with
  | 0 => .object "FlowNetwork$Network"
  | 1 => .object "FlowNetwork$Flow"
  | 2 => .object "FlowNetwork$Router"
  | 3 => .int
  | 4 => .int
  | _ => .boolean
abbrev wsX30 : List Cond := u_ws RX3 TX3 6
theorem nmX3 : ∀ a, a < 6 → ∀ b, b < 6 → a ≠ b → (TX3 a).2.1 ≠ (TX3 b).2.1 := by decide +kernel
theorem tyX3_ok : ∀ k, k < 6 → parseFieldDescriptor (TX3 k).2.2.1 = some (tyX3 k) := by decide +kernel
abbrev cX3_init : ByteArray := prog_5_method_1_code
def yX3_init : MethodName := ⟨RX3, "<init>", "(LFlowNetwork$Network;)V"⟩
abbrev cX3_hasEnds : ByteArray := prog_5_method_2_code
def yX3_hasEnds : MethodName := ⟨RX3, "hasEnds", "()Z"⟩
abbrev cX3_copy : ByteArray := prog_5_method_3_code
def yX3_copy : MethodName := ⟨RX3, "copy", "(LFlowNetwork$MaximumFlow;)V"⟩
abbrev cX3_chooseEnds : ByteArray := prog_5_method_4_code
def yX3_chooseEnds : MethodName := ⟨RX3, "chooseEnds", "(II)Z"⟩
abbrev cX3_changeCapacity : ByteArray := prog_5_method_5_code
def yX3_changeCapacity : MethodName := ⟨RX3, "changeCapacity", "(II)V"⟩
abbrev cX3_moveAway : ByteArray := prog_5_method_6_code
def yX3_moveAway : MethodName := ⟨RX3, "moveAway", "(III)V"⟩
abbrev cX3_settle : ByteArray := prog_5_method_7_code
def yX3_settle : MethodName := ⟨RX3, "settle", "()V"⟩
abbrev cX3_greatestValue : ByteArray := prog_5_method_8_code
def yX3_greatestValue : MethodName := ⟨RX3, "greatestValue", "()I"⟩
abbrev cX3_smallestMask : ByteArray := prog_5_method_9_code
def yX3_smallestMask : MethodName := ⟨RX3, "smallestMask", "()I"⟩
abbrev cX3_greatestMask : ByteArray := prog_5_method_10_code
def yX3_greatestMask : MethodName := ⟨RX3, "greatestMask", "()I"⟩
def RX4 : String := "FlowNetwork$Network"
def TX4 : u_T := fun k => match k with
  | 0 => ("FlowNetwork$Network", "nodes", "I", false)
  | 1 => ("FlowNetwork$Network", "arcs", "I", false)
  | 2 => ("FlowNetwork$Network", "tail", "[I", true)
  | 3 => ("FlowNetwork$Network", "head", "[I", true)
  | 4 => ("FlowNetwork$Network", "degree", "[I", true)
  | _ => ("FlowNetwork$Network", "arcsAt", "[[I", true)
def tyX4 : Nat → FieldType := fun k => match k with
  | 0 => .int
  | 1 => .int
  | 2 => .array .int
  | 3 => .array .int
  | 4 => .array .int
  | _ => .array (.array .int)
abbrev wsX40 : List Cond := u_ws RX4 TX4 6
theorem nmX4 : ∀ a, a < 6 → ∀ b, b < 6 → a ≠ b → (TX4 a).2.1 ≠ (TX4 b).2.1 := by decide +kernel
theorem tyX4_ok : ∀ k, k < 6 → parseFieldDescriptor (TX4 k).2.2.1 = some (tyX4 k) := by decide +kernel
abbrev cX4_init : ByteArray := prog_6_method_1_code
def yX4_init : MethodName := ⟨RX4, "<init>", "()V"⟩
abbrev cX4_makeNode : ByteArray := prog_6_method_2_code
def yX4_makeNode : MethodName := ⟨RX4, "makeNode", "()I"⟩
abbrev cX4_makeArc : ByteArray := prog_6_method_3_code
def yX4_makeArc : MethodName := ⟨RX4, "makeArc", "(II)I"⟩
abbrev cX4_attach : ByteArray := prog_6_method_4_code
def yX4_attach : MethodName := ⟨RX4, "attach", "(II)V"⟩
abbrev cX4_otherEnd : ByteArray := prog_6_method_5_code
def yX4_otherEnd : MethodName := ⟨RX4, "otherEnd", "(II)I"⟩
abbrev cX4_allNodes : ByteArray := prog_6_method_6_code
def yX4_allNodes : MethodName := ⟨RX4, "allNodes", "()I"⟩
def RX5 : String := "FlowNetwork$Router"
def TX5 : u_T := fun k => match k with
  | 0 => ("FlowNetwork$Router", "network", "LFlowNetwork$Network;", true)
  | 1 => ("FlowNetwork$Router", "flow", "LFlowNetwork$Flow;", true)
  | 2 => ("FlowNetwork$Router", "excess", "[I", true)
  | 3 => ("FlowNetwork$Router", "height", "[I", true)
  | 4 => ("FlowNetwork$Router", "queue", "[I", true)
  | 5 => ("FlowNetwork$Router", "start", "I", false)
  | _ => ("FlowNetwork$Router", "goal", "I", false)
def tyX5 : Nat → FieldType := fun k => match k with
  | 0 => .object "FlowNetwork$Network"
  | 1 => .object "FlowNetwork$Flow"
  | 2 => .array .int
  | 3 => .array .int
  | 4 => .array .int
  | 5 => .int
  | _ => .int
abbrev wsX50 : List Cond := u_ws RX5 TX5 7
theorem nmX5 : ∀ a, a < 7 → ∀ b, b < 7 → a ≠ b → (TX5 a).2.1 ≠ (TX5 b).2.1 := by decide +kernel
theorem tyX5_ok : ∀ k, k < 7 → parseFieldDescriptor (TX5 k).2.2.1 = some (tyX5 k) := by decide +kernel
abbrev cX5_init : ByteArray := prog_7_method_1_code
def yX5_init : MethodName := ⟨RX5, "<init>", "(LFlowNetwork$Network;LFlowNetwork$Flow;)V"⟩
abbrev cX5_route : ByteArray := prog_7_method_2_code
def yX5_route : MethodName := ⟨RX5, "route", "(III)I"⟩
abbrev cX5_setHeights : ByteArray := prog_7_method_3_code
def yX5_setHeights : MethodName := ⟨RX5, "setHeights", "()V"⟩
abbrev cX5_findBehind : ByteArray := prog_7_method_4_code
def yX5_findBehind : MethodName := ⟨RX5, "findBehind", "(II)I"⟩
abbrev cX5_sweepOnce : ByteArray := prog_7_method_5_code
def yX5_sweepOnce : MethodName := ⟨RX5, "sweepOnce", "()Z"⟩
abbrev cX5_isActive : ByteArray := prog_7_method_6_code
def yX5_isActive : MethodName := ⟨RX5, "isActive", "(I)Z"⟩
abbrev cX5_pushOut : ByteArray := prog_7_method_7_code
def yX5_pushOut : MethodName := ⟨RX5, "pushOut", "(I)V"⟩
abbrev cX5_lift : ByteArray := prog_7_method_8_code
def yX5_lift : MethodName := ⟨RX5, "lift", "(I)V"⟩
def RX6 : String := "FlowNetwork"
def TX6 : u_T := fun k => match k with
  | 0 => ("FlowNetwork", "network", "LFlowNetwork$Network;", true)
  | 1 => ("FlowNetwork", "current", "LFlowNetwork$MaximumFlow;", true)
  | 2 => ("FlowNetwork", "trial", "LFlowNetwork$MaximumFlow;", true)
  | 3 => ("FlowNetwork", "levels", "LFlowNetwork$Levels;", true)
  | _ => ("FlowNetwork", "cuts", "LFlowNetwork$Cuts;", true)
def tyX6 : Nat → FieldType := fun k => match k with
  | 0 => .object "FlowNetwork$Network"
  | 1 => .object "FlowNetwork$MaximumFlow"
  | 2 => .object "FlowNetwork$MaximumFlow"
  | 3 => .object "FlowNetwork$Levels"
  | _ => .object "FlowNetwork$Cuts"
abbrev wsX60 : List Cond := u_ws RX6 TX6 5
theorem nmX6 : ∀ a, a < 5 → ∀ b, b < 5 → a ≠ b → (TX6 a).2.1 ≠ (TX6 b).2.1 := by decide +kernel
theorem tyX6_ok : ∀ k, k < 5 → parseFieldDescriptor (TX6 k).2.2.1 = some (tyX6 k) := by decide +kernel
abbrev cX6_init : ByteArray := prog_1_method_1_code
def yX6_init : MethodName := ⟨RX6, "<init>", "()V"⟩
abbrev cX6_addNode : ByteArray := prog_1_method_2_code
def yX6_addNode : MethodName := ⟨RX6, "addNode", "()I"⟩
abbrev cX6_addArc : ByteArray := prog_1_method_3_code
def yX6_addArc : MethodName := ⟨RX6, "addArc", "(III)I"⟩
abbrev cX6_setCapacity : ByteArray := prog_1_method_4_code
def yX6_setCapacity : MethodName := ⟨RX6, "setCapacity", "(II)I"⟩
abbrev cX6_scale : ByteArray := prog_1_method_5_code
def yX6_scale : MethodName := ⟨RX6, "scale", "(ID)I"⟩
abbrev cX6_setEnds : ByteArray := prog_1_method_6_code
def yX6_setEnds : MethodName := ⟨RX6, "setEnds", "(II)Z"⟩
abbrev cX6_nodeCount : ByteArray := prog_1_method_7_code
def yX6_nodeCount : MethodName := ⟨RX6, "nodeCount", "()I"⟩
abbrev cX6_arcCount : ByteArray := prog_1_method_8_code
def yX6_arcCount : MethodName := ⟨RX6, "arcCount", "()I"⟩
abbrev cX6_capacity : ByteArray := prog_1_method_9_code
def yX6_capacity : MethodName := ⟨RX6, "capacity", "(I)I"⟩
abbrev cX6_maximum : ByteArray := prog_1_method_10_code
def yX6_maximum : MethodName := ⟨RX6, "maximum", "()I"⟩
abbrev cX6_maximumWith : ByteArray := prog_1_method_11_code
def yX6_maximumWith : MethodName := ⟨RX6, "maximumWith", "(II)I"⟩
abbrev cX6_maximumWithout : ByteArray := prog_1_method_12_code
def yX6_maximumWithout : MethodName := ⟨RX6, "maximumWithout", "(I)I"⟩
abbrev cX6_maximumBetween : ByteArray := prog_1_method_13_code
def yX6_maximumBetween : MethodName := ⟨RX6, "maximumBetween", "(II)I"⟩
abbrev cX6_utilization : ByteArray := prog_1_method_14_code
def yX6_utilization : MethodName := ⟨RX6, "utilization", "()D"⟩
abbrev cX6_leastFlow : ByteArray := prog_1_method_15_code
def yX6_leastFlow : MethodName := ⟨RX6, "leastFlow", "(I)I"⟩
abbrev cX6_greatestFlow : ByteArray := prog_1_method_16_code
def yX6_greatestFlow : MethodName := ⟨RX6, "greatestFlow", "(I)I"⟩
abbrev cX6_cutCapacity : ByteArray := prog_1_method_17_code
def yX6_cutCapacity : MethodName := ⟨RX6, "cutCapacity", "(I)I"⟩
abbrev cX6_smallestCut : ByteArray := prog_1_method_18_code
def yX6_smallestCut : MethodName := ⟨RX6, "smallestCut", "()I"⟩
abbrev cX6_greatestCut : ByteArray := prog_1_method_19_code
def yX6_greatestCut : MethodName := ⟨RX6, "greatestCut", "()I"⟩
abbrev cX6_findCuts : ByteArray := prog_1_method_20_code
def yX6_findCuts : MethodName := ⟨RX6, "findCuts", "()I"⟩
abbrev cX6_cut : ByteArray := prog_1_method_21_code
def yX6_cut : MethodName := ⟨RX6, "cut", "(I)I"⟩
abbrev cX6_isBottleneck : ByteArray := prog_1_method_22_code
def yX6_isBottleneck : MethodName := ⟨RX6, "isBottleneck", "(I)Z"⟩
abbrev cX6_isLimiting : ByteArray := prog_1_method_23_code
def yX6_isLimiting : MethodName := ⟨RX6, "isLimiting", "(I)Z"⟩
abbrev cX6_headroom : ByteArray := prog_1_method_24_code
def yX6_headroom : MethodName := ⟨RX6, "headroom", "(I)I"⟩
abbrev cX6_push : ByteArray := prog_1_method_25_code
def yX6_push : MethodName := ⟨RX6, "push", "()I"⟩
abbrev cX6_pop : ByteArray := prog_1_method_26_code
def yX6_pop : MethodName := ⟨RX6, "pop", "()I"⟩
abbrev cX6_digest : ByteArray := prog_1_method_27_code
def yX6_digest : MethodName := ⟨RX6, "digest", "()J"⟩
abbrev cX6_requireEnds : ByteArray := prog_1_method_28_code
def yX6_requireEnds : MethodName := ⟨RX6, "requireEnds", "()V"⟩
abbrev cX6_requireNode : ByteArray := prog_1_method_29_code
def yX6_requireNode : MethodName := ⟨RX6, "requireNode", "(I)V"⟩
abbrev cX6_requireArc : ByteArray := prog_1_method_30_code
def yX6_requireArc : MethodName := ⟨RX6, "requireArc", "(I)V"⟩
abbrev cX6_requireDifferent : ByteArray := prog_1_method_31_code
def yX6_requireDifferent : MethodName := ⟨RX6, "requireDifferent", "(II)V"⟩
abbrev cX6_requireCapacity : ByteArray := prog_1_method_32_code
def yX6_requireCapacity : MethodName := ⟨RX6, "requireCapacity", "(I)V"⟩
abbrev cX6_requireFraction : ByteArray := prog_1_method_33_code
def yX6_requireFraction : MethodName := ⟨RX6, "requireFraction", "(D)V"⟩
abbrev cX6_isCut : ByteArray := prog_1_method_34_code
def yX6_isCut : MethodName := ⟨RX6, "isCut", "(I)Z"⟩
abbrev cX6_movable : ByteArray := prog_1_method_35_code
def yX6_movable : MethodName := ⟨RX6, "movable", "(III)I"⟩
abbrev cX6_scaled : ByteArray := prog_1_method_36_code
def yX6_scaled : MethodName := ⟨RX6, "scaled", "(ID)I"⟩
abbrev cX6_contains : ByteArray := prog_1_method_37_code
def yX6_contains : MethodName := ⟨RX6, "contains", "(II)Z"⟩
def RX7 : String := "FlowNetworkModel"
def TX7 : u_T := fun k => match k with
  | 0 => ("FlowNetworkModel", "thrown", "I", false)
  | 1 => ("FlowNetworkModel", "nodes", "I", false)
  | 2 => ("FlowNetworkModel", "arcs", "I", false)
  | 3 => ("FlowNetworkModel", "tails", "[I", true)
  | 4 => ("FlowNetworkModel", "heads", "[I", true)
  | 5 => ("FlowNetworkModel", "capacities", "[I", true)
  | 6 => ("FlowNetworkModel", "source", "I", false)
  | 7 => ("FlowNetworkModel", "sink", "I", false)
  | 8 => ("FlowNetworkModel", "levels", "I", false)
  | 9 => ("FlowNetworkModel", "levelArcs", "[I", true)
  | 10 => ("FlowNetworkModel", "levelCapacities", "[I", true)
  | 11 => ("FlowNetworkModel", "levelSources", "[I", true)
  | 12 => ("FlowNetworkModel", "levelSinks", "[I", true)
  | 13 => ("FlowNetworkModel", "cuts", "[I", true)
  | 14 => ("FlowNetworkModel", "cutMany", "I", false)
  | 15 => ("FlowNetworkModel", "there", "[I", true)
  | 16 => ("FlowNetworkModel", "back", "[I", true)
  | 17 => ("FlowNetworkModel", "cameBy", "[I", true)
  | 18 => ("FlowNetworkModel", "row", "[I", true)
  | _ => ("FlowNetworkModel", "reached", "[I", true)
def tyX7 : Nat → FieldType := fun k => match k with
  | 0 => .int
  | 1 => .int
  | 2 => .int
  | 3 => .array .int
  | 4 => .array .int
  | 5 => .array .int
  | 6 => .int
  | 7 => .int
  | 8 => .int
  | 9 => .array .int
  | 10 => .array .int
  | 11 => .array .int
  | 12 => .array .int
  | 13 => .array .int
  | 14 => .int
  | 15 => .array .int
  | 16 => .array .int
  | 17 => .array .int
  | 18 => .array .int
  | _ => .array .int
abbrev wsX70 : List Cond := u_ws RX7 TX7 20
theorem nmX7 : ∀ a, a < 20 → ∀ b, b < 20 → a ≠ b → (TX7 a).2.1 ≠ (TX7 b).2.1 := by decide +kernel
theorem tyX7_ok : ∀ k, k < 20 → parseFieldDescriptor (TX7 k).2.2.1 = some (tyX7 k) := by decide +kernel
abbrev cX7_init : ByteArray := prog_9_method_1_code
def yX7_init : MethodName := ⟨RX7, "<init>", "()V"⟩
abbrev cX7_thrown : ByteArray := prog_9_method_2_code
def yX7_thrown : MethodName := ⟨RX7, "thrown", "()I"⟩
abbrev cX7_fail : ByteArray := prog_9_method_3_code
def yX7_fail : MethodName := ⟨RX7, "fail", "(I)I"⟩
abbrev cX7_isNode : ByteArray := prog_9_method_4_code
def yX7_isNode : MethodName := ⟨RX7, "isNode", "(I)Z"⟩
abbrev cX7_isArc : ByteArray := prog_9_method_5_code
def yX7_isArc : MethodName := ⟨RX7, "isArc", "(I)Z"⟩
abbrev cX7_isCapacity : ByteArray := prog_9_method_6_code
def yX7_isCapacity : MethodName := ⟨RX7, "isCapacity", "(I)Z"⟩
abbrev cX7_addNode : ByteArray := prog_9_method_7_code
def yX7_addNode : MethodName := ⟨RX7, "addNode", "()I"⟩
abbrev cX7_addArc : ByteArray := prog_9_method_8_code
def yX7_addArc : MethodName := ⟨RX7, "addArc", "(III)I"⟩
abbrev cX7_setCapacity : ByteArray := prog_9_method_9_code
def yX7_setCapacity : MethodName := ⟨RX7, "setCapacity", "(II)I"⟩
abbrev cX7_scale : ByteArray := prog_9_method_10_code
def yX7_scale : MethodName := ⟨RX7, "scale", "(ID)I"⟩
abbrev cX7_setEnds : ByteArray := prog_9_method_11_code
def yX7_setEnds : MethodName := ⟨RX7, "setEnds", "(II)Z"⟩
abbrev cX7_nodeCount : ByteArray := prog_9_method_12_code
def yX7_nodeCount : MethodName := ⟨RX7, "nodeCount", "()I"⟩
abbrev cX7_arcCount : ByteArray := prog_9_method_13_code
def yX7_arcCount : MethodName := ⟨RX7, "arcCount", "()I"⟩
abbrev cX7_capacity : ByteArray := prog_9_method_14_code
def yX7_capacity : MethodName := ⟨RX7, "capacity", "(I)I"⟩
abbrev cX7_empty : ByteArray := prog_9_method_15_code
def yX7_empty : MethodName := ⟨RX7, "empty", "()V"⟩
abbrev cX7_reach : ByteArray := prog_9_method_16_code
def yX7_reach : MethodName := ⟨RX7, "reach", "(II)Z"⟩
abbrev cX7_before : ByteArray := prog_9_method_17_code
def yX7_before : MethodName := ⟨RX7, "before", "(I)I"⟩
abbrev cX7_fill : ByteArray := prog_9_method_18_code
def yX7_fill : MethodName := ⟨RX7, "fill", "(III)I"⟩
abbrev cX7_maximumNow : ByteArray := prog_9_method_19_code
def yX7_maximumNow : MethodName := ⟨RX7, "maximumNow", "()I"⟩
abbrev cX7_maximumIf : ByteArray := prog_9_method_20_code
def yX7_maximumIf : MethodName := ⟨RX7, "maximumIf", "(II)I"⟩
abbrev cX7_look : ByteArray := prog_9_method_21_code
def yX7_look : MethodName := ⟨RX7, "look", "(I)I"⟩
abbrev cX7_maximum : ByteArray := prog_9_method_22_code
def yX7_maximum : MethodName := ⟨RX7, "maximum", "()I"⟩
abbrev cX7_maximumWith : ByteArray := prog_9_method_23_code
def yX7_maximumWith : MethodName := ⟨RX7, "maximumWith", "(II)I"⟩
abbrev cX7_maximumWithout : ByteArray := prog_9_method_24_code
def yX7_maximumWithout : MethodName := ⟨RX7, "maximumWithout", "(I)I"⟩
abbrev cX7_maximumBetween : ByteArray := prog_9_method_25_code
def yX7_maximumBetween : MethodName := ⟨RX7, "maximumBetween", "(II)I"⟩
abbrev cX7_utilization : ByteArray := prog_9_method_26_code
def yX7_utilization : MethodName := ⟨RX7, "utilization", "()D"⟩
abbrev cX7_leastFlow : ByteArray := prog_9_method_27_code
def yX7_leastFlow : MethodName := ⟨RX7, "leastFlow", "(I)I"⟩
abbrev cX7_greatestFlow : ByteArray := prog_9_method_28_code
def yX7_greatestFlow : MethodName := ⟨RX7, "greatestFlow", "(I)I"⟩
abbrev cX7_isIn : ByteArray := prog_9_method_29_code
def yX7_isIn : MethodName := ⟨RX7, "isIn", "(II)Z"⟩
abbrev cX7_capacityOf : ByteArray := prog_9_method_30_code
def yX7_capacityOf : MethodName := ⟨RX7, "capacityOf", "(I)I"⟩
abbrev cX7_cutCapacity : ByteArray := prog_9_method_31_code
def yX7_cutCapacity : MethodName := ⟨RX7, "cutCapacity", "(I)I"⟩
abbrev cX7_findReached : ByteArray := prog_9_method_32_code
def yX7_findReached : MethodName := ⟨RX7, "findReached", "()V"⟩
abbrev cX7_smallest : ByteArray := prog_9_method_33_code
def yX7_smallest : MethodName := ⟨RX7, "smallest", "()I"⟩
abbrev cX7_greatest : ByteArray := prog_9_method_34_code
def yX7_greatest : MethodName := ⟨RX7, "greatest", "()I"⟩
abbrev cX7_smallestCut : ByteArray := prog_9_method_35_code
def yX7_smallestCut : MethodName := ⟨RX7, "smallestCut", "()I"⟩
abbrev cX7_greatestCut : ByteArray := prog_9_method_36_code
def yX7_greatestCut : MethodName := ⟨RX7, "greatestCut", "()I"⟩
abbrev cX7_closed : ByteArray := prog_9_method_37_code
def yX7_closed : MethodName := ⟨RX7, "closed", "(II)I"⟩
abbrev cX7_cutBehind : ByteArray := prog_9_method_38_code
def yX7_cutBehind : MethodName := ⟨RX7, "cutBehind", "(I)I"⟩
abbrev cX7_findCuts : ByteArray := prog_9_method_39_code
def yX7_findCuts : MethodName := ⟨RX7, "findCuts", "()I"⟩
abbrev cX7_cut : ByteArray := prog_9_method_40_code
def yX7_cut : MethodName := ⟨RX7, "cut", "(I)I"⟩
abbrev cX7_isBottleneck : ByteArray := prog_9_method_41_code
def yX7_isBottleneck : MethodName := ⟨RX7, "isBottleneck", "(I)Z"⟩
abbrev cX7_isLimiting : ByteArray := prog_9_method_42_code
def yX7_isLimiting : MethodName := ⟨RX7, "isLimiting", "(I)Z"⟩
abbrev cX7_headroom : ByteArray := prog_9_method_43_code
def yX7_headroom : MethodName := ⟨RX7, "headroom", "(I)I"⟩
abbrev cX7_push : ByteArray := prog_9_method_44_code
def yX7_push : MethodName := ⟨RX7, "push", "()I"⟩
abbrev cX7_pop : ByteArray := prog_9_method_45_code
def yX7_pop : MethodName := ⟨RX7, "pop", "()I"⟩
abbrev cX7_digest : ByteArray := prog_9_method_46_code
def yX7_digest : MethodName := ⟨RX7, "digest", "()J"⟩
def RJx145de : String := "java/io/Serializable"
def TJx145de : u_T := fun k => match k with
  | _ => ("", "", "", false)
def tyJx145de : Nat → FieldType := fun k => match k with
  | _ => .int
abbrev wsJx145de0 : List Cond := u_ws RJx145de TJx145de 0
theorem nmJx145de : ∀ a, a < 0 → ∀ b, b < 0 → a ≠ b → (TJx145de a).2.1 ≠ (TJx145de b).2.1 := by decide +kernel
theorem tyJx145de_ok : ∀ k, k < 0 → parseFieldDescriptor (TJx145de k).2.2.1 = some (tyJx145de k) := by decide +kernel
def RJxb160c : String := "java/lang/Comparable"
def TJxb160c : u_T := fun k => match k with
  | _ => ("", "", "", false)
def tyJxb160c : Nat → FieldType := fun k => match k with
  | _ => .int
abbrev wsJxb160c0 : List Cond := u_ws RJxb160c TJxb160c 0
theorem nmJxb160c : ∀ a, a < 0 → ∀ b, b < 0 → a ≠ b → (TJxb160c a).2.1 ≠ (TJxb160c b).2.1 := by decide +kernel
theorem tyJxb160c_ok : ∀ k, k < 0 → parseFieldDescriptor (TJxb160c k).2.2.1 = some (tyJxb160c k) := by decide +kernel
def RJxe99ae : String := "java/lang/Double"
def TJxe99ae : u_T := fun k => match k with
  | _ => ("", "", "", false)
def tyJxe99ae : Nat → FieldType := fun k => match k with
  | _ => .int
abbrev wsJxe99ae0 : List Cond := u_ws RJxe99ae TJxe99ae 0
theorem nmJxe99ae : ∀ a, a < 0 → ∀ b, b < 0 → a ≠ b → (TJxe99ae a).2.1 ≠ (TJxe99ae b).2.1 := by decide +kernel
theorem tyJxe99ae_ok : ∀ k, k < 0 → parseFieldDescriptor (TJxe99ae k).2.2.1 = some (tyJxe99ae k) := by decide +kernel
def RJ9 : String := "java/lang/Math"
def TJ9 : u_T := fun k => match k with
  | _ => ("", "", "", false)
def tyJ9 : Nat → FieldType := fun k => match k with
  | _ => .int
abbrev wsJ90 : List Cond := u_ws RJ9 TJ9 0
theorem nmJ9 : ∀ a, a < 0 → ∀ b, b < 0 → a ≠ b → (TJ9 a).2.1 ≠ (TJ9 b).2.1 := by decide +kernel
theorem tyJ9_ok : ∀ k, k < 0 → parseFieldDescriptor (TJ9 k).2.2.1 = some (tyJ9 k) := by decide +kernel
abbrev cJ9_rint_294c1 : ByteArray := prog_15_method_18_code
def yJ9_rint_294c1 : MethodName := ⟨RJ9, "rint", "(D)D"⟩
abbrev cJ9_abs_294c1 : ByteArray := prog_15_method_64_code
def yJ9_abs_294c1 : MethodName := ⟨RJ9, "abs", "(D)D"⟩
abbrev cJ9_min_7cf53 : ByteArray := prog_15_method_69_code
def yJ9_min_7cf53 : MethodName := ⟨RJ9, "min", "(II)I"⟩
abbrev cJ9_min_eb370 : ByteArray := prog_15_method_72_code
def yJ9_min_eb370 : MethodName := ⟨RJ9, "min", "(DD)D"⟩
abbrev cJ9_copySign_eb370 : ByteArray := prog_15_method_89_code
def yJ9_copySign_eb370 : MethodName := ⟨RJ9, "copySign", "(DD)D"⟩
def RJxd2413 : String := "java/lang/Number"
def TJxd2413 : u_T := fun k => match k with
  | _ => ("", "", "", false)
def tyJxd2413 : Nat → FieldType := fun k => match k with
  | _ => .int
abbrev wsJxd24130 : List Cond := u_ws RJxd2413 TJxd2413 0
theorem nmJxd2413 : ∀ a, a < 0 → ∀ b, b < 0 → a ≠ b → (TJxd2413 a).2.1 ≠ (TJxd2413 b).2.1 := by decide +kernel
theorem tyJxd2413_ok : ∀ k, k < 0 → parseFieldDescriptor (TJxd2413 k).2.2.1 = some (tyJxd2413 k) := by decide +kernel
def RJxfc994 : String := "java/lang/StrictMath"
def TJxfc994 : u_T := fun k => match k with
  | _ => ("", "", "", false)
def tyJxfc994 : Nat → FieldType := fun k => match k with
  | _ => .int
abbrev wsJxfc9940 : List Cond := u_ws RJxfc994 TJxfc994 0
theorem nmJxfc994 : ∀ a, a < 0 → ∀ b, b < 0 → a ≠ b → (TJxfc994 a).2.1 ≠ (TJxfc994 b).2.1 := by decide +kernel
theorem tyJxfc994_ok : ∀ k, k < 0 → parseFieldDescriptor (TJxfc994 k).2.2.1 = some (tyJxfc994 k) := by decide +kernel
abbrev cJxfc994_rint_294c1 : ByteArray := prog_18_method_19_code
def yJxfc994_rint_294c1 : MethodName := ⟨RJxfc994, "rint", "(D)D"⟩
def RJ0 : String := "java/lang/String"
def TJ0 : u_T := fun k => match k with
  | _ => ("", "", "", false)
def tyJ0 : Nat → FieldType := fun k => match k with
  | _ => .int
abbrev wsJ00 : List Cond := u_ws RJ0 TJ0 0
theorem nmJ0 : ∀ a, a < 0 → ∀ b, b < 0 → a ≠ b → (TJ0 a).2.1 ≠ (TJ0 b).2.1 := by decide +kernel
theorem tyJ0_ok : ∀ k, k < 0 → parseFieldDescriptor (TJ0 k).2.2.1 = some (tyJ0 k) := by decide +kernel
def RJ10 : String := "java/lang/System"
def TJ10 : u_T := fun k => match k with
  | _ => ("", "", "", false)
def tyJ10 : Nat → FieldType := fun k => match k with
  | _ => .int
abbrev wsJ100 : List Cond := u_ws RJ10 TJ10 0
theorem nmJ10 : ∀ a, a < 0 → ∀ b, b < 0 → a ≠ b → (TJ10 a).2.1 ≠ (TJ10 b).2.1 := by decide +kernel
theorem tyJ10_ok : ∀ k, k < 0 → parseFieldDescriptor (TJ10 k).2.2.1 = some (tyJ10 k) := by decide +kernel
def RJxfd54e : String := "java/lang/constant/Constable"
def TJxfd54e : u_T := fun k => match k with
  | _ => ("", "", "", false)
def tyJxfd54e : Nat → FieldType := fun k => match k with
  | _ => .int
abbrev wsJxfd54e0 : List Cond := u_ws RJxfd54e TJxfd54e 0
theorem nmJxfd54e : ∀ a, a < 0 → ∀ b, b < 0 → a ≠ b → (TJxfd54e a).2.1 ≠ (TJxfd54e b).2.1 := by decide +kernel
theorem tyJxfd54e_ok : ∀ k, k < 0 → parseFieldDescriptor (TJxfd54e k).2.2.1 = some (tyJxfd54e k) := by decide +kernel
def RJx3cf43 : String := "java/lang/constant/ConstantDesc"
def TJx3cf43 : u_T := fun k => match k with
  | _ => ("", "", "", false)
def tyJx3cf43 : Nat → FieldType := fun k => match k with
  | _ => .int
abbrev wsJx3cf430 : List Cond := u_ws RJx3cf43 TJx3cf43 0
theorem nmJx3cf43 : ∀ a, a < 0 → ∀ b, b < 0 → a ≠ b → (TJx3cf43 a).2.1 ≠ (TJx3cf43 b).2.1 := by decide +kernel
theorem tyJx3cf43_ok : ∀ k, k < 0 → parseFieldDescriptor (TJx3cf43 k).2.2.1 = some (tyJx3cf43 k) := by decide +kernel
def RJ7 : String := "java/util/Arrays"
def TJ7 : u_T := fun k => match k with
  | _ => ("", "", "", false)
def tyJ7 : Nat → FieldType := fun k => match k with
  | _ => .int
abbrev wsJ70 : List Cond := u_ws RJ7 TJ7 0
theorem nmJ7 : ∀ a, a < 0 → ∀ b, b < 0 → a ≠ b → (TJ7 a).2.1 ≠ (TJ7 b).2.1 := by decide +kernel
theorem tyJ7_ok : ∀ k, k < 0 → parseFieldDescriptor (TJ7 k).2.2.1 = some (tyJ7 k) := by decide +kernel
abbrev cJ7_fill_53178 : ByteArray := prog_22_method_103_code
def yJ7_fill_53178 : MethodName := ⟨RJ7, "fill", "([II)V"⟩
def RL : String := "FlowNetworkLaw"
abbrev cL_addNode : ByteArray := method_3_code
def yL_addNode : MethodName := ⟨RL, "addNode", "(LFlowNetwork;[J)I"⟩
abbrev cL_addArc : ByteArray := method_4_code
def yL_addArc : MethodName := ⟨RL, "addArc", "(LFlowNetwork;III[J)I"⟩
abbrev cL_setCapacity : ByteArray := method_5_code
def yL_setCapacity : MethodName := ⟨RL, "setCapacity", "(LFlowNetwork;II[J)I"⟩
abbrev cL_scale : ByteArray := method_6_code
def yL_scale : MethodName := ⟨RL, "scale", "(LFlowNetwork;ID[J)I"⟩
abbrev cL_setEnds : ByteArray := method_7_code
def yL_setEnds : MethodName := ⟨RL, "setEnds", "(LFlowNetwork;II[J)I"⟩
abbrev cL_capacity : ByteArray := method_8_code
def yL_capacity : MethodName := ⟨RL, "capacity", "(LFlowNetwork;I[J)I"⟩
abbrev cL_maximum : ByteArray := method_9_code
def yL_maximum : MethodName := ⟨RL, "maximum", "(LFlowNetwork;[J)I"⟩
abbrev cL_maximumWith : ByteArray := method_10_code
def yL_maximumWith : MethodName := ⟨RL, "maximumWith", "(LFlowNetwork;II[J)I"⟩
abbrev cL_maximumWithout : ByteArray := method_11_code
def yL_maximumWithout : MethodName := ⟨RL, "maximumWithout", "(LFlowNetwork;I[J)I"⟩
abbrev cL_maximumBetween : ByteArray := method_12_code
def yL_maximumBetween : MethodName := ⟨RL, "maximumBetween", "(LFlowNetwork;II[J)I"⟩
abbrev cL_utilization : ByteArray := method_13_code
def yL_utilization : MethodName := ⟨RL, "utilization", "(LFlowNetwork;[D)I"⟩
abbrev cL_leastFlow : ByteArray := method_14_code
def yL_leastFlow : MethodName := ⟨RL, "leastFlow", "(LFlowNetwork;I[J)I"⟩
abbrev cL_greatestFlow : ByteArray := method_15_code
def yL_greatestFlow : MethodName := ⟨RL, "greatestFlow", "(LFlowNetwork;I[J)I"⟩
abbrev cL_cutCapacity : ByteArray := method_16_code
def yL_cutCapacity : MethodName := ⟨RL, "cutCapacity", "(LFlowNetwork;I[J)I"⟩
abbrev cL_smallestCut : ByteArray := method_17_code
def yL_smallestCut : MethodName := ⟨RL, "smallestCut", "(LFlowNetwork;[J)I"⟩
abbrev cL_greatestCut : ByteArray := method_18_code
def yL_greatestCut : MethodName := ⟨RL, "greatestCut", "(LFlowNetwork;[J)I"⟩
abbrev cL_findCuts : ByteArray := method_19_code
def yL_findCuts : MethodName := ⟨RL, "findCuts", "(LFlowNetwork;[J)I"⟩
abbrev cL_cut : ByteArray := method_20_code
def yL_cut : MethodName := ⟨RL, "cut", "(LFlowNetwork;I[J)I"⟩
abbrev cL_isBottleneck : ByteArray := method_21_code
def yL_isBottleneck : MethodName := ⟨RL, "isBottleneck", "(LFlowNetwork;I[J)I"⟩
abbrev cL_isLimiting : ByteArray := method_22_code
def yL_isLimiting : MethodName := ⟨RL, "isLimiting", "(LFlowNetwork;I[J)I"⟩
abbrev cL_headroom : ByteArray := method_23_code
def yL_headroom : MethodName := ⟨RL, "headroom", "(LFlowNetwork;I[J)I"⟩
abbrev cL_push : ByteArray := method_24_code
def yL_push : MethodName := ⟨RL, "push", "(LFlowNetwork;[J)I"⟩
abbrev cL_pop : ByteArray := method_25_code
def yL_pop : MethodName := ⟨RL, "pop", "(LFlowNetwork;[J)I"⟩
abbrev cL_law : ByteArray := code
def yL_law : MethodName := ⟨RL, "law", "([I)Z"⟩
theorem dX0_init_0 : decode cX0_init 0 = .ok (.aload_n 0, 1) := by decide +kernel
theorem dX0_init_1 : decode cX0_init 1 = .ok (.invokespecial 3, 3) := by decide +kernel
theorem dX0_init_4 : decode cX0_init 4 = .ok (.aload_n 0, 1) := by decide +kernel
theorem dX0_init_5 : decode cX0_init 5 = .ok (.sipush 300, 3) := by decide +kernel
theorem dX0_init_8 : decode cX0_init 8 = .ok (.newarray .int, 2) := by decide +kernel
theorem dX0_init_10 : decode cX0_init 10 = .ok (.putfield 9, 3) := by decide +kernel
theorem dX0_init_13 : decode cX0_init 13 = .ok (.aload_n 0, 1) := by decide +kernel
theorem dX0_init_14 : decode cX0_init 14 = .ok (.bipush 24, 2) := by decide +kernel
theorem dX0_init_16 : decode cX0_init 16 = .ok (.newarray .int, 2) := by decide +kernel
theorem dX0_init_18 : decode cX0_init 18 = .ok (.putfield 15, 3) := by decide +kernel
theorem dX0_init_21 : decode cX0_init 21 = .ok (.return_, 1) := by decide +kernel
theorem dX0_find_0 : decode cX0_find 0 = .ok (.aload_n 1, 1) := by decide +kernel
theorem dX0_find_1 : decode cX0_find 1 = .ok (.getfield 18, 3) := by decide +kernel
theorem dX0_find_4 : decode cX0_find 4 = .ok (.getfield 24, 3) := by decide +kernel
theorem dX0_find_7 : decode cX0_find 7 = .ok (.istore_n 2, 1) := by decide +kernel
theorem dX0_find_8 : decode cX0_find 8 = .ok (.iconst 0, 1) := by decide +kernel
theorem dX0_find_9 : decode cX0_find 9 = .ok (.istore_n 3, 1) := by decide +kernel
theorem dX0_find_10 : decode cX0_find 10 = .ok (.iload_n 3, 1) := by decide +kernel
theorem dX0_find_11 : decode cX0_find 11 = .ok (.iload_n 2, 1) := by decide +kernel
theorem dX0_find_12 : decode cX0_find 12 = .ok (.if_icmp .ge 23, 3) := by decide +kernel
theorem dX0_find_15 : decode cX0_find 15 = .ok (.aload_n 0, 1) := by decide +kernel
theorem dX0_find_16 : decode cX0_find 16 = .ok (.getfield 15, 3) := by decide +kernel
theorem dX0_find_19 : decode cX0_find 19 = .ok (.iload_n 3, 1) := by decide +kernel
theorem dX0_find_20 : decode cX0_find 20 = .ok (.aload_n 1, 1) := by decide +kernel
theorem dX0_find_21 : decode cX0_find 21 = .ok (.getfield 30, 3) := by decide +kernel
theorem dX0_find_24 : decode cX0_find 24 = .ok (.iload_n 3, 1) := by decide +kernel
theorem dX0_find_25 : decode cX0_find 25 = .ok (.invokevirtual 34, 3) := by decide +kernel
theorem dX0_find_28 : decode cX0_find 28 = .ok (.iastore, 1) := by decide +kernel
theorem dX0_find_29 : decode cX0_find 29 = .ok (.iinc 3 1, 3) := by decide +kernel
theorem dX0_find_32 : decode cX0_find 32 = .ok (.goto (-22), 3) := by decide +kernel
theorem dX0_find_35 : decode cX0_find 35 = .ok (.aload_n 0, 1) := by decide +kernel
theorem dX0_find_36 : decode cX0_find 36 = .ok (.iconst 0, 1) := by decide +kernel
theorem dX0_find_37 : decode cX0_find 37 = .ok (.putfield 40, 3) := by decide +kernel
theorem dX0_find_40 : decode cX0_find 40 = .ok (.aload_n 0, 1) := by decide +kernel
theorem dX0_find_41 : decode cX0_find 41 = .ok (.getfield 15, 3) := by decide +kernel
theorem dX0_find_44 : decode cX0_find 44 = .ok (.aload_n 1, 1) := by decide +kernel
theorem dX0_find_45 : decode cX0_find 45 = .ok (.getfield 43, 3) := by decide +kernel
theorem dX0_find_48 : decode cX0_find 48 = .ok (.iaload, 1) := by decide +kernel
theorem dX0_find_49 : decode cX0_find 49 = .ok (.istore_n 3, 1) := by decide +kernel
theorem dX0_find_50 : decode cX0_find 50 = .ok (.aload_n 0, 1) := by decide +kernel
theorem dX0_find_51 : decode cX0_find 51 = .ok (.getfield 40, 3) := by decide +kernel
theorem dX0_find_54 : decode cX0_find 54 = .ok (.sipush 300, 3) := by decide +kernel
theorem dX0_find_57 : decode cX0_find 57 = .ok (.if_icmp .ge 41, 3) := by decide +kernel
theorem dX0_find_60 : decode cX0_find 60 = .ok (.iload_n 3, 1) := by decide +kernel
theorem dX0_find_61 : decode cX0_find 61 = .ok (.ifCond .eq 37, 3) := by decide +kernel
theorem dX0_find_64 : decode cX0_find 64 = .ok (.aload_n 0, 1) := by decide +kernel
theorem dX0_find_65 : decode cX0_find 65 = .ok (.getfield 9, 3) := by decide +kernel
theorem dX0_find_68 : decode cX0_find 68 = .ok (.aload_n 0, 1) := by decide +kernel
theorem dX0_find_69 : decode cX0_find 69 = .ok (.getfield 40, 3) := by decide +kernel
theorem dX0_find_72 : decode cX0_find 72 = .ok (.iload_n 3, 1) := by decide +kernel
theorem dX0_find_73 : decode cX0_find 73 = .ok (.iastore, 1) := by decide +kernel
theorem dX0_find_74 : decode cX0_find 74 = .ok (.aload_n 0, 1) := by decide +kernel
theorem dX0_find_75 : decode cX0_find 75 = .ok (.dup, 1) := by decide +kernel
theorem dX0_find_76 : decode cX0_find 76 = .ok (.getfield 40, 3) := by decide +kernel
theorem dX0_find_79 : decode cX0_find 79 = .ok (.iconst 1, 1) := by decide +kernel
theorem dX0_find_80 : decode cX0_find 80 = .ok (.iadd, 1) := by decide +kernel
theorem dX0_find_81 : decode cX0_find 81 = .ok (.putfield 40, 3) := by decide +kernel
theorem dX0_find_84 : decode cX0_find 84 = .ok (.aload_n 0, 1) := by decide +kernel
theorem dX0_find_85 : decode cX0_find 85 = .ok (.iload_n 3, 1) := by decide +kernel
theorem dX0_find_86 : decode cX0_find 86 = .ok (.iload_n 2, 1) := by decide +kernel
theorem dX0_find_87 : decode cX0_find 87 = .ok (.aload_n 1, 1) := by decide +kernel
theorem dX0_find_88 : decode cX0_find 88 = .ok (.getfield 46, 3) := by decide +kernel
theorem dX0_find_91 : decode cX0_find 91 = .ok (.invokevirtual 49, 3) := by decide +kernel
theorem dX0_find_94 : decode cX0_find 94 = .ok (.istore_n 3, 1) := by decide +kernel
theorem dX0_find_95 : decode cX0_find 95 = .ok (.goto (-45), 3) := by decide +kernel
theorem dX0_find_98 : decode cX0_find 98 = .ok (.return_, 1) := by decide +kernel
theorem dX0_nextAfter_0 : decode cX0_nextAfter 0 = .ok (.iconst 0, 1) := by decide +kernel
theorem dX0_nextAfter_1 : decode cX0_nextAfter 1 = .ok (.istore 4, 2) := by decide +kernel
theorem dX0_nextAfter_3 : decode cX0_nextAfter 3 = .ok (.iload 4, 2) := by decide +kernel
theorem dX0_nextAfter_5 : decode cX0_nextAfter 5 = .ok (.iload_n 2, 1) := by decide +kernel
theorem dX0_nextAfter_6 : decode cX0_nextAfter 6 = .ok (.if_icmp .ge 90, 3) := by decide +kernel
theorem dX0_nextAfter_9 : decode cX0_nextAfter 9 = .ok (.iload 4, 2) := by decide +kernel
theorem dX0_nextAfter_11 : decode cX0_nextAfter 11 = .ok (.iconst 1, 1) := by decide +kernel
theorem dX0_nextAfter_12 : decode cX0_nextAfter 12 = .ok (.iadd, 1) := by decide +kernel
theorem dX0_nextAfter_13 : decode cX0_nextAfter 13 = .ok (.istore 5, 2) := by decide +kernel
theorem dX0_nextAfter_15 : decode cX0_nextAfter 15 = .ok (.iload_n 1, 1) := by decide +kernel
theorem dX0_nextAfter_16 : decode cX0_nextAfter 16 = .ok (.iload 5, 2) := by decide +kernel
theorem dX0_nextAfter_18 : decode cX0_nextAfter 18 = .ok (.ishr, 1) := by decide +kernel
theorem dX0_nextAfter_19 : decode cX0_nextAfter 19 = .ok (.iload 5, 2) := by decide +kernel
theorem dX0_nextAfter_21 : decode cX0_nextAfter 21 = .ok (.ishl, 1) := by decide +kernel
theorem dX0_nextAfter_22 : decode cX0_nextAfter 22 = .ok (.istore 6, 2) := by decide +kernel
theorem dX0_nextAfter_24 : decode cX0_nextAfter 24 = .ok (.aload_n 0, 1) := by decide +kernel
theorem dX0_nextAfter_25 : decode cX0_nextAfter 25 = .ok (.iload 6, 2) := by decide +kernel
theorem dX0_nextAfter_27 : decode cX0_nextAfter 27 = .ok (.iconst 1, 1) := by decide +kernel
theorem dX0_nextAfter_28 : decode cX0_nextAfter 28 = .ok (.iload 4, 2) := by decide +kernel
theorem dX0_nextAfter_30 : decode cX0_nextAfter 30 = .ok (.ishl, 1) := by decide +kernel
theorem dX0_nextAfter_31 : decode cX0_nextAfter 31 = .ok (.ior, 1) := by decide +kernel
theorem dX0_nextAfter_32 : decode cX0_nextAfter 32 = .ok (.iload_n 2, 1) := by decide +kernel
theorem dX0_nextAfter_33 : decode cX0_nextAfter 33 = .ok (.invokevirtual 53, 3) := by decide +kernel
theorem dX0_nextAfter_36 : decode cX0_nextAfter 36 = .ok (.aload_n 0, 1) := by decide +kernel
theorem dX0_nextAfter_37 : decode cX0_nextAfter 37 = .ok (.getfield 9, 3) := by decide +kernel
theorem dX0_nextAfter_40 : decode cX0_nextAfter 40 = .ok (.iconst 0, 1) := by decide +kernel
theorem dX0_nextAfter_41 : decode cX0_nextAfter 41 = .ok (.iaload, 1) := by decide +kernel
theorem dX0_nextAfter_42 : decode cX0_nextAfter 42 = .ok (.ior, 1) := by decide +kernel
theorem dX0_nextAfter_43 : decode cX0_nextAfter 43 = .ok (.istore 7, 2) := by decide +kernel
theorem dX0_nextAfter_45 : decode cX0_nextAfter 45 = .ok (.iload 7, 2) := by decide +kernel
theorem dX0_nextAfter_47 : decode cX0_nextAfter 47 = .ok (.iload 5, 2) := by decide +kernel
theorem dX0_nextAfter_49 : decode cX0_nextAfter 49 = .ok (.ishr, 1) := by decide +kernel
theorem dX0_nextAfter_50 : decode cX0_nextAfter 50 = .ok (.iload_n 1, 1) := by decide +kernel
theorem dX0_nextAfter_51 : decode cX0_nextAfter 51 = .ok (.iload 5, 2) := by decide +kernel
theorem dX0_nextAfter_53 : decode cX0_nextAfter 53 = .ok (.ishr, 1) := by decide +kernel
theorem dX0_nextAfter_54 : decode cX0_nextAfter 54 = .ok (.if_icmp .ne 7, 3) := by decide +kernel
theorem dX0_nextAfter_57 : decode cX0_nextAfter 57 = .ok (.iconst 1, 1) := by decide +kernel
theorem dX0_nextAfter_58 : decode cX0_nextAfter 58 = .ok (.goto 4, 3) := by decide +kernel
theorem dX0_nextAfter_61 : decode cX0_nextAfter 61 = .ok (.iconst 0, 1) := by decide +kernel
theorem dX0_nextAfter_62 : decode cX0_nextAfter 62 = .ok (.istore 8, 2) := by decide +kernel
theorem dX0_nextAfter_64 : decode cX0_nextAfter 64 = .ok (.iload_n 1, 1) := by decide +kernel
theorem dX0_nextAfter_65 : decode cX0_nextAfter 65 = .ok (.iload 4, 2) := by decide +kernel
theorem dX0_nextAfter_67 : decode cX0_nextAfter 67 = .ok (.invokestatic 57, 3) := by decide +kernel
theorem dX0_nextAfter_70 : decode cX0_nextAfter 70 = .ok (.ifCond .ne 20, 3) := by decide +kernel
theorem dX0_nextAfter_73 : decode cX0_nextAfter 73 = .ok (.iload 8, 2) := by decide +kernel
theorem dX0_nextAfter_75 : decode cX0_nextAfter 75 = .ok (.ifCond .eq 15, 3) := by decide +kernel
theorem dX0_nextAfter_78 : decode cX0_nextAfter 78 = .ok (.iload 7, 2) := by decide +kernel
theorem dX0_nextAfter_80 : decode cX0_nextAfter 80 = .ok (.iload_n 3, 1) := by decide +kernel
theorem dX0_nextAfter_81 : decode cX0_nextAfter 81 = .ok (.invokestatic 57, 3) := by decide +kernel
theorem dX0_nextAfter_84 : decode cX0_nextAfter 84 = .ok (.ifCond .ne 6, 3) := by decide +kernel
theorem dX0_nextAfter_87 : decode cX0_nextAfter 87 = .ok (.iload 7, 2) := by decide +kernel
theorem dX0_nextAfter_89 : decode cX0_nextAfter 89 = .ok (.ireturn, 1) := by decide +kernel
theorem dX0_nextAfter_90 : decode cX0_nextAfter 90 = .ok (.iinc 4 1, 3) := by decide +kernel
theorem dX0_nextAfter_93 : decode cX0_nextAfter 93 = .ok (.goto (-90), 3) := by decide +kernel
theorem dX0_nextAfter_96 : decode cX0_nextAfter 96 = .ok (.iconst 0, 1) := by decide +kernel
theorem dX0_nextAfter_97 : decode cX0_nextAfter 97 = .ok (.ireturn, 1) := by decide +kernel
theorem dX0_withReachable_0 : decode cX0_withReachable 0 = .ok (.iload_n 1, 1) := by decide +kernel
theorem dX0_withReachable_1 : decode cX0_withReachable 1 = .ok (.istore_n 3, 1) := by decide +kernel
theorem dX0_withReachable_2 : decode cX0_withReachable 2 = .ok (.iconst 0, 1) := by decide +kernel
theorem dX0_withReachable_3 : decode cX0_withReachable 3 = .ok (.istore 4, 2) := by decide +kernel
theorem dX0_withReachable_5 : decode cX0_withReachable 5 = .ok (.iload 4, 2) := by decide +kernel
theorem dX0_withReachable_7 : decode cX0_withReachable 7 = .ok (.iload_n 2, 1) := by decide +kernel
theorem dX0_withReachable_8 : decode cX0_withReachable 8 = .ok (.if_icmp .ge 28, 3) := by decide +kernel
theorem dX0_withReachable_11 : decode cX0_withReachable 11 = .ok (.iload_n 1, 1) := by decide +kernel
theorem dX0_withReachable_12 : decode cX0_withReachable 12 = .ok (.iload 4, 2) := by decide +kernel
theorem dX0_withReachable_14 : decode cX0_withReachable 14 = .ok (.invokestatic 57, 3) := by decide +kernel
theorem dX0_withReachable_17 : decode cX0_withReachable 17 = .ok (.ifCond .eq 13, 3) := by decide +kernel
theorem dX0_withReachable_20 : decode cX0_withReachable 20 = .ok (.iload_n 3, 1) := by decide +kernel
theorem dX0_withReachable_21 : decode cX0_withReachable 21 = .ok (.aload_n 0, 1) := by decide +kernel
theorem dX0_withReachable_22 : decode cX0_withReachable 22 = .ok (.getfield 15, 3) := by decide +kernel
theorem dX0_withReachable_25 : decode cX0_withReachable 25 = .ok (.iload 4, 2) := by decide +kernel
theorem dX0_withReachable_27 : decode cX0_withReachable 27 = .ok (.iaload, 1) := by decide +kernel
theorem dX0_withReachable_28 : decode cX0_withReachable 28 = .ok (.ior, 1) := by decide +kernel
theorem dX0_withReachable_29 : decode cX0_withReachable 29 = .ok (.istore_n 3, 1) := by decide +kernel
theorem dX0_withReachable_30 : decode cX0_withReachable 30 = .ok (.iinc 4 1, 3) := by decide +kernel
theorem dX0_withReachable_33 : decode cX0_withReachable 33 = .ok (.goto (-28), 3) := by decide +kernel
theorem dX0_withReachable_36 : decode cX0_withReachable 36 = .ok (.iload_n 3, 1) := by decide +kernel
theorem dX0_withReachable_37 : decode cX0_withReachable 37 = .ok (.ireturn, 1) := by decide +kernel
theorem dX1_init_0 : decode cX1_init 0 = .ok (.aload_n 0, 1) := by decide +kernel
theorem dX1_init_1 : decode cX1_init 1 = .ok (.invokespecial 3, 3) := by decide +kernel
theorem dX1_init_4 : decode cX1_init 4 = .ok (.aload_n 0, 1) := by decide +kernel
theorem dX1_init_5 : decode cX1_init 5 = .ok (.bipush 80, 2) := by decide +kernel
theorem dX1_init_7 : decode cX1_init 7 = .ok (.newarray .int, 2) := by decide +kernel
theorem dX1_init_9 : decode cX1_init 9 = .ok (.putfield 9, 3) := by decide +kernel
theorem dX1_init_12 : decode cX1_init 12 = .ok (.aload_n 0, 1) := by decide +kernel
theorem dX1_init_13 : decode cX1_init 13 = .ok (.bipush 80, 2) := by decide +kernel
theorem dX1_init_15 : decode cX1_init 15 = .ok (.newarray .int, 2) := by decide +kernel
theorem dX1_init_17 : decode cX1_init 17 = .ok (.putfield 15, 3) := by decide +kernel
theorem dX1_init_20 : decode cX1_init 20 = .ok (.aload_n 0, 1) := by decide +kernel
theorem dX1_init_21 : decode cX1_init 21 = .ok (.aload_n 1, 1) := by decide +kernel
theorem dX1_init_22 : decode cX1_init 22 = .ok (.putfield 18, 3) := by decide +kernel
theorem dX1_init_25 : decode cX1_init 25 = .ok (.return_, 1) := by decide +kernel
theorem dX1_copy_0 : decode cX1_copy 0 = .ok (.aload_n 1, 1) := by decide +kernel
theorem dX1_copy_1 : decode cX1_copy 1 = .ok (.getfield 9, 3) := by decide +kernel
theorem dX1_copy_4 : decode cX1_copy 4 = .ok (.iconst 0, 1) := by decide +kernel
theorem dX1_copy_5 : decode cX1_copy 5 = .ok (.aload_n 0, 1) := by decide +kernel
theorem dX1_copy_6 : decode cX1_copy 6 = .ok (.getfield 9, 3) := by decide +kernel
theorem dX1_copy_9 : decode cX1_copy 9 = .ok (.iconst 0, 1) := by decide +kernel
theorem dX1_copy_10 : decode cX1_copy 10 = .ok (.bipush 80, 2) := by decide +kernel
theorem dX1_copy_12 : decode cX1_copy 12 = .ok (.invokestatic 22, 3) := by decide +kernel
theorem dX1_copy_15 : decode cX1_copy 15 = .ok (.aload_n 1, 1) := by decide +kernel
theorem dX1_copy_16 : decode cX1_copy 16 = .ok (.getfield 15, 3) := by decide +kernel
theorem dX1_copy_19 : decode cX1_copy 19 = .ok (.iconst 0, 1) := by decide +kernel
theorem dX1_copy_20 : decode cX1_copy 20 = .ok (.aload_n 0, 1) := by decide +kernel
theorem dX1_copy_21 : decode cX1_copy 21 = .ok (.getfield 15, 3) := by decide +kernel
theorem dX1_copy_24 : decode cX1_copy 24 = .ok (.iconst 0, 1) := by decide +kernel
theorem dX1_copy_25 : decode cX1_copy 25 = .ok (.bipush 80, 2) := by decide +kernel
theorem dX1_copy_27 : decode cX1_copy 27 = .ok (.invokestatic 22, 3) := by decide +kernel
theorem dX1_copy_30 : decode cX1_copy 30 = .ok (.return_, 1) := by decide +kernel
theorem dX1_block_0 : decode cX1_block 0 = .ok (.aload_n 0, 1) := by decide +kernel
theorem dX1_block_1 : decode cX1_block 1 = .ok (.getfield 9, 3) := by decide +kernel
theorem dX1_block_4 : decode cX1_block 4 = .ok (.iload_n 1, 1) := by decide +kernel
theorem dX1_block_5 : decode cX1_block 5 = .ok (.iconst 0, 1) := by decide +kernel
theorem dX1_block_6 : decode cX1_block 6 = .ok (.iastore, 1) := by decide +kernel
theorem dX1_block_7 : decode cX1_block 7 = .ok (.aload_n 0, 1) := by decide +kernel
theorem dX1_block_8 : decode cX1_block 8 = .ok (.getfield 15, 3) := by decide +kernel
theorem dX1_block_11 : decode cX1_block 11 = .ok (.iload_n 1, 1) := by decide +kernel
theorem dX1_block_12 : decode cX1_block 12 = .ok (.iconst 0, 1) := by decide +kernel
theorem dX1_block_13 : decode cX1_block 13 = .ok (.iastore, 1) := by decide +kernel
theorem dX1_block_14 : decode cX1_block 14 = .ok (.return_, 1) := by decide +kernel
theorem dX1_room_0 : decode cX1_room 0 = .ok (.aload_n 0, 1) := by decide +kernel
theorem dX1_room_1 : decode cX1_room 1 = .ok (.getfield 18, 3) := by decide +kernel
theorem dX1_room_4 : decode cX1_room 4 = .ok (.getfield 28, 3) := by decide +kernel
theorem dX1_room_7 : decode cX1_room 7 = .ok (.iload_n 1, 1) := by decide +kernel
theorem dX1_room_8 : decode cX1_room 8 = .ok (.iaload, 1) := by decide +kernel
theorem dX1_room_9 : decode cX1_room 9 = .ok (.iload_n 2, 1) := by decide +kernel
theorem dX1_room_10 : decode cX1_room 10 = .ok (.if_icmp .ne 19, 3) := by decide +kernel
theorem dX1_room_13 : decode cX1_room 13 = .ok (.aload_n 0, 1) := by decide +kernel
theorem dX1_room_14 : decode cX1_room 14 = .ok (.getfield 9, 3) := by decide +kernel
theorem dX1_room_17 : decode cX1_room 17 = .ok (.iload_n 1, 1) := by decide +kernel
theorem dX1_room_18 : decode cX1_room 18 = .ok (.iaload, 1) := by decide +kernel
theorem dX1_room_19 : decode cX1_room 19 = .ok (.aload_n 0, 1) := by decide +kernel
theorem dX1_room_20 : decode cX1_room 20 = .ok (.getfield 15, 3) := by decide +kernel
theorem dX1_room_23 : decode cX1_room 23 = .ok (.iload_n 1, 1) := by decide +kernel
theorem dX1_room_24 : decode cX1_room 24 = .ok (.iaload, 1) := by decide +kernel
theorem dX1_room_25 : decode cX1_room 25 = .ok (.isub, 1) := by decide +kernel
theorem dX1_room_26 : decode cX1_room 26 = .ok (.goto 9, 3) := by decide +kernel
theorem dX1_room_29 : decode cX1_room 29 = .ok (.aload_n 0, 1) := by decide +kernel
theorem dX1_room_30 : decode cX1_room 30 = .ok (.getfield 15, 3) := by decide +kernel
theorem dX1_room_33 : decode cX1_room 33 = .ok (.iload_n 1, 1) := by decide +kernel
theorem dX1_room_34 : decode cX1_room 34 = .ok (.iaload, 1) := by decide +kernel
theorem dX1_room_35 : decode cX1_room 35 = .ok (.ireturn, 1) := by decide +kernel
theorem dX1_send_0 : decode cX1_send 0 = .ok (.aload_n 0, 1) := by decide +kernel
theorem dX1_send_1 : decode cX1_send 1 = .ok (.getfield 15, 3) := by decide +kernel
theorem dX1_send_4 : decode cX1_send 4 = .ok (.iload_n 1, 1) := by decide +kernel
theorem dX1_send_5 : decode cX1_send 5 = .ok (.dup2, 1) := by decide +kernel
theorem dX1_send_6 : decode cX1_send 6 = .ok (.iaload, 1) := by decide +kernel
theorem dX1_send_7 : decode cX1_send 7 = .ok (.aload_n 0, 1) := by decide +kernel
theorem dX1_send_8 : decode cX1_send 8 = .ok (.getfield 18, 3) := by decide +kernel
theorem dX1_send_11 : decode cX1_send 11 = .ok (.getfield 28, 3) := by decide +kernel
theorem dX1_send_14 : decode cX1_send 14 = .ok (.iload_n 1, 1) := by decide +kernel
theorem dX1_send_15 : decode cX1_send 15 = .ok (.iaload, 1) := by decide +kernel
theorem dX1_send_16 : decode cX1_send 16 = .ok (.iload_n 2, 1) := by decide +kernel
theorem dX1_send_17 : decode cX1_send 17 = .ok (.if_icmp .ne 7, 3) := by decide +kernel
theorem dX1_send_20 : decode cX1_send 20 = .ok (.iload_n 3, 1) := by decide +kernel
theorem dX1_send_21 : decode cX1_send 21 = .ok (.goto 5, 3) := by decide +kernel
theorem dX1_send_24 : decode cX1_send 24 = .ok (.iload_n 3, 1) := by decide +kernel
theorem dX1_send_25 : decode cX1_send 25 = .ok (.ineg, 1) := by decide +kernel
theorem dX1_send_26 : decode cX1_send 26 = .ok (.iadd, 1) := by decide +kernel
theorem dX1_send_27 : decode cX1_send 27 = .ok (.iastore, 1) := by decide +kernel
theorem dX1_send_28 : decode cX1_send 28 = .ok (.return_, 1) := by decide +kernel
theorem dX1_reachableFrom_0 : decode cX1_reachableFrom 0 = .ok (.iconst 1, 1) := by decide +kernel
theorem dX1_reachableFrom_1 : decode cX1_reachableFrom 1 = .ok (.iload_n 1, 1) := by decide +kernel
theorem dX1_reachableFrom_2 : decode cX1_reachableFrom 2 = .ok (.ishl, 1) := by decide +kernel
theorem dX1_reachableFrom_3 : decode cX1_reachableFrom 3 = .ok (.istore_n 2, 1) := by decide +kernel
theorem dX1_reachableFrom_4 : decode cX1_reachableFrom 4 = .ok (.iconst 0, 1) := by decide +kernel
theorem dX1_reachableFrom_5 : decode cX1_reachableFrom 5 = .ok (.istore_n 3, 1) := by decide +kernel
theorem dX1_reachableFrom_6 : decode cX1_reachableFrom 6 = .ok (.iconst 0, 1) := by decide +kernel
theorem dX1_reachableFrom_7 : decode cX1_reachableFrom 7 = .ok (.istore 4, 2) := by decide +kernel
theorem dX1_reachableFrom_9 : decode cX1_reachableFrom 9 = .ok (.iload 4, 2) := by decide +kernel
theorem dX1_reachableFrom_11 : decode cX1_reachableFrom 11 = .ok (.aload_n 0, 1) := by decide +kernel
theorem dX1_reachableFrom_12 : decode cX1_reachableFrom 12 = .ok (.getfield 18, 3) := by decide +kernel
theorem dX1_reachableFrom_15 : decode cX1_reachableFrom 15 = .ok (.getfield 33, 3) := by decide +kernel
theorem dX1_reachableFrom_18 : decode cX1_reachableFrom 18 = .ok (.if_icmp .ge 22, 3) := by decide +kernel
theorem dX1_reachableFrom_21 : decode cX1_reachableFrom 21 = .ok (.iload_n 2, 1) := by decide +kernel
theorem dX1_reachableFrom_22 : decode cX1_reachableFrom 22 = .ok (.iload_n 3, 1) := by decide +kernel
theorem dX1_reachableFrom_23 : decode cX1_reachableFrom 23 = .ok (.if_icmp .eq 17, 3) := by decide +kernel
theorem dX1_reachableFrom_26 : decode cX1_reachableFrom 26 = .ok (.iload_n 2, 1) := by decide +kernel
theorem dX1_reachableFrom_27 : decode cX1_reachableFrom 27 = .ok (.istore_n 3, 1) := by decide +kernel
theorem dX1_reachableFrom_28 : decode cX1_reachableFrom 28 = .ok (.aload_n 0, 1) := by decide +kernel
theorem dX1_reachableFrom_29 : decode cX1_reachableFrom 29 = .ok (.iload_n 2, 1) := by decide +kernel
theorem dX1_reachableFrom_30 : decode cX1_reachableFrom 30 = .ok (.invokevirtual 37, 3) := by decide +kernel
theorem dX1_reachableFrom_33 : decode cX1_reachableFrom 33 = .ok (.istore_n 2, 1) := by decide +kernel
theorem dX1_reachableFrom_34 : decode cX1_reachableFrom 34 = .ok (.iinc 4 1, 3) := by decide +kernel
theorem dX1_reachableFrom_37 : decode cX1_reachableFrom 37 = .ok (.goto (-28), 3) := by decide +kernel
theorem dX1_reachableFrom_40 : decode cX1_reachableFrom 40 = .ok (.iload_n 2, 1) := by decide +kernel
theorem dX1_reachableFrom_41 : decode cX1_reachableFrom 41 = .ok (.ireturn, 1) := by decide +kernel
theorem dX1_withNeighbours_0 : decode cX1_withNeighbours 0 = .ok (.iload_n 1, 1) := by decide +kernel
theorem dX1_withNeighbours_1 : decode cX1_withNeighbours 1 = .ok (.istore_n 2, 1) := by decide +kernel
theorem dX1_withNeighbours_2 : decode cX1_withNeighbours 2 = .ok (.iconst 0, 1) := by decide +kernel
theorem dX1_withNeighbours_3 : decode cX1_withNeighbours 3 = .ok (.istore_n 3, 1) := by decide +kernel
theorem dX1_withNeighbours_4 : decode cX1_withNeighbours 4 = .ok (.iload_n 3, 1) := by decide +kernel
theorem dX1_withNeighbours_5 : decode cX1_withNeighbours 5 = .ok (.aload_n 0, 1) := by decide +kernel
theorem dX1_withNeighbours_6 : decode cX1_withNeighbours 6 = .ok (.getfield 18, 3) := by decide +kernel
theorem dX1_withNeighbours_9 : decode cX1_withNeighbours 9 = .ok (.getfield 41, 3) := by decide +kernel
theorem dX1_withNeighbours_12 : decode cX1_withNeighbours 12 = .ok (.if_icmp .ge 83, 3) := by decide +kernel
theorem dX1_withNeighbours_15 : decode cX1_withNeighbours 15 = .ok (.aload_n 0, 1) := by decide +kernel
theorem dX1_withNeighbours_16 : decode cX1_withNeighbours 16 = .ok (.getfield 18, 3) := by decide +kernel
theorem dX1_withNeighbours_19 : decode cX1_withNeighbours 19 = .ok (.getfield 28, 3) := by decide +kernel
theorem dX1_withNeighbours_22 : decode cX1_withNeighbours 22 = .ok (.iload_n 3, 1) := by decide +kernel
theorem dX1_withNeighbours_23 : decode cX1_withNeighbours 23 = .ok (.iaload, 1) := by decide +kernel
theorem dX1_withNeighbours_24 : decode cX1_withNeighbours 24 = .ok (.istore 4, 2) := by decide +kernel
theorem dX1_withNeighbours_26 : decode cX1_withNeighbours 26 = .ok (.aload_n 0, 1) := by decide +kernel
theorem dX1_withNeighbours_27 : decode cX1_withNeighbours 27 = .ok (.getfield 18, 3) := by decide +kernel
theorem dX1_withNeighbours_30 : decode cX1_withNeighbours 30 = .ok (.getfield 44, 3) := by decide +kernel
theorem dX1_withNeighbours_33 : decode cX1_withNeighbours 33 = .ok (.iload_n 3, 1) := by decide +kernel
theorem dX1_withNeighbours_34 : decode cX1_withNeighbours 34 = .ok (.iaload, 1) := by decide +kernel
theorem dX1_withNeighbours_35 : decode cX1_withNeighbours 35 = .ok (.istore 5, 2) := by decide +kernel
theorem dX1_withNeighbours_37 : decode cX1_withNeighbours 37 = .ok (.iload_n 2, 1) := by decide +kernel
theorem dX1_withNeighbours_38 : decode cX1_withNeighbours 38 = .ok (.iload 4, 2) := by decide +kernel
theorem dX1_withNeighbours_40 : decode cX1_withNeighbours 40 = .ok (.invokestatic 47, 3) := by decide +kernel
theorem dX1_withNeighbours_43 : decode cX1_withNeighbours 43 = .ok (.ifCond .eq 20, 3) := by decide +kernel
theorem dX1_withNeighbours_46 : decode cX1_withNeighbours 46 = .ok (.aload_n 0, 1) := by decide +kernel
theorem dX1_withNeighbours_47 : decode cX1_withNeighbours 47 = .ok (.iload_n 3, 1) := by decide +kernel
theorem dX1_withNeighbours_48 : decode cX1_withNeighbours 48 = .ok (.iload 4, 2) := by decide +kernel
theorem dX1_withNeighbours_50 : decode cX1_withNeighbours 50 = .ok (.invokevirtual 51, 3) := by decide +kernel
theorem dX1_withNeighbours_53 : decode cX1_withNeighbours 53 = .ok (.ifCond .le 10, 3) := by decide +kernel
theorem dX1_withNeighbours_56 : decode cX1_withNeighbours 56 = .ok (.iload_n 2, 1) := by decide +kernel
theorem dX1_withNeighbours_57 : decode cX1_withNeighbours 57 = .ok (.iconst 1, 1) := by decide +kernel
theorem dX1_withNeighbours_58 : decode cX1_withNeighbours 58 = .ok (.iload 5, 2) := by decide +kernel
theorem dX1_withNeighbours_60 : decode cX1_withNeighbours 60 = .ok (.ishl, 1) := by decide +kernel
theorem dX1_withNeighbours_61 : decode cX1_withNeighbours 61 = .ok (.ior, 1) := by decide +kernel
theorem dX1_withNeighbours_62 : decode cX1_withNeighbours 62 = .ok (.istore_n 2, 1) := by decide +kernel
theorem dX1_withNeighbours_63 : decode cX1_withNeighbours 63 = .ok (.iload_n 2, 1) := by decide +kernel
theorem dX1_withNeighbours_64 : decode cX1_withNeighbours 64 = .ok (.iload 5, 2) := by decide +kernel
theorem dX1_withNeighbours_66 : decode cX1_withNeighbours 66 = .ok (.invokestatic 47, 3) := by decide +kernel
theorem dX1_withNeighbours_69 : decode cX1_withNeighbours 69 = .ok (.ifCond .eq 20, 3) := by decide +kernel
theorem dX1_withNeighbours_72 : decode cX1_withNeighbours 72 = .ok (.aload_n 0, 1) := by decide +kernel
theorem dX1_withNeighbours_73 : decode cX1_withNeighbours 73 = .ok (.iload_n 3, 1) := by decide +kernel
theorem dX1_withNeighbours_74 : decode cX1_withNeighbours 74 = .ok (.iload 5, 2) := by decide +kernel
theorem dX1_withNeighbours_76 : decode cX1_withNeighbours 76 = .ok (.invokevirtual 51, 3) := by decide +kernel
theorem dX1_withNeighbours_79 : decode cX1_withNeighbours 79 = .ok (.ifCond .le 10, 3) := by decide +kernel
theorem dX1_withNeighbours_82 : decode cX1_withNeighbours 82 = .ok (.iload_n 2, 1) := by decide +kernel
theorem dX1_withNeighbours_83 : decode cX1_withNeighbours 83 = .ok (.iconst 1, 1) := by decide +kernel
theorem dX1_withNeighbours_84 : decode cX1_withNeighbours 84 = .ok (.iload 4, 2) := by decide +kernel
theorem dX1_withNeighbours_86 : decode cX1_withNeighbours 86 = .ok (.ishl, 1) := by decide +kernel
theorem dX1_withNeighbours_87 : decode cX1_withNeighbours 87 = .ok (.ior, 1) := by decide +kernel
theorem dX1_withNeighbours_88 : decode cX1_withNeighbours 88 = .ok (.istore_n 2, 1) := by decide +kernel
theorem dX1_withNeighbours_89 : decode cX1_withNeighbours 89 = .ok (.iinc 3 1, 3) := by decide +kernel
theorem dX1_withNeighbours_92 : decode cX1_withNeighbours 92 = .ok (.goto (-88), 3) := by decide +kernel
theorem dX1_withNeighbours_95 : decode cX1_withNeighbours 95 = .ok (.iload_n 2, 1) := by decide +kernel
theorem dX1_withNeighbours_96 : decode cX1_withNeighbours 96 = .ok (.ireturn, 1) := by decide +kernel
theorem dX1_capacityOut_0 : decode cX1_capacityOut 0 = .ok (.iconst 0, 1) := by decide +kernel
theorem dX1_capacityOut_1 : decode cX1_capacityOut 1 = .ok (.istore_n 2, 1) := by decide +kernel
theorem dX1_capacityOut_2 : decode cX1_capacityOut 2 = .ok (.iconst 0, 1) := by decide +kernel
theorem dX1_capacityOut_3 : decode cX1_capacityOut 3 = .ok (.istore_n 3, 1) := by decide +kernel
theorem dX1_capacityOut_4 : decode cX1_capacityOut 4 = .ok (.iload_n 3, 1) := by decide +kernel
theorem dX1_capacityOut_5 : decode cX1_capacityOut 5 = .ok (.aload_n 0, 1) := by decide +kernel
theorem dX1_capacityOut_6 : decode cX1_capacityOut 6 = .ok (.getfield 18, 3) := by decide +kernel
theorem dX1_capacityOut_9 : decode cX1_capacityOut 9 = .ok (.getfield 41, 3) := by decide +kernel
theorem dX1_capacityOut_12 : decode cX1_capacityOut 12 = .ok (.if_icmp .ge 50, 3) := by decide +kernel
theorem dX1_capacityOut_15 : decode cX1_capacityOut 15 = .ok (.iload_n 1, 1) := by decide +kernel
theorem dX1_capacityOut_16 : decode cX1_capacityOut 16 = .ok (.aload_n 0, 1) := by decide +kernel
theorem dX1_capacityOut_17 : decode cX1_capacityOut 17 = .ok (.getfield 18, 3) := by decide +kernel
theorem dX1_capacityOut_20 : decode cX1_capacityOut 20 = .ok (.getfield 28, 3) := by decide +kernel
theorem dX1_capacityOut_23 : decode cX1_capacityOut 23 = .ok (.iload_n 3, 1) := by decide +kernel
theorem dX1_capacityOut_24 : decode cX1_capacityOut 24 = .ok (.iaload, 1) := by decide +kernel
theorem dX1_capacityOut_25 : decode cX1_capacityOut 25 = .ok (.invokestatic 47, 3) := by decide +kernel
theorem dX1_capacityOut_28 : decode cX1_capacityOut 28 = .ok (.ifCond .eq 28, 3) := by decide +kernel
theorem dX1_capacityOut_31 : decode cX1_capacityOut 31 = .ok (.iload_n 1, 1) := by decide +kernel
theorem dX1_capacityOut_32 : decode cX1_capacityOut 32 = .ok (.aload_n 0, 1) := by decide +kernel
theorem dX1_capacityOut_33 : decode cX1_capacityOut 33 = .ok (.getfield 18, 3) := by decide +kernel
theorem dX1_capacityOut_36 : decode cX1_capacityOut 36 = .ok (.getfield 44, 3) := by decide +kernel
theorem dX1_capacityOut_39 : decode cX1_capacityOut 39 = .ok (.iload_n 3, 1) := by decide +kernel
theorem dX1_capacityOut_40 : decode cX1_capacityOut 40 = .ok (.iaload, 1) := by decide +kernel
theorem dX1_capacityOut_41 : decode cX1_capacityOut 41 = .ok (.invokestatic 47, 3) := by decide +kernel
theorem dX1_capacityOut_44 : decode cX1_capacityOut 44 = .ok (.ifCond .ne 12, 3) := by decide +kernel
theorem dX1_capacityOut_47 : decode cX1_capacityOut 47 = .ok (.iload_n 2, 1) := by decide +kernel
theorem dX1_capacityOut_48 : decode cX1_capacityOut 48 = .ok (.aload_n 0, 1) := by decide +kernel
theorem dX1_capacityOut_49 : decode cX1_capacityOut 49 = .ok (.getfield 9, 3) := by decide +kernel
theorem dX1_capacityOut_52 : decode cX1_capacityOut 52 = .ok (.iload_n 3, 1) := by decide +kernel
theorem dX1_capacityOut_53 : decode cX1_capacityOut 53 = .ok (.iaload, 1) := by decide +kernel
theorem dX1_capacityOut_54 : decode cX1_capacityOut 54 = .ok (.iadd, 1) := by decide +kernel
theorem dX1_capacityOut_55 : decode cX1_capacityOut 55 = .ok (.istore_n 2, 1) := by decide +kernel
theorem dX1_capacityOut_56 : decode cX1_capacityOut 56 = .ok (.iinc 3 1, 3) := by decide +kernel
theorem dX1_capacityOut_59 : decode cX1_capacityOut 59 = .ok (.goto (-55), 3) := by decide +kernel
theorem dX1_capacityOut_62 : decode cX1_capacityOut 62 = .ok (.iload_n 2, 1) := by decide +kernel
theorem dX1_capacityOut_63 : decode cX1_capacityOut 63 = .ok (.ireturn, 1) := by decide +kernel
theorem dX2_init_0 : decode cX2_init 0 = .ok (.aload_n 0, 1) := by decide +kernel
theorem dX2_init_1 : decode cX2_init 1 = .ok (.invokespecial 3, 3) := by decide +kernel
theorem dX2_init_4 : decode cX2_init 4 = .ok (.aload_n 0, 1) := by decide +kernel
theorem dX2_init_5 : decode cX2_init 5 = .ok (.bipush 8, 2) := by decide +kernel
theorem dX2_init_7 : decode cX2_init 7 = .ok (.bipush 80, 2) := by decide +kernel
theorem dX2_init_9 : decode cX2_init 9 = .ok (.multianewarray 9 2, 4) := by decide +kernel
theorem dX2_init_13 : decode cX2_init 13 = .ok (.putfield 11, 3) := by decide +kernel
theorem dX2_init_16 : decode cX2_init 16 = .ok (.aload_n 0, 1) := by decide +kernel
theorem dX2_init_17 : decode cX2_init 17 = .ok (.bipush 8, 2) := by decide +kernel
theorem dX2_init_19 : decode cX2_init 19 = .ok (.newarray .int, 2) := by decide +kernel
theorem dX2_init_21 : decode cX2_init 21 = .ok (.putfield 16, 3) := by decide +kernel
theorem dX2_init_24 : decode cX2_init 24 = .ok (.aload_n 0, 1) := by decide +kernel
theorem dX2_init_25 : decode cX2_init 25 = .ok (.bipush 8, 2) := by decide +kernel
theorem dX2_init_27 : decode cX2_init 27 = .ok (.newarray .int, 2) := by decide +kernel
theorem dX2_init_29 : decode cX2_init 29 = .ok (.putfield 20, 3) := by decide +kernel
theorem dX2_init_32 : decode cX2_init 32 = .ok (.return_, 1) := by decide +kernel
theorem dX2_store_0 : decode cX2_store 0 = .ok (.aload_n 1, 1) := by decide +kernel
theorem dX2_store_1 : decode cX2_store 1 = .ok (.getfield 23, 3) := by decide +kernel
theorem dX2_store_4 : decode cX2_store 4 = .ok (.getfield 29, 3) := by decide +kernel
theorem dX2_store_7 : decode cX2_store 7 = .ok (.iconst 0, 1) := by decide +kernel
theorem dX2_store_8 : decode cX2_store 8 = .ok (.aload_n 0, 1) := by decide +kernel
theorem dX2_store_9 : decode cX2_store 9 = .ok (.getfield 11, 3) := by decide +kernel
theorem dX2_store_12 : decode cX2_store 12 = .ok (.aload_n 0, 1) := by decide +kernel
theorem dX2_store_13 : decode cX2_store 13 = .ok (.getfield 33, 3) := by decide +kernel
theorem dX2_store_16 : decode cX2_store 16 = .ok (.aaload, 1) := by decide +kernel
theorem dX2_store_17 : decode cX2_store 17 = .ok (.iconst 0, 1) := by decide +kernel
theorem dX2_store_18 : decode cX2_store 18 = .ok (.bipush 80, 2) := by decide +kernel
theorem dX2_store_20 : decode cX2_store 20 = .ok (.invokestatic 37, 3) := by decide +kernel
theorem dX2_store_23 : decode cX2_store 23 = .ok (.aload_n 0, 1) := by decide +kernel
theorem dX2_store_24 : decode cX2_store 24 = .ok (.getfield 16, 3) := by decide +kernel
theorem dX2_store_27 : decode cX2_store 27 = .ok (.aload_n 0, 1) := by decide +kernel
theorem dX2_store_28 : decode cX2_store 28 = .ok (.getfield 33, 3) := by decide +kernel
theorem dX2_store_31 : decode cX2_store 31 = .ok (.aload_n 1, 1) := by decide +kernel
theorem dX2_store_32 : decode cX2_store 32 = .ok (.getfield 43, 3) := by decide +kernel
theorem dX2_store_35 : decode cX2_store 35 = .ok (.iastore, 1) := by decide +kernel
theorem dX2_store_36 : decode cX2_store 36 = .ok (.aload_n 0, 1) := by decide +kernel
theorem dX2_store_37 : decode cX2_store 37 = .ok (.getfield 20, 3) := by decide +kernel
theorem dX2_store_40 : decode cX2_store 40 = .ok (.aload_n 0, 1) := by decide +kernel
theorem dX2_store_41 : decode cX2_store 41 = .ok (.getfield 33, 3) := by decide +kernel
theorem dX2_store_44 : decode cX2_store 44 = .ok (.aload_n 1, 1) := by decide +kernel
theorem dX2_store_45 : decode cX2_store 45 = .ok (.getfield 45, 3) := by decide +kernel
theorem dX2_store_48 : decode cX2_store 48 = .ok (.iastore, 1) := by decide +kernel
theorem dX2_store_49 : decode cX2_store 49 = .ok (.aload_n 0, 1) := by decide +kernel
theorem dX2_store_50 : decode cX2_store 50 = .ok (.dup, 1) := by decide +kernel
theorem dX2_store_51 : decode cX2_store 51 = .ok (.getfield 33, 3) := by decide +kernel
theorem dX2_store_54 : decode cX2_store 54 = .ok (.iconst 1, 1) := by decide +kernel
theorem dX2_store_55 : decode cX2_store 55 = .ok (.iadd, 1) := by decide +kernel
theorem dX2_store_56 : decode cX2_store 56 = .ok (.putfield 33, 3) := by decide +kernel
theorem dX2_store_59 : decode cX2_store 59 = .ok (.return_, 1) := by decide +kernel
theorem dX3_init_0 : decode cX3_init 0 = .ok (.aload_n 0, 1) := by decide +kernel
theorem dX3_init_1 : decode cX3_init 1 = .ok (.invokespecial 3, 3) := by decide +kernel
theorem dX3_init_4 : decode cX3_init 4 = .ok (.aload_n 0, 1) := by decide +kernel
theorem dX3_init_5 : decode cX3_init 5 = .ok (.iconst (-1), 1) := by decide +kernel
theorem dX3_init_6 : decode cX3_init 6 = .ok (.putfield 9, 3) := by decide +kernel
theorem dX3_init_9 : decode cX3_init 9 = .ok (.aload_n 0, 1) := by decide +kernel
theorem dX3_init_10 : decode cX3_init 10 = .ok (.iconst (-1), 1) := by decide +kernel
theorem dX3_init_11 : decode cX3_init 11 = .ok (.putfield 15, 3) := by decide +kernel
theorem dX3_init_14 : decode cX3_init 14 = .ok (.new 18, 3) := by decide +kernel
theorem dX3_init_17 : decode cX3_init 17 = .ok (.dup, 1) := by decide +kernel
theorem dX3_init_18 : decode cX3_init 18 = .ok (.aload_n 1, 1) := by decide +kernel
theorem dX3_init_19 : decode cX3_init 19 = .ok (.invokespecial 20, 3) := by decide +kernel
theorem dX3_init_22 : decode cX3_init 22 = .ok (.astore_n 2, 1) := by decide +kernel
theorem dX3_init_23 : decode cX3_init 23 = .ok (.aload_n 0, 1) := by decide +kernel
theorem dX3_init_24 : decode cX3_init 24 = .ok (.aload_n 1, 1) := by decide +kernel
theorem dX3_init_25 : decode cX3_init 25 = .ok (.putfield 23, 3) := by decide +kernel
theorem dX3_init_28 : decode cX3_init 28 = .ok (.aload_n 0, 1) := by decide +kernel
theorem dX3_init_29 : decode cX3_init 29 = .ok (.aload_n 2, 1) := by decide +kernel
theorem dX3_init_30 : decode cX3_init 30 = .ok (.putfield 27, 3) := by decide +kernel
theorem dX3_init_33 : decode cX3_init 33 = .ok (.aload_n 0, 1) := by decide +kernel
theorem dX3_init_34 : decode cX3_init 34 = .ok (.new 31, 3) := by decide +kernel
theorem dX3_init_37 : decode cX3_init 37 = .ok (.dup, 1) := by decide +kernel
theorem dX3_init_38 : decode cX3_init 38 = .ok (.aload_n 1, 1) := by decide +kernel
theorem dX3_init_39 : decode cX3_init 39 = .ok (.aload_n 2, 1) := by decide +kernel
theorem dX3_init_40 : decode cX3_init 40 = .ok (.invokespecial 33, 3) := by decide +kernel
theorem dX3_init_43 : decode cX3_init 43 = .ok (.putfield 36, 3) := by decide +kernel
theorem dX3_init_46 : decode cX3_init 46 = .ok (.return_, 1) := by decide +kernel
theorem dX3_hasEnds_0 : decode cX3_hasEnds 0 = .ok (.aload_n 0, 1) := by decide +kernel
theorem dX3_hasEnds_1 : decode cX3_hasEnds 1 = .ok (.getfield 9, 3) := by decide +kernel
theorem dX3_hasEnds_4 : decode cX3_hasEnds 4 = .ok (.iconst (-1), 1) := by decide +kernel
theorem dX3_hasEnds_5 : decode cX3_hasEnds 5 = .ok (.if_icmp .eq 15, 3) := by decide +kernel
theorem dX3_hasEnds_8 : decode cX3_hasEnds 8 = .ok (.aload_n 0, 1) := by decide +kernel
theorem dX3_hasEnds_9 : decode cX3_hasEnds 9 = .ok (.getfield 15, 3) := by decide +kernel
theorem dX3_hasEnds_12 : decode cX3_hasEnds 12 = .ok (.iconst (-1), 1) := by decide +kernel
theorem dX3_hasEnds_13 : decode cX3_hasEnds 13 = .ok (.if_icmp .eq 7, 3) := by decide +kernel
theorem dX3_hasEnds_16 : decode cX3_hasEnds 16 = .ok (.iconst 1, 1) := by decide +kernel
theorem dX3_hasEnds_17 : decode cX3_hasEnds 17 = .ok (.goto 4, 3) := by decide +kernel
theorem dX3_hasEnds_20 : decode cX3_hasEnds 20 = .ok (.iconst 0, 1) := by decide +kernel
theorem dX3_hasEnds_21 : decode cX3_hasEnds 21 = .ok (.ireturn, 1) := by decide +kernel
theorem dX3_copy_0 : decode cX3_copy 0 = .ok (.aload_n 0, 1) := by decide +kernel
theorem dX3_copy_1 : decode cX3_copy 1 = .ok (.getfield 27, 3) := by decide +kernel
theorem dX3_copy_4 : decode cX3_copy 4 = .ok (.aload_n 1, 1) := by decide +kernel
theorem dX3_copy_5 : decode cX3_copy 5 = .ok (.getfield 27, 3) := by decide +kernel
theorem dX3_copy_8 : decode cX3_copy 8 = .ok (.invokevirtual 40, 3) := by decide +kernel
theorem dX3_copy_11 : decode cX3_copy 11 = .ok (.aload_n 0, 1) := by decide +kernel
theorem dX3_copy_12 : decode cX3_copy 12 = .ok (.aload_n 1, 1) := by decide +kernel
theorem dX3_copy_13 : decode cX3_copy 13 = .ok (.getfield 9, 3) := by decide +kernel
theorem dX3_copy_16 : decode cX3_copy 16 = .ok (.putfield 9, 3) := by decide +kernel
theorem dX3_copy_19 : decode cX3_copy 19 = .ok (.aload_n 0, 1) := by decide +kernel
theorem dX3_copy_20 : decode cX3_copy 20 = .ok (.aload_n 1, 1) := by decide +kernel
theorem dX3_copy_21 : decode cX3_copy 21 = .ok (.getfield 15, 3) := by decide +kernel
theorem dX3_copy_24 : decode cX3_copy 24 = .ok (.putfield 15, 3) := by decide +kernel
theorem dX3_copy_27 : decode cX3_copy 27 = .ok (.aload_n 0, 1) := by decide +kernel
theorem dX3_copy_28 : decode cX3_copy 28 = .ok (.aload_n 1, 1) := by decide +kernel
theorem dX3_copy_29 : decode cX3_copy 29 = .ok (.getfield 44, 3) := by decide +kernel
theorem dX3_copy_32 : decode cX3_copy 32 = .ok (.putfield 44, 3) := by decide +kernel
theorem dX3_copy_35 : decode cX3_copy 35 = .ok (.return_, 1) := by decide +kernel
theorem dX3_chooseEnds_0 : decode cX3_chooseEnds 0 = .ok (.aload_n 0, 1) := by decide +kernel
theorem dX3_chooseEnds_1 : decode cX3_chooseEnds 1 = .ok (.getfield 9, 3) := by decide +kernel
theorem dX3_chooseEnds_4 : decode cX3_chooseEnds 4 = .ok (.iload_n 1, 1) := by decide +kernel
theorem dX3_chooseEnds_5 : decode cX3_chooseEnds 5 = .ok (.if_icmp .ne 13, 3) := by decide +kernel
theorem dX3_chooseEnds_8 : decode cX3_chooseEnds 8 = .ok (.aload_n 0, 1) := by decide +kernel
theorem dX3_chooseEnds_9 : decode cX3_chooseEnds 9 = .ok (.getfield 15, 3) := by decide +kernel
theorem dX3_chooseEnds_12 : decode cX3_chooseEnds 12 = .ok (.iload_n 2, 1) := by decide +kernel
theorem dX3_chooseEnds_13 : decode cX3_chooseEnds 13 = .ok (.if_icmp .ne 5, 3) := by decide +kernel
theorem dX3_chooseEnds_16 : decode cX3_chooseEnds 16 = .ok (.iconst 0, 1) := by decide +kernel
theorem dX3_chooseEnds_17 : decode cX3_chooseEnds 17 = .ok (.ireturn, 1) := by decide +kernel
theorem dX3_chooseEnds_18 : decode cX3_chooseEnds 18 = .ok (.aload_n 0, 1) := by decide +kernel
theorem dX3_chooseEnds_19 : decode cX3_chooseEnds 19 = .ok (.iload_n 1, 1) := by decide +kernel
theorem dX3_chooseEnds_20 : decode cX3_chooseEnds 20 = .ok (.putfield 9, 3) := by decide +kernel
theorem dX3_chooseEnds_23 : decode cX3_chooseEnds 23 = .ok (.aload_n 0, 1) := by decide +kernel
theorem dX3_chooseEnds_24 : decode cX3_chooseEnds 24 = .ok (.iload_n 2, 1) := by decide +kernel
theorem dX3_chooseEnds_25 : decode cX3_chooseEnds 25 = .ok (.putfield 15, 3) := by decide +kernel
theorem dX3_chooseEnds_28 : decode cX3_chooseEnds 28 = .ok (.aload_n 0, 1) := by decide +kernel
theorem dX3_chooseEnds_29 : decode cX3_chooseEnds 29 = .ok (.iconst 0, 1) := by decide +kernel
theorem dX3_chooseEnds_30 : decode cX3_chooseEnds 30 = .ok (.putfield 44, 3) := by decide +kernel
theorem dX3_chooseEnds_33 : decode cX3_chooseEnds 33 = .ok (.aload_n 0, 1) := by decide +kernel
theorem dX3_chooseEnds_34 : decode cX3_chooseEnds 34 = .ok (.getfield 27, 3) := by decide +kernel
theorem dX3_chooseEnds_37 : decode cX3_chooseEnds 37 = .ok (.getfield 48, 3) := by decide +kernel
theorem dX3_chooseEnds_40 : decode cX3_chooseEnds 40 = .ok (.iconst 0, 1) := by decide +kernel
theorem dX3_chooseEnds_41 : decode cX3_chooseEnds 41 = .ok (.invokestatic 52, 3) := by decide +kernel
theorem dX3_chooseEnds_44 : decode cX3_chooseEnds 44 = .ok (.iconst 1, 1) := by decide +kernel
theorem dX3_chooseEnds_45 : decode cX3_chooseEnds 45 = .ok (.ireturn, 1) := by decide +kernel
theorem dX3_changeCapacity_0 : decode cX3_changeCapacity 0 = .ok (.aload_n 0, 1) := by decide +kernel
theorem dX3_changeCapacity_1 : decode cX3_changeCapacity 1 = .ok (.getfield 27, 3) := by decide +kernel
theorem dX3_changeCapacity_4 : decode cX3_changeCapacity 4 = .ok (.getfield 58, 3) := by decide +kernel
theorem dX3_changeCapacity_7 : decode cX3_changeCapacity 7 = .ok (.iload_n 1, 1) := by decide +kernel
theorem dX3_changeCapacity_8 : decode cX3_changeCapacity 8 = .ok (.iaload, 1) := by decide +kernel
theorem dX3_changeCapacity_9 : decode cX3_changeCapacity 9 = .ok (.iload_n 2, 1) := by decide +kernel
theorem dX3_changeCapacity_10 : decode cX3_changeCapacity 10 = .ok (.if_icmp .ne 4, 3) := by decide +kernel
theorem dX3_changeCapacity_13 : decode cX3_changeCapacity 13 = .ok (.return_, 1) := by decide +kernel
theorem dX3_changeCapacity_14 : decode cX3_changeCapacity 14 = .ok (.aload_n 0, 1) := by decide +kernel
theorem dX3_changeCapacity_15 : decode cX3_changeCapacity 15 = .ok (.getfield 27, 3) := by decide +kernel
theorem dX3_changeCapacity_18 : decode cX3_changeCapacity 18 = .ok (.getfield 58, 3) := by decide +kernel
theorem dX3_changeCapacity_21 : decode cX3_changeCapacity 21 = .ok (.iload_n 1, 1) := by decide +kernel
theorem dX3_changeCapacity_22 : decode cX3_changeCapacity 22 = .ok (.iload_n 2, 1) := by decide +kernel
theorem dX3_changeCapacity_23 : decode cX3_changeCapacity 23 = .ok (.iastore, 1) := by decide +kernel
theorem dX3_changeCapacity_24 : decode cX3_changeCapacity 24 = .ok (.aload_n 0, 1) := by decide +kernel
theorem dX3_changeCapacity_25 : decode cX3_changeCapacity 25 = .ok (.iconst 0, 1) := by decide +kernel
theorem dX3_changeCapacity_26 : decode cX3_changeCapacity 26 = .ok (.putfield 44, 3) := by decide +kernel
theorem dX3_changeCapacity_29 : decode cX3_changeCapacity 29 = .ok (.aload_n 0, 1) := by decide +kernel
theorem dX3_changeCapacity_30 : decode cX3_changeCapacity 30 = .ok (.getfield 27, 3) := by decide +kernel
theorem dX3_changeCapacity_33 : decode cX3_changeCapacity 33 = .ok (.getfield 48, 3) := by decide +kernel
theorem dX3_changeCapacity_36 : decode cX3_changeCapacity 36 = .ok (.iload_n 1, 1) := by decide +kernel
theorem dX3_changeCapacity_37 : decode cX3_changeCapacity 37 = .ok (.iaload, 1) := by decide +kernel
theorem dX3_changeCapacity_38 : decode cX3_changeCapacity 38 = .ok (.iload_n 2, 1) := by decide +kernel
theorem dX3_changeCapacity_39 : decode cX3_changeCapacity 39 = .ok (.isub, 1) := by decide +kernel
theorem dX3_changeCapacity_40 : decode cX3_changeCapacity 40 = .ok (.istore_n 3, 1) := by decide +kernel
theorem dX3_changeCapacity_41 : decode cX3_changeCapacity 41 = .ok (.iload_n 3, 1) := by decide +kernel
theorem dX3_changeCapacity_42 : decode cX3_changeCapacity 42 = .ok (.ifCond .le 36, 3) := by decide +kernel
theorem dX3_changeCapacity_45 : decode cX3_changeCapacity 45 = .ok (.aload_n 0, 1) := by decide +kernel
theorem dX3_changeCapacity_46 : decode cX3_changeCapacity 46 = .ok (.getfield 27, 3) := by decide +kernel
theorem dX3_changeCapacity_49 : decode cX3_changeCapacity 49 = .ok (.getfield 48, 3) := by decide +kernel
theorem dX3_changeCapacity_52 : decode cX3_changeCapacity 52 = .ok (.iload_n 1, 1) := by decide +kernel
theorem dX3_changeCapacity_53 : decode cX3_changeCapacity 53 = .ok (.iload_n 2, 1) := by decide +kernel
theorem dX3_changeCapacity_54 : decode cX3_changeCapacity 54 = .ok (.iastore, 1) := by decide +kernel
theorem dX3_changeCapacity_55 : decode cX3_changeCapacity 55 = .ok (.aload_n 0, 1) := by decide +kernel
theorem dX3_changeCapacity_56 : decode cX3_changeCapacity 56 = .ok (.aload_n 0, 1) := by decide +kernel
theorem dX3_changeCapacity_57 : decode cX3_changeCapacity 57 = .ok (.getfield 23, 3) := by decide +kernel
theorem dX3_changeCapacity_60 : decode cX3_changeCapacity 60 = .ok (.getfield 61, 3) := by decide +kernel
theorem dX3_changeCapacity_63 : decode cX3_changeCapacity 63 = .ok (.iload_n 1, 1) := by decide +kernel
theorem dX3_changeCapacity_64 : decode cX3_changeCapacity 64 = .ok (.iaload, 1) := by decide +kernel
theorem dX3_changeCapacity_65 : decode cX3_changeCapacity 65 = .ok (.aload_n 0, 1) := by decide +kernel
theorem dX3_changeCapacity_66 : decode cX3_changeCapacity 66 = .ok (.getfield 23, 3) := by decide +kernel
theorem dX3_changeCapacity_69 : decode cX3_changeCapacity 69 = .ok (.getfield 66, 3) := by decide +kernel
theorem dX3_changeCapacity_72 : decode cX3_changeCapacity 72 = .ok (.iload_n 1, 1) := by decide +kernel
theorem dX3_changeCapacity_73 : decode cX3_changeCapacity 73 = .ok (.iaload, 1) := by decide +kernel
theorem dX3_changeCapacity_74 : decode cX3_changeCapacity 74 = .ok (.iload_n 3, 1) := by decide +kernel
theorem dX3_changeCapacity_75 : decode cX3_changeCapacity 75 = .ok (.invokevirtual 69, 3) := by decide +kernel
theorem dX3_changeCapacity_78 : decode cX3_changeCapacity 78 = .ok (.return_, 1) := by decide +kernel
theorem dX3_moveAway_0 : decode cX3_moveAway 0 = .ok (.iload_n 3, 1) := by decide +kernel
theorem dX3_moveAway_1 : decode cX3_moveAway 1 = .ok (.aload_n 0, 1) := by decide +kernel
theorem dX3_moveAway_2 : decode cX3_moveAway 2 = .ok (.getfield 36, 3) := by decide +kernel
theorem dX3_moveAway_5 : decode cX3_moveAway 5 = .ok (.iload_n 1, 1) := by decide +kernel
theorem dX3_moveAway_6 : decode cX3_moveAway 6 = .ok (.iload_n 2, 1) := by decide +kernel
theorem dX3_moveAway_7 : decode cX3_moveAway 7 = .ok (.iload_n 3, 1) := by decide +kernel
theorem dX3_moveAway_8 : decode cX3_moveAway 8 = .ok (.invokevirtual 73, 3) := by decide +kernel
theorem dX3_moveAway_11 : decode cX3_moveAway 11 = .ok (.isub, 1) := by decide +kernel
theorem dX3_moveAway_12 : decode cX3_moveAway 12 = .ok (.istore 4, 2) := by decide +kernel
theorem dX3_moveAway_14 : decode cX3_moveAway 14 = .ok (.aload_n 0, 1) := by decide +kernel
theorem dX3_moveAway_15 : decode cX3_moveAway 15 = .ok (.getfield 36, 3) := by decide +kernel
theorem dX3_moveAway_18 : decode cX3_moveAway 18 = .ok (.iload_n 1, 1) := by decide +kernel
theorem dX3_moveAway_19 : decode cX3_moveAway 19 = .ok (.aload_n 0, 1) := by decide +kernel
theorem dX3_moveAway_20 : decode cX3_moveAway 20 = .ok (.getfield 9, 3) := by decide +kernel
theorem dX3_moveAway_23 : decode cX3_moveAway 23 = .ok (.iload 4, 2) := by decide +kernel
theorem dX3_moveAway_25 : decode cX3_moveAway 25 = .ok (.invokevirtual 73, 3) := by decide +kernel
theorem dX3_moveAway_28 : decode cX3_moveAway 28 = .ok (.pop, 1) := by decide +kernel
theorem dX3_moveAway_29 : decode cX3_moveAway 29 = .ok (.aload_n 0, 1) := by decide +kernel
theorem dX3_moveAway_30 : decode cX3_moveAway 30 = .ok (.getfield 36, 3) := by decide +kernel
theorem dX3_moveAway_33 : decode cX3_moveAway 33 = .ok (.aload_n 0, 1) := by decide +kernel
theorem dX3_moveAway_34 : decode cX3_moveAway 34 = .ok (.getfield 15, 3) := by decide +kernel
theorem dX3_moveAway_37 : decode cX3_moveAway 37 = .ok (.iload_n 2, 1) := by decide +kernel
theorem dX3_moveAway_38 : decode cX3_moveAway 38 = .ok (.iload 4, 2) := by decide +kernel
theorem dX3_moveAway_40 : decode cX3_moveAway 40 = .ok (.invokevirtual 73, 3) := by decide +kernel
theorem dX3_moveAway_43 : decode cX3_moveAway 43 = .ok (.pop, 1) := by decide +kernel
theorem dX3_moveAway_44 : decode cX3_moveAway 44 = .ok (.return_, 1) := by decide +kernel
theorem dX3_settle_0 : decode cX3_settle 0 = .ok (.aload_n 0, 1) := by decide +kernel
theorem dX3_settle_1 : decode cX3_settle 1 = .ok (.getfield 44, 3) := by decide +kernel
theorem dX3_settle_4 : decode cX3_settle 4 = .ok (.ifCond .ne 26, 3) := by decide +kernel
theorem dX3_settle_7 : decode cX3_settle 7 = .ok (.aload_n 0, 1) := by decide +kernel
theorem dX3_settle_8 : decode cX3_settle 8 = .ok (.getfield 36, 3) := by decide +kernel
theorem dX3_settle_11 : decode cX3_settle 11 = .ok (.aload_n 0, 1) := by decide +kernel
theorem dX3_settle_12 : decode cX3_settle 12 = .ok (.getfield 9, 3) := by decide +kernel
theorem dX3_settle_15 : decode cX3_settle 15 = .ok (.aload_n 0, 1) := by decide +kernel
theorem dX3_settle_16 : decode cX3_settle 16 = .ok (.getfield 15, 3) := by decide +kernel
theorem dX3_settle_19 : decode cX3_settle 19 = .ok (.ldc 77, 2) := by decide +kernel
theorem dX3_settle_21 : decode cX3_settle 21 = .ok (.invokevirtual 73, 3) := by decide +kernel
theorem dX3_settle_24 : decode cX3_settle 24 = .ok (.pop, 1) := by decide +kernel
theorem dX3_settle_25 : decode cX3_settle 25 = .ok (.aload_n 0, 1) := by decide +kernel
theorem dX3_settle_26 : decode cX3_settle 26 = .ok (.iconst 1, 1) := by decide +kernel
theorem dX3_settle_27 : decode cX3_settle 27 = .ok (.putfield 44, 3) := by decide +kernel
theorem dX3_settle_30 : decode cX3_settle 30 = .ok (.return_, 1) := by decide +kernel
theorem dX3_greatestValue_0 : decode cX3_greatestValue 0 = .ok (.aload_n 0, 1) := by decide +kernel
theorem dX3_greatestValue_1 : decode cX3_greatestValue 1 = .ok (.invokevirtual 78, 3) := by decide +kernel
theorem dX3_greatestValue_4 : decode cX3_greatestValue 4 = .ok (.iconst 0, 1) := by decide +kernel
theorem dX3_greatestValue_5 : decode cX3_greatestValue 5 = .ok (.istore_n 1, 1) := by decide +kernel
theorem dX3_greatestValue_6 : decode cX3_greatestValue 6 = .ok (.iconst 0, 1) := by decide +kernel
theorem dX3_greatestValue_7 : decode cX3_greatestValue 7 = .ok (.istore_n 2, 1) := by decide +kernel
theorem dX3_greatestValue_8 : decode cX3_greatestValue 8 = .ok (.iload_n 2, 1) := by decide +kernel
theorem dX3_greatestValue_9 : decode cX3_greatestValue 9 = .ok (.aload_n 0, 1) := by decide +kernel
theorem dX3_greatestValue_10 : decode cX3_greatestValue 10 = .ok (.getfield 23, 3) := by decide +kernel
theorem dX3_greatestValue_13 : decode cX3_greatestValue 13 = .ok (.getfield 81, 3) := by decide +kernel
theorem dX3_greatestValue_16 : decode cX3_greatestValue 16 = .ok (.if_icmp .ge 65, 3) := by decide +kernel
theorem dX3_greatestValue_19 : decode cX3_greatestValue 19 = .ok (.aload_n 0, 1) := by decide +kernel
theorem dX3_greatestValue_20 : decode cX3_greatestValue 20 = .ok (.getfield 23, 3) := by decide +kernel
theorem dX3_greatestValue_23 : decode cX3_greatestValue 23 = .ok (.getfield 61, 3) := by decide +kernel
theorem dX3_greatestValue_26 : decode cX3_greatestValue 26 = .ok (.iload_n 2, 1) := by decide +kernel
theorem dX3_greatestValue_27 : decode cX3_greatestValue 27 = .ok (.iaload, 1) := by decide +kernel
theorem dX3_greatestValue_28 : decode cX3_greatestValue 28 = .ok (.aload_n 0, 1) := by decide +kernel
theorem dX3_greatestValue_29 : decode cX3_greatestValue 29 = .ok (.getfield 9, 3) := by decide +kernel
theorem dX3_greatestValue_32 : decode cX3_greatestValue 32 = .ok (.if_icmp .ne 15, 3) := by decide +kernel
theorem dX3_greatestValue_35 : decode cX3_greatestValue 35 = .ok (.iload_n 1, 1) := by decide +kernel
theorem dX3_greatestValue_36 : decode cX3_greatestValue 36 = .ok (.aload_n 0, 1) := by decide +kernel
theorem dX3_greatestValue_37 : decode cX3_greatestValue 37 = .ok (.getfield 27, 3) := by decide +kernel
theorem dX3_greatestValue_40 : decode cX3_greatestValue 40 = .ok (.getfield 48, 3) := by decide +kernel
theorem dX3_greatestValue_43 : decode cX3_greatestValue 43 = .ok (.iload_n 2, 1) := by decide +kernel
theorem dX3_greatestValue_44 : decode cX3_greatestValue 44 = .ok (.iaload, 1) := by decide +kernel
theorem dX3_greatestValue_45 : decode cX3_greatestValue 45 = .ok (.iadd, 1) := by decide +kernel
theorem dX3_greatestValue_46 : decode cX3_greatestValue 46 = .ok (.istore_n 1, 1) := by decide +kernel
theorem dX3_greatestValue_47 : decode cX3_greatestValue 47 = .ok (.aload_n 0, 1) := by decide +kernel
theorem dX3_greatestValue_48 : decode cX3_greatestValue 48 = .ok (.getfield 23, 3) := by decide +kernel
theorem dX3_greatestValue_51 : decode cX3_greatestValue 51 = .ok (.getfield 66, 3) := by decide +kernel
theorem dX3_greatestValue_54 : decode cX3_greatestValue 54 = .ok (.iload_n 2, 1) := by decide +kernel
theorem dX3_greatestValue_55 : decode cX3_greatestValue 55 = .ok (.iaload, 1) := by decide +kernel
theorem dX3_greatestValue_56 : decode cX3_greatestValue 56 = .ok (.aload_n 0, 1) := by decide +kernel
theorem dX3_greatestValue_57 : decode cX3_greatestValue 57 = .ok (.getfield 9, 3) := by decide +kernel
theorem dX3_greatestValue_60 : decode cX3_greatestValue 60 = .ok (.if_icmp .ne 15, 3) := by decide +kernel
theorem dX3_greatestValue_63 : decode cX3_greatestValue 63 = .ok (.iload_n 1, 1) := by decide +kernel
theorem dX3_greatestValue_64 : decode cX3_greatestValue 64 = .ok (.aload_n 0, 1) := by decide +kernel
theorem dX3_greatestValue_65 : decode cX3_greatestValue 65 = .ok (.getfield 27, 3) := by decide +kernel
theorem dX3_greatestValue_68 : decode cX3_greatestValue 68 = .ok (.getfield 48, 3) := by decide +kernel
theorem dX3_greatestValue_71 : decode cX3_greatestValue 71 = .ok (.iload_n 2, 1) := by decide +kernel
theorem dX3_greatestValue_72 : decode cX3_greatestValue 72 = .ok (.iaload, 1) := by decide +kernel
theorem dX3_greatestValue_73 : decode cX3_greatestValue 73 = .ok (.isub, 1) := by decide +kernel
theorem dX3_greatestValue_74 : decode cX3_greatestValue 74 = .ok (.istore_n 1, 1) := by decide +kernel
theorem dX3_greatestValue_75 : decode cX3_greatestValue 75 = .ok (.iinc 2 1, 3) := by decide +kernel
theorem dX3_greatestValue_78 : decode cX3_greatestValue 78 = .ok (.goto (-70), 3) := by decide +kernel
theorem dX3_greatestValue_81 : decode cX3_greatestValue 81 = .ok (.iload_n 1, 1) := by decide +kernel
theorem dX3_greatestValue_82 : decode cX3_greatestValue 82 = .ok (.ireturn, 1) := by decide +kernel
theorem dX3_smallestMask_0 : decode cX3_smallestMask 0 = .ok (.aload_n 0, 1) := by decide +kernel
theorem dX3_smallestMask_1 : decode cX3_smallestMask 1 = .ok (.invokevirtual 78, 3) := by decide +kernel
theorem dX3_smallestMask_4 : decode cX3_smallestMask 4 = .ok (.aload_n 0, 1) := by decide +kernel
theorem dX3_smallestMask_5 : decode cX3_smallestMask 5 = .ok (.getfield 27, 3) := by decide +kernel
theorem dX3_smallestMask_8 : decode cX3_smallestMask 8 = .ok (.aload_n 0, 1) := by decide +kernel
theorem dX3_smallestMask_9 : decode cX3_smallestMask 9 = .ok (.getfield 9, 3) := by decide +kernel
theorem dX3_smallestMask_12 : decode cX3_smallestMask 12 = .ok (.invokevirtual 84, 3) := by decide +kernel
theorem dX3_smallestMask_15 : decode cX3_smallestMask 15 = .ok (.ireturn, 1) := by decide +kernel
theorem dX3_greatestMask_0 : decode cX3_greatestMask 0 = .ok (.aload_n 0, 1) := by decide +kernel
theorem dX3_greatestMask_1 : decode cX3_greatestMask 1 = .ok (.invokevirtual 78, 3) := by decide +kernel
theorem dX3_greatestMask_4 : decode cX3_greatestMask 4 = .ok (.iconst 0, 1) := by decide +kernel
theorem dX3_greatestMask_5 : decode cX3_greatestMask 5 = .ok (.istore_n 1, 1) := by decide +kernel
theorem dX3_greatestMask_6 : decode cX3_greatestMask 6 = .ok (.iconst 0, 1) := by decide +kernel
theorem dX3_greatestMask_7 : decode cX3_greatestMask 7 = .ok (.istore_n 2, 1) := by decide +kernel
theorem dX3_greatestMask_8 : decode cX3_greatestMask 8 = .ok (.iload_n 2, 1) := by decide +kernel
theorem dX3_greatestMask_9 : decode cX3_greatestMask 9 = .ok (.aload_n 0, 1) := by decide +kernel
theorem dX3_greatestMask_10 : decode cX3_greatestMask 10 = .ok (.getfield 23, 3) := by decide +kernel
theorem dX3_greatestMask_13 : decode cX3_greatestMask 13 = .ok (.getfield 88, 3) := by decide +kernel
theorem dX3_greatestMask_16 : decode cX3_greatestMask 16 = .ok (.if_icmp .ge 33, 3) := by decide +kernel
theorem dX3_greatestMask_19 : decode cX3_greatestMask 19 = .ok (.aload_n 0, 1) := by decide +kernel
theorem dX3_greatestMask_20 : decode cX3_greatestMask 20 = .ok (.getfield 27, 3) := by decide +kernel
theorem dX3_greatestMask_23 : decode cX3_greatestMask 23 = .ok (.iload_n 2, 1) := by decide +kernel
theorem dX3_greatestMask_24 : decode cX3_greatestMask 24 = .ok (.invokevirtual 84, 3) := by decide +kernel
theorem dX3_greatestMask_27 : decode cX3_greatestMask 27 = .ok (.aload_n 0, 1) := by decide +kernel
theorem dX3_greatestMask_28 : decode cX3_greatestMask 28 = .ok (.getfield 15, 3) := by decide +kernel
theorem dX3_greatestMask_31 : decode cX3_greatestMask 31 = .ok (.invokestatic 91, 3) := by decide +kernel
theorem dX3_greatestMask_34 : decode cX3_greatestMask 34 = .ok (.ifCond .ne 9, 3) := by decide +kernel
theorem dX3_greatestMask_37 : decode cX3_greatestMask 37 = .ok (.iload_n 1, 1) := by decide +kernel
theorem dX3_greatestMask_38 : decode cX3_greatestMask 38 = .ok (.iconst 1, 1) := by decide +kernel
theorem dX3_greatestMask_39 : decode cX3_greatestMask 39 = .ok (.iload_n 2, 1) := by decide +kernel
theorem dX3_greatestMask_40 : decode cX3_greatestMask 40 = .ok (.ishl, 1) := by decide +kernel
theorem dX3_greatestMask_41 : decode cX3_greatestMask 41 = .ok (.ior, 1) := by decide +kernel
theorem dX3_greatestMask_42 : decode cX3_greatestMask 42 = .ok (.istore_n 1, 1) := by decide +kernel
theorem dX3_greatestMask_43 : decode cX3_greatestMask 43 = .ok (.iinc 2 1, 3) := by decide +kernel
theorem dX3_greatestMask_46 : decode cX3_greatestMask 46 = .ok (.goto (-38), 3) := by decide +kernel
theorem dX3_greatestMask_49 : decode cX3_greatestMask 49 = .ok (.iload_n 1, 1) := by decide +kernel
theorem dX3_greatestMask_50 : decode cX3_greatestMask 50 = .ok (.ireturn, 1) := by decide +kernel
theorem dX4_init_0 : decode cX4_init 0 = .ok (.aload_n 0, 1) := by decide +kernel
theorem dX4_init_1 : decode cX4_init 1 = .ok (.invokespecial 3, 3) := by decide +kernel
theorem dX4_init_4 : decode cX4_init 4 = .ok (.aload_n 0, 1) := by decide +kernel
theorem dX4_init_5 : decode cX4_init 5 = .ok (.bipush 80, 2) := by decide +kernel
theorem dX4_init_7 : decode cX4_init 7 = .ok (.newarray .int, 2) := by decide +kernel
theorem dX4_init_9 : decode cX4_init 9 = .ok (.putfield 9, 3) := by decide +kernel
theorem dX4_init_12 : decode cX4_init 12 = .ok (.aload_n 0, 1) := by decide +kernel
theorem dX4_init_13 : decode cX4_init 13 = .ok (.bipush 80, 2) := by decide +kernel
theorem dX4_init_15 : decode cX4_init 15 = .ok (.newarray .int, 2) := by decide +kernel
theorem dX4_init_17 : decode cX4_init 17 = .ok (.putfield 15, 3) := by decide +kernel
theorem dX4_init_20 : decode cX4_init 20 = .ok (.aload_n 0, 1) := by decide +kernel
theorem dX4_init_21 : decode cX4_init 21 = .ok (.bipush 24, 2) := by decide +kernel
theorem dX4_init_23 : decode cX4_init 23 = .ok (.newarray .int, 2) := by decide +kernel
theorem dX4_init_25 : decode cX4_init 25 = .ok (.putfield 18, 3) := by decide +kernel
theorem dX4_init_28 : decode cX4_init 28 = .ok (.aload_n 0, 1) := by decide +kernel
theorem dX4_init_29 : decode cX4_init 29 = .ok (.bipush 24, 2) := by decide +kernel
theorem dX4_init_31 : decode cX4_init 31 = .ok (.bipush 80, 2) := by decide +kernel
theorem dX4_init_33 : decode cX4_init 33 = .ok (.multianewarray 21 2, 4) := by decide +kernel
theorem dX4_init_37 : decode cX4_init 37 = .ok (.putfield 23, 3) := by decide +kernel
theorem dX4_init_40 : decode cX4_init 40 = .ok (.return_, 1) := by decide +kernel
theorem dX4_makeNode_0 : decode cX4_makeNode 0 = .ok (.aload_n 0, 1) := by decide +kernel
theorem dX4_makeNode_1 : decode cX4_makeNode 1 = .ok (.dup, 1) := by decide +kernel
theorem dX4_makeNode_2 : decode cX4_makeNode 2 = .ok (.getfield 26, 3) := by decide +kernel
theorem dX4_makeNode_5 : decode cX4_makeNode 5 = .ok (.iconst 1, 1) := by decide +kernel
theorem dX4_makeNode_6 : decode cX4_makeNode 6 = .ok (.iadd, 1) := by decide +kernel
theorem dX4_makeNode_7 : decode cX4_makeNode 7 = .ok (.putfield 26, 3) := by decide +kernel
theorem dX4_makeNode_10 : decode cX4_makeNode 10 = .ok (.aload_n 0, 1) := by decide +kernel
theorem dX4_makeNode_11 : decode cX4_makeNode 11 = .ok (.getfield 26, 3) := by decide +kernel
theorem dX4_makeNode_14 : decode cX4_makeNode 14 = .ok (.iconst 1, 1) := by decide +kernel
theorem dX4_makeNode_15 : decode cX4_makeNode 15 = .ok (.isub, 1) := by decide +kernel
theorem dX4_makeNode_16 : decode cX4_makeNode 16 = .ok (.ireturn, 1) := by decide +kernel
theorem dX4_makeArc_0 : decode cX4_makeArc 0 = .ok (.aload_n 0, 1) := by decide +kernel
theorem dX4_makeArc_1 : decode cX4_makeArc 1 = .ok (.getfield 30, 3) := by decide +kernel
theorem dX4_makeArc_4 : decode cX4_makeArc 4 = .ok (.istore_n 3, 1) := by decide +kernel
theorem dX4_makeArc_5 : decode cX4_makeArc 5 = .ok (.aload_n 0, 1) := by decide +kernel
theorem dX4_makeArc_6 : decode cX4_makeArc 6 = .ok (.dup, 1) := by decide +kernel
theorem dX4_makeArc_7 : decode cX4_makeArc 7 = .ok (.getfield 30, 3) := by decide +kernel
theorem dX4_makeArc_10 : decode cX4_makeArc 10 = .ok (.iconst 1, 1) := by decide +kernel
theorem dX4_makeArc_11 : decode cX4_makeArc 11 = .ok (.iadd, 1) := by decide +kernel
theorem dX4_makeArc_12 : decode cX4_makeArc 12 = .ok (.putfield 30, 3) := by decide +kernel
theorem dX4_makeArc_15 : decode cX4_makeArc 15 = .ok (.aload_n 0, 1) := by decide +kernel
theorem dX4_makeArc_16 : decode cX4_makeArc 16 = .ok (.getfield 9, 3) := by decide +kernel
theorem dX4_makeArc_19 : decode cX4_makeArc 19 = .ok (.iload_n 3, 1) := by decide +kernel
theorem dX4_makeArc_20 : decode cX4_makeArc 20 = .ok (.iload_n 1, 1) := by decide +kernel
theorem dX4_makeArc_21 : decode cX4_makeArc 21 = .ok (.iastore, 1) := by decide +kernel
theorem dX4_makeArc_22 : decode cX4_makeArc 22 = .ok (.aload_n 0, 1) := by decide +kernel
theorem dX4_makeArc_23 : decode cX4_makeArc 23 = .ok (.getfield 15, 3) := by decide +kernel
theorem dX4_makeArc_26 : decode cX4_makeArc 26 = .ok (.iload_n 3, 1) := by decide +kernel
theorem dX4_makeArc_27 : decode cX4_makeArc 27 = .ok (.iload_n 2, 1) := by decide +kernel
theorem dX4_makeArc_28 : decode cX4_makeArc 28 = .ok (.iastore, 1) := by decide +kernel
theorem dX4_makeArc_29 : decode cX4_makeArc 29 = .ok (.aload_n 0, 1) := by decide +kernel
theorem dX4_makeArc_30 : decode cX4_makeArc 30 = .ok (.iload_n 3, 1) := by decide +kernel
theorem dX4_makeArc_31 : decode cX4_makeArc 31 = .ok (.iload_n 1, 1) := by decide +kernel
theorem dX4_makeArc_32 : decode cX4_makeArc 32 = .ok (.invokevirtual 33, 3) := by decide +kernel
theorem dX4_makeArc_35 : decode cX4_makeArc 35 = .ok (.aload_n 0, 1) := by decide +kernel
theorem dX4_makeArc_36 : decode cX4_makeArc 36 = .ok (.iload_n 3, 1) := by decide +kernel
theorem dX4_makeArc_37 : decode cX4_makeArc 37 = .ok (.iload_n 2, 1) := by decide +kernel
theorem dX4_makeArc_38 : decode cX4_makeArc 38 = .ok (.invokevirtual 33, 3) := by decide +kernel
theorem dX4_makeArc_41 : decode cX4_makeArc 41 = .ok (.iload_n 3, 1) := by decide +kernel
theorem dX4_makeArc_42 : decode cX4_makeArc 42 = .ok (.ireturn, 1) := by decide +kernel
theorem dX4_attach_0 : decode cX4_attach 0 = .ok (.aload_n 0, 1) := by decide +kernel
theorem dX4_attach_1 : decode cX4_attach 1 = .ok (.getfield 23, 3) := by decide +kernel
theorem dX4_attach_4 : decode cX4_attach 4 = .ok (.iload_n 2, 1) := by decide +kernel
theorem dX4_attach_5 : decode cX4_attach 5 = .ok (.aaload, 1) := by decide +kernel
theorem dX4_attach_6 : decode cX4_attach 6 = .ok (.aload_n 0, 1) := by decide +kernel
theorem dX4_attach_7 : decode cX4_attach 7 = .ok (.getfield 18, 3) := by decide +kernel
theorem dX4_attach_10 : decode cX4_attach 10 = .ok (.iload_n 2, 1) := by decide +kernel
theorem dX4_attach_11 : decode cX4_attach 11 = .ok (.iaload, 1) := by decide +kernel
theorem dX4_attach_12 : decode cX4_attach 12 = .ok (.iload_n 1, 1) := by decide +kernel
theorem dX4_attach_13 : decode cX4_attach 13 = .ok (.iastore, 1) := by decide +kernel
theorem dX4_attach_14 : decode cX4_attach 14 = .ok (.aload_n 0, 1) := by decide +kernel
theorem dX4_attach_15 : decode cX4_attach 15 = .ok (.getfield 18, 3) := by decide +kernel
theorem dX4_attach_18 : decode cX4_attach 18 = .ok (.iload_n 2, 1) := by decide +kernel
theorem dX4_attach_19 : decode cX4_attach 19 = .ok (.dup2, 1) := by decide +kernel
theorem dX4_attach_20 : decode cX4_attach 20 = .ok (.iaload, 1) := by decide +kernel
theorem dX4_attach_21 : decode cX4_attach 21 = .ok (.iconst 1, 1) := by decide +kernel
theorem dX4_attach_22 : decode cX4_attach 22 = .ok (.iadd, 1) := by decide +kernel
theorem dX4_attach_23 : decode cX4_attach 23 = .ok (.iastore, 1) := by decide +kernel
theorem dX4_attach_24 : decode cX4_attach 24 = .ok (.return_, 1) := by decide +kernel
theorem dX4_otherEnd_0 : decode cX4_otherEnd 0 = .ok (.aload_n 0, 1) := by decide +kernel
theorem dX4_otherEnd_1 : decode cX4_otherEnd 1 = .ok (.getfield 9, 3) := by decide +kernel
theorem dX4_otherEnd_4 : decode cX4_otherEnd 4 = .ok (.iload_n 1, 1) := by decide +kernel
theorem dX4_otherEnd_5 : decode cX4_otherEnd 5 = .ok (.iaload, 1) := by decide +kernel
theorem dX4_otherEnd_6 : decode cX4_otherEnd 6 = .ok (.iload_n 2, 1) := by decide +kernel
theorem dX4_otherEnd_7 : decode cX4_otherEnd 7 = .ok (.if_icmp .ne 12, 3) := by decide +kernel
theorem dX4_otherEnd_10 : decode cX4_otherEnd 10 = .ok (.aload_n 0, 1) := by decide +kernel
theorem dX4_otherEnd_11 : decode cX4_otherEnd 11 = .ok (.getfield 15, 3) := by decide +kernel
theorem dX4_otherEnd_14 : decode cX4_otherEnd 14 = .ok (.iload_n 1, 1) := by decide +kernel
theorem dX4_otherEnd_15 : decode cX4_otherEnd 15 = .ok (.iaload, 1) := by decide +kernel
theorem dX4_otherEnd_16 : decode cX4_otherEnd 16 = .ok (.goto 9, 3) := by decide +kernel
theorem dX4_otherEnd_19 : decode cX4_otherEnd 19 = .ok (.aload_n 0, 1) := by decide +kernel
theorem dX4_otherEnd_20 : decode cX4_otherEnd 20 = .ok (.getfield 9, 3) := by decide +kernel
theorem dX4_otherEnd_23 : decode cX4_otherEnd 23 = .ok (.iload_n 1, 1) := by decide +kernel
theorem dX4_otherEnd_24 : decode cX4_otherEnd 24 = .ok (.iaload, 1) := by decide +kernel
theorem dX4_otherEnd_25 : decode cX4_otherEnd 25 = .ok (.ireturn, 1) := by decide +kernel
theorem dX4_allNodes_0 : decode cX4_allNodes 0 = .ok (.iconst 1, 1) := by decide +kernel
theorem dX4_allNodes_1 : decode cX4_allNodes 1 = .ok (.aload_n 0, 1) := by decide +kernel
theorem dX4_allNodes_2 : decode cX4_allNodes 2 = .ok (.getfield 26, 3) := by decide +kernel
theorem dX4_allNodes_5 : decode cX4_allNodes 5 = .ok (.ishl, 1) := by decide +kernel
theorem dX4_allNodes_6 : decode cX4_allNodes 6 = .ok (.iconst 1, 1) := by decide +kernel
theorem dX4_allNodes_7 : decode cX4_allNodes 7 = .ok (.isub, 1) := by decide +kernel
theorem dX4_allNodes_8 : decode cX4_allNodes 8 = .ok (.ireturn, 1) := by decide +kernel
theorem dX5_init_0 : decode cX5_init 0 = .ok (.aload_n 0, 1) := by decide +kernel
theorem dX5_init_1 : decode cX5_init 1 = .ok (.invokespecial 3, 3) := by decide +kernel
theorem dX5_init_4 : decode cX5_init 4 = .ok (.aload_n 0, 1) := by decide +kernel
theorem dX5_init_5 : decode cX5_init 5 = .ok (.bipush 24, 2) := by decide +kernel
theorem dX5_init_7 : decode cX5_init 7 = .ok (.newarray .int, 2) := by decide +kernel
theorem dX5_init_9 : decode cX5_init 9 = .ok (.putfield 9, 3) := by decide +kernel
theorem dX5_init_12 : decode cX5_init 12 = .ok (.aload_n 0, 1) := by decide +kernel
theorem dX5_init_13 : decode cX5_init 13 = .ok (.bipush 24, 2) := by decide +kernel
theorem dX5_init_15 : decode cX5_init 15 = .ok (.newarray .int, 2) := by decide +kernel
theorem dX5_init_17 : decode cX5_init 17 = .ok (.putfield 15, 3) := by decide +kernel
theorem dX5_init_20 : decode cX5_init 20 = .ok (.aload_n 0, 1) := by decide +kernel
theorem dX5_init_21 : decode cX5_init 21 = .ok (.bipush 24, 2) := by decide +kernel
theorem dX5_init_23 : decode cX5_init 23 = .ok (.newarray .int, 2) := by decide +kernel
theorem dX5_init_25 : decode cX5_init 25 = .ok (.putfield 18, 3) := by decide +kernel
theorem dX5_init_28 : decode cX5_init 28 = .ok (.aload_n 0, 1) := by decide +kernel
theorem dX5_init_29 : decode cX5_init 29 = .ok (.aload_n 1, 1) := by decide +kernel
theorem dX5_init_30 : decode cX5_init 30 = .ok (.putfield 21, 3) := by decide +kernel
theorem dX5_init_33 : decode cX5_init 33 = .ok (.aload_n 0, 1) := by decide +kernel
theorem dX5_init_34 : decode cX5_init 34 = .ok (.aload_n 2, 1) := by decide +kernel
theorem dX5_init_35 : decode cX5_init 35 = .ok (.putfield 25, 3) := by decide +kernel
theorem dX5_init_38 : decode cX5_init 38 = .ok (.return_, 1) := by decide +kernel
theorem dX5_route_0 : decode cX5_route 0 = .ok (.iload_n 1, 1) := by decide +kernel
theorem dX5_route_1 : decode cX5_route 1 = .ok (.ifCond .lt 16, 3) := by decide +kernel
theorem dX5_route_4 : decode cX5_route 4 = .ok (.iload_n 2, 1) := by decide +kernel
theorem dX5_route_5 : decode cX5_route 5 = .ok (.ifCond .lt 12, 3) := by decide +kernel
theorem dX5_route_8 : decode cX5_route 8 = .ok (.iload_n 1, 1) := by decide +kernel
theorem dX5_route_9 : decode cX5_route 9 = .ok (.iload_n 2, 1) := by decide +kernel
theorem dX5_route_10 : decode cX5_route 10 = .ok (.if_icmp .eq 7, 3) := by decide +kernel
theorem dX5_route_13 : decode cX5_route 13 = .ok (.iload_n 3, 1) := by decide +kernel
theorem dX5_route_14 : decode cX5_route 14 = .ok (.ifCond .gt 5, 3) := by decide +kernel
theorem dX5_route_17 : decode cX5_route 17 = .ok (.iconst 0, 1) := by decide +kernel
theorem dX5_route_18 : decode cX5_route 18 = .ok (.ireturn, 1) := by decide +kernel
theorem dX5_route_19 : decode cX5_route 19 = .ok (.aload_n 0, 1) := by decide +kernel
theorem dX5_route_20 : decode cX5_route 20 = .ok (.iload_n 1, 1) := by decide +kernel
theorem dX5_route_21 : decode cX5_route 21 = .ok (.putfield 29, 3) := by decide +kernel
theorem dX5_route_24 : decode cX5_route 24 = .ok (.aload_n 0, 1) := by decide +kernel
theorem dX5_route_25 : decode cX5_route 25 = .ok (.iload_n 2, 1) := by decide +kernel
theorem dX5_route_26 : decode cX5_route 26 = .ok (.putfield 33, 3) := by decide +kernel
theorem dX5_route_29 : decode cX5_route 29 = .ok (.aload_n 0, 1) := by decide +kernel
theorem dX5_route_30 : decode cX5_route 30 = .ok (.invokevirtual 36, 3) := by decide +kernel
theorem dX5_route_33 : decode cX5_route 33 = .ok (.aload_n 0, 1) := by decide +kernel
theorem dX5_route_34 : decode cX5_route 34 = .ok (.getfield 9, 3) := by decide +kernel
theorem dX5_route_37 : decode cX5_route 37 = .ok (.iconst 0, 1) := by decide +kernel
theorem dX5_route_38 : decode cX5_route 38 = .ok (.invokestatic 39, 3) := by decide +kernel
theorem dX5_route_41 : decode cX5_route 41 = .ok (.aload_n 0, 1) := by decide +kernel
theorem dX5_route_42 : decode cX5_route 42 = .ok (.getfield 9, 3) := by decide +kernel
theorem dX5_route_45 : decode cX5_route 45 = .ok (.iload_n 1, 1) := by decide +kernel
theorem dX5_route_46 : decode cX5_route 46 = .ok (.iload_n 3, 1) := by decide +kernel
theorem dX5_route_47 : decode cX5_route 47 = .ok (.iastore, 1) := by decide +kernel
theorem dX5_route_48 : decode cX5_route 48 = .ok (.iconst 1, 1) := by decide +kernel
theorem dX5_route_49 : decode cX5_route 49 = .ok (.istore 4, 2) := by decide +kernel
theorem dX5_route_51 : decode cX5_route 51 = .ok (.iconst 0, 1) := by decide +kernel
theorem dX5_route_52 : decode cX5_route 52 = .ok (.istore 5, 2) := by decide +kernel
theorem dX5_route_54 : decode cX5_route 54 = .ok (.iload 5, 2) := by decide +kernel
theorem dX5_route_56 : decode cX5_route 56 = .ok (.ldc 45, 2) := by decide +kernel
theorem dX5_route_58 : decode cX5_route 58 = .ok (.if_icmp .ge 20, 3) := by decide +kernel
theorem dX5_route_61 : decode cX5_route 61 = .ok (.iload 4, 2) := by decide +kernel
theorem dX5_route_63 : decode cX5_route 63 = .ok (.ifCond .eq 15, 3) := by decide +kernel
theorem dX5_route_66 : decode cX5_route 66 = .ok (.aload_n 0, 1) := by decide +kernel
theorem dX5_route_67 : decode cX5_route 67 = .ok (.invokevirtual 46, 3) := by decide +kernel
theorem dX5_route_70 : decode cX5_route 70 = .ok (.istore 4, 2) := by decide +kernel
theorem dX5_route_72 : decode cX5_route 72 = .ok (.iinc 5 1, 3) := by decide +kernel
theorem dX5_route_75 : decode cX5_route 75 = .ok (.goto (-21), 3) := by decide +kernel
theorem dX5_route_78 : decode cX5_route 78 = .ok (.aload_n 0, 1) := by decide +kernel
theorem dX5_route_79 : decode cX5_route 79 = .ok (.getfield 9, 3) := by decide +kernel
theorem dX5_route_82 : decode cX5_route 82 = .ok (.iload_n 2, 1) := by decide +kernel
theorem dX5_route_83 : decode cX5_route 83 = .ok (.iaload, 1) := by decide +kernel
theorem dX5_route_84 : decode cX5_route 84 = .ok (.ireturn, 1) := by decide +kernel
theorem dX5_setHeights_0 : decode cX5_setHeights 0 = .ok (.aload_n 0, 1) := by decide +kernel
theorem dX5_setHeights_1 : decode cX5_setHeights 1 = .ok (.getfield 15, 3) := by decide +kernel
theorem dX5_setHeights_4 : decode cX5_setHeights 4 = .ok (.aload_n 0, 1) := by decide +kernel
theorem dX5_setHeights_5 : decode cX5_setHeights 5 = .ok (.getfield 21, 3) := by decide +kernel
theorem dX5_setHeights_8 : decode cX5_setHeights 8 = .ok (.getfield 50, 3) := by decide +kernel
theorem dX5_setHeights_11 : decode cX5_setHeights 11 = .ok (.invokestatic 39, 3) := by decide +kernel
theorem dX5_setHeights_14 : decode cX5_setHeights 14 = .ok (.aload_n 0, 1) := by decide +kernel
theorem dX5_setHeights_15 : decode cX5_setHeights 15 = .ok (.getfield 15, 3) := by decide +kernel
theorem dX5_setHeights_18 : decode cX5_setHeights 18 = .ok (.aload_n 0, 1) := by decide +kernel
theorem dX5_setHeights_19 : decode cX5_setHeights 19 = .ok (.getfield 33, 3) := by decide +kernel
theorem dX5_setHeights_22 : decode cX5_setHeights 22 = .ok (.iconst 0, 1) := by decide +kernel
theorem dX5_setHeights_23 : decode cX5_setHeights 23 = .ok (.iastore, 1) := by decide +kernel
theorem dX5_setHeights_24 : decode cX5_setHeights 24 = .ok (.aload_n 0, 1) := by decide +kernel
theorem dX5_setHeights_25 : decode cX5_setHeights 25 = .ok (.getfield 18, 3) := by decide +kernel
theorem dX5_setHeights_28 : decode cX5_setHeights 28 = .ok (.iconst 0, 1) := by decide +kernel
theorem dX5_setHeights_29 : decode cX5_setHeights 29 = .ok (.aload_n 0, 1) := by decide +kernel
theorem dX5_setHeights_30 : decode cX5_setHeights 30 = .ok (.getfield 33, 3) := by decide +kernel
theorem dX5_setHeights_33 : decode cX5_setHeights 33 = .ok (.iastore, 1) := by decide +kernel
theorem dX5_setHeights_34 : decode cX5_setHeights 34 = .ok (.iconst 1, 1) := by decide +kernel
theorem dX5_setHeights_35 : decode cX5_setHeights 35 = .ok (.istore_n 1, 1) := by decide +kernel
theorem dX5_setHeights_36 : decode cX5_setHeights 36 = .ok (.iconst 0, 1) := by decide +kernel
theorem dX5_setHeights_37 : decode cX5_setHeights 37 = .ok (.istore_n 2, 1) := by decide +kernel
theorem dX5_setHeights_38 : decode cX5_setHeights 38 = .ok (.iload_n 2, 1) := by decide +kernel
theorem dX5_setHeights_39 : decode cX5_setHeights 39 = .ok (.iload_n 1, 1) := by decide +kernel
theorem dX5_setHeights_40 : decode cX5_setHeights 40 = .ok (.if_icmp .ge 32, 3) := by decide +kernel
theorem dX5_setHeights_43 : decode cX5_setHeights 43 = .ok (.iload_n 1, 1) := by decide +kernel
theorem dX5_setHeights_44 : decode cX5_setHeights 44 = .ok (.aload_n 0, 1) := by decide +kernel
theorem dX5_setHeights_45 : decode cX5_setHeights 45 = .ok (.getfield 21, 3) := by decide +kernel
theorem dX5_setHeights_48 : decode cX5_setHeights 48 = .ok (.getfield 50, 3) := by decide +kernel
theorem dX5_setHeights_51 : decode cX5_setHeights 51 = .ok (.if_icmp .ge 21, 3) := by decide +kernel
theorem dX5_setHeights_54 : decode cX5_setHeights 54 = .ok (.aload_n 0, 1) := by decide +kernel
theorem dX5_setHeights_55 : decode cX5_setHeights 55 = .ok (.aload_n 0, 1) := by decide +kernel
theorem dX5_setHeights_56 : decode cX5_setHeights 56 = .ok (.getfield 18, 3) := by decide +kernel
theorem dX5_setHeights_59 : decode cX5_setHeights 59 = .ok (.iload_n 2, 1) := by decide +kernel
theorem dX5_setHeights_60 : decode cX5_setHeights 60 = .ok (.iaload, 1) := by decide +kernel
theorem dX5_setHeights_61 : decode cX5_setHeights 61 = .ok (.iload_n 1, 1) := by decide +kernel
theorem dX5_setHeights_62 : decode cX5_setHeights 62 = .ok (.invokevirtual 55, 3) := by decide +kernel
theorem dX5_setHeights_65 : decode cX5_setHeights 65 = .ok (.istore_n 1, 1) := by decide +kernel
theorem dX5_setHeights_66 : decode cX5_setHeights 66 = .ok (.iinc 2 1, 3) := by decide +kernel
theorem dX5_setHeights_69 : decode cX5_setHeights 69 = .ok (.goto (-31), 3) := by decide +kernel
theorem dX5_setHeights_72 : decode cX5_setHeights 72 = .ok (.return_, 1) := by decide +kernel
theorem dX5_findBehind_0 : decode cX5_findBehind 0 = .ok (.iload_n 2, 1) := by decide +kernel
theorem dX5_findBehind_1 : decode cX5_findBehind 1 = .ok (.istore_n 3, 1) := by decide +kernel
theorem dX5_findBehind_2 : decode cX5_findBehind 2 = .ok (.iconst 0, 1) := by decide +kernel
theorem dX5_findBehind_3 : decode cX5_findBehind 3 = .ok (.istore 4, 2) := by decide +kernel
theorem dX5_findBehind_5 : decode cX5_findBehind 5 = .ok (.iload 4, 2) := by decide +kernel
theorem dX5_findBehind_7 : decode cX5_findBehind 7 = .ok (.aload_n 0, 1) := by decide +kernel
theorem dX5_findBehind_8 : decode cX5_findBehind 8 = .ok (.getfield 21, 3) := by decide +kernel
theorem dX5_findBehind_11 : decode cX5_findBehind 11 = .ok (.getfield 59, 3) := by decide +kernel
theorem dX5_findBehind_14 : decode cX5_findBehind 14 = .ok (.iload_n 1, 1) := by decide +kernel
theorem dX5_findBehind_15 : decode cX5_findBehind 15 = .ok (.iaload, 1) := by decide +kernel
theorem dX5_findBehind_16 : decode cX5_findBehind 16 = .ok (.if_icmp .ge 110, 3) := by decide +kernel
theorem dX5_findBehind_19 : decode cX5_findBehind 19 = .ok (.aload_n 0, 1) := by decide +kernel
theorem dX5_findBehind_20 : decode cX5_findBehind 20 = .ok (.getfield 21, 3) := by decide +kernel
theorem dX5_findBehind_23 : decode cX5_findBehind 23 = .ok (.getfield 62, 3) := by decide +kernel
theorem dX5_findBehind_26 : decode cX5_findBehind 26 = .ok (.iload_n 1, 1) := by decide +kernel
theorem dX5_findBehind_27 : decode cX5_findBehind 27 = .ok (.aaload, 1) := by decide +kernel
theorem dX5_findBehind_28 : decode cX5_findBehind 28 = .ok (.iload 4, 2) := by decide +kernel
theorem dX5_findBehind_30 : decode cX5_findBehind 30 = .ok (.iaload, 1) := by decide +kernel
theorem dX5_findBehind_31 : decode cX5_findBehind 31 = .ok (.istore 5, 2) := by decide +kernel
theorem dX5_findBehind_33 : decode cX5_findBehind 33 = .ok (.aload_n 0, 1) := by decide +kernel
theorem dX5_findBehind_34 : decode cX5_findBehind 34 = .ok (.getfield 21, 3) := by decide +kernel
theorem dX5_findBehind_37 : decode cX5_findBehind 37 = .ok (.iload 5, 2) := by decide +kernel
theorem dX5_findBehind_39 : decode cX5_findBehind 39 = .ok (.iload_n 1, 1) := by decide +kernel
theorem dX5_findBehind_40 : decode cX5_findBehind 40 = .ok (.invokevirtual 66, 3) := by decide +kernel
theorem dX5_findBehind_43 : decode cX5_findBehind 43 = .ok (.istore 6, 2) := by decide +kernel
theorem dX5_findBehind_45 : decode cX5_findBehind 45 = .ok (.aload_n 0, 1) := by decide +kernel
theorem dX5_findBehind_46 : decode cX5_findBehind 46 = .ok (.getfield 15, 3) := by decide +kernel
theorem dX5_findBehind_49 : decode cX5_findBehind 49 = .ok (.iload 6, 2) := by decide +kernel
theorem dX5_findBehind_51 : decode cX5_findBehind 51 = .ok (.iaload, 1) := by decide +kernel
theorem dX5_findBehind_52 : decode cX5_findBehind 52 = .ok (.aload_n 0, 1) := by decide +kernel
theorem dX5_findBehind_53 : decode cX5_findBehind 53 = .ok (.getfield 21, 3) := by decide +kernel
theorem dX5_findBehind_56 : decode cX5_findBehind 56 = .ok (.getfield 50, 3) := by decide +kernel
theorem dX5_findBehind_59 : decode cX5_findBehind 59 = .ok (.if_icmp .ne 7, 3) := by decide +kernel
theorem dX5_findBehind_62 : decode cX5_findBehind 62 = .ok (.iconst 1, 1) := by decide +kernel
theorem dX5_findBehind_63 : decode cX5_findBehind 63 = .ok (.goto 4, 3) := by decide +kernel
theorem dX5_findBehind_66 : decode cX5_findBehind 66 = .ok (.iconst 0, 1) := by decide +kernel
theorem dX5_findBehind_67 : decode cX5_findBehind 67 = .ok (.istore 7, 2) := by decide +kernel
theorem dX5_findBehind_69 : decode cX5_findBehind 69 = .ok (.iload 7, 2) := by decide +kernel
theorem dX5_findBehind_71 : decode cX5_findBehind 71 = .ok (.ifCond .eq 49, 3) := by decide +kernel
theorem dX5_findBehind_74 : decode cX5_findBehind 74 = .ok (.aload_n 0, 1) := by decide +kernel
theorem dX5_findBehind_75 : decode cX5_findBehind 75 = .ok (.getfield 25, 3) := by decide +kernel
theorem dX5_findBehind_78 : decode cX5_findBehind 78 = .ok (.iload 5, 2) := by decide +kernel
theorem dX5_findBehind_80 : decode cX5_findBehind 80 = .ok (.iload 6, 2) := by decide +kernel
theorem dX5_findBehind_82 : decode cX5_findBehind 82 = .ok (.invokevirtual 69, 3) := by decide +kernel
theorem dX5_findBehind_85 : decode cX5_findBehind 85 = .ok (.ifCond .le 35, 3) := by decide +kernel
theorem dX5_findBehind_88 : decode cX5_findBehind 88 = .ok (.iload_n 3, 1) := by decide +kernel
theorem dX5_findBehind_89 : decode cX5_findBehind 89 = .ok (.bipush 24, 2) := by decide +kernel
theorem dX5_findBehind_91 : decode cX5_findBehind 91 = .ok (.if_icmp .ge 29, 3) := by decide +kernel
theorem dX5_findBehind_94 : decode cX5_findBehind 94 = .ok (.aload_n 0, 1) := by decide +kernel
theorem dX5_findBehind_95 : decode cX5_findBehind 95 = .ok (.getfield 15, 3) := by decide +kernel
theorem dX5_findBehind_98 : decode cX5_findBehind 98 = .ok (.iload 6, 2) := by decide +kernel
theorem dX5_findBehind_100 : decode cX5_findBehind 100 = .ok (.aload_n 0, 1) := by decide +kernel
theorem dX5_findBehind_101 : decode cX5_findBehind 101 = .ok (.getfield 15, 3) := by decide +kernel
theorem dX5_findBehind_104 : decode cX5_findBehind 104 = .ok (.iload_n 1, 1) := by decide +kernel
theorem dX5_findBehind_105 : decode cX5_findBehind 105 = .ok (.iaload, 1) := by decide +kernel
theorem dX5_findBehind_106 : decode cX5_findBehind 106 = .ok (.iconst 1, 1) := by decide +kernel
theorem dX5_findBehind_107 : decode cX5_findBehind 107 = .ok (.iadd, 1) := by decide +kernel
theorem dX5_findBehind_108 : decode cX5_findBehind 108 = .ok (.iastore, 1) := by decide +kernel
theorem dX5_findBehind_109 : decode cX5_findBehind 109 = .ok (.aload_n 0, 1) := by decide +kernel
theorem dX5_findBehind_110 : decode cX5_findBehind 110 = .ok (.getfield 18, 3) := by decide +kernel
theorem dX5_findBehind_113 : decode cX5_findBehind 113 = .ok (.iload_n 3, 1) := by decide +kernel
theorem dX5_findBehind_114 : decode cX5_findBehind 114 = .ok (.iload 6, 2) := by decide +kernel
theorem dX5_findBehind_116 : decode cX5_findBehind 116 = .ok (.iastore, 1) := by decide +kernel
theorem dX5_findBehind_117 : decode cX5_findBehind 117 = .ok (.iinc 3 1, 3) := by decide +kernel
theorem dX5_findBehind_120 : decode cX5_findBehind 120 = .ok (.iinc 4 1, 3) := by decide +kernel
theorem dX5_findBehind_123 : decode cX5_findBehind 123 = .ok (.goto (-118), 3) := by decide +kernel
theorem dX5_findBehind_126 : decode cX5_findBehind 126 = .ok (.iload_n 3, 1) := by decide +kernel
theorem dX5_findBehind_127 : decode cX5_findBehind 127 = .ok (.ireturn, 1) := by decide +kernel
theorem dX5_sweepOnce_0 : decode cX5_sweepOnce 0 = .ok (.iconst 0, 1) := by decide +kernel
theorem dX5_sweepOnce_1 : decode cX5_sweepOnce 1 = .ok (.istore_n 1, 1) := by decide +kernel
theorem dX5_sweepOnce_2 : decode cX5_sweepOnce 2 = .ok (.iconst 0, 1) := by decide +kernel
theorem dX5_sweepOnce_3 : decode cX5_sweepOnce 3 = .ok (.istore_n 2, 1) := by decide +kernel
theorem dX5_sweepOnce_4 : decode cX5_sweepOnce 4 = .ok (.iload_n 2, 1) := by decide +kernel
theorem dX5_sweepOnce_5 : decode cX5_sweepOnce 5 = .ok (.aload_n 0, 1) := by decide +kernel
theorem dX5_sweepOnce_6 : decode cX5_sweepOnce 6 = .ok (.getfield 21, 3) := by decide +kernel
theorem dX5_sweepOnce_9 : decode cX5_sweepOnce 9 = .ok (.getfield 50, 3) := by decide +kernel
theorem dX5_sweepOnce_12 : decode cX5_sweepOnce 12 = .ok (.if_icmp .ge 29, 3) := by decide +kernel
theorem dX5_sweepOnce_15 : decode cX5_sweepOnce 15 = .ok (.aload_n 0, 1) := by decide +kernel
theorem dX5_sweepOnce_16 : decode cX5_sweepOnce 16 = .ok (.iload_n 2, 1) := by decide +kernel
theorem dX5_sweepOnce_17 : decode cX5_sweepOnce 17 = .ok (.invokevirtual 74, 3) := by decide +kernel
theorem dX5_sweepOnce_20 : decode cX5_sweepOnce 20 = .ok (.ifCond .eq 15, 3) := by decide +kernel
theorem dX5_sweepOnce_23 : decode cX5_sweepOnce 23 = .ok (.iconst 1, 1) := by decide +kernel
theorem dX5_sweepOnce_24 : decode cX5_sweepOnce 24 = .ok (.istore_n 1, 1) := by decide +kernel
theorem dX5_sweepOnce_25 : decode cX5_sweepOnce 25 = .ok (.aload_n 0, 1) := by decide +kernel
theorem dX5_sweepOnce_26 : decode cX5_sweepOnce 26 = .ok (.iload_n 2, 1) := by decide +kernel
theorem dX5_sweepOnce_27 : decode cX5_sweepOnce 27 = .ok (.invokevirtual 78, 3) := by decide +kernel
theorem dX5_sweepOnce_30 : decode cX5_sweepOnce 30 = .ok (.aload_n 0, 1) := by decide +kernel
theorem dX5_sweepOnce_31 : decode cX5_sweepOnce 31 = .ok (.iload_n 2, 1) := by decide +kernel
theorem dX5_sweepOnce_32 : decode cX5_sweepOnce 32 = .ok (.invokevirtual 82, 3) := by decide +kernel
theorem dX5_sweepOnce_35 : decode cX5_sweepOnce 35 = .ok (.iinc 2 1, 3) := by decide +kernel
theorem dX5_sweepOnce_38 : decode cX5_sweepOnce 38 = .ok (.goto (-34), 3) := by decide +kernel
theorem dX5_sweepOnce_41 : decode cX5_sweepOnce 41 = .ok (.iload_n 1, 1) := by decide +kernel
theorem dX5_sweepOnce_42 : decode cX5_sweepOnce 42 = .ok (.ireturn, 1) := by decide +kernel
theorem dX5_isActive_0 : decode cX5_isActive 0 = .ok (.aload_n 0, 1) := by decide +kernel
theorem dX5_isActive_1 : decode cX5_isActive 1 = .ok (.getfield 9, 3) := by decide +kernel
theorem dX5_isActive_4 : decode cX5_isActive 4 = .ok (.iload_n 1, 1) := by decide +kernel
theorem dX5_isActive_5 : decode cX5_isActive 5 = .ok (.iaload, 1) := by decide +kernel
theorem dX5_isActive_6 : decode cX5_isActive 6 = .ok (.ifCond .le 39, 3) := by decide +kernel
theorem dX5_isActive_9 : decode cX5_isActive 9 = .ok (.iload_n 1, 1) := by decide +kernel
theorem dX5_isActive_10 : decode cX5_isActive 10 = .ok (.aload_n 0, 1) := by decide +kernel
theorem dX5_isActive_11 : decode cX5_isActive 11 = .ok (.getfield 33, 3) := by decide +kernel
theorem dX5_isActive_14 : decode cX5_isActive 14 = .ok (.if_icmp .eq 31, 3) := by decide +kernel
theorem dX5_isActive_17 : decode cX5_isActive 17 = .ok (.iload_n 1, 1) := by decide +kernel
theorem dX5_isActive_18 : decode cX5_isActive 18 = .ok (.aload_n 0, 1) := by decide +kernel
theorem dX5_isActive_19 : decode cX5_isActive 19 = .ok (.getfield 29, 3) := by decide +kernel
theorem dX5_isActive_22 : decode cX5_isActive 22 = .ok (.if_icmp .ne 19, 3) := by decide +kernel
theorem dX5_isActive_25 : decode cX5_isActive 25 = .ok (.aload_n 0, 1) := by decide +kernel
theorem dX5_isActive_26 : decode cX5_isActive 26 = .ok (.getfield 15, 3) := by decide +kernel
theorem dX5_isActive_29 : decode cX5_isActive 29 = .ok (.iload_n 1, 1) := by decide +kernel
theorem dX5_isActive_30 : decode cX5_isActive 30 = .ok (.iaload, 1) := by decide +kernel
theorem dX5_isActive_31 : decode cX5_isActive 31 = .ok (.aload_n 0, 1) := by decide +kernel
theorem dX5_isActive_32 : decode cX5_isActive 32 = .ok (.getfield 21, 3) := by decide +kernel
theorem dX5_isActive_35 : decode cX5_isActive 35 = .ok (.getfield 50, 3) := by decide +kernel
theorem dX5_isActive_38 : decode cX5_isActive 38 = .ok (.if_icmp .ge 7, 3) := by decide +kernel
theorem dX5_isActive_41 : decode cX5_isActive 41 = .ok (.iconst 1, 1) := by decide +kernel
theorem dX5_isActive_42 : decode cX5_isActive 42 = .ok (.goto 4, 3) := by decide +kernel
theorem dX5_isActive_45 : decode cX5_isActive 45 = .ok (.iconst 0, 1) := by decide +kernel
theorem dX5_isActive_46 : decode cX5_isActive 46 = .ok (.ireturn, 1) := by decide +kernel
theorem dX5_pushOut_0 : decode cX5_pushOut 0 = .ok (.iconst 0, 1) := by decide +kernel
theorem dX5_pushOut_1 : decode cX5_pushOut 1 = .ok (.istore_n 2, 1) := by decide +kernel
theorem dX5_pushOut_2 : decode cX5_pushOut 2 = .ok (.iload_n 2, 1) := by decide +kernel
theorem dX5_pushOut_3 : decode cX5_pushOut 3 = .ok (.aload_n 0, 1) := by decide +kernel
theorem dX5_pushOut_4 : decode cX5_pushOut 4 = .ok (.getfield 21, 3) := by decide +kernel
theorem dX5_pushOut_7 : decode cX5_pushOut 7 = .ok (.getfield 59, 3) := by decide +kernel
theorem dX5_pushOut_10 : decode cX5_pushOut 10 = .ok (.iload_n 1, 1) := by decide +kernel
theorem dX5_pushOut_11 : decode cX5_pushOut 11 = .ok (.iaload, 1) := by decide +kernel
theorem dX5_pushOut_12 : decode cX5_pushOut 12 = .ok (.if_icmp .ge 104, 3) := by decide +kernel
theorem dX5_pushOut_15 : decode cX5_pushOut 15 = .ok (.aload_n 0, 1) := by decide +kernel
theorem dX5_pushOut_16 : decode cX5_pushOut 16 = .ok (.getfield 21, 3) := by decide +kernel
theorem dX5_pushOut_19 : decode cX5_pushOut 19 = .ok (.getfield 62, 3) := by decide +kernel
theorem dX5_pushOut_22 : decode cX5_pushOut 22 = .ok (.iload_n 1, 1) := by decide +kernel
theorem dX5_pushOut_23 : decode cX5_pushOut 23 = .ok (.aaload, 1) := by decide +kernel
theorem dX5_pushOut_24 : decode cX5_pushOut 24 = .ok (.iload_n 2, 1) := by decide +kernel
theorem dX5_pushOut_25 : decode cX5_pushOut 25 = .ok (.iaload, 1) := by decide +kernel
theorem dX5_pushOut_26 : decode cX5_pushOut 26 = .ok (.istore_n 3, 1) := by decide +kernel
theorem dX5_pushOut_27 : decode cX5_pushOut 27 = .ok (.aload_n 0, 1) := by decide +kernel
theorem dX5_pushOut_28 : decode cX5_pushOut 28 = .ok (.getfield 21, 3) := by decide +kernel
theorem dX5_pushOut_31 : decode cX5_pushOut 31 = .ok (.iload_n 3, 1) := by decide +kernel
theorem dX5_pushOut_32 : decode cX5_pushOut 32 = .ok (.iload_n 1, 1) := by decide +kernel
theorem dX5_pushOut_33 : decode cX5_pushOut 33 = .ok (.invokevirtual 66, 3) := by decide +kernel
theorem dX5_pushOut_36 : decode cX5_pushOut 36 = .ok (.istore 4, 2) := by decide +kernel
theorem dX5_pushOut_38 : decode cX5_pushOut 38 = .ok (.aload_n 0, 1) := by decide +kernel
theorem dX5_pushOut_39 : decode cX5_pushOut 39 = .ok (.getfield 15, 3) := by decide +kernel
theorem dX5_pushOut_42 : decode cX5_pushOut 42 = .ok (.iload_n 1, 1) := by decide +kernel
theorem dX5_pushOut_43 : decode cX5_pushOut 43 = .ok (.iaload, 1) := by decide +kernel
theorem dX5_pushOut_44 : decode cX5_pushOut 44 = .ok (.aload_n 0, 1) := by decide +kernel
theorem dX5_pushOut_45 : decode cX5_pushOut 45 = .ok (.getfield 15, 3) := by decide +kernel
theorem dX5_pushOut_48 : decode cX5_pushOut 48 = .ok (.iload 4, 2) := by decide +kernel
theorem dX5_pushOut_50 : decode cX5_pushOut 50 = .ok (.iaload, 1) := by decide +kernel
theorem dX5_pushOut_51 : decode cX5_pushOut 51 = .ok (.iconst 1, 1) := by decide +kernel
theorem dX5_pushOut_52 : decode cX5_pushOut 52 = .ok (.iadd, 1) := by decide +kernel
theorem dX5_pushOut_53 : decode cX5_pushOut 53 = .ok (.if_icmp .ne 57, 3) := by decide +kernel
theorem dX5_pushOut_56 : decode cX5_pushOut 56 = .ok (.aload_n 0, 1) := by decide +kernel
theorem dX5_pushOut_57 : decode cX5_pushOut 57 = .ok (.getfield 9, 3) := by decide +kernel
theorem dX5_pushOut_60 : decode cX5_pushOut 60 = .ok (.iload_n 1, 1) := by decide +kernel
theorem dX5_pushOut_61 : decode cX5_pushOut 61 = .ok (.iaload, 1) := by decide +kernel
theorem dX5_pushOut_62 : decode cX5_pushOut 62 = .ok (.aload_n 0, 1) := by decide +kernel
theorem dX5_pushOut_63 : decode cX5_pushOut 63 = .ok (.getfield 25, 3) := by decide +kernel
theorem dX5_pushOut_66 : decode cX5_pushOut 66 = .ok (.iload_n 3, 1) := by decide +kernel
theorem dX5_pushOut_67 : decode cX5_pushOut 67 = .ok (.iload_n 1, 1) := by decide +kernel
theorem dX5_pushOut_68 : decode cX5_pushOut 68 = .ok (.invokevirtual 69, 3) := by decide +kernel
theorem dX5_pushOut_71 : decode cX5_pushOut 71 = .ok (.invokestatic 85, 3) := by decide +kernel
theorem dX5_pushOut_74 : decode cX5_pushOut 74 = .ok (.istore 5, 2) := by decide +kernel
theorem dX5_pushOut_76 : decode cX5_pushOut 76 = .ok (.aload_n 0, 1) := by decide +kernel
theorem dX5_pushOut_77 : decode cX5_pushOut 77 = .ok (.getfield 25, 3) := by decide +kernel
theorem dX5_pushOut_80 : decode cX5_pushOut 80 = .ok (.iload_n 3, 1) := by decide +kernel
theorem dX5_pushOut_81 : decode cX5_pushOut 81 = .ok (.iload_n 1, 1) := by decide +kernel
theorem dX5_pushOut_82 : decode cX5_pushOut 82 = .ok (.iload 5, 2) := by decide +kernel
theorem dX5_pushOut_84 : decode cX5_pushOut 84 = .ok (.invokevirtual 90, 3) := by decide +kernel
theorem dX5_pushOut_87 : decode cX5_pushOut 87 = .ok (.aload_n 0, 1) := by decide +kernel
theorem dX5_pushOut_88 : decode cX5_pushOut 88 = .ok (.getfield 9, 3) := by decide +kernel
theorem dX5_pushOut_91 : decode cX5_pushOut 91 = .ok (.iload_n 1, 1) := by decide +kernel
theorem dX5_pushOut_92 : decode cX5_pushOut 92 = .ok (.dup2, 1) := by decide +kernel
theorem dX5_pushOut_93 : decode cX5_pushOut 93 = .ok (.iaload, 1) := by decide +kernel
theorem dX5_pushOut_94 : decode cX5_pushOut 94 = .ok (.iload 5, 2) := by decide +kernel
theorem dX5_pushOut_96 : decode cX5_pushOut 96 = .ok (.isub, 1) := by decide +kernel
theorem dX5_pushOut_97 : decode cX5_pushOut 97 = .ok (.iastore, 1) := by decide +kernel
theorem dX5_pushOut_98 : decode cX5_pushOut 98 = .ok (.aload_n 0, 1) := by decide +kernel
theorem dX5_pushOut_99 : decode cX5_pushOut 99 = .ok (.getfield 9, 3) := by decide +kernel
theorem dX5_pushOut_102 : decode cX5_pushOut 102 = .ok (.iload 4, 2) := by decide +kernel
theorem dX5_pushOut_104 : decode cX5_pushOut 104 = .ok (.dup2, 1) := by decide +kernel
theorem dX5_pushOut_105 : decode cX5_pushOut 105 = .ok (.iaload, 1) := by decide +kernel
theorem dX5_pushOut_106 : decode cX5_pushOut 106 = .ok (.iload 5, 2) := by decide +kernel
theorem dX5_pushOut_108 : decode cX5_pushOut 108 = .ok (.iadd, 1) := by decide +kernel
theorem dX5_pushOut_109 : decode cX5_pushOut 109 = .ok (.iastore, 1) := by decide +kernel
theorem dX5_pushOut_110 : decode cX5_pushOut 110 = .ok (.iinc 2 1, 3) := by decide +kernel
theorem dX5_pushOut_113 : decode cX5_pushOut 113 = .ok (.goto (-111), 3) := by decide +kernel
theorem dX5_pushOut_116 : decode cX5_pushOut 116 = .ok (.return_, 1) := by decide +kernel
theorem dX5_lift_0 : decode cX5_lift 0 = .ok (.aload_n 0, 1) := by decide +kernel
theorem dX5_lift_1 : decode cX5_lift 1 = .ok (.getfield 9, 3) := by decide +kernel
theorem dX5_lift_4 : decode cX5_lift 4 = .ok (.iload_n 1, 1) := by decide +kernel
theorem dX5_lift_5 : decode cX5_lift 5 = .ok (.iaload, 1) := by decide +kernel
theorem dX5_lift_6 : decode cX5_lift 6 = .ok (.ifCond .ne 4, 3) := by decide +kernel
theorem dX5_lift_9 : decode cX5_lift 9 = .ok (.return_, 1) := by decide +kernel
theorem dX5_lift_10 : decode cX5_lift 10 = .ok (.bipush 48, 2) := by decide +kernel
theorem dX5_lift_12 : decode cX5_lift 12 = .ok (.istore_n 2, 1) := by decide +kernel
theorem dX5_lift_13 : decode cX5_lift 13 = .ok (.iconst 0, 1) := by decide +kernel
theorem dX5_lift_14 : decode cX5_lift 14 = .ok (.istore_n 3, 1) := by decide +kernel
theorem dX5_lift_15 : decode cX5_lift 15 = .ok (.iload_n 3, 1) := by decide +kernel
theorem dX5_lift_16 : decode cX5_lift 16 = .ok (.aload_n 0, 1) := by decide +kernel
theorem dX5_lift_17 : decode cX5_lift 17 = .ok (.getfield 21, 3) := by decide +kernel
theorem dX5_lift_20 : decode cX5_lift 20 = .ok (.getfield 59, 3) := by decide +kernel
theorem dX5_lift_23 : decode cX5_lift 23 = .ok (.iload_n 1, 1) := by decide +kernel
theorem dX5_lift_24 : decode cX5_lift 24 = .ok (.iaload, 1) := by decide +kernel
theorem dX5_lift_25 : decode cX5_lift 25 = .ok (.if_icmp .ge 55, 3) := by decide +kernel
theorem dX5_lift_28 : decode cX5_lift 28 = .ok (.aload_n 0, 1) := by decide +kernel
theorem dX5_lift_29 : decode cX5_lift 29 = .ok (.getfield 21, 3) := by decide +kernel
theorem dX5_lift_32 : decode cX5_lift 32 = .ok (.getfield 62, 3) := by decide +kernel
theorem dX5_lift_35 : decode cX5_lift 35 = .ok (.iload_n 1, 1) := by decide +kernel
theorem dX5_lift_36 : decode cX5_lift 36 = .ok (.aaload, 1) := by decide +kernel
theorem dX5_lift_37 : decode cX5_lift 37 = .ok (.iload_n 3, 1) := by decide +kernel
theorem dX5_lift_38 : decode cX5_lift 38 = .ok (.iaload, 1) := by decide +kernel
theorem dX5_lift_39 : decode cX5_lift 39 = .ok (.istore 4, 2) := by decide +kernel
theorem dX5_lift_41 : decode cX5_lift 41 = .ok (.aload_n 0, 1) := by decide +kernel
theorem dX5_lift_42 : decode cX5_lift 42 = .ok (.getfield 25, 3) := by decide +kernel
theorem dX5_lift_45 : decode cX5_lift 45 = .ok (.iload 4, 2) := by decide +kernel
theorem dX5_lift_47 : decode cX5_lift 47 = .ok (.iload_n 1, 1) := by decide +kernel
theorem dX5_lift_48 : decode cX5_lift 48 = .ok (.invokevirtual 69, 3) := by decide +kernel
theorem dX5_lift_51 : decode cX5_lift 51 = .ok (.ifCond .le 23, 3) := by decide +kernel
theorem dX5_lift_54 : decode cX5_lift 54 = .ok (.iload_n 2, 1) := by decide +kernel
theorem dX5_lift_55 : decode cX5_lift 55 = .ok (.aload_n 0, 1) := by decide +kernel
theorem dX5_lift_56 : decode cX5_lift 56 = .ok (.getfield 15, 3) := by decide +kernel
theorem dX5_lift_59 : decode cX5_lift 59 = .ok (.aload_n 0, 1) := by decide +kernel
theorem dX5_lift_60 : decode cX5_lift 60 = .ok (.getfield 21, 3) := by decide +kernel
theorem dX5_lift_63 : decode cX5_lift 63 = .ok (.iload 4, 2) := by decide +kernel
theorem dX5_lift_65 : decode cX5_lift 65 = .ok (.iload_n 1, 1) := by decide +kernel
theorem dX5_lift_66 : decode cX5_lift 66 = .ok (.invokevirtual 66, 3) := by decide +kernel
theorem dX5_lift_69 : decode cX5_lift 69 = .ok (.iaload, 1) := by decide +kernel
theorem dX5_lift_70 : decode cX5_lift 70 = .ok (.invokestatic 85, 3) := by decide +kernel
theorem dX5_lift_73 : decode cX5_lift 73 = .ok (.istore_n 2, 1) := by decide +kernel
theorem dX5_lift_74 : decode cX5_lift 74 = .ok (.iinc 3 1, 3) := by decide +kernel
theorem dX5_lift_77 : decode cX5_lift 77 = .ok (.goto (-62), 3) := by decide +kernel
theorem dX5_lift_80 : decode cX5_lift 80 = .ok (.aload_n 0, 1) := by decide +kernel
theorem dX5_lift_81 : decode cX5_lift 81 = .ok (.getfield 15, 3) := by decide +kernel
theorem dX5_lift_84 : decode cX5_lift 84 = .ok (.iload_n 1, 1) := by decide +kernel
theorem dX5_lift_85 : decode cX5_lift 85 = .ok (.iload_n 1, 1) := by decide +kernel
theorem dX5_lift_86 : decode cX5_lift 86 = .ok (.aload_n 0, 1) := by decide +kernel
theorem dX5_lift_87 : decode cX5_lift 87 = .ok (.getfield 29, 3) := by decide +kernel
theorem dX5_lift_90 : decode cX5_lift 90 = .ok (.if_icmp .ne 19, 3) := by decide +kernel
theorem dX5_lift_93 : decode cX5_lift 93 = .ok (.iload_n 2, 1) := by decide +kernel
theorem dX5_lift_94 : decode cX5_lift 94 = .ok (.iconst 1, 1) := by decide +kernel
theorem dX5_lift_95 : decode cX5_lift 95 = .ok (.iadd, 1) := by decide +kernel
theorem dX5_lift_96 : decode cX5_lift 96 = .ok (.aload_n 0, 1) := by decide +kernel
theorem dX5_lift_97 : decode cX5_lift 97 = .ok (.getfield 21, 3) := by decide +kernel
theorem dX5_lift_100 : decode cX5_lift 100 = .ok (.getfield 50, 3) := by decide +kernel
theorem dX5_lift_103 : decode cX5_lift 103 = .ok (.invokestatic 85, 3) := by decide +kernel
theorem dX5_lift_106 : decode cX5_lift 106 = .ok (.goto 6, 3) := by decide +kernel
theorem dX5_lift_109 : decode cX5_lift 109 = .ok (.iload_n 2, 1) := by decide +kernel
theorem dX5_lift_110 : decode cX5_lift 110 = .ok (.iconst 1, 1) := by decide +kernel
theorem dX5_lift_111 : decode cX5_lift 111 = .ok (.iadd, 1) := by decide +kernel
theorem dX5_lift_112 : decode cX5_lift 112 = .ok (.iastore, 1) := by decide +kernel
theorem dX5_lift_113 : decode cX5_lift 113 = .ok (.return_, 1) := by decide +kernel
theorem dX6_init_0 : decode cX6_init 0 = .ok (.aload_n 0, 1) := by decide +kernel
theorem dX6_init_1 : decode cX6_init 1 = .ok (.invokespecial 1, 3) := by decide +kernel
theorem dX6_init_4 : decode cX6_init 4 = .ok (.new 7, 3) := by decide +kernel
theorem dX6_init_7 : decode cX6_init 7 = .ok (.dup, 1) := by decide +kernel
theorem dX6_init_8 : decode cX6_init 8 = .ok (.invokespecial 9, 3) := by decide +kernel
theorem dX6_init_11 : decode cX6_init 11 = .ok (.astore_n 1, 1) := by decide +kernel
theorem dX6_init_12 : decode cX6_init 12 = .ok (.aload_n 0, 1) := by decide +kernel
theorem dX6_init_13 : decode cX6_init 13 = .ok (.aload_n 1, 1) := by decide +kernel
theorem dX6_init_14 : decode cX6_init 14 = .ok (.putfield 10, 3) := by decide +kernel
theorem dX6_init_17 : decode cX6_init 17 = .ok (.aload_n 0, 1) := by decide +kernel
theorem dX6_init_18 : decode cX6_init 18 = .ok (.new 16, 3) := by decide +kernel
theorem dX6_init_21 : decode cX6_init 21 = .ok (.dup, 1) := by decide +kernel
theorem dX6_init_22 : decode cX6_init 22 = .ok (.aload_n 1, 1) := by decide +kernel
theorem dX6_init_23 : decode cX6_init 23 = .ok (.invokespecial 18, 3) := by decide +kernel
theorem dX6_init_26 : decode cX6_init 26 = .ok (.putfield 21, 3) := by decide +kernel
theorem dX6_init_29 : decode cX6_init 29 = .ok (.aload_n 0, 1) := by decide +kernel
theorem dX6_init_30 : decode cX6_init 30 = .ok (.new 16, 3) := by decide +kernel
theorem dX6_init_33 : decode cX6_init 33 = .ok (.dup, 1) := by decide +kernel
theorem dX6_init_34 : decode cX6_init 34 = .ok (.aload_n 1, 1) := by decide +kernel
theorem dX6_init_35 : decode cX6_init 35 = .ok (.invokespecial 18, 3) := by decide +kernel
theorem dX6_init_38 : decode cX6_init 38 = .ok (.putfield 25, 3) := by decide +kernel
theorem dX6_init_41 : decode cX6_init 41 = .ok (.aload_n 0, 1) := by decide +kernel
theorem dX6_init_42 : decode cX6_init 42 = .ok (.new 28, 3) := by decide +kernel
theorem dX6_init_45 : decode cX6_init 45 = .ok (.dup, 1) := by decide +kernel
theorem dX6_init_46 : decode cX6_init 46 = .ok (.invokespecial 30, 3) := by decide +kernel
theorem dX6_init_49 : decode cX6_init 49 = .ok (.putfield 31, 3) := by decide +kernel
theorem dX6_init_52 : decode cX6_init 52 = .ok (.aload_n 0, 1) := by decide +kernel
theorem dX6_init_53 : decode cX6_init 53 = .ok (.new 35, 3) := by decide +kernel
theorem dX6_init_56 : decode cX6_init 56 = .ok (.dup, 1) := by decide +kernel
theorem dX6_init_57 : decode cX6_init 57 = .ok (.invokespecial 37, 3) := by decide +kernel
theorem dX6_init_60 : decode cX6_init 60 = .ok (.putfield 38, 3) := by decide +kernel
theorem dX6_init_63 : decode cX6_init 63 = .ok (.return_, 1) := by decide +kernel
theorem dX6_addNode_0 : decode cX6_addNode 0 = .ok (.aload_n 0, 1) := by decide +kernel
theorem dX6_addNode_1 : decode cX6_addNode 1 = .ok (.getfield 10, 3) := by decide +kernel
theorem dX6_addNode_4 : decode cX6_addNode 4 = .ok (.getfield 42, 3) := by decide +kernel
theorem dX6_addNode_7 : decode cX6_addNode 7 = .ok (.bipush 24, 2) := by decide +kernel
theorem dX6_addNode_9 : decode cX6_addNode 9 = .ok (.if_icmp .lt 13, 3) := by decide +kernel
theorem dX6_addNode_12 : decode cX6_addNode 12 = .ok (.new 46, 3) := by decide +kernel
theorem dX6_addNode_15 : decode cX6_addNode 15 = .ok (.dup, 1) := by decide +kernel
theorem dX6_addNode_16 : decode cX6_addNode 16 = .ok (.ldc 48, 2) := by decide +kernel
theorem dX6_addNode_18 : decode cX6_addNode 18 = .ok (.invokespecial 50, 3) := by decide +kernel
theorem dX6_addNode_21 : decode cX6_addNode 21 = .ok (.athrow, 1) := by decide +kernel
theorem dX6_addNode_22 : decode cX6_addNode 22 = .ok (.aload_n 0, 1) := by decide +kernel
theorem dX6_addNode_23 : decode cX6_addNode 23 = .ok (.getfield 10, 3) := by decide +kernel
theorem dX6_addNode_26 : decode cX6_addNode 26 = .ok (.invokevirtual 53, 3) := by decide +kernel
theorem dX6_addNode_29 : decode cX6_addNode 29 = .ok (.ireturn, 1) := by decide +kernel
theorem dX6_addArc_0 : decode cX6_addArc 0 = .ok (.aload_n 0, 1) := by decide +kernel
theorem dX6_addArc_1 : decode cX6_addArc 1 = .ok (.iload_n 1, 1) := by decide +kernel
theorem dX6_addArc_2 : decode cX6_addArc 2 = .ok (.invokevirtual 57, 3) := by decide +kernel
theorem dX6_addArc_5 : decode cX6_addArc 5 = .ok (.aload_n 0, 1) := by decide +kernel
theorem dX6_addArc_6 : decode cX6_addArc 6 = .ok (.iload_n 2, 1) := by decide +kernel
theorem dX6_addArc_7 : decode cX6_addArc 7 = .ok (.invokevirtual 57, 3) := by decide +kernel
theorem dX6_addArc_10 : decode cX6_addArc 10 = .ok (.iload_n 1, 1) := by decide +kernel
theorem dX6_addArc_11 : decode cX6_addArc 11 = .ok (.iload_n 2, 1) := by decide +kernel
theorem dX6_addArc_12 : decode cX6_addArc 12 = .ok (.invokestatic 61, 3) := by decide +kernel
theorem dX6_addArc_15 : decode cX6_addArc 15 = .ok (.iload_n 3, 1) := by decide +kernel
theorem dX6_addArc_16 : decode cX6_addArc 16 = .ok (.invokestatic 65, 3) := by decide +kernel
theorem dX6_addArc_19 : decode cX6_addArc 19 = .ok (.aload_n 0, 1) := by decide +kernel
theorem dX6_addArc_20 : decode cX6_addArc 20 = .ok (.getfield 10, 3) := by decide +kernel
theorem dX6_addArc_23 : decode cX6_addArc 23 = .ok (.getfield 68, 3) := by decide +kernel
theorem dX6_addArc_26 : decode cX6_addArc 26 = .ok (.bipush 80, 2) := by decide +kernel
theorem dX6_addArc_28 : decode cX6_addArc 28 = .ok (.if_icmp .lt 13, 3) := by decide +kernel
theorem dX6_addArc_31 : decode cX6_addArc 31 = .ok (.new 46, 3) := by decide +kernel
theorem dX6_addArc_34 : decode cX6_addArc 34 = .ok (.dup, 1) := by decide +kernel
theorem dX6_addArc_35 : decode cX6_addArc 35 = .ok (.ldc 71, 2) := by decide +kernel
theorem dX6_addArc_37 : decode cX6_addArc 37 = .ok (.invokespecial 50, 3) := by decide +kernel
theorem dX6_addArc_40 : decode cX6_addArc 40 = .ok (.athrow, 1) := by decide +kernel
theorem dX6_addArc_41 : decode cX6_addArc 41 = .ok (.aload_n 0, 1) := by decide +kernel
theorem dX6_addArc_42 : decode cX6_addArc 42 = .ok (.getfield 10, 3) := by decide +kernel
theorem dX6_addArc_45 : decode cX6_addArc 45 = .ok (.iload_n 1, 1) := by decide +kernel
theorem dX6_addArc_46 : decode cX6_addArc 46 = .ok (.iload_n 2, 1) := by decide +kernel
theorem dX6_addArc_47 : decode cX6_addArc 47 = .ok (.invokevirtual 73, 3) := by decide +kernel
theorem dX6_addArc_50 : decode cX6_addArc 50 = .ok (.istore 4, 2) := by decide +kernel
theorem dX6_addArc_52 : decode cX6_addArc 52 = .ok (.aload_n 0, 1) := by decide +kernel
theorem dX6_addArc_53 : decode cX6_addArc 53 = .ok (.getfield 21, 3) := by decide +kernel
theorem dX6_addArc_56 : decode cX6_addArc 56 = .ok (.iload 4, 2) := by decide +kernel
theorem dX6_addArc_58 : decode cX6_addArc 58 = .ok (.iload_n 3, 1) := by decide +kernel
theorem dX6_addArc_59 : decode cX6_addArc 59 = .ok (.invokevirtual 77, 3) := by decide +kernel
theorem dX6_addArc_62 : decode cX6_addArc 62 = .ok (.iload 4, 2) := by decide +kernel
theorem dX6_addArc_64 : decode cX6_addArc 64 = .ok (.ireturn, 1) := by decide +kernel
theorem dX6_setCapacity_0 : decode cX6_setCapacity 0 = .ok (.aload_n 0, 1) := by decide +kernel
theorem dX6_setCapacity_1 : decode cX6_setCapacity 1 = .ok (.iload_n 1, 1) := by decide +kernel
theorem dX6_setCapacity_2 : decode cX6_setCapacity 2 = .ok (.invokevirtual 80, 3) := by decide +kernel
theorem dX6_setCapacity_5 : decode cX6_setCapacity 5 = .ok (.iload_n 2, 1) := by decide +kernel
theorem dX6_setCapacity_6 : decode cX6_setCapacity 6 = .ok (.invokestatic 65, 3) := by decide +kernel
theorem dX6_setCapacity_9 : decode cX6_setCapacity 9 = .ok (.aload_n 0, 1) := by decide +kernel
theorem dX6_setCapacity_10 : decode cX6_setCapacity 10 = .ok (.getfield 21, 3) := by decide +kernel
theorem dX6_setCapacity_13 : decode cX6_setCapacity 13 = .ok (.getfield 83, 3) := by decide +kernel
theorem dX6_setCapacity_16 : decode cX6_setCapacity 16 = .ok (.getfield 87, 3) := by decide +kernel
theorem dX6_setCapacity_19 : decode cX6_setCapacity 19 = .ok (.iload_n 1, 1) := by decide +kernel
theorem dX6_setCapacity_20 : decode cX6_setCapacity 20 = .ok (.iaload, 1) := by decide +kernel
theorem dX6_setCapacity_21 : decode cX6_setCapacity 21 = .ok (.istore_n 3, 1) := by decide +kernel
theorem dX6_setCapacity_22 : decode cX6_setCapacity 22 = .ok (.aload_n 0, 1) := by decide +kernel
theorem dX6_setCapacity_23 : decode cX6_setCapacity 23 = .ok (.getfield 21, 3) := by decide +kernel
theorem dX6_setCapacity_26 : decode cX6_setCapacity 26 = .ok (.iload_n 1, 1) := by decide +kernel
theorem dX6_setCapacity_27 : decode cX6_setCapacity 27 = .ok (.iload_n 2, 1) := by decide +kernel
theorem dX6_setCapacity_28 : decode cX6_setCapacity 28 = .ok (.invokevirtual 77, 3) := by decide +kernel
theorem dX6_setCapacity_31 : decode cX6_setCapacity 31 = .ok (.iload_n 3, 1) := by decide +kernel
theorem dX6_setCapacity_32 : decode cX6_setCapacity 32 = .ok (.ireturn, 1) := by decide +kernel
theorem dX6_scale_0 : decode cX6_scale 0 = .ok (.aload_n 0, 1) := by decide +kernel
theorem dX6_scale_1 : decode cX6_scale 1 = .ok (.iload_n 1, 1) := by decide +kernel
theorem dX6_scale_2 : decode cX6_scale 2 = .ok (.invokevirtual 57, 3) := by decide +kernel
theorem dX6_scale_5 : decode cX6_scale 5 = .ok (.dload_n 2, 1) := by decide +kernel
theorem dX6_scale_6 : decode cX6_scale 6 = .ok (.invokestatic 93, 3) := by decide +kernel
theorem dX6_scale_9 : decode cX6_scale 9 = .ok (.iconst 0, 1) := by decide +kernel
theorem dX6_scale_10 : decode cX6_scale 10 = .ok (.istore 4, 2) := by decide +kernel
theorem dX6_scale_12 : decode cX6_scale 12 = .ok (.iconst 0, 1) := by decide +kernel
theorem dX6_scale_13 : decode cX6_scale 13 = .ok (.istore 5, 2) := by decide +kernel
theorem dX6_scale_15 : decode cX6_scale 15 = .ok (.iload 5, 2) := by decide +kernel
theorem dX6_scale_17 : decode cX6_scale 17 = .ok (.aload_n 0, 1) := by decide +kernel
theorem dX6_scale_18 : decode cX6_scale 18 = .ok (.getfield 10, 3) := by decide +kernel
theorem dX6_scale_21 : decode cX6_scale 21 = .ok (.getfield 68, 3) := by decide +kernel
theorem dX6_scale_24 : decode cX6_scale 24 = .ok (.if_icmp .ge 67, 3) := by decide +kernel
theorem dX6_scale_27 : decode cX6_scale 27 = .ok (.aload_n 0, 1) := by decide +kernel
theorem dX6_scale_28 : decode cX6_scale 28 = .ok (.getfield 21, 3) := by decide +kernel
theorem dX6_scale_31 : decode cX6_scale 31 = .ok (.getfield 83, 3) := by decide +kernel
theorem dX6_scale_34 : decode cX6_scale 34 = .ok (.getfield 87, 3) := by decide +kernel
theorem dX6_scale_37 : decode cX6_scale 37 = .ok (.iload 5, 2) := by decide +kernel
theorem dX6_scale_39 : decode cX6_scale 39 = .ok (.iaload, 1) := by decide +kernel
theorem dX6_scale_40 : decode cX6_scale 40 = .ok (.istore 6, 2) := by decide +kernel
theorem dX6_scale_42 : decode cX6_scale 42 = .ok (.iload 6, 2) := by decide +kernel
theorem dX6_scale_44 : decode cX6_scale 44 = .ok (.dload_n 2, 1) := by decide +kernel
theorem dX6_scale_45 : decode cX6_scale 45 = .ok (.invokestatic 97, 3) := by decide +kernel
theorem dX6_scale_48 : decode cX6_scale 48 = .ok (.istore 7, 2) := by decide +kernel
theorem dX6_scale_50 : decode cX6_scale 50 = .ok (.aload_n 0, 1) := by decide +kernel
theorem dX6_scale_51 : decode cX6_scale 51 = .ok (.getfield 10, 3) := by decide +kernel
theorem dX6_scale_54 : decode cX6_scale 54 = .ok (.getfield 101, 3) := by decide +kernel
theorem dX6_scale_57 : decode cX6_scale 57 = .ok (.iload 5, 2) := by decide +kernel
theorem dX6_scale_59 : decode cX6_scale 59 = .ok (.iaload, 1) := by decide +kernel
theorem dX6_scale_60 : decode cX6_scale 60 = .ok (.iload_n 1, 1) := by decide +kernel
theorem dX6_scale_61 : decode cX6_scale 61 = .ok (.if_icmp .ne 24, 3) := by decide +kernel
theorem dX6_scale_64 : decode cX6_scale 64 = .ok (.iload 7, 2) := by decide +kernel
theorem dX6_scale_66 : decode cX6_scale 66 = .ok (.iload 6, 2) := by decide +kernel
theorem dX6_scale_68 : decode cX6_scale 68 = .ok (.if_icmp .eq 17, 3) := by decide +kernel
theorem dX6_scale_71 : decode cX6_scale 71 = .ok (.aload_n 0, 1) := by decide +kernel
theorem dX6_scale_72 : decode cX6_scale 72 = .ok (.getfield 21, 3) := by decide +kernel
theorem dX6_scale_75 : decode cX6_scale 75 = .ok (.iload 5, 2) := by decide +kernel
theorem dX6_scale_77 : decode cX6_scale 77 = .ok (.iload 7, 2) := by decide +kernel
theorem dX6_scale_79 : decode cX6_scale 79 = .ok (.invokevirtual 77, 3) := by decide +kernel
theorem dX6_scale_82 : decode cX6_scale 82 = .ok (.iinc 4 1, 3) := by decide +kernel
theorem dX6_scale_85 : decode cX6_scale 85 = .ok (.iinc 5 1, 3) := by decide +kernel
theorem dX6_scale_88 : decode cX6_scale 88 = .ok (.goto (-73), 3) := by decide +kernel
theorem dX6_scale_91 : decode cX6_scale 91 = .ok (.iload 4, 2) := by decide +kernel
theorem dX6_scale_93 : decode cX6_scale 93 = .ok (.ireturn, 1) := by decide +kernel
theorem dX6_setEnds_0 : decode cX6_setEnds 0 = .ok (.aload_n 0, 1) := by decide +kernel
theorem dX6_setEnds_1 : decode cX6_setEnds 1 = .ok (.iload_n 1, 1) := by decide +kernel
theorem dX6_setEnds_2 : decode cX6_setEnds 2 = .ok (.invokevirtual 57, 3) := by decide +kernel
theorem dX6_setEnds_5 : decode cX6_setEnds 5 = .ok (.aload_n 0, 1) := by decide +kernel
theorem dX6_setEnds_6 : decode cX6_setEnds 6 = .ok (.iload_n 2, 1) := by decide +kernel
theorem dX6_setEnds_7 : decode cX6_setEnds 7 = .ok (.invokevirtual 57, 3) := by decide +kernel
theorem dX6_setEnds_10 : decode cX6_setEnds 10 = .ok (.iload_n 1, 1) := by decide +kernel
theorem dX6_setEnds_11 : decode cX6_setEnds 11 = .ok (.iload_n 2, 1) := by decide +kernel
theorem dX6_setEnds_12 : decode cX6_setEnds 12 = .ok (.invokestatic 61, 3) := by decide +kernel
theorem dX6_setEnds_15 : decode cX6_setEnds 15 = .ok (.aload_n 0, 1) := by decide +kernel
theorem dX6_setEnds_16 : decode cX6_setEnds 16 = .ok (.getfield 21, 3) := by decide +kernel
theorem dX6_setEnds_19 : decode cX6_setEnds 19 = .ok (.iload_n 1, 1) := by decide +kernel
theorem dX6_setEnds_20 : decode cX6_setEnds 20 = .ok (.iload_n 2, 1) := by decide +kernel
theorem dX6_setEnds_21 : decode cX6_setEnds 21 = .ok (.invokevirtual 104, 3) := by decide +kernel
theorem dX6_setEnds_24 : decode cX6_setEnds 24 = .ok (.ireturn, 1) := by decide +kernel
theorem dX6_nodeCount_0 : decode cX6_nodeCount 0 = .ok (.aload_n 0, 1) := by decide +kernel
theorem dX6_nodeCount_1 : decode cX6_nodeCount 1 = .ok (.getfield 10, 3) := by decide +kernel
theorem dX6_nodeCount_4 : decode cX6_nodeCount 4 = .ok (.getfield 42, 3) := by decide +kernel
theorem dX6_nodeCount_7 : decode cX6_nodeCount 7 = .ok (.ireturn, 1) := by decide +kernel
theorem dX6_arcCount_0 : decode cX6_arcCount 0 = .ok (.aload_n 0, 1) := by decide +kernel
theorem dX6_arcCount_1 : decode cX6_arcCount 1 = .ok (.getfield 10, 3) := by decide +kernel
theorem dX6_arcCount_4 : decode cX6_arcCount 4 = .ok (.getfield 68, 3) := by decide +kernel
theorem dX6_arcCount_7 : decode cX6_arcCount 7 = .ok (.ireturn, 1) := by decide +kernel
theorem dX6_capacity_0 : decode cX6_capacity 0 = .ok (.aload_n 0, 1) := by decide +kernel
theorem dX6_capacity_1 : decode cX6_capacity 1 = .ok (.iload_n 1, 1) := by decide +kernel
theorem dX6_capacity_2 : decode cX6_capacity 2 = .ok (.invokevirtual 80, 3) := by decide +kernel
theorem dX6_capacity_5 : decode cX6_capacity 5 = .ok (.aload_n 0, 1) := by decide +kernel
theorem dX6_capacity_6 : decode cX6_capacity 6 = .ok (.getfield 21, 3) := by decide +kernel
theorem dX6_capacity_9 : decode cX6_capacity 9 = .ok (.getfield 83, 3) := by decide +kernel
theorem dX6_capacity_12 : decode cX6_capacity 12 = .ok (.getfield 87, 3) := by decide +kernel
theorem dX6_capacity_15 : decode cX6_capacity 15 = .ok (.iload_n 1, 1) := by decide +kernel
theorem dX6_capacity_16 : decode cX6_capacity 16 = .ok (.iaload, 1) := by decide +kernel
theorem dX6_capacity_17 : decode cX6_capacity 17 = .ok (.ireturn, 1) := by decide +kernel
theorem dX6_maximum_0 : decode cX6_maximum 0 = .ok (.aload_n 0, 1) := by decide +kernel
theorem dX6_maximum_1 : decode cX6_maximum 1 = .ok (.invokevirtual 108, 3) := by decide +kernel
theorem dX6_maximum_4 : decode cX6_maximum 4 = .ok (.aload_n 0, 1) := by decide +kernel
theorem dX6_maximum_5 : decode cX6_maximum 5 = .ok (.getfield 21, 3) := by decide +kernel
theorem dX6_maximum_8 : decode cX6_maximum 8 = .ok (.invokevirtual 111, 3) := by decide +kernel
theorem dX6_maximum_11 : decode cX6_maximum 11 = .ok (.ireturn, 1) := by decide +kernel
theorem dX6_maximumWith_0 : decode cX6_maximumWith 0 = .ok (.aload_n 0, 1) := by decide +kernel
theorem dX6_maximumWith_1 : decode cX6_maximumWith 1 = .ok (.invokevirtual 108, 3) := by decide +kernel
theorem dX6_maximumWith_4 : decode cX6_maximumWith 4 = .ok (.aload_n 0, 1) := by decide +kernel
theorem dX6_maximumWith_5 : decode cX6_maximumWith 5 = .ok (.iload_n 1, 1) := by decide +kernel
theorem dX6_maximumWith_6 : decode cX6_maximumWith 6 = .ok (.invokevirtual 80, 3) := by decide +kernel
theorem dX6_maximumWith_9 : decode cX6_maximumWith 9 = .ok (.iload_n 2, 1) := by decide +kernel
theorem dX6_maximumWith_10 : decode cX6_maximumWith 10 = .ok (.invokestatic 65, 3) := by decide +kernel
theorem dX6_maximumWith_13 : decode cX6_maximumWith 13 = .ok (.aload_n 0, 1) := by decide +kernel
theorem dX6_maximumWith_14 : decode cX6_maximumWith 14 = .ok (.getfield 25, 3) := by decide +kernel
theorem dX6_maximumWith_17 : decode cX6_maximumWith 17 = .ok (.aload_n 0, 1) := by decide +kernel
theorem dX6_maximumWith_18 : decode cX6_maximumWith 18 = .ok (.getfield 21, 3) := by decide +kernel
theorem dX6_maximumWith_21 : decode cX6_maximumWith 21 = .ok (.invokevirtual 114, 3) := by decide +kernel
theorem dX6_maximumWith_24 : decode cX6_maximumWith 24 = .ok (.aload_n 0, 1) := by decide +kernel
theorem dX6_maximumWith_25 : decode cX6_maximumWith 25 = .ok (.getfield 25, 3) := by decide +kernel
theorem dX6_maximumWith_28 : decode cX6_maximumWith 28 = .ok (.iload_n 1, 1) := by decide +kernel
theorem dX6_maximumWith_29 : decode cX6_maximumWith 29 = .ok (.iload_n 2, 1) := by decide +kernel
theorem dX6_maximumWith_30 : decode cX6_maximumWith 30 = .ok (.invokevirtual 77, 3) := by decide +kernel
theorem dX6_maximumWith_33 : decode cX6_maximumWith 33 = .ok (.aload_n 0, 1) := by decide +kernel
theorem dX6_maximumWith_34 : decode cX6_maximumWith 34 = .ok (.getfield 25, 3) := by decide +kernel
theorem dX6_maximumWith_37 : decode cX6_maximumWith 37 = .ok (.invokevirtual 111, 3) := by decide +kernel
theorem dX6_maximumWith_40 : decode cX6_maximumWith 40 = .ok (.ireturn, 1) := by decide +kernel
theorem dX6_maximumWithout_0 : decode cX6_maximumWithout 0 = .ok (.aload_n 0, 1) := by decide +kernel
theorem dX6_maximumWithout_1 : decode cX6_maximumWithout 1 = .ok (.invokevirtual 108, 3) := by decide +kernel
theorem dX6_maximumWithout_4 : decode cX6_maximumWithout 4 = .ok (.aload_n 0, 1) := by decide +kernel
theorem dX6_maximumWithout_5 : decode cX6_maximumWithout 5 = .ok (.iload_n 1, 1) := by decide +kernel
theorem dX6_maximumWithout_6 : decode cX6_maximumWithout 6 = .ok (.invokevirtual 57, 3) := by decide +kernel
theorem dX6_maximumWithout_9 : decode cX6_maximumWithout 9 = .ok (.aload_n 0, 1) := by decide +kernel
theorem dX6_maximumWithout_10 : decode cX6_maximumWithout 10 = .ok (.getfield 25, 3) := by decide +kernel
theorem dX6_maximumWithout_13 : decode cX6_maximumWithout 13 = .ok (.aload_n 0, 1) := by decide +kernel
theorem dX6_maximumWithout_14 : decode cX6_maximumWithout 14 = .ok (.getfield 21, 3) := by decide +kernel
theorem dX6_maximumWithout_17 : decode cX6_maximumWithout 17 = .ok (.invokevirtual 114, 3) := by decide +kernel
theorem dX6_maximumWithout_20 : decode cX6_maximumWithout 20 = .ok (.iconst 0, 1) := by decide +kernel
theorem dX6_maximumWithout_21 : decode cX6_maximumWithout 21 = .ok (.istore_n 2, 1) := by decide +kernel
theorem dX6_maximumWithout_22 : decode cX6_maximumWithout 22 = .ok (.iload_n 2, 1) := by decide +kernel
theorem dX6_maximumWithout_23 : decode cX6_maximumWithout 23 = .ok (.aload_n 0, 1) := by decide +kernel
theorem dX6_maximumWithout_24 : decode cX6_maximumWithout 24 = .ok (.getfield 10, 3) := by decide +kernel
theorem dX6_maximumWithout_27 : decode cX6_maximumWithout 27 = .ok (.getfield 68, 3) := by decide +kernel
theorem dX6_maximumWithout_30 : decode cX6_maximumWithout 30 = .ok (.if_icmp .ge 44, 3) := by decide +kernel
theorem dX6_maximumWithout_33 : decode cX6_maximumWithout 33 = .ok (.aload_n 0, 1) := by decide +kernel
theorem dX6_maximumWithout_34 : decode cX6_maximumWithout 34 = .ok (.getfield 10, 3) := by decide +kernel
theorem dX6_maximumWithout_37 : decode cX6_maximumWithout 37 = .ok (.getfield 101, 3) := by decide +kernel
theorem dX6_maximumWithout_40 : decode cX6_maximumWithout 40 = .ok (.iload_n 2, 1) := by decide +kernel
theorem dX6_maximumWithout_41 : decode cX6_maximumWithout 41 = .ok (.iaload, 1) := by decide +kernel
theorem dX6_maximumWithout_42 : decode cX6_maximumWithout 42 = .ok (.iload_n 1, 1) := by decide +kernel
theorem dX6_maximumWithout_43 : decode cX6_maximumWithout 43 = .ok (.if_icmp .eq 16, 3) := by decide +kernel
theorem dX6_maximumWithout_46 : decode cX6_maximumWithout 46 = .ok (.aload_n 0, 1) := by decide +kernel
theorem dX6_maximumWithout_47 : decode cX6_maximumWithout 47 = .ok (.getfield 10, 3) := by decide +kernel
theorem dX6_maximumWithout_50 : decode cX6_maximumWithout 50 = .ok (.getfield 118, 3) := by decide +kernel
theorem dX6_maximumWithout_53 : decode cX6_maximumWithout 53 = .ok (.iload_n 2, 1) := by decide +kernel
theorem dX6_maximumWithout_54 : decode cX6_maximumWithout 54 = .ok (.iaload, 1) := by decide +kernel
theorem dX6_maximumWithout_55 : decode cX6_maximumWithout 55 = .ok (.iload_n 1, 1) := by decide +kernel
theorem dX6_maximumWithout_56 : decode cX6_maximumWithout 56 = .ok (.if_icmp .ne 12, 3) := by decide +kernel
theorem dX6_maximumWithout_59 : decode cX6_maximumWithout 59 = .ok (.aload_n 0, 1) := by decide +kernel
theorem dX6_maximumWithout_60 : decode cX6_maximumWithout 60 = .ok (.getfield 25, 3) := by decide +kernel
theorem dX6_maximumWithout_63 : decode cX6_maximumWithout 63 = .ok (.iload_n 2, 1) := by decide +kernel
theorem dX6_maximumWithout_64 : decode cX6_maximumWithout 64 = .ok (.iconst 0, 1) := by decide +kernel
theorem dX6_maximumWithout_65 : decode cX6_maximumWithout 65 = .ok (.invokevirtual 77, 3) := by decide +kernel
theorem dX6_maximumWithout_68 : decode cX6_maximumWithout 68 = .ok (.iinc 2 1, 3) := by decide +kernel
theorem dX6_maximumWithout_71 : decode cX6_maximumWithout 71 = .ok (.goto (-49), 3) := by decide +kernel
theorem dX6_maximumWithout_74 : decode cX6_maximumWithout 74 = .ok (.aload_n 0, 1) := by decide +kernel
theorem dX6_maximumWithout_75 : decode cX6_maximumWithout 75 = .ok (.getfield 25, 3) := by decide +kernel
theorem dX6_maximumWithout_78 : decode cX6_maximumWithout 78 = .ok (.invokevirtual 111, 3) := by decide +kernel
theorem dX6_maximumWithout_81 : decode cX6_maximumWithout 81 = .ok (.ireturn, 1) := by decide +kernel
theorem dX6_maximumBetween_0 : decode cX6_maximumBetween 0 = .ok (.aload_n 0, 1) := by decide +kernel
theorem dX6_maximumBetween_1 : decode cX6_maximumBetween 1 = .ok (.iload_n 1, 1) := by decide +kernel
theorem dX6_maximumBetween_2 : decode cX6_maximumBetween 2 = .ok (.invokevirtual 57, 3) := by decide +kernel
theorem dX6_maximumBetween_5 : decode cX6_maximumBetween 5 = .ok (.aload_n 0, 1) := by decide +kernel
theorem dX6_maximumBetween_6 : decode cX6_maximumBetween 6 = .ok (.iload_n 2, 1) := by decide +kernel
theorem dX6_maximumBetween_7 : decode cX6_maximumBetween 7 = .ok (.invokevirtual 57, 3) := by decide +kernel
theorem dX6_maximumBetween_10 : decode cX6_maximumBetween 10 = .ok (.iload_n 1, 1) := by decide +kernel
theorem dX6_maximumBetween_11 : decode cX6_maximumBetween 11 = .ok (.iload_n 2, 1) := by decide +kernel
theorem dX6_maximumBetween_12 : decode cX6_maximumBetween 12 = .ok (.invokestatic 61, 3) := by decide +kernel
theorem dX6_maximumBetween_15 : decode cX6_maximumBetween 15 = .ok (.aload_n 0, 1) := by decide +kernel
theorem dX6_maximumBetween_16 : decode cX6_maximumBetween 16 = .ok (.getfield 25, 3) := by decide +kernel
theorem dX6_maximumBetween_19 : decode cX6_maximumBetween 19 = .ok (.aload_n 0, 1) := by decide +kernel
theorem dX6_maximumBetween_20 : decode cX6_maximumBetween 20 = .ok (.getfield 21, 3) := by decide +kernel
theorem dX6_maximumBetween_23 : decode cX6_maximumBetween 23 = .ok (.invokevirtual 114, 3) := by decide +kernel
theorem dX6_maximumBetween_26 : decode cX6_maximumBetween 26 = .ok (.aload_n 0, 1) := by decide +kernel
theorem dX6_maximumBetween_27 : decode cX6_maximumBetween 27 = .ok (.getfield 25, 3) := by decide +kernel
theorem dX6_maximumBetween_30 : decode cX6_maximumBetween 30 = .ok (.iload_n 1, 1) := by decide +kernel
theorem dX6_maximumBetween_31 : decode cX6_maximumBetween 31 = .ok (.iload_n 2, 1) := by decide +kernel
theorem dX6_maximumBetween_32 : decode cX6_maximumBetween 32 = .ok (.invokevirtual 104, 3) := by decide +kernel
theorem dX6_maximumBetween_35 : decode cX6_maximumBetween 35 = .ok (.pop, 1) := by decide +kernel
theorem dX6_maximumBetween_36 : decode cX6_maximumBetween 36 = .ok (.aload_n 0, 1) := by decide +kernel
theorem dX6_maximumBetween_37 : decode cX6_maximumBetween 37 = .ok (.getfield 25, 3) := by decide +kernel
theorem dX6_maximumBetween_40 : decode cX6_maximumBetween 40 = .ok (.invokevirtual 111, 3) := by decide +kernel
theorem dX6_maximumBetween_43 : decode cX6_maximumBetween 43 = .ok (.ireturn, 1) := by decide +kernel
theorem dX6_utilization_0 : decode cX6_utilization 0 = .ok (.aload_n 0, 1) := by decide +kernel
theorem dX6_utilization_1 : decode cX6_utilization 1 = .ok (.invokevirtual 108, 3) := by decide +kernel
theorem dX6_utilization_4 : decode cX6_utilization 4 = .ok (.aload_n 0, 1) := by decide +kernel
theorem dX6_utilization_5 : decode cX6_utilization 5 = .ok (.getfield 21, 3) := by decide +kernel
theorem dX6_utilization_8 : decode cX6_utilization 8 = .ok (.getfield 83, 3) := by decide +kernel
theorem dX6_utilization_11 : decode cX6_utilization 11 = .ok (.iconst 1, 1) := by decide +kernel
theorem dX6_utilization_12 : decode cX6_utilization 12 = .ok (.aload_n 0, 1) := by decide +kernel
theorem dX6_utilization_13 : decode cX6_utilization 13 = .ok (.getfield 21, 3) := by decide +kernel
theorem dX6_utilization_16 : decode cX6_utilization 16 = .ok (.getfield 121, 3) := by decide +kernel
theorem dX6_utilization_19 : decode cX6_utilization 19 = .ok (.ishl, 1) := by decide +kernel
theorem dX6_utilization_20 : decode cX6_utilization 20 = .ok (.invokevirtual 124, 3) := by decide +kernel
theorem dX6_utilization_23 : decode cX6_utilization 23 = .ok (.istore_n 1, 1) := by decide +kernel
theorem dX6_utilization_24 : decode cX6_utilization 24 = .ok (.iload_n 1, 1) := by decide +kernel
theorem dX6_utilization_25 : decode cX6_utilization 25 = .ok (.ifCond .ne 5, 3) := by decide +kernel
theorem dX6_utilization_28 : decode cX6_utilization 28 = .ok (.dconst 0, 1) := by decide +kernel
theorem dX6_utilization_29 : decode cX6_utilization 29 = .ok (.dreturn, 1) := by decide +kernel
theorem dX6_utilization_30 : decode cX6_utilization 30 = .ok (.aload_n 0, 1) := by decide +kernel
theorem dX6_utilization_31 : decode cX6_utilization 31 = .ok (.getfield 21, 3) := by decide +kernel
theorem dX6_utilization_34 : decode cX6_utilization 34 = .ok (.invokevirtual 111, 3) := by decide +kernel
theorem dX6_utilization_37 : decode cX6_utilization 37 = .ok (.i2d, 1) := by decide +kernel
theorem dX6_utilization_38 : decode cX6_utilization 38 = .ok (.iload_n 1, 1) := by decide +kernel
theorem dX6_utilization_39 : decode cX6_utilization 39 = .ok (.i2d, 1) := by decide +kernel
theorem dX6_utilization_40 : decode cX6_utilization 40 = .ok (.ddiv, 1) := by decide +kernel
theorem dX6_utilization_41 : decode cX6_utilization 41 = .ok (.dreturn, 1) := by decide +kernel
theorem dX6_leastFlow_0 : decode cX6_leastFlow 0 = .ok (.aload_n 0, 1) := by decide +kernel
theorem dX6_leastFlow_1 : decode cX6_leastFlow 1 = .ok (.invokevirtual 108, 3) := by decide +kernel
theorem dX6_leastFlow_4 : decode cX6_leastFlow 4 = .ok (.aload_n 0, 1) := by decide +kernel
theorem dX6_leastFlow_5 : decode cX6_leastFlow 5 = .ok (.iload_n 1, 1) := by decide +kernel
theorem dX6_leastFlow_6 : decode cX6_leastFlow 6 = .ok (.invokevirtual 80, 3) := by decide +kernel
theorem dX6_leastFlow_9 : decode cX6_leastFlow 9 = .ok (.aload_n 0, 1) := by decide +kernel
theorem dX6_leastFlow_10 : decode cX6_leastFlow 10 = .ok (.getfield 21, 3) := by decide +kernel
theorem dX6_leastFlow_13 : decode cX6_leastFlow 13 = .ok (.invokevirtual 128, 3) := by decide +kernel
theorem dX6_leastFlow_16 : decode cX6_leastFlow 16 = .ok (.aload_n 0, 1) := by decide +kernel
theorem dX6_leastFlow_17 : decode cX6_leastFlow 17 = .ok (.getfield 10, 3) := by decide +kernel
theorem dX6_leastFlow_20 : decode cX6_leastFlow 20 = .ok (.getfield 101, 3) := by decide +kernel
theorem dX6_leastFlow_23 : decode cX6_leastFlow 23 = .ok (.iload_n 1, 1) := by decide +kernel
theorem dX6_leastFlow_24 : decode cX6_leastFlow 24 = .ok (.iaload, 1) := by decide +kernel
theorem dX6_leastFlow_25 : decode cX6_leastFlow 25 = .ok (.istore_n 2, 1) := by decide +kernel
theorem dX6_leastFlow_26 : decode cX6_leastFlow 26 = .ok (.aload_n 0, 1) := by decide +kernel
theorem dX6_leastFlow_27 : decode cX6_leastFlow 27 = .ok (.getfield 21, 3) := by decide +kernel
theorem dX6_leastFlow_30 : decode cX6_leastFlow 30 = .ok (.getfield 83, 3) := by decide +kernel
theorem dX6_leastFlow_33 : decode cX6_leastFlow 33 = .ok (.getfield 131, 3) := by decide +kernel
theorem dX6_leastFlow_36 : decode cX6_leastFlow 36 = .ok (.iload_n 1, 1) := by decide +kernel
theorem dX6_leastFlow_37 : decode cX6_leastFlow 37 = .ok (.iaload, 1) := by decide +kernel
theorem dX6_leastFlow_38 : decode cX6_leastFlow 38 = .ok (.istore_n 3, 1) := by decide +kernel
theorem dX6_leastFlow_39 : decode cX6_leastFlow 39 = .ok (.iload_n 3, 1) := by decide +kernel
theorem dX6_leastFlow_40 : decode cX6_leastFlow 40 = .ok (.aload_n 0, 1) := by decide +kernel
theorem dX6_leastFlow_41 : decode cX6_leastFlow 41 = .ok (.iload_n 1, 1) := by decide +kernel
theorem dX6_leastFlow_42 : decode cX6_leastFlow 42 = .ok (.iload_n 2, 1) := by decide +kernel
theorem dX6_leastFlow_43 : decode cX6_leastFlow 43 = .ok (.iload_n 3, 1) := by decide +kernel
theorem dX6_leastFlow_44 : decode cX6_leastFlow 44 = .ok (.invokevirtual 134, 3) := by decide +kernel
theorem dX6_leastFlow_47 : decode cX6_leastFlow 47 = .ok (.isub, 1) := by decide +kernel
theorem dX6_leastFlow_48 : decode cX6_leastFlow 48 = .ok (.ireturn, 1) := by decide +kernel
theorem dX6_greatestFlow_0 : decode cX6_greatestFlow 0 = .ok (.aload_n 0, 1) := by decide +kernel
theorem dX6_greatestFlow_1 : decode cX6_greatestFlow 1 = .ok (.invokevirtual 108, 3) := by decide +kernel
theorem dX6_greatestFlow_4 : decode cX6_greatestFlow 4 = .ok (.aload_n 0, 1) := by decide +kernel
theorem dX6_greatestFlow_5 : decode cX6_greatestFlow 5 = .ok (.iload_n 1, 1) := by decide +kernel
theorem dX6_greatestFlow_6 : decode cX6_greatestFlow 6 = .ok (.invokevirtual 80, 3) := by decide +kernel
theorem dX6_greatestFlow_9 : decode cX6_greatestFlow 9 = .ok (.aload_n 0, 1) := by decide +kernel
theorem dX6_greatestFlow_10 : decode cX6_greatestFlow 10 = .ok (.getfield 21, 3) := by decide +kernel
theorem dX6_greatestFlow_13 : decode cX6_greatestFlow 13 = .ok (.invokevirtual 128, 3) := by decide +kernel
theorem dX6_greatestFlow_16 : decode cX6_greatestFlow 16 = .ok (.aload_n 0, 1) := by decide +kernel
theorem dX6_greatestFlow_17 : decode cX6_greatestFlow 17 = .ok (.getfield 10, 3) := by decide +kernel
theorem dX6_greatestFlow_20 : decode cX6_greatestFlow 20 = .ok (.getfield 101, 3) := by decide +kernel
theorem dX6_greatestFlow_23 : decode cX6_greatestFlow 23 = .ok (.iload_n 1, 1) := by decide +kernel
theorem dX6_greatestFlow_24 : decode cX6_greatestFlow 24 = .ok (.iaload, 1) := by decide +kernel
theorem dX6_greatestFlow_25 : decode cX6_greatestFlow 25 = .ok (.istore_n 2, 1) := by decide +kernel
theorem dX6_greatestFlow_26 : decode cX6_greatestFlow 26 = .ok (.aload_n 0, 1) := by decide +kernel
theorem dX6_greatestFlow_27 : decode cX6_greatestFlow 27 = .ok (.getfield 10, 3) := by decide +kernel
theorem dX6_greatestFlow_30 : decode cX6_greatestFlow 30 = .ok (.getfield 118, 3) := by decide +kernel
theorem dX6_greatestFlow_33 : decode cX6_greatestFlow 33 = .ok (.iload_n 1, 1) := by decide +kernel
theorem dX6_greatestFlow_34 : decode cX6_greatestFlow 34 = .ok (.iaload, 1) := by decide +kernel
theorem dX6_greatestFlow_35 : decode cX6_greatestFlow 35 = .ok (.istore_n 3, 1) := by decide +kernel
theorem dX6_greatestFlow_36 : decode cX6_greatestFlow 36 = .ok (.aload_n 0, 1) := by decide +kernel
theorem dX6_greatestFlow_37 : decode cX6_greatestFlow 37 = .ok (.getfield 21, 3) := by decide +kernel
theorem dX6_greatestFlow_40 : decode cX6_greatestFlow 40 = .ok (.getfield 83, 3) := by decide +kernel
theorem dX6_greatestFlow_43 : decode cX6_greatestFlow 43 = .ok (.getfield 131, 3) := by decide +kernel
theorem dX6_greatestFlow_46 : decode cX6_greatestFlow 46 = .ok (.iload_n 1, 1) := by decide +kernel
theorem dX6_greatestFlow_47 : decode cX6_greatestFlow 47 = .ok (.iaload, 1) := by decide +kernel
theorem dX6_greatestFlow_48 : decode cX6_greatestFlow 48 = .ok (.aload_n 0, 1) := by decide +kernel
theorem dX6_greatestFlow_49 : decode cX6_greatestFlow 49 = .ok (.iload_n 1, 1) := by decide +kernel
theorem dX6_greatestFlow_50 : decode cX6_greatestFlow 50 = .ok (.iload_n 3, 1) := by decide +kernel
theorem dX6_greatestFlow_51 : decode cX6_greatestFlow 51 = .ok (.aload_n 0, 1) := by decide +kernel
theorem dX6_greatestFlow_52 : decode cX6_greatestFlow 52 = .ok (.getfield 21, 3) := by decide +kernel
theorem dX6_greatestFlow_55 : decode cX6_greatestFlow 55 = .ok (.getfield 83, 3) := by decide +kernel
theorem dX6_greatestFlow_58 : decode cX6_greatestFlow 58 = .ok (.iload_n 1, 1) := by decide +kernel
theorem dX6_greatestFlow_59 : decode cX6_greatestFlow 59 = .ok (.iload_n 2, 1) := by decide +kernel
theorem dX6_greatestFlow_60 : decode cX6_greatestFlow 60 = .ok (.invokevirtual 138, 3) := by decide +kernel
theorem dX6_greatestFlow_63 : decode cX6_greatestFlow 63 = .ok (.invokevirtual 134, 3) := by decide +kernel
theorem dX6_greatestFlow_66 : decode cX6_greatestFlow 66 = .ok (.iadd, 1) := by decide +kernel
theorem dX6_greatestFlow_67 : decode cX6_greatestFlow 67 = .ok (.ireturn, 1) := by decide +kernel
theorem dX6_cutCapacity_0 : decode cX6_cutCapacity 0 = .ok (.aload_n 0, 1) := by decide +kernel
theorem dX6_cutCapacity_1 : decode cX6_cutCapacity 1 = .ok (.invokevirtual 108, 3) := by decide +kernel
theorem dX6_cutCapacity_4 : decode cX6_cutCapacity 4 = .ok (.aload_n 0, 1) := by decide +kernel
theorem dX6_cutCapacity_5 : decode cX6_cutCapacity 5 = .ok (.iload_n 1, 1) := by decide +kernel
theorem dX6_cutCapacity_6 : decode cX6_cutCapacity 6 = .ok (.invokevirtual 141, 3) := by decide +kernel
theorem dX6_cutCapacity_9 : decode cX6_cutCapacity 9 = .ok (.ifCond .ne 13, 3) := by decide +kernel
theorem dX6_cutCapacity_12 : decode cX6_cutCapacity 12 = .ok (.new 145, 3) := by decide +kernel
theorem dX6_cutCapacity_15 : decode cX6_cutCapacity 15 = .ok (.dup, 1) := by decide +kernel
theorem dX6_cutCapacity_16 : decode cX6_cutCapacity 16 = .ok (.ldc 147, 2) := by decide +kernel
theorem dX6_cutCapacity_18 : decode cX6_cutCapacity 18 = .ok (.invokespecial 149, 3) := by decide +kernel
theorem dX6_cutCapacity_21 : decode cX6_cutCapacity 21 = .ok (.athrow, 1) := by decide +kernel
theorem dX6_cutCapacity_22 : decode cX6_cutCapacity 22 = .ok (.aload_n 0, 1) := by decide +kernel
theorem dX6_cutCapacity_23 : decode cX6_cutCapacity 23 = .ok (.getfield 21, 3) := by decide +kernel
theorem dX6_cutCapacity_26 : decode cX6_cutCapacity 26 = .ok (.getfield 83, 3) := by decide +kernel
theorem dX6_cutCapacity_29 : decode cX6_cutCapacity 29 = .ok (.iload_n 1, 1) := by decide +kernel
theorem dX6_cutCapacity_30 : decode cX6_cutCapacity 30 = .ok (.invokevirtual 124, 3) := by decide +kernel
theorem dX6_cutCapacity_33 : decode cX6_cutCapacity 33 = .ok (.ireturn, 1) := by decide +kernel
theorem dX6_smallestCut_0 : decode cX6_smallestCut 0 = .ok (.aload_n 0, 1) := by decide +kernel
theorem dX6_smallestCut_1 : decode cX6_smallestCut 1 = .ok (.invokevirtual 108, 3) := by decide +kernel
theorem dX6_smallestCut_4 : decode cX6_smallestCut 4 = .ok (.aload_n 0, 1) := by decide +kernel
theorem dX6_smallestCut_5 : decode cX6_smallestCut 5 = .ok (.getfield 21, 3) := by decide +kernel
theorem dX6_smallestCut_8 : decode cX6_smallestCut 8 = .ok (.invokevirtual 150, 3) := by decide +kernel
theorem dX6_smallestCut_11 : decode cX6_smallestCut 11 = .ok (.ireturn, 1) := by decide +kernel
theorem dX6_greatestCut_0 : decode cX6_greatestCut 0 = .ok (.aload_n 0, 1) := by decide +kernel
theorem dX6_greatestCut_1 : decode cX6_greatestCut 1 = .ok (.invokevirtual 108, 3) := by decide +kernel
theorem dX6_greatestCut_4 : decode cX6_greatestCut 4 = .ok (.aload_n 0, 1) := by decide +kernel
theorem dX6_greatestCut_5 : decode cX6_greatestCut 5 = .ok (.getfield 21, 3) := by decide +kernel
theorem dX6_greatestCut_8 : decode cX6_greatestCut 8 = .ok (.invokevirtual 153, 3) := by decide +kernel
theorem dX6_greatestCut_11 : decode cX6_greatestCut 11 = .ok (.ireturn, 1) := by decide +kernel
theorem dX6_findCuts_0 : decode cX6_findCuts 0 = .ok (.aload_n 0, 1) := by decide +kernel
theorem dX6_findCuts_1 : decode cX6_findCuts 1 = .ok (.invokevirtual 108, 3) := by decide +kernel
theorem dX6_findCuts_4 : decode cX6_findCuts 4 = .ok (.aload_n 0, 1) := by decide +kernel
theorem dX6_findCuts_5 : decode cX6_findCuts 5 = .ok (.getfield 21, 3) := by decide +kernel
theorem dX6_findCuts_8 : decode cX6_findCuts 8 = .ok (.invokevirtual 128, 3) := by decide +kernel
theorem dX6_findCuts_11 : decode cX6_findCuts 11 = .ok (.aload_n 0, 1) := by decide +kernel
theorem dX6_findCuts_12 : decode cX6_findCuts 12 = .ok (.getfield 38, 3) := by decide +kernel
theorem dX6_findCuts_15 : decode cX6_findCuts 15 = .ok (.aload_n 0, 1) := by decide +kernel
theorem dX6_findCuts_16 : decode cX6_findCuts 16 = .ok (.getfield 21, 3) := by decide +kernel
theorem dX6_findCuts_19 : decode cX6_findCuts 19 = .ok (.invokevirtual 156, 3) := by decide +kernel
theorem dX6_findCuts_22 : decode cX6_findCuts 22 = .ok (.aload_n 0, 1) := by decide +kernel
theorem dX6_findCuts_23 : decode cX6_findCuts 23 = .ok (.getfield 38, 3) := by decide +kernel
theorem dX6_findCuts_26 : decode cX6_findCuts 26 = .ok (.getfield 159, 3) := by decide +kernel
theorem dX6_findCuts_29 : decode cX6_findCuts 29 = .ok (.ireturn, 1) := by decide +kernel
theorem dX6_cut_0 : decode cX6_cut 0 = .ok (.iload_n 1, 1) := by decide +kernel
theorem dX6_cut_1 : decode cX6_cut 1 = .ok (.ifCond .lt 14, 3) := by decide +kernel
theorem dX6_cut_4 : decode cX6_cut 4 = .ok (.iload_n 1, 1) := by decide +kernel
theorem dX6_cut_5 : decode cX6_cut 5 = .ok (.aload_n 0, 1) := by decide +kernel
theorem dX6_cut_6 : decode cX6_cut 6 = .ok (.getfield 38, 3) := by decide +kernel
theorem dX6_cut_9 : decode cX6_cut 9 = .ok (.getfield 159, 3) := by decide +kernel
theorem dX6_cut_12 : decode cX6_cut 12 = .ok (.if_icmp .lt 13, 3) := by decide +kernel
theorem dX6_cut_15 : decode cX6_cut 15 = .ok (.new 162, 3) := by decide +kernel
theorem dX6_cut_18 : decode cX6_cut 18 = .ok (.dup, 1) := by decide +kernel
theorem dX6_cut_19 : decode cX6_cut 19 = .ok (.ldc 164, 2) := by decide +kernel
theorem dX6_cut_21 : decode cX6_cut 21 = .ok (.invokespecial 166, 3) := by decide +kernel
theorem dX6_cut_24 : decode cX6_cut 24 = .ok (.athrow, 1) := by decide +kernel
theorem dX6_cut_25 : decode cX6_cut 25 = .ok (.aload_n 0, 1) := by decide +kernel
theorem dX6_cut_26 : decode cX6_cut 26 = .ok (.getfield 38, 3) := by decide +kernel
theorem dX6_cut_29 : decode cX6_cut 29 = .ok (.getfield 167, 3) := by decide +kernel
theorem dX6_cut_32 : decode cX6_cut 32 = .ok (.iload_n 1, 1) := by decide +kernel
theorem dX6_cut_33 : decode cX6_cut 33 = .ok (.iaload, 1) := by decide +kernel
theorem dX6_cut_34 : decode cX6_cut 34 = .ok (.ireturn, 1) := by decide +kernel
theorem dX6_isBottleneck_0 : decode cX6_isBottleneck 0 = .ok (.aload_n 0, 1) := by decide +kernel
theorem dX6_isBottleneck_1 : decode cX6_isBottleneck 1 = .ok (.invokevirtual 108, 3) := by decide +kernel
theorem dX6_isBottleneck_4 : decode cX6_isBottleneck 4 = .ok (.aload_n 0, 1) := by decide +kernel
theorem dX6_isBottleneck_5 : decode cX6_isBottleneck 5 = .ok (.iload_n 1, 1) := by decide +kernel
theorem dX6_isBottleneck_6 : decode cX6_isBottleneck 6 = .ok (.invokevirtual 80, 3) := by decide +kernel
theorem dX6_isBottleneck_9 : decode cX6_isBottleneck 9 = .ok (.aload_n 0, 1) := by decide +kernel
theorem dX6_isBottleneck_10 : decode cX6_isBottleneck 10 = .ok (.getfield 21, 3) := by decide +kernel
theorem dX6_isBottleneck_13 : decode cX6_isBottleneck 13 = .ok (.invokevirtual 150, 3) := by decide +kernel
theorem dX6_isBottleneck_16 : decode cX6_isBottleneck 16 = .ok (.aload_n 0, 1) := by decide +kernel
theorem dX6_isBottleneck_17 : decode cX6_isBottleneck 17 = .ok (.getfield 21, 3) := by decide +kernel
theorem dX6_isBottleneck_20 : decode cX6_isBottleneck 20 = .ok (.getfield 83, 3) := by decide +kernel
theorem dX6_isBottleneck_23 : decode cX6_isBottleneck 23 = .ok (.aload_n 0, 1) := by decide +kernel
theorem dX6_isBottleneck_24 : decode cX6_isBottleneck 24 = .ok (.getfield 10, 3) := by decide +kernel
theorem dX6_isBottleneck_27 : decode cX6_isBottleneck 27 = .ok (.getfield 101, 3) := by decide +kernel
theorem dX6_isBottleneck_30 : decode cX6_isBottleneck 30 = .ok (.iload_n 1, 1) := by decide +kernel
theorem dX6_isBottleneck_31 : decode cX6_isBottleneck 31 = .ok (.iaload, 1) := by decide +kernel
theorem dX6_isBottleneck_32 : decode cX6_isBottleneck 32 = .ok (.invokevirtual 170, 3) := by decide +kernel
theorem dX6_isBottleneck_35 : decode cX6_isBottleneck 35 = .ok (.ior, 1) := by decide +kernel
theorem dX6_isBottleneck_36 : decode cX6_isBottleneck 36 = .ok (.istore_n 2, 1) := by decide +kernel
theorem dX6_isBottleneck_37 : decode cX6_isBottleneck 37 = .ok (.aload_n 0, 1) := by decide +kernel
theorem dX6_isBottleneck_38 : decode cX6_isBottleneck 38 = .ok (.getfield 21, 3) := by decide +kernel
theorem dX6_isBottleneck_41 : decode cX6_isBottleneck 41 = .ok (.getfield 83, 3) := by decide +kernel
theorem dX6_isBottleneck_44 : decode cX6_isBottleneck 44 = .ok (.getfield 87, 3) := by decide +kernel
theorem dX6_isBottleneck_47 : decode cX6_isBottleneck 47 = .ok (.iload_n 1, 1) := by decide +kernel
theorem dX6_isBottleneck_48 : decode cX6_isBottleneck 48 = .ok (.iaload, 1) := by decide +kernel
theorem dX6_isBottleneck_49 : decode cX6_isBottleneck 49 = .ok (.ifCond .eq 37, 3) := by decide +kernel
theorem dX6_isBottleneck_52 : decode cX6_isBottleneck 52 = .ok (.iload_n 2, 1) := by decide +kernel
theorem dX6_isBottleneck_53 : decode cX6_isBottleneck 53 = .ok (.aload_n 0, 1) := by decide +kernel
theorem dX6_isBottleneck_54 : decode cX6_isBottleneck 54 = .ok (.getfield 10, 3) := by decide +kernel
theorem dX6_isBottleneck_57 : decode cX6_isBottleneck 57 = .ok (.getfield 118, 3) := by decide +kernel
theorem dX6_isBottleneck_60 : decode cX6_isBottleneck 60 = .ok (.iload_n 1, 1) := by decide +kernel
theorem dX6_isBottleneck_61 : decode cX6_isBottleneck 61 = .ok (.iaload, 1) := by decide +kernel
theorem dX6_isBottleneck_62 : decode cX6_isBottleneck 62 = .ok (.invokestatic 173, 3) := by decide +kernel
theorem dX6_isBottleneck_65 : decode cX6_isBottleneck 65 = .ok (.ifCond .ne 21, 3) := by decide +kernel
theorem dX6_isBottleneck_68 : decode cX6_isBottleneck 68 = .ok (.iload_n 2, 1) := by decide +kernel
theorem dX6_isBottleneck_69 : decode cX6_isBottleneck 69 = .ok (.aload_n 0, 1) := by decide +kernel
theorem dX6_isBottleneck_70 : decode cX6_isBottleneck 70 = .ok (.getfield 21, 3) := by decide +kernel
theorem dX6_isBottleneck_73 : decode cX6_isBottleneck 73 = .ok (.getfield 176, 3) := by decide +kernel
theorem dX6_isBottleneck_76 : decode cX6_isBottleneck 76 = .ok (.invokestatic 173, 3) := by decide +kernel
theorem dX6_isBottleneck_79 : decode cX6_isBottleneck 79 = .ok (.ifCond .ne 7, 3) := by decide +kernel
theorem dX6_isBottleneck_82 : decode cX6_isBottleneck 82 = .ok (.iconst 1, 1) := by decide +kernel
theorem dX6_isBottleneck_83 : decode cX6_isBottleneck 83 = .ok (.goto 4, 3) := by decide +kernel
theorem dX6_isBottleneck_86 : decode cX6_isBottleneck 86 = .ok (.iconst 0, 1) := by decide +kernel
theorem dX6_isBottleneck_87 : decode cX6_isBottleneck 87 = .ok (.ireturn, 1) := by decide +kernel
theorem dX6_isLimiting_0 : decode cX6_isLimiting 0 = .ok (.aload_n 0, 1) := by decide +kernel
theorem dX6_isLimiting_1 : decode cX6_isLimiting 1 = .ok (.invokevirtual 108, 3) := by decide +kernel
theorem dX6_isLimiting_4 : decode cX6_isLimiting 4 = .ok (.aload_n 0, 1) := by decide +kernel
theorem dX6_isLimiting_5 : decode cX6_isLimiting 5 = .ok (.iload_n 1, 1) := by decide +kernel
theorem dX6_isLimiting_6 : decode cX6_isLimiting 6 = .ok (.invokevirtual 80, 3) := by decide +kernel
theorem dX6_isLimiting_9 : decode cX6_isLimiting 9 = .ok (.aload_n 0, 1) := by decide +kernel
theorem dX6_isLimiting_10 : decode cX6_isLimiting 10 = .ok (.getfield 21, 3) := by decide +kernel
theorem dX6_isLimiting_13 : decode cX6_isLimiting 13 = .ok (.invokevirtual 150, 3) := by decide +kernel
theorem dX6_isLimiting_16 : decode cX6_isLimiting 16 = .ok (.aload_n 0, 1) := by decide +kernel
theorem dX6_isLimiting_17 : decode cX6_isLimiting 17 = .ok (.getfield 10, 3) := by decide +kernel
theorem dX6_isLimiting_20 : decode cX6_isLimiting 20 = .ok (.getfield 101, 3) := by decide +kernel
theorem dX6_isLimiting_23 : decode cX6_isLimiting 23 = .ok (.iload_n 1, 1) := by decide +kernel
theorem dX6_isLimiting_24 : decode cX6_isLimiting 24 = .ok (.iaload, 1) := by decide +kernel
theorem dX6_isLimiting_25 : decode cX6_isLimiting 25 = .ok (.invokestatic 173, 3) := by decide +kernel
theorem dX6_isLimiting_28 : decode cX6_isLimiting 28 = .ok (.ifCond .eq 39, 3) := by decide +kernel
theorem dX6_isLimiting_31 : decode cX6_isLimiting 31 = .ok (.aload_n 0, 1) := by decide +kernel
theorem dX6_isLimiting_32 : decode cX6_isLimiting 32 = .ok (.getfield 21, 3) := by decide +kernel
theorem dX6_isLimiting_35 : decode cX6_isLimiting 35 = .ok (.getfield 83, 3) := by decide +kernel
theorem dX6_isLimiting_38 : decode cX6_isLimiting 38 = .ok (.aload_n 0, 1) := by decide +kernel
theorem dX6_isLimiting_39 : decode cX6_isLimiting 39 = .ok (.getfield 10, 3) := by decide +kernel
theorem dX6_isLimiting_42 : decode cX6_isLimiting 42 = .ok (.getfield 118, 3) := by decide +kernel
theorem dX6_isLimiting_45 : decode cX6_isLimiting 45 = .ok (.iload_n 1, 1) := by decide +kernel
theorem dX6_isLimiting_46 : decode cX6_isLimiting 46 = .ok (.iaload, 1) := by decide +kernel
theorem dX6_isLimiting_47 : decode cX6_isLimiting 47 = .ok (.invokevirtual 170, 3) := by decide +kernel
theorem dX6_isLimiting_50 : decode cX6_isLimiting 50 = .ok (.aload_n 0, 1) := by decide +kernel
theorem dX6_isLimiting_51 : decode cX6_isLimiting 51 = .ok (.getfield 21, 3) := by decide +kernel
theorem dX6_isLimiting_54 : decode cX6_isLimiting 54 = .ok (.getfield 176, 3) := by decide +kernel
theorem dX6_isLimiting_57 : decode cX6_isLimiting 57 = .ok (.invokestatic 173, 3) := by decide +kernel
theorem dX6_isLimiting_60 : decode cX6_isLimiting 60 = .ok (.ifCond .eq 7, 3) := by decide +kernel
theorem dX6_isLimiting_63 : decode cX6_isLimiting 63 = .ok (.iconst 1, 1) := by decide +kernel
theorem dX6_isLimiting_64 : decode cX6_isLimiting 64 = .ok (.goto 4, 3) := by decide +kernel
theorem dX6_isLimiting_67 : decode cX6_isLimiting 67 = .ok (.iconst 0, 1) := by decide +kernel
theorem dX6_isLimiting_68 : decode cX6_isLimiting 68 = .ok (.ireturn, 1) := by decide +kernel
theorem dX6_headroom_0 : decode cX6_headroom 0 = .ok (.aload_n 0, 1) := by decide +kernel
theorem dX6_headroom_1 : decode cX6_headroom 1 = .ok (.invokevirtual 108, 3) := by decide +kernel
theorem dX6_headroom_4 : decode cX6_headroom 4 = .ok (.aload_n 0, 1) := by decide +kernel
theorem dX6_headroom_5 : decode cX6_headroom 5 = .ok (.iload_n 1, 1) := by decide +kernel
theorem dX6_headroom_6 : decode cX6_headroom 6 = .ok (.invokevirtual 80, 3) := by decide +kernel
theorem dX6_headroom_9 : decode cX6_headroom 9 = .ok (.aload_n 0, 1) := by decide +kernel
theorem dX6_headroom_10 : decode cX6_headroom 10 = .ok (.getfield 10, 3) := by decide +kernel
theorem dX6_headroom_13 : decode cX6_headroom 13 = .ok (.getfield 101, 3) := by decide +kernel
theorem dX6_headroom_16 : decode cX6_headroom 16 = .ok (.iload_n 1, 1) := by decide +kernel
theorem dX6_headroom_17 : decode cX6_headroom 17 = .ok (.iaload, 1) := by decide +kernel
theorem dX6_headroom_18 : decode cX6_headroom 18 = .ok (.aload_n 0, 1) := by decide +kernel
theorem dX6_headroom_19 : decode cX6_headroom 19 = .ok (.getfield 21, 3) := by decide +kernel
theorem dX6_headroom_22 : decode cX6_headroom 22 = .ok (.getfield 121, 3) := by decide +kernel
theorem dX6_headroom_25 : decode cX6_headroom 25 = .ok (.if_icmp .ne 24, 3) := by decide +kernel
theorem dX6_headroom_28 : decode cX6_headroom 28 = .ok (.aload_n 0, 1) := by decide +kernel
theorem dX6_headroom_29 : decode cX6_headroom 29 = .ok (.getfield 10, 3) := by decide +kernel
theorem dX6_headroom_32 : decode cX6_headroom 32 = .ok (.getfield 118, 3) := by decide +kernel
theorem dX6_headroom_35 : decode cX6_headroom 35 = .ok (.iload_n 1, 1) := by decide +kernel
theorem dX6_headroom_36 : decode cX6_headroom 36 = .ok (.iaload, 1) := by decide +kernel
theorem dX6_headroom_37 : decode cX6_headroom 37 = .ok (.aload_n 0, 1) := by decide +kernel
theorem dX6_headroom_38 : decode cX6_headroom 38 = .ok (.getfield 21, 3) := by decide +kernel
theorem dX6_headroom_41 : decode cX6_headroom 41 = .ok (.getfield 176, 3) := by decide +kernel
theorem dX6_headroom_44 : decode cX6_headroom 44 = .ok (.if_icmp .ne 5, 3) := by decide +kernel
theorem dX6_headroom_47 : decode cX6_headroom 47 = .ok (.iconst (-1), 1) := by decide +kernel
theorem dX6_headroom_48 : decode cX6_headroom 48 = .ok (.ireturn, 1) := by decide +kernel
theorem dX6_headroom_49 : decode cX6_headroom 49 = .ok (.aload_n 0, 1) := by decide +kernel
theorem dX6_headroom_50 : decode cX6_headroom 50 = .ok (.getfield 25, 3) := by decide +kernel
theorem dX6_headroom_53 : decode cX6_headroom 53 = .ok (.aload_n 0, 1) := by decide +kernel
theorem dX6_headroom_54 : decode cX6_headroom 54 = .ok (.getfield 21, 3) := by decide +kernel
theorem dX6_headroom_57 : decode cX6_headroom 57 = .ok (.invokevirtual 114, 3) := by decide +kernel
theorem dX6_headroom_60 : decode cX6_headroom 60 = .ok (.aload_n 0, 1) := by decide +kernel
theorem dX6_headroom_61 : decode cX6_headroom 61 = .ok (.getfield 25, 3) := by decide +kernel
theorem dX6_headroom_64 : decode cX6_headroom 64 = .ok (.iload_n 1, 1) := by decide +kernel
theorem dX6_headroom_65 : decode cX6_headroom 65 = .ok (.ldc 179, 2) := by decide +kernel
theorem dX6_headroom_67 : decode cX6_headroom 67 = .ok (.invokevirtual 77, 3) := by decide +kernel
theorem dX6_headroom_70 : decode cX6_headroom 70 = .ok (.aload_n 0, 1) := by decide +kernel
theorem dX6_headroom_71 : decode cX6_headroom 71 = .ok (.getfield 25, 3) := by decide +kernel
theorem dX6_headroom_74 : decode cX6_headroom 74 = .ok (.invokevirtual 111, 3) := by decide +kernel
theorem dX6_headroom_77 : decode cX6_headroom 77 = .ok (.aload_n 0, 1) := by decide +kernel
theorem dX6_headroom_78 : decode cX6_headroom 78 = .ok (.getfield 21, 3) := by decide +kernel
theorem dX6_headroom_81 : decode cX6_headroom 81 = .ok (.invokevirtual 111, 3) := by decide +kernel
theorem dX6_headroom_84 : decode cX6_headroom 84 = .ok (.isub, 1) := by decide +kernel
theorem dX6_headroom_85 : decode cX6_headroom 85 = .ok (.ireturn, 1) := by decide +kernel
theorem dX6_push_0 : decode cX6_push 0 = .ok (.aload_n 0, 1) := by decide +kernel
theorem dX6_push_1 : decode cX6_push 1 = .ok (.getfield 31, 3) := by decide +kernel
theorem dX6_push_4 : decode cX6_push 4 = .ok (.getfield 180, 3) := by decide +kernel
theorem dX6_push_7 : decode cX6_push 7 = .ok (.bipush 8, 2) := by decide +kernel
theorem dX6_push_9 : decode cX6_push 9 = .ok (.if_icmp .lt 13, 3) := by decide +kernel
theorem dX6_push_12 : decode cX6_push 12 = .ok (.new 46, 3) := by decide +kernel
theorem dX6_push_15 : decode cX6_push 15 = .ok (.dup, 1) := by decide +kernel
theorem dX6_push_16 : decode cX6_push 16 = .ok (.ldc 181, 2) := by decide +kernel
theorem dX6_push_18 : decode cX6_push 18 = .ok (.invokespecial 50, 3) := by decide +kernel
theorem dX6_push_21 : decode cX6_push 21 = .ok (.athrow, 1) := by decide +kernel
theorem dX6_push_22 : decode cX6_push 22 = .ok (.aload_n 0, 1) := by decide +kernel
theorem dX6_push_23 : decode cX6_push 23 = .ok (.getfield 31, 3) := by decide +kernel
theorem dX6_push_26 : decode cX6_push 26 = .ok (.aload_n 0, 1) := by decide +kernel
theorem dX6_push_27 : decode cX6_push 27 = .ok (.getfield 21, 3) := by decide +kernel
theorem dX6_push_30 : decode cX6_push 30 = .ok (.invokevirtual 183, 3) := by decide +kernel
theorem dX6_push_33 : decode cX6_push 33 = .ok (.aload_n 0, 1) := by decide +kernel
theorem dX6_push_34 : decode cX6_push 34 = .ok (.getfield 31, 3) := by decide +kernel
theorem dX6_push_37 : decode cX6_push 37 = .ok (.getfield 180, 3) := by decide +kernel
theorem dX6_push_40 : decode cX6_push 40 = .ok (.ireturn, 1) := by decide +kernel
theorem dX6_pop_0 : decode cX6_pop 0 = .ok (.aload_n 0, 1) := by decide +kernel
theorem dX6_pop_1 : decode cX6_pop 1 = .ok (.getfield 31, 3) := by decide +kernel
theorem dX6_pop_4 : decode cX6_pop 4 = .ok (.getfield 180, 3) := by decide +kernel
theorem dX6_pop_7 : decode cX6_pop 7 = .ok (.ifCond .gt 13, 3) := by decide +kernel
theorem dX6_pop_10 : decode cX6_pop 10 = .ok (.new 46, 3) := by decide +kernel
theorem dX6_pop_13 : decode cX6_pop 13 = .ok (.dup, 1) := by decide +kernel
theorem dX6_pop_14 : decode cX6_pop 14 = .ok (.ldc 186, 2) := by decide +kernel
theorem dX6_pop_16 : decode cX6_pop 16 = .ok (.invokespecial 50, 3) := by decide +kernel
theorem dX6_pop_19 : decode cX6_pop 19 = .ok (.athrow, 1) := by decide +kernel
theorem dX6_pop_20 : decode cX6_pop 20 = .ok (.aload_n 0, 1) := by decide +kernel
theorem dX6_pop_21 : decode cX6_pop 21 = .ok (.getfield 31, 3) := by decide +kernel
theorem dX6_pop_24 : decode cX6_pop 24 = .ok (.dup, 1) := by decide +kernel
theorem dX6_pop_25 : decode cX6_pop 25 = .ok (.getfield 180, 3) := by decide +kernel
theorem dX6_pop_28 : decode cX6_pop 28 = .ok (.iconst 1, 1) := by decide +kernel
theorem dX6_pop_29 : decode cX6_pop 29 = .ok (.isub, 1) := by decide +kernel
theorem dX6_pop_30 : decode cX6_pop 30 = .ok (.putfield 180, 3) := by decide +kernel
theorem dX6_pop_33 : decode cX6_pop 33 = .ok (.aload_n 0, 1) := by decide +kernel
theorem dX6_pop_34 : decode cX6_pop 34 = .ok (.getfield 31, 3) := by decide +kernel
theorem dX6_pop_37 : decode cX6_pop 37 = .ok (.getfield 180, 3) := by decide +kernel
theorem dX6_pop_40 : decode cX6_pop 40 = .ok (.istore_n 1, 1) := by decide +kernel
theorem dX6_pop_41 : decode cX6_pop 41 = .ok (.aload_n 0, 1) := by decide +kernel
theorem dX6_pop_42 : decode cX6_pop 42 = .ok (.getfield 21, 3) := by decide +kernel
theorem dX6_pop_45 : decode cX6_pop 45 = .ok (.aload_n 0, 1) := by decide +kernel
theorem dX6_pop_46 : decode cX6_pop 46 = .ok (.getfield 31, 3) := by decide +kernel
theorem dX6_pop_49 : decode cX6_pop 49 = .ok (.getfield 188, 3) := by decide +kernel
theorem dX6_pop_52 : decode cX6_pop 52 = .ok (.iload_n 1, 1) := by decide +kernel
theorem dX6_pop_53 : decode cX6_pop 53 = .ok (.iaload, 1) := by decide +kernel
theorem dX6_pop_54 : decode cX6_pop 54 = .ok (.aload_n 0, 1) := by decide +kernel
theorem dX6_pop_55 : decode cX6_pop 55 = .ok (.getfield 31, 3) := by decide +kernel
theorem dX6_pop_58 : decode cX6_pop 58 = .ok (.getfield 190, 3) := by decide +kernel
theorem dX6_pop_61 : decode cX6_pop 61 = .ok (.iload_n 1, 1) := by decide +kernel
theorem dX6_pop_62 : decode cX6_pop 62 = .ok (.iaload, 1) := by decide +kernel
theorem dX6_pop_63 : decode cX6_pop 63 = .ok (.invokevirtual 104, 3) := by decide +kernel
theorem dX6_pop_66 : decode cX6_pop 66 = .ok (.pop, 1) := by decide +kernel
theorem dX6_pop_67 : decode cX6_pop 67 = .ok (.iconst 0, 1) := by decide +kernel
theorem dX6_pop_68 : decode cX6_pop 68 = .ok (.istore_n 2, 1) := by decide +kernel
theorem dX6_pop_69 : decode cX6_pop 69 = .ok (.iload_n 2, 1) := by decide +kernel
theorem dX6_pop_70 : decode cX6_pop 70 = .ok (.aload_n 0, 1) := by decide +kernel
theorem dX6_pop_71 : decode cX6_pop 71 = .ok (.getfield 10, 3) := by decide +kernel
theorem dX6_pop_74 : decode cX6_pop 74 = .ok (.getfield 68, 3) := by decide +kernel
theorem dX6_pop_77 : decode cX6_pop 77 = .ok (.if_icmp .ge 28, 3) := by decide +kernel
theorem dX6_pop_80 : decode cX6_pop 80 = .ok (.aload_n 0, 1) := by decide +kernel
theorem dX6_pop_81 : decode cX6_pop 81 = .ok (.getfield 21, 3) := by decide +kernel
theorem dX6_pop_84 : decode cX6_pop 84 = .ok (.iload_n 2, 1) := by decide +kernel
theorem dX6_pop_85 : decode cX6_pop 85 = .ok (.aload_n 0, 1) := by decide +kernel
theorem dX6_pop_86 : decode cX6_pop 86 = .ok (.getfield 31, 3) := by decide +kernel
theorem dX6_pop_89 : decode cX6_pop 89 = .ok (.getfield 192, 3) := by decide +kernel
theorem dX6_pop_92 : decode cX6_pop 92 = .ok (.iload_n 1, 1) := by decide +kernel
theorem dX6_pop_93 : decode cX6_pop 93 = .ok (.aaload, 1) := by decide +kernel
theorem dX6_pop_94 : decode cX6_pop 94 = .ok (.iload_n 2, 1) := by decide +kernel
theorem dX6_pop_95 : decode cX6_pop 95 = .ok (.iaload, 1) := by decide +kernel
theorem dX6_pop_96 : decode cX6_pop 96 = .ok (.invokevirtual 77, 3) := by decide +kernel
theorem dX6_pop_99 : decode cX6_pop 99 = .ok (.iinc 2 1, 3) := by decide +kernel
theorem dX6_pop_102 : decode cX6_pop 102 = .ok (.goto (-33), 3) := by decide +kernel
theorem dX6_pop_105 : decode cX6_pop 105 = .ok (.iload_n 1, 1) := by decide +kernel
theorem dX6_pop_106 : decode cX6_pop 106 = .ok (.ireturn, 1) := by decide +kernel
theorem dX6_digest_0 : decode cX6_digest 0 = .ok (.ldc2_w 195, 3) := by decide +kernel
theorem dX6_digest_3 : decode cX6_digest 3 = .ok (.lstore_n 1, 1) := by decide +kernel
theorem dX6_digest_4 : decode cX6_digest 4 = .ok (.lload_n 1, 1) := by decide +kernel
theorem dX6_digest_5 : decode cX6_digest 5 = .ok (.ldc2_w 197, 3) := by decide +kernel
theorem dX6_digest_8 : decode cX6_digest 8 = .ok (.lmul, 1) := by decide +kernel
theorem dX6_digest_9 : decode cX6_digest 9 = .ok (.aload_n 0, 1) := by decide +kernel
theorem dX6_digest_10 : decode cX6_digest 10 = .ok (.getfield 10, 3) := by decide +kernel
theorem dX6_digest_13 : decode cX6_digest 13 = .ok (.getfield 42, 3) := by decide +kernel
theorem dX6_digest_16 : decode cX6_digest 16 = .ok (.i2l, 1) := by decide +kernel
theorem dX6_digest_17 : decode cX6_digest 17 = .ok (.ladd, 1) := by decide +kernel
theorem dX6_digest_18 : decode cX6_digest 18 = .ok (.lstore_n 1, 1) := by decide +kernel
theorem dX6_digest_19 : decode cX6_digest 19 = .ok (.lload_n 1, 1) := by decide +kernel
theorem dX6_digest_20 : decode cX6_digest 20 = .ok (.ldc2_w 197, 3) := by decide +kernel
theorem dX6_digest_23 : decode cX6_digest 23 = .ok (.lmul, 1) := by decide +kernel
theorem dX6_digest_24 : decode cX6_digest 24 = .ok (.aload_n 0, 1) := by decide +kernel
theorem dX6_digest_25 : decode cX6_digest 25 = .ok (.getfield 10, 3) := by decide +kernel
theorem dX6_digest_28 : decode cX6_digest 28 = .ok (.getfield 68, 3) := by decide +kernel
theorem dX6_digest_31 : decode cX6_digest 31 = .ok (.i2l, 1) := by decide +kernel
theorem dX6_digest_32 : decode cX6_digest 32 = .ok (.ladd, 1) := by decide +kernel
theorem dX6_digest_33 : decode cX6_digest 33 = .ok (.lstore_n 1, 1) := by decide +kernel
theorem dX6_digest_34 : decode cX6_digest 34 = .ok (.lload_n 1, 1) := by decide +kernel
theorem dX6_digest_35 : decode cX6_digest 35 = .ok (.ldc2_w 197, 3) := by decide +kernel
theorem dX6_digest_38 : decode cX6_digest 38 = .ok (.lmul, 1) := by decide +kernel
theorem dX6_digest_39 : decode cX6_digest 39 = .ok (.aload_n 0, 1) := by decide +kernel
theorem dX6_digest_40 : decode cX6_digest 40 = .ok (.getfield 31, 3) := by decide +kernel
theorem dX6_digest_43 : decode cX6_digest 43 = .ok (.getfield 180, 3) := by decide +kernel
theorem dX6_digest_46 : decode cX6_digest 46 = .ok (.i2l, 1) := by decide +kernel
theorem dX6_digest_47 : decode cX6_digest 47 = .ok (.ladd, 1) := by decide +kernel
theorem dX6_digest_48 : decode cX6_digest 48 = .ok (.lstore_n 1, 1) := by decide +kernel
theorem dX6_digest_49 : decode cX6_digest 49 = .ok (.iconst 0, 1) := by decide +kernel
theorem dX6_digest_50 : decode cX6_digest 50 = .ok (.istore_n 3, 1) := by decide +kernel
theorem dX6_digest_51 : decode cX6_digest 51 = .ok (.iload_n 3, 1) := by decide +kernel
theorem dX6_digest_52 : decode cX6_digest 52 = .ok (.aload_n 0, 1) := by decide +kernel
theorem dX6_digest_53 : decode cX6_digest 53 = .ok (.getfield 10, 3) := by decide +kernel
theorem dX6_digest_56 : decode cX6_digest 56 = .ok (.getfield 68, 3) := by decide +kernel
theorem dX6_digest_59 : decode cX6_digest 59 = .ok (.if_icmp .ge 29, 3) := by decide +kernel
theorem dX6_digest_62 : decode cX6_digest 62 = .ok (.lload_n 1, 1) := by decide +kernel
theorem dX6_digest_63 : decode cX6_digest 63 = .ok (.ldc2_w 197, 3) := by decide +kernel
theorem dX6_digest_66 : decode cX6_digest 66 = .ok (.lmul, 1) := by decide +kernel
theorem dX6_digest_67 : decode cX6_digest 67 = .ok (.aload_n 0, 1) := by decide +kernel
theorem dX6_digest_68 : decode cX6_digest 68 = .ok (.getfield 21, 3) := by decide +kernel
theorem dX6_digest_71 : decode cX6_digest 71 = .ok (.getfield 83, 3) := by decide +kernel
theorem dX6_digest_74 : decode cX6_digest 74 = .ok (.getfield 87, 3) := by decide +kernel
theorem dX6_digest_77 : decode cX6_digest 77 = .ok (.iload_n 3, 1) := by decide +kernel
theorem dX6_digest_78 : decode cX6_digest 78 = .ok (.iaload, 1) := by decide +kernel
theorem dX6_digest_79 : decode cX6_digest 79 = .ok (.i2l, 1) := by decide +kernel
theorem dX6_digest_80 : decode cX6_digest 80 = .ok (.ladd, 1) := by decide +kernel
theorem dX6_digest_81 : decode cX6_digest 81 = .ok (.lstore_n 1, 1) := by decide +kernel
theorem dX6_digest_82 : decode cX6_digest 82 = .ok (.iinc 3 1, 3) := by decide +kernel
theorem dX6_digest_85 : decode cX6_digest 85 = .ok (.goto (-34), 3) := by decide +kernel
theorem dX6_digest_88 : decode cX6_digest 88 = .ok (.lload_n 1, 1) := by decide +kernel
theorem dX6_digest_89 : decode cX6_digest 89 = .ok (.ldc2_w 197, 3) := by decide +kernel
theorem dX6_digest_92 : decode cX6_digest 92 = .ok (.lmul, 1) := by decide +kernel
theorem dX6_digest_93 : decode cX6_digest 93 = .ok (.aload_n 0, 1) := by decide +kernel
theorem dX6_digest_94 : decode cX6_digest 94 = .ok (.getfield 21, 3) := by decide +kernel
theorem dX6_digest_97 : decode cX6_digest 97 = .ok (.getfield 121, 3) := by decide +kernel
theorem dX6_digest_100 : decode cX6_digest 100 = .ok (.i2l, 1) := by decide +kernel
theorem dX6_digest_101 : decode cX6_digest 101 = .ok (.ladd, 1) := by decide +kernel
theorem dX6_digest_102 : decode cX6_digest 102 = .ok (.lstore_n 1, 1) := by decide +kernel
theorem dX6_digest_103 : decode cX6_digest 103 = .ok (.lload_n 1, 1) := by decide +kernel
theorem dX6_digest_104 : decode cX6_digest 104 = .ok (.ldc2_w 197, 3) := by decide +kernel
theorem dX6_digest_107 : decode cX6_digest 107 = .ok (.lmul, 1) := by decide +kernel
theorem dX6_digest_108 : decode cX6_digest 108 = .ok (.aload_n 0, 1) := by decide +kernel
theorem dX6_digest_109 : decode cX6_digest 109 = .ok (.getfield 21, 3) := by decide +kernel
theorem dX6_digest_112 : decode cX6_digest 112 = .ok (.getfield 176, 3) := by decide +kernel
theorem dX6_digest_115 : decode cX6_digest 115 = .ok (.i2l, 1) := by decide +kernel
theorem dX6_digest_116 : decode cX6_digest 116 = .ok (.ladd, 1) := by decide +kernel
theorem dX6_digest_117 : decode cX6_digest 117 = .ok (.lstore_n 1, 1) := by decide +kernel
theorem dX6_digest_118 : decode cX6_digest 118 = .ok (.aload_n 0, 1) := by decide +kernel
theorem dX6_digest_119 : decode cX6_digest 119 = .ok (.getfield 21, 3) := by decide +kernel
theorem dX6_digest_122 : decode cX6_digest 122 = .ok (.invokevirtual 199, 3) := by decide +kernel
theorem dX6_digest_125 : decode cX6_digest 125 = .ok (.ifCond .eq 48, 3) := by decide +kernel
theorem dX6_digest_128 : decode cX6_digest 128 = .ok (.lload_n 1, 1) := by decide +kernel
theorem dX6_digest_129 : decode cX6_digest 129 = .ok (.ldc2_w 197, 3) := by decide +kernel
theorem dX6_digest_132 : decode cX6_digest 132 = .ok (.lmul, 1) := by decide +kernel
theorem dX6_digest_133 : decode cX6_digest 133 = .ok (.aload_n 0, 1) := by decide +kernel
theorem dX6_digest_134 : decode cX6_digest 134 = .ok (.getfield 21, 3) := by decide +kernel
theorem dX6_digest_137 : decode cX6_digest 137 = .ok (.invokevirtual 111, 3) := by decide +kernel
theorem dX6_digest_140 : decode cX6_digest 140 = .ok (.i2l, 1) := by decide +kernel
theorem dX6_digest_141 : decode cX6_digest 141 = .ok (.ladd, 1) := by decide +kernel
theorem dX6_digest_142 : decode cX6_digest 142 = .ok (.lstore_n 1, 1) := by decide +kernel
theorem dX6_digest_143 : decode cX6_digest 143 = .ok (.lload_n 1, 1) := by decide +kernel
theorem dX6_digest_144 : decode cX6_digest 144 = .ok (.ldc2_w 197, 3) := by decide +kernel
theorem dX6_digest_147 : decode cX6_digest 147 = .ok (.lmul, 1) := by decide +kernel
theorem dX6_digest_148 : decode cX6_digest 148 = .ok (.aload_n 0, 1) := by decide +kernel
theorem dX6_digest_149 : decode cX6_digest 149 = .ok (.getfield 21, 3) := by decide +kernel
theorem dX6_digest_152 : decode cX6_digest 152 = .ok (.invokevirtual 150, 3) := by decide +kernel
theorem dX6_digest_155 : decode cX6_digest 155 = .ok (.i2l, 1) := by decide +kernel
theorem dX6_digest_156 : decode cX6_digest 156 = .ok (.ladd, 1) := by decide +kernel
theorem dX6_digest_157 : decode cX6_digest 157 = .ok (.lstore_n 1, 1) := by decide +kernel
theorem dX6_digest_158 : decode cX6_digest 158 = .ok (.lload_n 1, 1) := by decide +kernel
theorem dX6_digest_159 : decode cX6_digest 159 = .ok (.ldc2_w 197, 3) := by decide +kernel
theorem dX6_digest_162 : decode cX6_digest 162 = .ok (.lmul, 1) := by decide +kernel
theorem dX6_digest_163 : decode cX6_digest 163 = .ok (.aload_n 0, 1) := by decide +kernel
theorem dX6_digest_164 : decode cX6_digest 164 = .ok (.getfield 21, 3) := by decide +kernel
theorem dX6_digest_167 : decode cX6_digest 167 = .ok (.invokevirtual 153, 3) := by decide +kernel
theorem dX6_digest_170 : decode cX6_digest 170 = .ok (.i2l, 1) := by decide +kernel
theorem dX6_digest_171 : decode cX6_digest 171 = .ok (.ladd, 1) := by decide +kernel
theorem dX6_digest_172 : decode cX6_digest 172 = .ok (.lstore_n 1, 1) := by decide +kernel
theorem dX6_digest_173 : decode cX6_digest 173 = .ok (.lload_n 1, 1) := by decide +kernel
theorem dX6_digest_174 : decode cX6_digest 174 = .ok (.lreturn, 1) := by decide +kernel
theorem dX6_requireEnds_0 : decode cX6_requireEnds 0 = .ok (.aload_n 0, 1) := by decide +kernel
theorem dX6_requireEnds_1 : decode cX6_requireEnds 1 = .ok (.getfield 21, 3) := by decide +kernel
theorem dX6_requireEnds_4 : decode cX6_requireEnds 4 = .ok (.invokevirtual 199, 3) := by decide +kernel
theorem dX6_requireEnds_7 : decode cX6_requireEnds 7 = .ok (.ifCond .ne 13, 3) := by decide +kernel
theorem dX6_requireEnds_10 : decode cX6_requireEnds 10 = .ok (.new 46, 3) := by decide +kernel
theorem dX6_requireEnds_13 : decode cX6_requireEnds 13 = .ok (.dup, 1) := by decide +kernel
theorem dX6_requireEnds_14 : decode cX6_requireEnds 14 = .ok (.ldc 203, 2) := by decide +kernel
theorem dX6_requireEnds_16 : decode cX6_requireEnds 16 = .ok (.invokespecial 50, 3) := by decide +kernel
theorem dX6_requireEnds_19 : decode cX6_requireEnds 19 = .ok (.athrow, 1) := by decide +kernel
theorem dX6_requireEnds_20 : decode cX6_requireEnds 20 = .ok (.return_, 1) := by decide +kernel
theorem dX6_requireNode_0 : decode cX6_requireNode 0 = .ok (.iload_n 1, 1) := by decide +kernel
theorem dX6_requireNode_1 : decode cX6_requireNode 1 = .ok (.ifCond .lt 14, 3) := by decide +kernel
theorem dX6_requireNode_4 : decode cX6_requireNode 4 = .ok (.iload_n 1, 1) := by decide +kernel
theorem dX6_requireNode_5 : decode cX6_requireNode 5 = .ok (.aload_n 0, 1) := by decide +kernel
theorem dX6_requireNode_6 : decode cX6_requireNode 6 = .ok (.getfield 10, 3) := by decide +kernel
theorem dX6_requireNode_9 : decode cX6_requireNode 9 = .ok (.getfield 42, 3) := by decide +kernel
theorem dX6_requireNode_12 : decode cX6_requireNode 12 = .ok (.if_icmp .lt 13, 3) := by decide +kernel
theorem dX6_requireNode_15 : decode cX6_requireNode 15 = .ok (.new 162, 3) := by decide +kernel
theorem dX6_requireNode_18 : decode cX6_requireNode 18 = .ok (.dup, 1) := by decide +kernel
theorem dX6_requireNode_19 : decode cX6_requireNode 19 = .ok (.ldc 205, 2) := by decide +kernel
theorem dX6_requireNode_21 : decode cX6_requireNode 21 = .ok (.invokespecial 166, 3) := by decide +kernel
theorem dX6_requireNode_24 : decode cX6_requireNode 24 = .ok (.athrow, 1) := by decide +kernel
theorem dX6_requireNode_25 : decode cX6_requireNode 25 = .ok (.return_, 1) := by decide +kernel
theorem dX6_requireArc_0 : decode cX6_requireArc 0 = .ok (.iload_n 1, 1) := by decide +kernel
theorem dX6_requireArc_1 : decode cX6_requireArc 1 = .ok (.ifCond .lt 14, 3) := by decide +kernel
theorem dX6_requireArc_4 : decode cX6_requireArc 4 = .ok (.iload_n 1, 1) := by decide +kernel
theorem dX6_requireArc_5 : decode cX6_requireArc 5 = .ok (.aload_n 0, 1) := by decide +kernel
theorem dX6_requireArc_6 : decode cX6_requireArc 6 = .ok (.getfield 10, 3) := by decide +kernel
theorem dX6_requireArc_9 : decode cX6_requireArc 9 = .ok (.getfield 68, 3) := by decide +kernel
theorem dX6_requireArc_12 : decode cX6_requireArc 12 = .ok (.if_icmp .lt 13, 3) := by decide +kernel
theorem dX6_requireArc_15 : decode cX6_requireArc 15 = .ok (.new 162, 3) := by decide +kernel
theorem dX6_requireArc_18 : decode cX6_requireArc 18 = .ok (.dup, 1) := by decide +kernel
theorem dX6_requireArc_19 : decode cX6_requireArc 19 = .ok (.ldc 207, 2) := by decide +kernel
theorem dX6_requireArc_21 : decode cX6_requireArc 21 = .ok (.invokespecial 166, 3) := by decide +kernel
theorem dX6_requireArc_24 : decode cX6_requireArc 24 = .ok (.athrow, 1) := by decide +kernel
theorem dX6_requireArc_25 : decode cX6_requireArc 25 = .ok (.return_, 1) := by decide +kernel
theorem dX6_requireDifferent_0 : decode cX6_requireDifferent 0 = .ok (.iload_n 0, 1) := by decide +kernel
theorem dX6_requireDifferent_1 : decode cX6_requireDifferent 1 = .ok (.iload_n 1, 1) := by decide +kernel
theorem dX6_requireDifferent_2 : decode cX6_requireDifferent 2 = .ok (.if_icmp .ne 13, 3) := by decide +kernel
theorem dX6_requireDifferent_5 : decode cX6_requireDifferent 5 = .ok (.new 145, 3) := by decide +kernel
theorem dX6_requireDifferent_8 : decode cX6_requireDifferent 8 = .ok (.dup, 1) := by decide +kernel
theorem dX6_requireDifferent_9 : decode cX6_requireDifferent 9 = .ok (.ldc 209, 2) := by decide +kernel
theorem dX6_requireDifferent_11 : decode cX6_requireDifferent 11 = .ok (.invokespecial 149, 3) := by decide +kernel
theorem dX6_requireDifferent_14 : decode cX6_requireDifferent 14 = .ok (.athrow, 1) := by decide +kernel
theorem dX6_requireDifferent_15 : decode cX6_requireDifferent 15 = .ok (.return_, 1) := by decide +kernel
theorem dX6_requireCapacity_0 : decode cX6_requireCapacity 0 = .ok (.iload_n 0, 1) := by decide +kernel
theorem dX6_requireCapacity_1 : decode cX6_requireCapacity 1 = .ok (.ifCond .lt 9, 3) := by decide +kernel
theorem dX6_requireCapacity_4 : decode cX6_requireCapacity 4 = .ok (.iload_n 0, 1) := by decide +kernel
theorem dX6_requireCapacity_5 : decode cX6_requireCapacity 5 = .ok (.ldc 211, 2) := by decide +kernel
theorem dX6_requireCapacity_7 : decode cX6_requireCapacity 7 = .ok (.if_icmp .le 13, 3) := by decide +kernel
theorem dX6_requireCapacity_10 : decode cX6_requireCapacity 10 = .ok (.new 145, 3) := by decide +kernel
theorem dX6_requireCapacity_13 : decode cX6_requireCapacity 13 = .ok (.dup, 1) := by decide +kernel
theorem dX6_requireCapacity_14 : decode cX6_requireCapacity 14 = .ok (.ldc 212, 2) := by decide +kernel
theorem dX6_requireCapacity_16 : decode cX6_requireCapacity 16 = .ok (.invokespecial 149, 3) := by decide +kernel
theorem dX6_requireCapacity_19 : decode cX6_requireCapacity 19 = .ok (.athrow, 1) := by decide +kernel
theorem dX6_requireCapacity_20 : decode cX6_requireCapacity 20 = .ok (.return_, 1) := by decide +kernel
theorem dX6_requireFraction_0 : decode cX6_requireFraction 0 = .ok (.dload_n 0, 1) := by decide +kernel
theorem dX6_requireFraction_1 : decode cX6_requireFraction 1 = .ok (.dconst 0, 1) := by decide +kernel
theorem dX6_requireFraction_2 : decode cX6_requireFraction 2 = .ok (.dcmp .l, 1) := by decide +kernel
theorem dX6_requireFraction_3 : decode cX6_requireFraction 3 = .ok (.ifCond .lt 15, 3) := by decide +kernel
theorem dX6_requireFraction_6 : decode cX6_requireFraction 6 = .ok (.dload_n 0, 1) := by decide +kernel
theorem dX6_requireFraction_7 : decode cX6_requireFraction 7 = .ok (.ldc2_w 214, 3) := by decide +kernel
theorem dX6_requireFraction_10 : decode cX6_requireFraction 10 = .ok (.dcmp .g, 1) := by decide +kernel
theorem dX6_requireFraction_11 : decode cX6_requireFraction 11 = .ok (.ifCond .gt 7, 3) := by decide +kernel
theorem dX6_requireFraction_14 : decode cX6_requireFraction 14 = .ok (.iconst 1, 1) := by decide +kernel
theorem dX6_requireFraction_15 : decode cX6_requireFraction 15 = .ok (.goto 4, 3) := by decide +kernel
theorem dX6_requireFraction_18 : decode cX6_requireFraction 18 = .ok (.iconst 0, 1) := by decide +kernel
theorem dX6_requireFraction_19 : decode cX6_requireFraction 19 = .ok (.istore_n 2, 1) := by decide +kernel
theorem dX6_requireFraction_20 : decode cX6_requireFraction 20 = .ok (.iload_n 2, 1) := by decide +kernel
theorem dX6_requireFraction_21 : decode cX6_requireFraction 21 = .ok (.ifCond .ne 13, 3) := by decide +kernel
theorem dX6_requireFraction_24 : decode cX6_requireFraction 24 = .ok (.new 145, 3) := by decide +kernel
theorem dX6_requireFraction_27 : decode cX6_requireFraction 27 = .ok (.dup, 1) := by decide +kernel
theorem dX6_requireFraction_28 : decode cX6_requireFraction 28 = .ok (.ldc 216, 2) := by decide +kernel
theorem dX6_requireFraction_30 : decode cX6_requireFraction 30 = .ok (.invokespecial 149, 3) := by decide +kernel
theorem dX6_requireFraction_33 : decode cX6_requireFraction 33 = .ok (.athrow, 1) := by decide +kernel
theorem dX6_requireFraction_34 : decode cX6_requireFraction 34 = .ok (.return_, 1) := by decide +kernel
theorem dX6_isCut_0 : decode cX6_isCut 0 = .ok (.iload_n 1, 1) := by decide +kernel
theorem dX6_isCut_1 : decode cX6_isCut 1 = .ok (.aload_n 0, 1) := by decide +kernel
theorem dX6_isCut_2 : decode cX6_isCut 2 = .ok (.getfield 10, 3) := by decide +kernel
theorem dX6_isCut_5 : decode cX6_isCut 5 = .ok (.invokevirtual 218, 3) := by decide +kernel
theorem dX6_isCut_8 : decode cX6_isCut 8 = .ok (.iconst (-1), 1) := by decide +kernel
theorem dX6_isCut_9 : decode cX6_isCut 9 = .ok (.ixor, 1) := by decide +kernel
theorem dX6_isCut_10 : decode cX6_isCut 10 = .ok (.iand, 1) := by decide +kernel
theorem dX6_isCut_11 : decode cX6_isCut 11 = .ok (.ifCond .ne 35, 3) := by decide +kernel
theorem dX6_isCut_14 : decode cX6_isCut 14 = .ok (.iload_n 1, 1) := by decide +kernel
theorem dX6_isCut_15 : decode cX6_isCut 15 = .ok (.aload_n 0, 1) := by decide +kernel
theorem dX6_isCut_16 : decode cX6_isCut 16 = .ok (.getfield 21, 3) := by decide +kernel
theorem dX6_isCut_19 : decode cX6_isCut 19 = .ok (.getfield 121, 3) := by decide +kernel
theorem dX6_isCut_22 : decode cX6_isCut 22 = .ok (.invokestatic 173, 3) := by decide +kernel
theorem dX6_isCut_25 : decode cX6_isCut 25 = .ok (.ifCond .eq 21, 3) := by decide +kernel
theorem dX6_isCut_28 : decode cX6_isCut 28 = .ok (.iload_n 1, 1) := by decide +kernel
theorem dX6_isCut_29 : decode cX6_isCut 29 = .ok (.aload_n 0, 1) := by decide +kernel
theorem dX6_isCut_30 : decode cX6_isCut 30 = .ok (.getfield 21, 3) := by decide +kernel
theorem dX6_isCut_33 : decode cX6_isCut 33 = .ok (.getfield 176, 3) := by decide +kernel
theorem dX6_isCut_36 : decode cX6_isCut 36 = .ok (.invokestatic 173, 3) := by decide +kernel
theorem dX6_isCut_39 : decode cX6_isCut 39 = .ok (.ifCond .ne 7, 3) := by decide +kernel
theorem dX6_isCut_42 : decode cX6_isCut 42 = .ok (.iconst 1, 1) := by decide +kernel
theorem dX6_isCut_43 : decode cX6_isCut 43 = .ok (.goto 4, 3) := by decide +kernel
theorem dX6_isCut_46 : decode cX6_isCut 46 = .ok (.iconst 0, 1) := by decide +kernel
theorem dX6_isCut_47 : decode cX6_isCut 47 = .ok (.ireturn, 1) := by decide +kernel
theorem dX6_movable_0 : decode cX6_movable 0 = .ok (.aload_n 0, 1) := by decide +kernel
theorem dX6_movable_1 : decode cX6_movable 1 = .ok (.getfield 25, 3) := by decide +kernel
theorem dX6_movable_4 : decode cX6_movable 4 = .ok (.aload_n 0, 1) := by decide +kernel
theorem dX6_movable_5 : decode cX6_movable 5 = .ok (.getfield 21, 3) := by decide +kernel
theorem dX6_movable_8 : decode cX6_movable 8 = .ok (.invokevirtual 114, 3) := by decide +kernel
theorem dX6_movable_11 : decode cX6_movable 11 = .ok (.aload_n 0, 1) := by decide +kernel
theorem dX6_movable_12 : decode cX6_movable 12 = .ok (.getfield 25, 3) := by decide +kernel
theorem dX6_movable_15 : decode cX6_movable 15 = .ok (.getfield 83, 3) := by decide +kernel
theorem dX6_movable_18 : decode cX6_movable 18 = .ok (.iload_n 1, 1) := by decide +kernel
theorem dX6_movable_19 : decode cX6_movable 19 = .ok (.invokevirtual 221, 3) := by decide +kernel
theorem dX6_movable_22 : decode cX6_movable 22 = .ok (.aload_n 0, 1) := by decide +kernel
theorem dX6_movable_23 : decode cX6_movable 23 = .ok (.getfield 25, 3) := by decide +kernel
theorem dX6_movable_26 : decode cX6_movable 26 = .ok (.getfield 224, 3) := by decide +kernel
theorem dX6_movable_29 : decode cX6_movable 29 = .ok (.iload_n 2, 1) := by decide +kernel
theorem dX6_movable_30 : decode cX6_movable 30 = .ok (.aload_n 0, 1) := by decide +kernel
theorem dX6_movable_31 : decode cX6_movable 31 = .ok (.getfield 10, 3) := by decide +kernel
theorem dX6_movable_34 : decode cX6_movable 34 = .ok (.iload_n 1, 1) := by decide +kernel
theorem dX6_movable_35 : decode cX6_movable 35 = .ok (.iload_n 2, 1) := by decide +kernel
theorem dX6_movable_36 : decode cX6_movable 36 = .ok (.invokevirtual 228, 3) := by decide +kernel
theorem dX6_movable_39 : decode cX6_movable 39 = .ok (.iload_n 3, 1) := by decide +kernel
theorem dX6_movable_40 : decode cX6_movable 40 = .ok (.invokevirtual 231, 3) := by decide +kernel
theorem dX6_movable_43 : decode cX6_movable 43 = .ok (.ireturn, 1) := by decide +kernel
theorem dX6_scaled_0 : decode cX6_scaled 0 = .ok (.iload_n 0, 1) := by decide +kernel
theorem dX6_scaled_1 : decode cX6_scaled 1 = .ok (.i2d, 1) := by decide +kernel
theorem dX6_scaled_2 : decode cX6_scaled 2 = .ok (.dload_n 1, 1) := by decide +kernel
theorem dX6_scaled_3 : decode cX6_scaled 3 = .ok (.dmul, 1) := by decide +kernel
theorem dX6_scaled_4 : decode cX6_scaled 4 = .ok (.dstore_n 3, 1) := by decide +kernel
theorem dX6_scaled_5 : decode cX6_scaled 5 = .ok (.dload_n 3, 1) := by decide +kernel
theorem dX6_scaled_6 : decode cX6_scaled 6 = .ok (.d2i, 1) := by decide +kernel
theorem dX6_scaled_7 : decode cX6_scaled 7 = .ok (.istore 5, 2) := by decide +kernel
theorem dX6_scaled_9 : decode cX6_scaled 9 = .ok (.dload_n 3, 1) := by decide +kernel
theorem dX6_scaled_10 : decode cX6_scaled 10 = .ok (.iload 5, 2) := by decide +kernel
theorem dX6_scaled_12 : decode cX6_scaled 12 = .ok (.i2d, 1) := by decide +kernel
theorem dX6_scaled_13 : decode cX6_scaled 13 = .ok (.dsub, 1) := by decide +kernel
theorem dX6_scaled_14 : decode cX6_scaled 14 = .ok (.dstore 6, 2) := by decide +kernel
theorem dX6_scaled_16 : decode cX6_scaled 16 = .ok (.dload 6, 2) := by decide +kernel
theorem dX6_scaled_18 : decode cX6_scaled 18 = .ok (.ldc2_w 236, 3) := by decide +kernel
theorem dX6_scaled_21 : decode cX6_scaled 21 = .ok (.dcmp .l, 1) := by decide +kernel
theorem dX6_scaled_22 : decode cX6_scaled 22 = .ok (.ifCond .gt 20, 3) := by decide +kernel
theorem dX6_scaled_25 : decode cX6_scaled 25 = .ok (.dload 6, 2) := by decide +kernel
theorem dX6_scaled_27 : decode cX6_scaled 27 = .ok (.ldc2_w 236, 3) := by decide +kernel
theorem dX6_scaled_30 : decode cX6_scaled 30 = .ok (.dcmp .l, 1) := by decide +kernel
theorem dX6_scaled_31 : decode cX6_scaled 31 = .ok (.ifCond .ne 15, 3) := by decide +kernel
theorem dX6_scaled_34 : decode cX6_scaled 34 = .ok (.iload 5, 2) := by decide +kernel
theorem dX6_scaled_36 : decode cX6_scaled 36 = .ok (.iconst 1, 1) := by decide +kernel
theorem dX6_scaled_37 : decode cX6_scaled 37 = .ok (.iand, 1) := by decide +kernel
theorem dX6_scaled_38 : decode cX6_scaled 38 = .ok (.iconst 1, 1) := by decide +kernel
theorem dX6_scaled_39 : decode cX6_scaled 39 = .ok (.if_icmp .ne 7, 3) := by decide +kernel
theorem dX6_scaled_42 : decode cX6_scaled 42 = .ok (.iconst 1, 1) := by decide +kernel
theorem dX6_scaled_43 : decode cX6_scaled 43 = .ok (.goto 4, 3) := by decide +kernel
theorem dX6_scaled_46 : decode cX6_scaled 46 = .ok (.iconst 0, 1) := by decide +kernel
theorem dX6_scaled_47 : decode cX6_scaled 47 = .ok (.istore 8, 2) := by decide +kernel
theorem dX6_scaled_49 : decode cX6_scaled 49 = .ok (.iload 8, 2) := by decide +kernel
theorem dX6_scaled_51 : decode cX6_scaled 51 = .ok (.ifCond .eq 10, 3) := by decide +kernel
theorem dX6_scaled_54 : decode cX6_scaled 54 = .ok (.iload 5, 2) := by decide +kernel
theorem dX6_scaled_56 : decode cX6_scaled 56 = .ok (.iconst 1, 1) := by decide +kernel
theorem dX6_scaled_57 : decode cX6_scaled 57 = .ok (.iadd, 1) := by decide +kernel
theorem dX6_scaled_58 : decode cX6_scaled 58 = .ok (.goto 5, 3) := by decide +kernel
theorem dX6_scaled_61 : decode cX6_scaled 61 = .ok (.iload 5, 2) := by decide +kernel
theorem dX6_scaled_63 : decode cX6_scaled 63 = .ok (.ldc 211, 2) := by decide +kernel
theorem dX6_scaled_65 : decode cX6_scaled 65 = .ok (.invokestatic 238, 3) := by decide +kernel
theorem dX6_scaled_68 : decode cX6_scaled 68 = .ok (.ireturn, 1) := by decide +kernel
theorem dX6_contains_0 : decode cX6_contains 0 = .ok (.iload_n 0, 1) := by decide +kernel
theorem dX6_contains_1 : decode cX6_contains 1 = .ok (.iload_n 1, 1) := by decide +kernel
theorem dX6_contains_2 : decode cX6_contains 2 = .ok (.ishr, 1) := by decide +kernel
theorem dX6_contains_3 : decode cX6_contains 3 = .ok (.iconst 1, 1) := by decide +kernel
theorem dX6_contains_4 : decode cX6_contains 4 = .ok (.iand, 1) := by decide +kernel
theorem dX6_contains_5 : decode cX6_contains 5 = .ok (.iconst 1, 1) := by decide +kernel
theorem dX6_contains_6 : decode cX6_contains 6 = .ok (.if_icmp .ne 7, 3) := by decide +kernel
theorem dX6_contains_9 : decode cX6_contains 9 = .ok (.iconst 1, 1) := by decide +kernel
theorem dX6_contains_10 : decode cX6_contains 10 = .ok (.goto 4, 3) := by decide +kernel
theorem dX6_contains_13 : decode cX6_contains 13 = .ok (.iconst 0, 1) := by decide +kernel
theorem dX6_contains_14 : decode cX6_contains 14 = .ok (.ireturn, 1) := by decide +kernel
theorem dX7_init_0 : decode cX7_init 0 = .ok (.aload_n 0, 1) := by decide +kernel
theorem dX7_init_1 : decode cX7_init 1 = .ok (.invokespecial 1, 3) := by decide +kernel
theorem dX7_init_4 : decode cX7_init 4 = .ok (.aload_n 0, 1) := by decide +kernel
theorem dX7_init_5 : decode cX7_init 5 = .ok (.bipush 80, 2) := by decide +kernel
theorem dX7_init_7 : decode cX7_init 7 = .ok (.newarray .int, 2) := by decide +kernel
theorem dX7_init_9 : decode cX7_init 9 = .ok (.putfield 9, 3) := by decide +kernel
theorem dX7_init_12 : decode cX7_init 12 = .ok (.aload_n 0, 1) := by decide +kernel
theorem dX7_init_13 : decode cX7_init 13 = .ok (.bipush 80, 2) := by decide +kernel
theorem dX7_init_15 : decode cX7_init 15 = .ok (.newarray .int, 2) := by decide +kernel
theorem dX7_init_17 : decode cX7_init 17 = .ok (.putfield 13, 3) := by decide +kernel
theorem dX7_init_20 : decode cX7_init 20 = .ok (.aload_n 0, 1) := by decide +kernel
theorem dX7_init_21 : decode cX7_init 21 = .ok (.bipush 80, 2) := by decide +kernel
theorem dX7_init_23 : decode cX7_init 23 = .ok (.newarray .int, 2) := by decide +kernel
theorem dX7_init_25 : decode cX7_init 25 = .ok (.putfield 16, 3) := by decide +kernel
theorem dX7_init_28 : decode cX7_init 28 = .ok (.aload_n 0, 1) := by decide +kernel
theorem dX7_init_29 : decode cX7_init 29 = .ok (.iconst (-1), 1) := by decide +kernel
theorem dX7_init_30 : decode cX7_init 30 = .ok (.putfield 19, 3) := by decide +kernel
theorem dX7_init_33 : decode cX7_init 33 = .ok (.aload_n 0, 1) := by decide +kernel
theorem dX7_init_34 : decode cX7_init 34 = .ok (.iconst (-1), 1) := by decide +kernel
theorem dX7_init_35 : decode cX7_init 35 = .ok (.putfield 23, 3) := by decide +kernel
theorem dX7_init_38 : decode cX7_init 38 = .ok (.aload_n 0, 1) := by decide +kernel
theorem dX7_init_39 : decode cX7_init 39 = .ok (.bipush 8, 2) := by decide +kernel
theorem dX7_init_41 : decode cX7_init 41 = .ok (.newarray .int, 2) := by decide +kernel
theorem dX7_init_43 : decode cX7_init 43 = .ok (.putfield 26, 3) := by decide +kernel
theorem dX7_init_46 : decode cX7_init 46 = .ok (.aload_n 0, 1) := by decide +kernel
theorem dX7_init_47 : decode cX7_init 47 = .ok (.sipush 640, 3) := by decide +kernel
theorem dX7_init_50 : decode cX7_init 50 = .ok (.newarray .int, 2) := by decide +kernel
theorem dX7_init_52 : decode cX7_init 52 = .ok (.putfield 29, 3) := by decide +kernel
theorem dX7_init_55 : decode cX7_init 55 = .ok (.aload_n 0, 1) := by decide +kernel
theorem dX7_init_56 : decode cX7_init 56 = .ok (.bipush 8, 2) := by decide +kernel
theorem dX7_init_58 : decode cX7_init 58 = .ok (.newarray .int, 2) := by decide +kernel
theorem dX7_init_60 : decode cX7_init 60 = .ok (.putfield 32, 3) := by decide +kernel
theorem dX7_init_63 : decode cX7_init 63 = .ok (.aload_n 0, 1) := by decide +kernel
theorem dX7_init_64 : decode cX7_init 64 = .ok (.bipush 8, 2) := by decide +kernel
theorem dX7_init_66 : decode cX7_init 66 = .ok (.newarray .int, 2) := by decide +kernel
theorem dX7_init_68 : decode cX7_init 68 = .ok (.putfield 35, 3) := by decide +kernel
theorem dX7_init_71 : decode cX7_init 71 = .ok (.aload_n 0, 1) := by decide +kernel
theorem dX7_init_72 : decode cX7_init 72 = .ok (.sipush 300, 3) := by decide +kernel
theorem dX7_init_75 : decode cX7_init 75 = .ok (.newarray .int, 2) := by decide +kernel
theorem dX7_init_77 : decode cX7_init 77 = .ok (.putfield 38, 3) := by decide +kernel
theorem dX7_init_80 : decode cX7_init 80 = .ok (.aload_n 0, 1) := by decide +kernel
theorem dX7_init_81 : decode cX7_init 81 = .ok (.bipush 80, 2) := by decide +kernel
theorem dX7_init_83 : decode cX7_init 83 = .ok (.newarray .int, 2) := by decide +kernel
theorem dX7_init_85 : decode cX7_init 85 = .ok (.putfield 41, 3) := by decide +kernel
theorem dX7_init_88 : decode cX7_init 88 = .ok (.aload_n 0, 1) := by decide +kernel
theorem dX7_init_89 : decode cX7_init 89 = .ok (.bipush 80, 2) := by decide +kernel
theorem dX7_init_91 : decode cX7_init 91 = .ok (.newarray .int, 2) := by decide +kernel
theorem dX7_init_93 : decode cX7_init 93 = .ok (.putfield 44, 3) := by decide +kernel
theorem dX7_init_96 : decode cX7_init 96 = .ok (.aload_n 0, 1) := by decide +kernel
theorem dX7_init_97 : decode cX7_init 97 = .ok (.bipush 24, 2) := by decide +kernel
theorem dX7_init_99 : decode cX7_init 99 = .ok (.newarray .int, 2) := by decide +kernel
theorem dX7_init_101 : decode cX7_init 101 = .ok (.putfield 47, 3) := by decide +kernel
theorem dX7_init_104 : decode cX7_init 104 = .ok (.aload_n 0, 1) := by decide +kernel
theorem dX7_init_105 : decode cX7_init 105 = .ok (.bipush 24, 2) := by decide +kernel
theorem dX7_init_107 : decode cX7_init 107 = .ok (.newarray .int, 2) := by decide +kernel
theorem dX7_init_109 : decode cX7_init 109 = .ok (.putfield 50, 3) := by decide +kernel
theorem dX7_init_112 : decode cX7_init 112 = .ok (.aload_n 0, 1) := by decide +kernel
theorem dX7_init_113 : decode cX7_init 113 = .ok (.bipush 24, 2) := by decide +kernel
theorem dX7_init_115 : decode cX7_init 115 = .ok (.newarray .int, 2) := by decide +kernel
theorem dX7_init_117 : decode cX7_init 117 = .ok (.putfield 53, 3) := by decide +kernel
theorem dX7_init_120 : decode cX7_init 120 = .ok (.return_, 1) := by decide +kernel
theorem dX7_thrown_0 : decode cX7_thrown 0 = .ok (.aload_n 0, 1) := by decide +kernel
theorem dX7_thrown_1 : decode cX7_thrown 1 = .ok (.getfield 56, 3) := by decide +kernel
theorem dX7_thrown_4 : decode cX7_thrown 4 = .ok (.ireturn, 1) := by decide +kernel
theorem dX7_fail_0 : decode cX7_fail 0 = .ok (.aload_n 0, 1) := by decide +kernel
theorem dX7_fail_1 : decode cX7_fail 1 = .ok (.iload_n 1, 1) := by decide +kernel
theorem dX7_fail_2 : decode cX7_fail 2 = .ok (.putfield 56, 3) := by decide +kernel
theorem dX7_fail_5 : decode cX7_fail 5 = .ok (.iconst 0, 1) := by decide +kernel
theorem dX7_fail_6 : decode cX7_fail 6 = .ok (.ireturn, 1) := by decide +kernel
theorem dX7_isNode_0 : decode cX7_isNode 0 = .ok (.iload_n 1, 1) := by decide +kernel
theorem dX7_isNode_1 : decode cX7_isNode 1 = .ok (.ifCond .lt 15, 3) := by decide +kernel
theorem dX7_isNode_4 : decode cX7_isNode 4 = .ok (.iload_n 1, 1) := by decide +kernel
theorem dX7_isNode_5 : decode cX7_isNode 5 = .ok (.aload_n 0, 1) := by decide +kernel
theorem dX7_isNode_6 : decode cX7_isNode 6 = .ok (.getfield 59, 3) := by decide +kernel
theorem dX7_isNode_9 : decode cX7_isNode 9 = .ok (.if_icmp .ge 7, 3) := by decide +kernel
theorem dX7_isNode_12 : decode cX7_isNode 12 = .ok (.iconst 1, 1) := by decide +kernel
theorem dX7_isNode_13 : decode cX7_isNode 13 = .ok (.goto 4, 3) := by decide +kernel
theorem dX7_isNode_16 : decode cX7_isNode 16 = .ok (.iconst 0, 1) := by decide +kernel
theorem dX7_isNode_17 : decode cX7_isNode 17 = .ok (.ireturn, 1) := by decide +kernel
theorem dX7_isArc_0 : decode cX7_isArc 0 = .ok (.iload_n 1, 1) := by decide +kernel
theorem dX7_isArc_1 : decode cX7_isArc 1 = .ok (.ifCond .lt 15, 3) := by decide +kernel
theorem dX7_isArc_4 : decode cX7_isArc 4 = .ok (.iload_n 1, 1) := by decide +kernel
theorem dX7_isArc_5 : decode cX7_isArc 5 = .ok (.aload_n 0, 1) := by decide +kernel
theorem dX7_isArc_6 : decode cX7_isArc 6 = .ok (.getfield 62, 3) := by decide +kernel
theorem dX7_isArc_9 : decode cX7_isArc 9 = .ok (.if_icmp .ge 7, 3) := by decide +kernel
theorem dX7_isArc_12 : decode cX7_isArc 12 = .ok (.iconst 1, 1) := by decide +kernel
theorem dX7_isArc_13 : decode cX7_isArc 13 = .ok (.goto 4, 3) := by decide +kernel
theorem dX7_isArc_16 : decode cX7_isArc 16 = .ok (.iconst 0, 1) := by decide +kernel
theorem dX7_isArc_17 : decode cX7_isArc 17 = .ok (.ireturn, 1) := by decide +kernel
theorem dX7_isCapacity_0 : decode cX7_isCapacity 0 = .ok (.iload_n 0, 1) := by decide +kernel
theorem dX7_isCapacity_1 : decode cX7_isCapacity 1 = .ok (.ifCond .lt 13, 3) := by decide +kernel
theorem dX7_isCapacity_4 : decode cX7_isCapacity 4 = .ok (.iload_n 0, 1) := by decide +kernel
theorem dX7_isCapacity_5 : decode cX7_isCapacity 5 = .ok (.ldc 65, 2) := by decide +kernel
theorem dX7_isCapacity_7 : decode cX7_isCapacity 7 = .ok (.if_icmp .gt 7, 3) := by decide +kernel
theorem dX7_isCapacity_10 : decode cX7_isCapacity 10 = .ok (.iconst 1, 1) := by decide +kernel
theorem dX7_isCapacity_11 : decode cX7_isCapacity 11 = .ok (.goto 4, 3) := by decide +kernel
theorem dX7_isCapacity_14 : decode cX7_isCapacity 14 = .ok (.iconst 0, 1) := by decide +kernel
theorem dX7_isCapacity_15 : decode cX7_isCapacity 15 = .ok (.ireturn, 1) := by decide +kernel
theorem dX7_addNode_0 : decode cX7_addNode 0 = .ok (.aload_n 0, 1) := by decide +kernel
theorem dX7_addNode_1 : decode cX7_addNode 1 = .ok (.iconst 0, 1) := by decide +kernel
theorem dX7_addNode_2 : decode cX7_addNode 2 = .ok (.putfield 56, 3) := by decide +kernel
theorem dX7_addNode_5 : decode cX7_addNode 5 = .ok (.aload_n 0, 1) := by decide +kernel
theorem dX7_addNode_6 : decode cX7_addNode 6 = .ok (.getfield 59, 3) := by decide +kernel
theorem dX7_addNode_9 : decode cX7_addNode 9 = .ok (.bipush 24, 2) := by decide +kernel
theorem dX7_addNode_11 : decode cX7_addNode 11 = .ok (.if_icmp .ne 9, 3) := by decide +kernel
theorem dX7_addNode_14 : decode cX7_addNode 14 = .ok (.aload_n 0, 1) := by decide +kernel
theorem dX7_addNode_15 : decode cX7_addNode 15 = .ok (.iconst 1, 1) := by decide +kernel
theorem dX7_addNode_16 : decode cX7_addNode 16 = .ok (.invokevirtual 66, 3) := by decide +kernel
theorem dX7_addNode_19 : decode cX7_addNode 19 = .ok (.ireturn, 1) := by decide +kernel
theorem dX7_addNode_20 : decode cX7_addNode 20 = .ok (.aload_n 0, 1) := by decide +kernel
theorem dX7_addNode_21 : decode cX7_addNode 21 = .ok (.dup, 1) := by decide +kernel
theorem dX7_addNode_22 : decode cX7_addNode 22 = .ok (.getfield 59, 3) := by decide +kernel
theorem dX7_addNode_25 : decode cX7_addNode 25 = .ok (.iconst 1, 1) := by decide +kernel
theorem dX7_addNode_26 : decode cX7_addNode 26 = .ok (.iadd, 1) := by decide +kernel
theorem dX7_addNode_27 : decode cX7_addNode 27 = .ok (.putfield 59, 3) := by decide +kernel
theorem dX7_addNode_30 : decode cX7_addNode 30 = .ok (.aload_n 0, 1) := by decide +kernel
theorem dX7_addNode_31 : decode cX7_addNode 31 = .ok (.getfield 59, 3) := by decide +kernel
theorem dX7_addNode_34 : decode cX7_addNode 34 = .ok (.iconst 1, 1) := by decide +kernel
theorem dX7_addNode_35 : decode cX7_addNode 35 = .ok (.isub, 1) := by decide +kernel
theorem dX7_addNode_36 : decode cX7_addNode 36 = .ok (.ireturn, 1) := by decide +kernel
theorem dX7_addArc_0 : decode cX7_addArc 0 = .ok (.aload_n 0, 1) := by decide +kernel
theorem dX7_addArc_1 : decode cX7_addArc 1 = .ok (.iconst 0, 1) := by decide +kernel
theorem dX7_addArc_2 : decode cX7_addArc 2 = .ok (.putfield 56, 3) := by decide +kernel
theorem dX7_addArc_5 : decode cX7_addArc 5 = .ok (.aload_n 0, 1) := by decide +kernel
theorem dX7_addArc_6 : decode cX7_addArc 6 = .ok (.iload_n 1, 1) := by decide +kernel
theorem dX7_addArc_7 : decode cX7_addArc 7 = .ok (.invokevirtual 70, 3) := by decide +kernel
theorem dX7_addArc_10 : decode cX7_addArc 10 = .ok (.ifCond .eq 11, 3) := by decide +kernel
theorem dX7_addArc_13 : decode cX7_addArc 13 = .ok (.aload_n 0, 1) := by decide +kernel
theorem dX7_addArc_14 : decode cX7_addArc 14 = .ok (.iload_n 2, 1) := by decide +kernel
theorem dX7_addArc_15 : decode cX7_addArc 15 = .ok (.invokevirtual 70, 3) := by decide +kernel
theorem dX7_addArc_18 : decode cX7_addArc 18 = .ok (.ifCond .ne 9, 3) := by decide +kernel
theorem dX7_addArc_21 : decode cX7_addArc 21 = .ok (.aload_n 0, 1) := by decide +kernel
theorem dX7_addArc_22 : decode cX7_addArc 22 = .ok (.iconst 1, 1) := by decide +kernel
theorem dX7_addArc_23 : decode cX7_addArc 23 = .ok (.invokevirtual 66, 3) := by decide +kernel
theorem dX7_addArc_26 : decode cX7_addArc 26 = .ok (.ireturn, 1) := by decide +kernel
theorem dX7_addArc_27 : decode cX7_addArc 27 = .ok (.iload_n 1, 1) := by decide +kernel
theorem dX7_addArc_28 : decode cX7_addArc 28 = .ok (.iload_n 2, 1) := by decide +kernel
theorem dX7_addArc_29 : decode cX7_addArc 29 = .ok (.if_icmp .eq 10, 3) := by decide +kernel
theorem dX7_addArc_32 : decode cX7_addArc 32 = .ok (.iload_n 3, 1) := by decide +kernel
theorem dX7_addArc_33 : decode cX7_addArc 33 = .ok (.invokestatic 74, 3) := by decide +kernel
theorem dX7_addArc_36 : decode cX7_addArc 36 = .ok (.ifCond .ne 9, 3) := by decide +kernel
theorem dX7_addArc_39 : decode cX7_addArc 39 = .ok (.aload_n 0, 1) := by decide +kernel
theorem dX7_addArc_40 : decode cX7_addArc 40 = .ok (.iconst 2, 1) := by decide +kernel
theorem dX7_addArc_41 : decode cX7_addArc 41 = .ok (.invokevirtual 66, 3) := by decide +kernel
theorem dX7_addArc_44 : decode cX7_addArc 44 = .ok (.ireturn, 1) := by decide +kernel
theorem dX7_addArc_45 : decode cX7_addArc 45 = .ok (.aload_n 0, 1) := by decide +kernel
theorem dX7_addArc_46 : decode cX7_addArc 46 = .ok (.getfield 62, 3) := by decide +kernel
theorem dX7_addArc_49 : decode cX7_addArc 49 = .ok (.bipush 80, 2) := by decide +kernel
theorem dX7_addArc_51 : decode cX7_addArc 51 = .ok (.if_icmp .ne 9, 3) := by decide +kernel
theorem dX7_addArc_54 : decode cX7_addArc 54 = .ok (.aload_n 0, 1) := by decide +kernel
theorem dX7_addArc_55 : decode cX7_addArc 55 = .ok (.iconst 3, 1) := by decide +kernel
theorem dX7_addArc_56 : decode cX7_addArc 56 = .ok (.invokevirtual 66, 3) := by decide +kernel
theorem dX7_addArc_59 : decode cX7_addArc 59 = .ok (.ireturn, 1) := by decide +kernel
theorem dX7_addArc_60 : decode cX7_addArc 60 = .ok (.aload_n 0, 1) := by decide +kernel
theorem dX7_addArc_61 : decode cX7_addArc 61 = .ok (.getfield 9, 3) := by decide +kernel
theorem dX7_addArc_64 : decode cX7_addArc 64 = .ok (.aload_n 0, 1) := by decide +kernel
theorem dX7_addArc_65 : decode cX7_addArc 65 = .ok (.getfield 62, 3) := by decide +kernel
theorem dX7_addArc_68 : decode cX7_addArc 68 = .ok (.iload_n 1, 1) := by decide +kernel
theorem dX7_addArc_69 : decode cX7_addArc 69 = .ok (.iastore, 1) := by decide +kernel
theorem dX7_addArc_70 : decode cX7_addArc 70 = .ok (.aload_n 0, 1) := by decide +kernel
theorem dX7_addArc_71 : decode cX7_addArc 71 = .ok (.getfield 13, 3) := by decide +kernel
theorem dX7_addArc_74 : decode cX7_addArc 74 = .ok (.aload_n 0, 1) := by decide +kernel
theorem dX7_addArc_75 : decode cX7_addArc 75 = .ok (.getfield 62, 3) := by decide +kernel
theorem dX7_addArc_78 : decode cX7_addArc 78 = .ok (.iload_n 2, 1) := by decide +kernel
theorem dX7_addArc_79 : decode cX7_addArc 79 = .ok (.iastore, 1) := by decide +kernel
theorem dX7_addArc_80 : decode cX7_addArc 80 = .ok (.aload_n 0, 1) := by decide +kernel
theorem dX7_addArc_81 : decode cX7_addArc 81 = .ok (.getfield 16, 3) := by decide +kernel
theorem dX7_addArc_84 : decode cX7_addArc 84 = .ok (.aload_n 0, 1) := by decide +kernel
theorem dX7_addArc_85 : decode cX7_addArc 85 = .ok (.getfield 62, 3) := by decide +kernel
theorem dX7_addArc_88 : decode cX7_addArc 88 = .ok (.iload_n 3, 1) := by decide +kernel
theorem dX7_addArc_89 : decode cX7_addArc 89 = .ok (.iastore, 1) := by decide +kernel
theorem dX7_addArc_90 : decode cX7_addArc 90 = .ok (.aload_n 0, 1) := by decide +kernel
theorem dX7_addArc_91 : decode cX7_addArc 91 = .ok (.dup, 1) := by decide +kernel
theorem dX7_addArc_92 : decode cX7_addArc 92 = .ok (.getfield 62, 3) := by decide +kernel
theorem dX7_addArc_95 : decode cX7_addArc 95 = .ok (.iconst 1, 1) := by decide +kernel
theorem dX7_addArc_96 : decode cX7_addArc 96 = .ok (.iadd, 1) := by decide +kernel
theorem dX7_addArc_97 : decode cX7_addArc 97 = .ok (.putfield 62, 3) := by decide +kernel
theorem dX7_addArc_100 : decode cX7_addArc 100 = .ok (.aload_n 0, 1) := by decide +kernel
theorem dX7_addArc_101 : decode cX7_addArc 101 = .ok (.getfield 62, 3) := by decide +kernel
theorem dX7_addArc_104 : decode cX7_addArc 104 = .ok (.iconst 1, 1) := by decide +kernel
theorem dX7_addArc_105 : decode cX7_addArc 105 = .ok (.isub, 1) := by decide +kernel
theorem dX7_addArc_106 : decode cX7_addArc 106 = .ok (.ireturn, 1) := by decide +kernel
theorem dX7_setCapacity_0 : decode cX7_setCapacity 0 = .ok (.aload_n 0, 1) := by decide +kernel
theorem dX7_setCapacity_1 : decode cX7_setCapacity 1 = .ok (.iconst 0, 1) := by decide +kernel
theorem dX7_setCapacity_2 : decode cX7_setCapacity 2 = .ok (.putfield 56, 3) := by decide +kernel
theorem dX7_setCapacity_5 : decode cX7_setCapacity 5 = .ok (.aload_n 0, 1) := by decide +kernel
theorem dX7_setCapacity_6 : decode cX7_setCapacity 6 = .ok (.iload_n 1, 1) := by decide +kernel
theorem dX7_setCapacity_7 : decode cX7_setCapacity 7 = .ok (.invokevirtual 77, 3) := by decide +kernel
theorem dX7_setCapacity_10 : decode cX7_setCapacity 10 = .ok (.ifCond .ne 9, 3) := by decide +kernel
theorem dX7_setCapacity_13 : decode cX7_setCapacity 13 = .ok (.aload_n 0, 1) := by decide +kernel
theorem dX7_setCapacity_14 : decode cX7_setCapacity 14 = .ok (.iconst 1, 1) := by decide +kernel
theorem dX7_setCapacity_15 : decode cX7_setCapacity 15 = .ok (.invokevirtual 66, 3) := by decide +kernel
theorem dX7_setCapacity_18 : decode cX7_setCapacity 18 = .ok (.ireturn, 1) := by decide +kernel
theorem dX7_setCapacity_19 : decode cX7_setCapacity 19 = .ok (.iload_n 2, 1) := by decide +kernel
theorem dX7_setCapacity_20 : decode cX7_setCapacity 20 = .ok (.invokestatic 74, 3) := by decide +kernel
theorem dX7_setCapacity_23 : decode cX7_setCapacity 23 = .ok (.ifCond .ne 9, 3) := by decide +kernel
theorem dX7_setCapacity_26 : decode cX7_setCapacity 26 = .ok (.aload_n 0, 1) := by decide +kernel
theorem dX7_setCapacity_27 : decode cX7_setCapacity 27 = .ok (.iconst 2, 1) := by decide +kernel
theorem dX7_setCapacity_28 : decode cX7_setCapacity 28 = .ok (.invokevirtual 66, 3) := by decide +kernel
theorem dX7_setCapacity_31 : decode cX7_setCapacity 31 = .ok (.ireturn, 1) := by decide +kernel
theorem dX7_setCapacity_32 : decode cX7_setCapacity 32 = .ok (.aload_n 0, 1) := by decide +kernel
theorem dX7_setCapacity_33 : decode cX7_setCapacity 33 = .ok (.getfield 16, 3) := by decide +kernel
theorem dX7_setCapacity_36 : decode cX7_setCapacity 36 = .ok (.iload_n 1, 1) := by decide +kernel
theorem dX7_setCapacity_37 : decode cX7_setCapacity 37 = .ok (.iaload, 1) := by decide +kernel
theorem dX7_setCapacity_38 : decode cX7_setCapacity 38 = .ok (.istore_n 3, 1) := by decide +kernel
theorem dX7_setCapacity_39 : decode cX7_setCapacity 39 = .ok (.aload_n 0, 1) := by decide +kernel
theorem dX7_setCapacity_40 : decode cX7_setCapacity 40 = .ok (.getfield 16, 3) := by decide +kernel
theorem dX7_setCapacity_43 : decode cX7_setCapacity 43 = .ok (.iload_n 1, 1) := by decide +kernel
theorem dX7_setCapacity_44 : decode cX7_setCapacity 44 = .ok (.iload_n 2, 1) := by decide +kernel
theorem dX7_setCapacity_45 : decode cX7_setCapacity 45 = .ok (.iastore, 1) := by decide +kernel
theorem dX7_setCapacity_46 : decode cX7_setCapacity 46 = .ok (.iload_n 3, 1) := by decide +kernel
theorem dX7_setCapacity_47 : decode cX7_setCapacity 47 = .ok (.ireturn, 1) := by decide +kernel
theorem dX7_scale_0 : decode cX7_scale 0 = .ok (.aload_n 0, 1) := by decide +kernel
theorem dX7_scale_1 : decode cX7_scale 1 = .ok (.iconst 0, 1) := by decide +kernel
theorem dX7_scale_2 : decode cX7_scale 2 = .ok (.putfield 56, 3) := by decide +kernel
theorem dX7_scale_5 : decode cX7_scale 5 = .ok (.aload_n 0, 1) := by decide +kernel
theorem dX7_scale_6 : decode cX7_scale 6 = .ok (.iload_n 1, 1) := by decide +kernel
theorem dX7_scale_7 : decode cX7_scale 7 = .ok (.invokevirtual 70, 3) := by decide +kernel
theorem dX7_scale_10 : decode cX7_scale 10 = .ok (.ifCond .ne 9, 3) := by decide +kernel
theorem dX7_scale_13 : decode cX7_scale 13 = .ok (.aload_n 0, 1) := by decide +kernel
theorem dX7_scale_14 : decode cX7_scale 14 = .ok (.iconst 1, 1) := by decide +kernel
theorem dX7_scale_15 : decode cX7_scale 15 = .ok (.invokevirtual 66, 3) := by decide +kernel
theorem dX7_scale_18 : decode cX7_scale 18 = .ok (.ireturn, 1) := by decide +kernel
theorem dX7_scale_19 : decode cX7_scale 19 = .ok (.dload_n 2, 1) := by decide +kernel
theorem dX7_scale_20 : decode cX7_scale 20 = .ok (.dconst 0, 1) := by decide +kernel
theorem dX7_scale_21 : decode cX7_scale 21 = .ok (.dcmp .l, 1) := by decide +kernel
theorem dX7_scale_22 : decode cX7_scale 22 = .ok (.ifCond .lt 11, 3) := by decide +kernel
theorem dX7_scale_25 : decode cX7_scale 25 = .ok (.dload_n 2, 1) := by decide +kernel
theorem dX7_scale_26 : decode cX7_scale 26 = .ok (.ldc2_w 80, 3) := by decide +kernel
theorem dX7_scale_29 : decode cX7_scale 29 = .ok (.dcmp .g, 1) := by decide +kernel
theorem dX7_scale_30 : decode cX7_scale 30 = .ok (.ifCond .le 9, 3) := by decide +kernel
theorem dX7_scale_33 : decode cX7_scale 33 = .ok (.aload_n 0, 1) := by decide +kernel
theorem dX7_scale_34 : decode cX7_scale 34 = .ok (.iconst 2, 1) := by decide +kernel
theorem dX7_scale_35 : decode cX7_scale 35 = .ok (.invokevirtual 66, 3) := by decide +kernel
theorem dX7_scale_38 : decode cX7_scale 38 = .ok (.ireturn, 1) := by decide +kernel
theorem dX7_scale_39 : decode cX7_scale 39 = .ok (.iconst 0, 1) := by decide +kernel
theorem dX7_scale_40 : decode cX7_scale 40 = .ok (.istore 4, 2) := by decide +kernel
theorem dX7_scale_42 : decode cX7_scale 42 = .ok (.iconst 0, 1) := by decide +kernel
theorem dX7_scale_43 : decode cX7_scale 43 = .ok (.istore 5, 2) := by decide +kernel
theorem dX7_scale_45 : decode cX7_scale 45 = .ok (.iload 5, 2) := by decide +kernel
theorem dX7_scale_47 : decode cX7_scale 47 = .ok (.aload_n 0, 1) := by decide +kernel
theorem dX7_scale_48 : decode cX7_scale 48 = .ok (.getfield 62, 3) := by decide +kernel
theorem dX7_scale_51 : decode cX7_scale 51 = .ok (.if_icmp .ge 76, 3) := by decide +kernel
theorem dX7_scale_54 : decode cX7_scale 54 = .ok (.aload_n 0, 1) := by decide +kernel
theorem dX7_scale_55 : decode cX7_scale 55 = .ok (.getfield 9, 3) := by decide +kernel
theorem dX7_scale_58 : decode cX7_scale 58 = .ok (.iload 5, 2) := by decide +kernel
theorem dX7_scale_60 : decode cX7_scale 60 = .ok (.iaload, 1) := by decide +kernel
theorem dX7_scale_61 : decode cX7_scale 61 = .ok (.iload_n 1, 1) := by decide +kernel
theorem dX7_scale_62 : decode cX7_scale 62 = .ok (.if_icmp .eq 6, 3) := by decide +kernel
theorem dX7_scale_65 : decode cX7_scale 65 = .ok (.goto 56, 3) := by decide +kernel
theorem dX7_scale_68 : decode cX7_scale 68 = .ok (.aload_n 0, 1) := by decide +kernel
theorem dX7_scale_69 : decode cX7_scale 69 = .ok (.getfield 16, 3) := by decide +kernel
theorem dX7_scale_72 : decode cX7_scale 72 = .ok (.iload 5, 2) := by decide +kernel
theorem dX7_scale_74 : decode cX7_scale 74 = .ok (.iaload, 1) := by decide +kernel
theorem dX7_scale_75 : decode cX7_scale 75 = .ok (.i2d, 1) := by decide +kernel
theorem dX7_scale_76 : decode cX7_scale 76 = .ok (.dload_n 2, 1) := by decide +kernel
theorem dX7_scale_77 : decode cX7_scale 77 = .ok (.dmul, 1) := by decide +kernel
theorem dX7_scale_78 : decode cX7_scale 78 = .ok (.invokestatic 82, 3) := by decide +kernel
theorem dX7_scale_81 : decode cX7_scale 81 = .ok (.ldc2_w 88, 3) := by decide +kernel
theorem dX7_scale_84 : decode cX7_scale 84 = .ok (.invokestatic 90, 3) := by decide +kernel
theorem dX7_scale_87 : decode cX7_scale 87 = .ok (.d2i, 1) := by decide +kernel
theorem dX7_scale_88 : decode cX7_scale 88 = .ok (.istore 6, 2) := by decide +kernel
theorem dX7_scale_90 : decode cX7_scale 90 = .ok (.iload 4, 2) := by decide +kernel
theorem dX7_scale_92 : decode cX7_scale 92 = .ok (.iload 6, 2) := by decide +kernel
theorem dX7_scale_94 : decode cX7_scale 94 = .ok (.aload_n 0, 1) := by decide +kernel
theorem dX7_scale_95 : decode cX7_scale 95 = .ok (.getfield 16, 3) := by decide +kernel
theorem dX7_scale_98 : decode cX7_scale 98 = .ok (.iload 5, 2) := by decide +kernel
theorem dX7_scale_100 : decode cX7_scale 100 = .ok (.iaload, 1) := by decide +kernel
theorem dX7_scale_101 : decode cX7_scale 101 = .ok (.if_icmp .ne 7, 3) := by decide +kernel
theorem dX7_scale_104 : decode cX7_scale 104 = .ok (.iconst 0, 1) := by decide +kernel
theorem dX7_scale_105 : decode cX7_scale 105 = .ok (.goto 4, 3) := by decide +kernel
theorem dX7_scale_108 : decode cX7_scale 108 = .ok (.iconst 1, 1) := by decide +kernel
theorem dX7_scale_109 : decode cX7_scale 109 = .ok (.iadd, 1) := by decide +kernel
theorem dX7_scale_110 : decode cX7_scale 110 = .ok (.istore 4, 2) := by decide +kernel
theorem dX7_scale_112 : decode cX7_scale 112 = .ok (.aload_n 0, 1) := by decide +kernel
theorem dX7_scale_113 : decode cX7_scale 113 = .ok (.getfield 16, 3) := by decide +kernel
theorem dX7_scale_116 : decode cX7_scale 116 = .ok (.iload 5, 2) := by decide +kernel
theorem dX7_scale_118 : decode cX7_scale 118 = .ok (.iload 6, 2) := by decide +kernel
theorem dX7_scale_120 : decode cX7_scale 120 = .ok (.iastore, 1) := by decide +kernel
theorem dX7_scale_121 : decode cX7_scale 121 = .ok (.iinc 5 1, 3) := by decide +kernel
theorem dX7_scale_124 : decode cX7_scale 124 = .ok (.goto (-79), 3) := by decide +kernel
theorem dX7_scale_127 : decode cX7_scale 127 = .ok (.iload 4, 2) := by decide +kernel
theorem dX7_scale_129 : decode cX7_scale 129 = .ok (.ireturn, 1) := by decide +kernel
theorem dX7_setEnds_0 : decode cX7_setEnds 0 = .ok (.aload_n 0, 1) := by decide +kernel
theorem dX7_setEnds_1 : decode cX7_setEnds 1 = .ok (.iconst 0, 1) := by decide +kernel
theorem dX7_setEnds_2 : decode cX7_setEnds 2 = .ok (.putfield 56, 3) := by decide +kernel
theorem dX7_setEnds_5 : decode cX7_setEnds 5 = .ok (.aload_n 0, 1) := by decide +kernel
theorem dX7_setEnds_6 : decode cX7_setEnds 6 = .ok (.iload_n 1, 1) := by decide +kernel
theorem dX7_setEnds_7 : decode cX7_setEnds 7 = .ok (.invokevirtual 70, 3) := by decide +kernel
theorem dX7_setEnds_10 : decode cX7_setEnds 10 = .ok (.ifCond .eq 11, 3) := by decide +kernel
theorem dX7_setEnds_13 : decode cX7_setEnds 13 = .ok (.aload_n 0, 1) := by decide +kernel
theorem dX7_setEnds_14 : decode cX7_setEnds 14 = .ok (.iload_n 2, 1) := by decide +kernel
theorem dX7_setEnds_15 : decode cX7_setEnds 15 = .ok (.invokevirtual 70, 3) := by decide +kernel
theorem dX7_setEnds_18 : decode cX7_setEnds 18 = .ok (.ifCond .ne 17, 3) := by decide +kernel
theorem dX7_setEnds_21 : decode cX7_setEnds 21 = .ok (.aload_n 0, 1) := by decide +kernel
theorem dX7_setEnds_22 : decode cX7_setEnds 22 = .ok (.iconst 1, 1) := by decide +kernel
theorem dX7_setEnds_23 : decode cX7_setEnds 23 = .ok (.invokevirtual 66, 3) := by decide +kernel
theorem dX7_setEnds_26 : decode cX7_setEnds 26 = .ok (.ifCond .eq 7, 3) := by decide +kernel
theorem dX7_setEnds_29 : decode cX7_setEnds 29 = .ok (.iconst 1, 1) := by decide +kernel
theorem dX7_setEnds_30 : decode cX7_setEnds 30 = .ok (.goto 4, 3) := by decide +kernel
theorem dX7_setEnds_33 : decode cX7_setEnds 33 = .ok (.iconst 0, 1) := by decide +kernel
theorem dX7_setEnds_34 : decode cX7_setEnds 34 = .ok (.ireturn, 1) := by decide +kernel
theorem dX7_setEnds_35 : decode cX7_setEnds 35 = .ok (.iload_n 1, 1) := by decide +kernel
theorem dX7_setEnds_36 : decode cX7_setEnds 36 = .ok (.iload_n 2, 1) := by decide +kernel
theorem dX7_setEnds_37 : decode cX7_setEnds 37 = .ok (.if_icmp .ne 17, 3) := by decide +kernel
theorem dX7_setEnds_40 : decode cX7_setEnds 40 = .ok (.aload_n 0, 1) := by decide +kernel
theorem dX7_setEnds_41 : decode cX7_setEnds 41 = .ok (.iconst 2, 1) := by decide +kernel
theorem dX7_setEnds_42 : decode cX7_setEnds 42 = .ok (.invokevirtual 66, 3) := by decide +kernel
theorem dX7_setEnds_45 : decode cX7_setEnds 45 = .ok (.ifCond .eq 7, 3) := by decide +kernel
theorem dX7_setEnds_48 : decode cX7_setEnds 48 = .ok (.iconst 1, 1) := by decide +kernel
theorem dX7_setEnds_49 : decode cX7_setEnds 49 = .ok (.goto 4, 3) := by decide +kernel
theorem dX7_setEnds_52 : decode cX7_setEnds 52 = .ok (.iconst 0, 1) := by decide +kernel
theorem dX7_setEnds_53 : decode cX7_setEnds 53 = .ok (.ireturn, 1) := by decide +kernel
theorem dX7_setEnds_54 : decode cX7_setEnds 54 = .ok (.aload_n 0, 1) := by decide +kernel
theorem dX7_setEnds_55 : decode cX7_setEnds 55 = .ok (.getfield 19, 3) := by decide +kernel
theorem dX7_setEnds_58 : decode cX7_setEnds 58 = .ok (.iload_n 1, 1) := by decide +kernel
theorem dX7_setEnds_59 : decode cX7_setEnds 59 = .ok (.if_icmp .ne 11, 3) := by decide +kernel
theorem dX7_setEnds_62 : decode cX7_setEnds 62 = .ok (.aload_n 0, 1) := by decide +kernel
theorem dX7_setEnds_63 : decode cX7_setEnds 63 = .ok (.getfield 23, 3) := by decide +kernel
theorem dX7_setEnds_66 : decode cX7_setEnds 66 = .ok (.iload_n 2, 1) := by decide +kernel
theorem dX7_setEnds_67 : decode cX7_setEnds 67 = .ok (.if_icmp .eq 7, 3) := by decide +kernel
theorem dX7_setEnds_70 : decode cX7_setEnds 70 = .ok (.iconst 1, 1) := by decide +kernel
theorem dX7_setEnds_71 : decode cX7_setEnds 71 = .ok (.goto 4, 3) := by decide +kernel
theorem dX7_setEnds_74 : decode cX7_setEnds 74 = .ok (.iconst 0, 1) := by decide +kernel
theorem dX7_setEnds_75 : decode cX7_setEnds 75 = .ok (.istore_n 3, 1) := by decide +kernel
theorem dX7_setEnds_76 : decode cX7_setEnds 76 = .ok (.aload_n 0, 1) := by decide +kernel
theorem dX7_setEnds_77 : decode cX7_setEnds 77 = .ok (.iload_n 1, 1) := by decide +kernel
theorem dX7_setEnds_78 : decode cX7_setEnds 78 = .ok (.putfield 19, 3) := by decide +kernel
theorem dX7_setEnds_81 : decode cX7_setEnds 81 = .ok (.aload_n 0, 1) := by decide +kernel
theorem dX7_setEnds_82 : decode cX7_setEnds 82 = .ok (.iload_n 2, 1) := by decide +kernel
theorem dX7_setEnds_83 : decode cX7_setEnds 83 = .ok (.putfield 23, 3) := by decide +kernel
theorem dX7_setEnds_86 : decode cX7_setEnds 86 = .ok (.iload_n 3, 1) := by decide +kernel
theorem dX7_setEnds_87 : decode cX7_setEnds 87 = .ok (.ireturn, 1) := by decide +kernel
theorem dX7_nodeCount_0 : decode cX7_nodeCount 0 = .ok (.aload_n 0, 1) := by decide +kernel
theorem dX7_nodeCount_1 : decode cX7_nodeCount 1 = .ok (.iconst 0, 1) := by decide +kernel
theorem dX7_nodeCount_2 : decode cX7_nodeCount 2 = .ok (.putfield 56, 3) := by decide +kernel
theorem dX7_nodeCount_5 : decode cX7_nodeCount 5 = .ok (.aload_n 0, 1) := by decide +kernel
theorem dX7_nodeCount_6 : decode cX7_nodeCount 6 = .ok (.getfield 59, 3) := by decide +kernel
theorem dX7_nodeCount_9 : decode cX7_nodeCount 9 = .ok (.ireturn, 1) := by decide +kernel
theorem dX7_arcCount_0 : decode cX7_arcCount 0 = .ok (.aload_n 0, 1) := by decide +kernel
theorem dX7_arcCount_1 : decode cX7_arcCount 1 = .ok (.iconst 0, 1) := by decide +kernel
theorem dX7_arcCount_2 : decode cX7_arcCount 2 = .ok (.putfield 56, 3) := by decide +kernel
theorem dX7_arcCount_5 : decode cX7_arcCount 5 = .ok (.aload_n 0, 1) := by decide +kernel
theorem dX7_arcCount_6 : decode cX7_arcCount 6 = .ok (.getfield 62, 3) := by decide +kernel
theorem dX7_arcCount_9 : decode cX7_arcCount 9 = .ok (.ireturn, 1) := by decide +kernel
theorem dX7_capacity_0 : decode cX7_capacity 0 = .ok (.aload_n 0, 1) := by decide +kernel
theorem dX7_capacity_1 : decode cX7_capacity 1 = .ok (.iconst 0, 1) := by decide +kernel
theorem dX7_capacity_2 : decode cX7_capacity 2 = .ok (.putfield 56, 3) := by decide +kernel
theorem dX7_capacity_5 : decode cX7_capacity 5 = .ok (.aload_n 0, 1) := by decide +kernel
theorem dX7_capacity_6 : decode cX7_capacity 6 = .ok (.iload_n 1, 1) := by decide +kernel
theorem dX7_capacity_7 : decode cX7_capacity 7 = .ok (.invokevirtual 77, 3) := by decide +kernel
theorem dX7_capacity_10 : decode cX7_capacity 10 = .ok (.ifCond .eq 12, 3) := by decide +kernel
theorem dX7_capacity_13 : decode cX7_capacity 13 = .ok (.aload_n 0, 1) := by decide +kernel
theorem dX7_capacity_14 : decode cX7_capacity 14 = .ok (.getfield 16, 3) := by decide +kernel
theorem dX7_capacity_17 : decode cX7_capacity 17 = .ok (.iload_n 1, 1) := by decide +kernel
theorem dX7_capacity_18 : decode cX7_capacity 18 = .ok (.iaload, 1) := by decide +kernel
theorem dX7_capacity_19 : decode cX7_capacity 19 = .ok (.goto 8, 3) := by decide +kernel
theorem dX7_capacity_22 : decode cX7_capacity 22 = .ok (.aload_n 0, 1) := by decide +kernel
theorem dX7_capacity_23 : decode cX7_capacity 23 = .ok (.iconst 1, 1) := by decide +kernel
theorem dX7_capacity_24 : decode cX7_capacity 24 = .ok (.invokevirtual 66, 3) := by decide +kernel
theorem dX7_capacity_27 : decode cX7_capacity 27 = .ok (.ireturn, 1) := by decide +kernel
theorem dX7_empty_0 : decode cX7_empty 0 = .ok (.iconst 0, 1) := by decide +kernel
theorem dX7_empty_1 : decode cX7_empty 1 = .ok (.istore_n 1, 1) := by decide +kernel
theorem dX7_empty_2 : decode cX7_empty 2 = .ok (.iload_n 1, 1) := by decide +kernel
theorem dX7_empty_3 : decode cX7_empty 3 = .ok (.aload_n 0, 1) := by decide +kernel
theorem dX7_empty_4 : decode cX7_empty 4 = .ok (.getfield 62, 3) := by decide +kernel
theorem dX7_empty_7 : decode cX7_empty 7 = .ok (.if_icmp .ge 28, 3) := by decide +kernel
theorem dX7_empty_10 : decode cX7_empty 10 = .ok (.aload_n 0, 1) := by decide +kernel
theorem dX7_empty_11 : decode cX7_empty 11 = .ok (.getfield 41, 3) := by decide +kernel
theorem dX7_empty_14 : decode cX7_empty 14 = .ok (.iload_n 1, 1) := by decide +kernel
theorem dX7_empty_15 : decode cX7_empty 15 = .ok (.aload_n 0, 1) := by decide +kernel
theorem dX7_empty_16 : decode cX7_empty 16 = .ok (.getfield 16, 3) := by decide +kernel
theorem dX7_empty_19 : decode cX7_empty 19 = .ok (.iload_n 1, 1) := by decide +kernel
theorem dX7_empty_20 : decode cX7_empty 20 = .ok (.iaload, 1) := by decide +kernel
theorem dX7_empty_21 : decode cX7_empty 21 = .ok (.iastore, 1) := by decide +kernel
theorem dX7_empty_22 : decode cX7_empty 22 = .ok (.aload_n 0, 1) := by decide +kernel
theorem dX7_empty_23 : decode cX7_empty 23 = .ok (.getfield 44, 3) := by decide +kernel
theorem dX7_empty_26 : decode cX7_empty 26 = .ok (.iload_n 1, 1) := by decide +kernel
theorem dX7_empty_27 : decode cX7_empty 27 = .ok (.iconst 0, 1) := by decide +kernel
theorem dX7_empty_28 : decode cX7_empty 28 = .ok (.iastore, 1) := by decide +kernel
theorem dX7_empty_29 : decode cX7_empty 29 = .ok (.iinc 1 1, 3) := by decide +kernel
theorem dX7_empty_32 : decode cX7_empty 32 = .ok (.goto (-30), 3) := by decide +kernel
theorem dX7_empty_35 : decode cX7_empty 35 = .ok (.return_, 1) := by decide +kernel
theorem dX7_reach_0 : decode cX7_reach 0 = .ok (.iconst 0, 1) := by decide +kernel
theorem dX7_reach_1 : decode cX7_reach 1 = .ok (.istore_n 3, 1) := by decide +kernel
theorem dX7_reach_2 : decode cX7_reach 2 = .ok (.iload_n 3, 1) := by decide +kernel
theorem dX7_reach_3 : decode cX7_reach 3 = .ok (.bipush 24, 2) := by decide +kernel
theorem dX7_reach_5 : decode cX7_reach 5 = .ok (.if_icmp .ge 16, 3) := by decide +kernel
theorem dX7_reach_8 : decode cX7_reach 8 = .ok (.aload_n 0, 1) := by decide +kernel
theorem dX7_reach_9 : decode cX7_reach 9 = .ok (.getfield 47, 3) := by decide +kernel
theorem dX7_reach_12 : decode cX7_reach 12 = .ok (.iload_n 3, 1) := by decide +kernel
theorem dX7_reach_13 : decode cX7_reach 13 = .ok (.iconst (-1), 1) := by decide +kernel
theorem dX7_reach_14 : decode cX7_reach 14 = .ok (.iastore, 1) := by decide +kernel
theorem dX7_reach_15 : decode cX7_reach 15 = .ok (.iinc 3 1, 3) := by decide +kernel
theorem dX7_reach_18 : decode cX7_reach 18 = .ok (.goto (-16), 3) := by decide +kernel
theorem dX7_reach_21 : decode cX7_reach 21 = .ok (.aload_n 0, 1) := by decide +kernel
theorem dX7_reach_22 : decode cX7_reach 22 = .ok (.getfield 47, 3) := by decide +kernel
theorem dX7_reach_25 : decode cX7_reach 25 = .ok (.iload_n 1, 1) := by decide +kernel
theorem dX7_reach_26 : decode cX7_reach 26 = .ok (.sipush 160, 3) := by decide +kernel
theorem dX7_reach_29 : decode cX7_reach 29 = .ok (.iastore, 1) := by decide +kernel
theorem dX7_reach_30 : decode cX7_reach 30 = .ok (.aload_n 0, 1) := by decide +kernel
theorem dX7_reach_31 : decode cX7_reach 31 = .ok (.getfield 50, 3) := by decide +kernel
theorem dX7_reach_34 : decode cX7_reach 34 = .ok (.iconst 0, 1) := by decide +kernel
theorem dX7_reach_35 : decode cX7_reach 35 = .ok (.iload_n 1, 1) := by decide +kernel
theorem dX7_reach_36 : decode cX7_reach 36 = .ok (.iastore, 1) := by decide +kernel
theorem dX7_reach_37 : decode cX7_reach 37 = .ok (.iconst 1, 1) := by decide +kernel
theorem dX7_reach_38 : decode cX7_reach 38 = .ok (.istore_n 3, 1) := by decide +kernel
theorem dX7_reach_39 : decode cX7_reach 39 = .ok (.iconst 0, 1) := by decide +kernel
theorem dX7_reach_40 : decode cX7_reach 40 = .ok (.istore 4, 2) := by decide +kernel
theorem dX7_reach_42 : decode cX7_reach 42 = .ok (.iload 4, 2) := by decide +kernel
theorem dX7_reach_44 : decode cX7_reach 44 = .ok (.iload_n 3, 1) := by decide +kernel
theorem dX7_reach_45 : decode cX7_reach 45 = .ok (.if_icmp .ge 187, 3) := by decide +kernel
theorem dX7_reach_48 : decode cX7_reach 48 = .ok (.iconst 0, 1) := by decide +kernel
theorem dX7_reach_49 : decode cX7_reach 49 = .ok (.istore 5, 2) := by decide +kernel
theorem dX7_reach_51 : decode cX7_reach 51 = .ok (.iload 5, 2) := by decide +kernel
theorem dX7_reach_53 : decode cX7_reach 53 = .ok (.aload_n 0, 1) := by decide +kernel
theorem dX7_reach_54 : decode cX7_reach 54 = .ok (.getfield 62, 3) := by decide +kernel
theorem dX7_reach_57 : decode cX7_reach 57 = .ok (.if_icmp .ge 169, 3) := by decide +kernel
theorem dX7_reach_60 : decode cX7_reach 60 = .ok (.aload_n 0, 1) := by decide +kernel
theorem dX7_reach_61 : decode cX7_reach 61 = .ok (.getfield 9, 3) := by decide +kernel
theorem dX7_reach_64 : decode cX7_reach 64 = .ok (.iload 5, 2) := by decide +kernel
theorem dX7_reach_66 : decode cX7_reach 66 = .ok (.iaload, 1) := by decide +kernel
theorem dX7_reach_67 : decode cX7_reach 67 = .ok (.aload_n 0, 1) := by decide +kernel
theorem dX7_reach_68 : decode cX7_reach 68 = .ok (.getfield 50, 3) := by decide +kernel
theorem dX7_reach_71 : decode cX7_reach 71 = .ok (.iload 4, 2) := by decide +kernel
theorem dX7_reach_73 : decode cX7_reach 73 = .ok (.iaload, 1) := by decide +kernel
theorem dX7_reach_74 : decode cX7_reach 74 = .ok (.if_icmp .ne 36, 3) := by decide +kernel
theorem dX7_reach_77 : decode cX7_reach 77 = .ok (.aload_n 0, 1) := by decide +kernel
theorem dX7_reach_78 : decode cX7_reach 78 = .ok (.getfield 41, 3) := by decide +kernel
theorem dX7_reach_81 : decode cX7_reach 81 = .ok (.iload 5, 2) := by decide +kernel
theorem dX7_reach_83 : decode cX7_reach 83 = .ok (.iaload, 1) := by decide +kernel
theorem dX7_reach_84 : decode cX7_reach 84 = .ok (.ifCond .le 26, 3) := by decide +kernel
theorem dX7_reach_87 : decode cX7_reach 87 = .ok (.aload_n 0, 1) := by decide +kernel
theorem dX7_reach_88 : decode cX7_reach 88 = .ok (.getfield 47, 3) := by decide +kernel
theorem dX7_reach_91 : decode cX7_reach 91 = .ok (.aload_n 0, 1) := by decide +kernel
theorem dX7_reach_92 : decode cX7_reach 92 = .ok (.getfield 13, 3) := by decide +kernel
theorem dX7_reach_95 : decode cX7_reach 95 = .ok (.iload 5, 2) := by decide +kernel
theorem dX7_reach_97 : decode cX7_reach 97 = .ok (.iaload, 1) := by decide +kernel
theorem dX7_reach_98 : decode cX7_reach 98 = .ok (.iaload, 1) := by decide +kernel
theorem dX7_reach_99 : decode cX7_reach 99 = .ok (.iconst (-1), 1) := by decide +kernel
theorem dX7_reach_100 : decode cX7_reach 100 = .ok (.if_icmp .ne 10, 3) := by decide +kernel
theorem dX7_reach_103 : decode cX7_reach 103 = .ok (.iconst 2, 1) := by decide +kernel
theorem dX7_reach_104 : decode cX7_reach 104 = .ok (.iload 5, 2) := by decide +kernel
theorem dX7_reach_106 : decode cX7_reach 106 = .ok (.imul, 1) := by decide +kernel
theorem dX7_reach_107 : decode cX7_reach 107 = .ok (.goto 56, 3) := by decide +kernel
theorem dX7_reach_110 : decode cX7_reach 110 = .ok (.aload_n 0, 1) := by decide +kernel
theorem dX7_reach_111 : decode cX7_reach 111 = .ok (.getfield 13, 3) := by decide +kernel
theorem dX7_reach_114 : decode cX7_reach 114 = .ok (.iload 5, 2) := by decide +kernel
theorem dX7_reach_116 : decode cX7_reach 116 = .ok (.iaload, 1) := by decide +kernel
theorem dX7_reach_117 : decode cX7_reach 117 = .ok (.aload_n 0, 1) := by decide +kernel
theorem dX7_reach_118 : decode cX7_reach 118 = .ok (.getfield 50, 3) := by decide +kernel
theorem dX7_reach_121 : decode cX7_reach 121 = .ok (.iload 4, 2) := by decide +kernel
theorem dX7_reach_123 : decode cX7_reach 123 = .ok (.iaload, 1) := by decide +kernel
theorem dX7_reach_124 : decode cX7_reach 124 = .ok (.if_icmp .ne 38, 3) := by decide +kernel
theorem dX7_reach_127 : decode cX7_reach 127 = .ok (.aload_n 0, 1) := by decide +kernel
theorem dX7_reach_128 : decode cX7_reach 128 = .ok (.getfield 44, 3) := by decide +kernel
theorem dX7_reach_131 : decode cX7_reach 131 = .ok (.iload 5, 2) := by decide +kernel
theorem dX7_reach_133 : decode cX7_reach 133 = .ok (.iaload, 1) := by decide +kernel
theorem dX7_reach_134 : decode cX7_reach 134 = .ok (.ifCond .le 28, 3) := by decide +kernel
theorem dX7_reach_137 : decode cX7_reach 137 = .ok (.aload_n 0, 1) := by decide +kernel
theorem dX7_reach_138 : decode cX7_reach 138 = .ok (.getfield 47, 3) := by decide +kernel
theorem dX7_reach_141 : decode cX7_reach 141 = .ok (.aload_n 0, 1) := by decide +kernel
theorem dX7_reach_142 : decode cX7_reach 142 = .ok (.getfield 9, 3) := by decide +kernel
theorem dX7_reach_145 : decode cX7_reach 145 = .ok (.iload 5, 2) := by decide +kernel
theorem dX7_reach_147 : decode cX7_reach 147 = .ok (.iaload, 1) := by decide +kernel
theorem dX7_reach_148 : decode cX7_reach 148 = .ok (.iaload, 1) := by decide +kernel
theorem dX7_reach_149 : decode cX7_reach 149 = .ok (.iconst (-1), 1) := by decide +kernel
theorem dX7_reach_150 : decode cX7_reach 150 = .ok (.if_icmp .ne 12, 3) := by decide +kernel
theorem dX7_reach_153 : decode cX7_reach 153 = .ok (.iconst 2, 1) := by decide +kernel
theorem dX7_reach_154 : decode cX7_reach 154 = .ok (.iload 5, 2) := by decide +kernel
theorem dX7_reach_156 : decode cX7_reach 156 = .ok (.imul, 1) := by decide +kernel
theorem dX7_reach_157 : decode cX7_reach 157 = .ok (.iconst 1, 1) := by decide +kernel
theorem dX7_reach_158 : decode cX7_reach 158 = .ok (.iadd, 1) := by decide +kernel
theorem dX7_reach_159 : decode cX7_reach 159 = .ok (.goto 4, 3) := by decide +kernel
theorem dX7_reach_162 : decode cX7_reach 162 = .ok (.iconst (-1), 1) := by decide +kernel
theorem dX7_reach_163 : decode cX7_reach 163 = .ok (.istore 6, 2) := by decide +kernel
theorem dX7_reach_165 : decode cX7_reach 165 = .ok (.iload 6, 2) := by decide +kernel
theorem dX7_reach_167 : decode cX7_reach 167 = .ok (.iconst (-1), 1) := by decide +kernel
theorem dX7_reach_168 : decode cX7_reach 168 = .ok (.if_icmp .ne 6, 3) := by decide +kernel
theorem dX7_reach_171 : decode cX7_reach 171 = .ok (.goto 49, 3) := by decide +kernel
theorem dX7_reach_174 : decode cX7_reach 174 = .ok (.iload 6, 2) := by decide +kernel
theorem dX7_reach_176 : decode cX7_reach 176 = .ok (.iconst 2, 1) := by decide +kernel
theorem dX7_reach_177 : decode cX7_reach 177 = .ok (.irem, 1) := by decide +kernel
theorem dX7_reach_178 : decode cX7_reach 178 = .ok (.ifCond .ne 13, 3) := by decide +kernel
theorem dX7_reach_181 : decode cX7_reach 181 = .ok (.aload_n 0, 1) := by decide +kernel
theorem dX7_reach_182 : decode cX7_reach 182 = .ok (.getfield 13, 3) := by decide +kernel
theorem dX7_reach_185 : decode cX7_reach 185 = .ok (.iload 5, 2) := by decide +kernel
theorem dX7_reach_187 : decode cX7_reach 187 = .ok (.iaload, 1) := by decide +kernel
theorem dX7_reach_188 : decode cX7_reach 188 = .ok (.goto 10, 3) := by decide +kernel
theorem dX7_reach_191 : decode cX7_reach 191 = .ok (.aload_n 0, 1) := by decide +kernel
theorem dX7_reach_192 : decode cX7_reach 192 = .ok (.getfield 9, 3) := by decide +kernel
theorem dX7_reach_195 : decode cX7_reach 195 = .ok (.iload 5, 2) := by decide +kernel
theorem dX7_reach_197 : decode cX7_reach 197 = .ok (.iaload, 1) := by decide +kernel
theorem dX7_reach_198 : decode cX7_reach 198 = .ok (.istore 7, 2) := by decide +kernel
theorem dX7_reach_200 : decode cX7_reach 200 = .ok (.aload_n 0, 1) := by decide +kernel
theorem dX7_reach_201 : decode cX7_reach 201 = .ok (.getfield 47, 3) := by decide +kernel
theorem dX7_reach_204 : decode cX7_reach 204 = .ok (.iload 7, 2) := by decide +kernel
theorem dX7_reach_206 : decode cX7_reach 206 = .ok (.iload 6, 2) := by decide +kernel
theorem dX7_reach_208 : decode cX7_reach 208 = .ok (.iastore, 1) := by decide +kernel
theorem dX7_reach_209 : decode cX7_reach 209 = .ok (.aload_n 0, 1) := by decide +kernel
theorem dX7_reach_210 : decode cX7_reach 210 = .ok (.getfield 50, 3) := by decide +kernel
theorem dX7_reach_213 : decode cX7_reach 213 = .ok (.iload_n 3, 1) := by decide +kernel
theorem dX7_reach_214 : decode cX7_reach 214 = .ok (.iload 7, 2) := by decide +kernel
theorem dX7_reach_216 : decode cX7_reach 216 = .ok (.iastore, 1) := by decide +kernel
theorem dX7_reach_217 : decode cX7_reach 217 = .ok (.iinc 3 1, 3) := by decide +kernel
theorem dX7_reach_220 : decode cX7_reach 220 = .ok (.iinc 5 1, 3) := by decide +kernel
theorem dX7_reach_223 : decode cX7_reach 223 = .ok (.goto (-172), 3) := by decide +kernel
theorem dX7_reach_226 : decode cX7_reach 226 = .ok (.iinc 4 1, 3) := by decide +kernel
theorem dX7_reach_229 : decode cX7_reach 229 = .ok (.goto (-187), 3) := by decide +kernel
theorem dX7_reach_232 : decode cX7_reach 232 = .ok (.aload_n 0, 1) := by decide +kernel
theorem dX7_reach_233 : decode cX7_reach 233 = .ok (.getfield 47, 3) := by decide +kernel
theorem dX7_reach_236 : decode cX7_reach 236 = .ok (.iload_n 2, 1) := by decide +kernel
theorem dX7_reach_237 : decode cX7_reach 237 = .ok (.iaload, 1) := by decide +kernel
theorem dX7_reach_238 : decode cX7_reach 238 = .ok (.iconst (-1), 1) := by decide +kernel
theorem dX7_reach_239 : decode cX7_reach 239 = .ok (.if_icmp .eq 7, 3) := by decide +kernel
theorem dX7_reach_242 : decode cX7_reach 242 = .ok (.iconst 1, 1) := by decide +kernel
theorem dX7_reach_243 : decode cX7_reach 243 = .ok (.goto 4, 3) := by decide +kernel
theorem dX7_reach_246 : decode cX7_reach 246 = .ok (.iconst 0, 1) := by decide +kernel
theorem dX7_reach_247 : decode cX7_reach 247 = .ok (.ireturn, 1) := by decide +kernel
theorem dX7_before_0 : decode cX7_before 0 = .ok (.aload_n 0, 1) := by decide +kernel
theorem dX7_before_1 : decode cX7_before 1 = .ok (.getfield 47, 3) := by decide +kernel
theorem dX7_before_4 : decode cX7_before 4 = .ok (.iload_n 1, 1) := by decide +kernel
theorem dX7_before_5 : decode cX7_before 5 = .ok (.iaload, 1) := by decide +kernel
theorem dX7_before_6 : decode cX7_before 6 = .ok (.iconst 2, 1) := by decide +kernel
theorem dX7_before_7 : decode cX7_before 7 = .ok (.irem, 1) := by decide +kernel
theorem dX7_before_8 : decode cX7_before 8 = .ok (.ifCond .ne 19, 3) := by decide +kernel
theorem dX7_before_11 : decode cX7_before 11 = .ok (.aload_n 0, 1) := by decide +kernel
theorem dX7_before_12 : decode cX7_before 12 = .ok (.getfield 9, 3) := by decide +kernel
theorem dX7_before_15 : decode cX7_before 15 = .ok (.aload_n 0, 1) := by decide +kernel
theorem dX7_before_16 : decode cX7_before 16 = .ok (.getfield 47, 3) := by decide +kernel
theorem dX7_before_19 : decode cX7_before 19 = .ok (.iload_n 1, 1) := by decide +kernel
theorem dX7_before_20 : decode cX7_before 20 = .ok (.iaload, 1) := by decide +kernel
theorem dX7_before_21 : decode cX7_before 21 = .ok (.iconst 2, 1) := by decide +kernel
theorem dX7_before_22 : decode cX7_before 22 = .ok (.idiv, 1) := by decide +kernel
theorem dX7_before_23 : decode cX7_before 23 = .ok (.iaload, 1) := by decide +kernel
theorem dX7_before_24 : decode cX7_before 24 = .ok (.goto 16, 3) := by decide +kernel
theorem dX7_before_27 : decode cX7_before 27 = .ok (.aload_n 0, 1) := by decide +kernel
theorem dX7_before_28 : decode cX7_before 28 = .ok (.getfield 13, 3) := by decide +kernel
theorem dX7_before_31 : decode cX7_before 31 = .ok (.aload_n 0, 1) := by decide +kernel
theorem dX7_before_32 : decode cX7_before 32 = .ok (.getfield 47, 3) := by decide +kernel
theorem dX7_before_35 : decode cX7_before 35 = .ok (.iload_n 1, 1) := by decide +kernel
theorem dX7_before_36 : decode cX7_before 36 = .ok (.iaload, 1) := by decide +kernel
theorem dX7_before_37 : decode cX7_before 37 = .ok (.iconst 2, 1) := by decide +kernel
theorem dX7_before_38 : decode cX7_before 38 = .ok (.idiv, 1) := by decide +kernel
theorem dX7_before_39 : decode cX7_before 39 = .ok (.iaload, 1) := by decide +kernel
theorem dX7_before_40 : decode cX7_before 40 = .ok (.ireturn, 1) := by decide +kernel
theorem dX7_fill_0 : decode cX7_fill 0 = .ok (.iconst 0, 1) := by decide +kernel
theorem dX7_fill_1 : decode cX7_fill 1 = .ok (.istore 4, 2) := by decide +kernel
theorem dX7_fill_3 : decode cX7_fill 3 = .ok (.iload 4, 2) := by decide +kernel
theorem dX7_fill_5 : decode cX7_fill 5 = .ok (.iload_n 3, 1) := by decide +kernel
theorem dX7_fill_6 : decode cX7_fill 6 = .ok (.if_icmp .ge 178, 3) := by decide +kernel
theorem dX7_fill_9 : decode cX7_fill 9 = .ok (.aload_n 0, 1) := by decide +kernel
theorem dX7_fill_10 : decode cX7_fill 10 = .ok (.iload_n 1, 1) := by decide +kernel
theorem dX7_fill_11 : decode cX7_fill 11 = .ok (.iload_n 2, 1) := by decide +kernel
theorem dX7_fill_12 : decode cX7_fill 12 = .ok (.invokevirtual 94, 3) := by decide +kernel
theorem dX7_fill_15 : decode cX7_fill 15 = .ok (.ifCond .eq 169, 3) := by decide +kernel
theorem dX7_fill_18 : decode cX7_fill 18 = .ok (.iload_n 3, 1) := by decide +kernel
theorem dX7_fill_19 : decode cX7_fill 19 = .ok (.iload 4, 2) := by decide +kernel
theorem dX7_fill_21 : decode cX7_fill 21 = .ok (.isub, 1) := by decide +kernel
theorem dX7_fill_22 : decode cX7_fill 22 = .ok (.istore 5, 2) := by decide +kernel
theorem dX7_fill_24 : decode cX7_fill 24 = .ok (.iload_n 2, 1) := by decide +kernel
theorem dX7_fill_25 : decode cX7_fill 25 = .ok (.istore 6, 2) := by decide +kernel
theorem dX7_fill_27 : decode cX7_fill 27 = .ok (.iload 6, 2) := by decide +kernel
theorem dX7_fill_29 : decode cX7_fill 29 = .ok (.iload_n 1, 1) := by decide +kernel
theorem dX7_fill_30 : decode cX7_fill 30 = .ok (.if_icmp .eq 64, 3) := by decide +kernel
theorem dX7_fill_33 : decode cX7_fill 33 = .ok (.iload 5, 2) := by decide +kernel
theorem dX7_fill_35 : decode cX7_fill 35 = .ok (.aload_n 0, 1) := by decide +kernel
theorem dX7_fill_36 : decode cX7_fill 36 = .ok (.getfield 47, 3) := by decide +kernel
theorem dX7_fill_39 : decode cX7_fill 39 = .ok (.iload 6, 2) := by decide +kernel
theorem dX7_fill_41 : decode cX7_fill 41 = .ok (.iaload, 1) := by decide +kernel
theorem dX7_fill_42 : decode cX7_fill 42 = .ok (.iconst 2, 1) := by decide +kernel
theorem dX7_fill_43 : decode cX7_fill 43 = .ok (.irem, 1) := by decide +kernel
theorem dX7_fill_44 : decode cX7_fill 44 = .ok (.ifCond .ne 20, 3) := by decide +kernel
theorem dX7_fill_47 : decode cX7_fill 47 = .ok (.aload_n 0, 1) := by decide +kernel
theorem dX7_fill_48 : decode cX7_fill 48 = .ok (.getfield 41, 3) := by decide +kernel
theorem dX7_fill_51 : decode cX7_fill 51 = .ok (.aload_n 0, 1) := by decide +kernel
theorem dX7_fill_52 : decode cX7_fill 52 = .ok (.getfield 47, 3) := by decide +kernel
theorem dX7_fill_55 : decode cX7_fill 55 = .ok (.iload 6, 2) := by decide +kernel
theorem dX7_fill_57 : decode cX7_fill 57 = .ok (.iaload, 1) := by decide +kernel
theorem dX7_fill_58 : decode cX7_fill 58 = .ok (.iconst 2, 1) := by decide +kernel
theorem dX7_fill_59 : decode cX7_fill 59 = .ok (.idiv, 1) := by decide +kernel
theorem dX7_fill_60 : decode cX7_fill 60 = .ok (.iaload, 1) := by decide +kernel
theorem dX7_fill_61 : decode cX7_fill 61 = .ok (.goto 17, 3) := by decide +kernel
theorem dX7_fill_64 : decode cX7_fill 64 = .ok (.aload_n 0, 1) := by decide +kernel
theorem dX7_fill_65 : decode cX7_fill 65 = .ok (.getfield 44, 3) := by decide +kernel
theorem dX7_fill_68 : decode cX7_fill 68 = .ok (.aload_n 0, 1) := by decide +kernel
theorem dX7_fill_69 : decode cX7_fill 69 = .ok (.getfield 47, 3) := by decide +kernel
theorem dX7_fill_72 : decode cX7_fill 72 = .ok (.iload 6, 2) := by decide +kernel
theorem dX7_fill_74 : decode cX7_fill 74 = .ok (.iaload, 1) := by decide +kernel
theorem dX7_fill_75 : decode cX7_fill 75 = .ok (.iconst 2, 1) := by decide +kernel
theorem dX7_fill_76 : decode cX7_fill 76 = .ok (.idiv, 1) := by decide +kernel
theorem dX7_fill_77 : decode cX7_fill 77 = .ok (.iaload, 1) := by decide +kernel
theorem dX7_fill_78 : decode cX7_fill 78 = .ok (.invokestatic 98, 3) := by decide +kernel
theorem dX7_fill_81 : decode cX7_fill 81 = .ok (.istore 5, 2) := by decide +kernel
theorem dX7_fill_83 : decode cX7_fill 83 = .ok (.aload_n 0, 1) := by decide +kernel
theorem dX7_fill_84 : decode cX7_fill 84 = .ok (.iload 6, 2) := by decide +kernel
theorem dX7_fill_86 : decode cX7_fill 86 = .ok (.invokevirtual 101, 3) := by decide +kernel
theorem dX7_fill_89 : decode cX7_fill 89 = .ok (.istore 6, 2) := by decide +kernel
theorem dX7_fill_91 : decode cX7_fill 91 = .ok (.goto (-64), 3) := by decide +kernel
theorem dX7_fill_94 : decode cX7_fill 94 = .ok (.iload_n 2, 1) := by decide +kernel
theorem dX7_fill_95 : decode cX7_fill 95 = .ok (.istore 6, 2) := by decide +kernel
theorem dX7_fill_97 : decode cX7_fill 97 = .ok (.iload 6, 2) := by decide +kernel
theorem dX7_fill_99 : decode cX7_fill 99 = .ok (.iload_n 1, 1) := by decide +kernel
theorem dX7_fill_100 : decode cX7_fill 100 = .ok (.if_icmp .eq 74, 3) := by decide +kernel
theorem dX7_fill_103 : decode cX7_fill 103 = .ok (.aload_n 0, 1) := by decide +kernel
theorem dX7_fill_104 : decode cX7_fill 104 = .ok (.getfield 47, 3) := by decide +kernel
theorem dX7_fill_107 : decode cX7_fill 107 = .ok (.iload 6, 2) := by decide +kernel
theorem dX7_fill_109 : decode cX7_fill 109 = .ok (.iaload, 1) := by decide +kernel
theorem dX7_fill_110 : decode cX7_fill 110 = .ok (.iconst 2, 1) := by decide +kernel
theorem dX7_fill_111 : decode cX7_fill 111 = .ok (.irem, 1) := by decide +kernel
theorem dX7_fill_112 : decode cX7_fill 112 = .ok (.ifCond .ne 8, 3) := by decide +kernel
theorem dX7_fill_115 : decode cX7_fill 115 = .ok (.iload 5, 2) := by decide +kernel
theorem dX7_fill_117 : decode cX7_fill 117 = .ok (.goto 6, 3) := by decide +kernel
theorem dX7_fill_120 : decode cX7_fill 120 = .ok (.iload 5, 2) := by decide +kernel
theorem dX7_fill_122 : decode cX7_fill 122 = .ok (.ineg, 1) := by decide +kernel
theorem dX7_fill_123 : decode cX7_fill 123 = .ok (.istore 7, 2) := by decide +kernel
theorem dX7_fill_125 : decode cX7_fill 125 = .ok (.aload_n 0, 1) := by decide +kernel
theorem dX7_fill_126 : decode cX7_fill 126 = .ok (.getfield 41, 3) := by decide +kernel
theorem dX7_fill_129 : decode cX7_fill 129 = .ok (.aload_n 0, 1) := by decide +kernel
theorem dX7_fill_130 : decode cX7_fill 130 = .ok (.getfield 47, 3) := by decide +kernel
theorem dX7_fill_133 : decode cX7_fill 133 = .ok (.iload 6, 2) := by decide +kernel
theorem dX7_fill_135 : decode cX7_fill 135 = .ok (.iaload, 1) := by decide +kernel
theorem dX7_fill_136 : decode cX7_fill 136 = .ok (.iconst 2, 1) := by decide +kernel
theorem dX7_fill_137 : decode cX7_fill 137 = .ok (.idiv, 1) := by decide +kernel
theorem dX7_fill_138 : decode cX7_fill 138 = .ok (.dup2, 1) := by decide +kernel
theorem dX7_fill_139 : decode cX7_fill 139 = .ok (.iaload, 1) := by decide +kernel
theorem dX7_fill_140 : decode cX7_fill 140 = .ok (.iload 7, 2) := by decide +kernel
theorem dX7_fill_142 : decode cX7_fill 142 = .ok (.isub, 1) := by decide +kernel
theorem dX7_fill_143 : decode cX7_fill 143 = .ok (.iastore, 1) := by decide +kernel
theorem dX7_fill_144 : decode cX7_fill 144 = .ok (.aload_n 0, 1) := by decide +kernel
theorem dX7_fill_145 : decode cX7_fill 145 = .ok (.getfield 44, 3) := by decide +kernel
theorem dX7_fill_148 : decode cX7_fill 148 = .ok (.aload_n 0, 1) := by decide +kernel
theorem dX7_fill_149 : decode cX7_fill 149 = .ok (.getfield 47, 3) := by decide +kernel
theorem dX7_fill_152 : decode cX7_fill 152 = .ok (.iload 6, 2) := by decide +kernel
theorem dX7_fill_154 : decode cX7_fill 154 = .ok (.iaload, 1) := by decide +kernel
theorem dX7_fill_155 : decode cX7_fill 155 = .ok (.iconst 2, 1) := by decide +kernel
theorem dX7_fill_156 : decode cX7_fill 156 = .ok (.idiv, 1) := by decide +kernel
theorem dX7_fill_157 : decode cX7_fill 157 = .ok (.dup2, 1) := by decide +kernel
theorem dX7_fill_158 : decode cX7_fill 158 = .ok (.iaload, 1) := by decide +kernel
theorem dX7_fill_159 : decode cX7_fill 159 = .ok (.iload 7, 2) := by decide +kernel
theorem dX7_fill_161 : decode cX7_fill 161 = .ok (.iadd, 1) := by decide +kernel
theorem dX7_fill_162 : decode cX7_fill 162 = .ok (.iastore, 1) := by decide +kernel
theorem dX7_fill_163 : decode cX7_fill 163 = .ok (.aload_n 0, 1) := by decide +kernel
theorem dX7_fill_164 : decode cX7_fill 164 = .ok (.iload 6, 2) := by decide +kernel
theorem dX7_fill_166 : decode cX7_fill 166 = .ok (.invokevirtual 101, 3) := by decide +kernel
theorem dX7_fill_169 : decode cX7_fill 169 = .ok (.istore 6, 2) := by decide +kernel
theorem dX7_fill_171 : decode cX7_fill 171 = .ok (.goto (-74), 3) := by decide +kernel
theorem dX7_fill_174 : decode cX7_fill 174 = .ok (.iload 4, 2) := by decide +kernel
theorem dX7_fill_176 : decode cX7_fill 176 = .ok (.iload 5, 2) := by decide +kernel
theorem dX7_fill_178 : decode cX7_fill 178 = .ok (.iadd, 1) := by decide +kernel
theorem dX7_fill_179 : decode cX7_fill 179 = .ok (.istore 4, 2) := by decide +kernel
theorem dX7_fill_181 : decode cX7_fill 181 = .ok (.goto (-178), 3) := by decide +kernel
theorem dX7_fill_184 : decode cX7_fill 184 = .ok (.iload 4, 2) := by decide +kernel
theorem dX7_fill_186 : decode cX7_fill 186 = .ok (.ireturn, 1) := by decide +kernel
theorem dX7_maximumNow_0 : decode cX7_maximumNow 0 = .ok (.aload_n 0, 1) := by decide +kernel
theorem dX7_maximumNow_1 : decode cX7_maximumNow 1 = .ok (.invokevirtual 104, 3) := by decide +kernel
theorem dX7_maximumNow_4 : decode cX7_maximumNow 4 = .ok (.aload_n 0, 1) := by decide +kernel
theorem dX7_maximumNow_5 : decode cX7_maximumNow 5 = .ok (.aload_n 0, 1) := by decide +kernel
theorem dX7_maximumNow_6 : decode cX7_maximumNow 6 = .ok (.getfield 19, 3) := by decide +kernel
theorem dX7_maximumNow_9 : decode cX7_maximumNow 9 = .ok (.aload_n 0, 1) := by decide +kernel
theorem dX7_maximumNow_10 : decode cX7_maximumNow 10 = .ok (.getfield 23, 3) := by decide +kernel
theorem dX7_maximumNow_13 : decode cX7_maximumNow 13 = .ok (.ldc 107, 2) := by decide +kernel
theorem dX7_maximumNow_15 : decode cX7_maximumNow 15 = .ok (.invokevirtual 108, 3) := by decide +kernel
theorem dX7_maximumNow_18 : decode cX7_maximumNow 18 = .ok (.ireturn, 1) := by decide +kernel
theorem dX7_maximumIf_0 : decode cX7_maximumIf 0 = .ok (.aload_n 0, 1) := by decide +kernel
theorem dX7_maximumIf_1 : decode cX7_maximumIf 1 = .ok (.getfield 16, 3) := by decide +kernel
theorem dX7_maximumIf_4 : decode cX7_maximumIf 4 = .ok (.iload_n 1, 1) := by decide +kernel
theorem dX7_maximumIf_5 : decode cX7_maximumIf 5 = .ok (.iaload, 1) := by decide +kernel
theorem dX7_maximumIf_6 : decode cX7_maximumIf 6 = .ok (.istore_n 3, 1) := by decide +kernel
theorem dX7_maximumIf_7 : decode cX7_maximumIf 7 = .ok (.aload_n 0, 1) := by decide +kernel
theorem dX7_maximumIf_8 : decode cX7_maximumIf 8 = .ok (.getfield 16, 3) := by decide +kernel
theorem dX7_maximumIf_11 : decode cX7_maximumIf 11 = .ok (.iload_n 1, 1) := by decide +kernel
theorem dX7_maximumIf_12 : decode cX7_maximumIf 12 = .ok (.iload_n 2, 1) := by decide +kernel
theorem dX7_maximumIf_13 : decode cX7_maximumIf 13 = .ok (.iastore, 1) := by decide +kernel
theorem dX7_maximumIf_14 : decode cX7_maximumIf 14 = .ok (.aload_n 0, 1) := by decide +kernel
theorem dX7_maximumIf_15 : decode cX7_maximumIf 15 = .ok (.invokevirtual 112, 3) := by decide +kernel
theorem dX7_maximumIf_18 : decode cX7_maximumIf 18 = .ok (.istore 4, 2) := by decide +kernel
theorem dX7_maximumIf_20 : decode cX7_maximumIf 20 = .ok (.aload_n 0, 1) := by decide +kernel
theorem dX7_maximumIf_21 : decode cX7_maximumIf 21 = .ok (.getfield 16, 3) := by decide +kernel
theorem dX7_maximumIf_24 : decode cX7_maximumIf 24 = .ok (.iload_n 1, 1) := by decide +kernel
theorem dX7_maximumIf_25 : decode cX7_maximumIf 25 = .ok (.iload_n 3, 1) := by decide +kernel
theorem dX7_maximumIf_26 : decode cX7_maximumIf 26 = .ok (.iastore, 1) := by decide +kernel
theorem dX7_maximumIf_27 : decode cX7_maximumIf 27 = .ok (.iload 4, 2) := by decide +kernel
theorem dX7_maximumIf_29 : decode cX7_maximumIf 29 = .ok (.ireturn, 1) := by decide +kernel
theorem dX7_look_0 : decode cX7_look 0 = .ok (.aload_n 0, 1) := by decide +kernel
theorem dX7_look_1 : decode cX7_look 1 = .ok (.getfield 19, 3) := by decide +kernel
theorem dX7_look_4 : decode cX7_look 4 = .ok (.iconst (-1), 1) := by decide +kernel
theorem dX7_look_5 : decode cX7_look 5 = .ok (.if_icmp .ne 7, 3) := by decide +kernel
theorem dX7_look_8 : decode cX7_look 8 = .ok (.iconst 1, 1) := by decide +kernel
theorem dX7_look_9 : decode cX7_look 9 = .ok (.goto 16, 3) := by decide +kernel
theorem dX7_look_12 : decode cX7_look 12 = .ok (.aload_n 0, 1) := by decide +kernel
theorem dX7_look_13 : decode cX7_look 13 = .ok (.iload_n 1, 1) := by decide +kernel
theorem dX7_look_14 : decode cX7_look 14 = .ok (.invokevirtual 77, 3) := by decide +kernel
theorem dX7_look_17 : decode cX7_look 17 = .ok (.ifCond .eq 7, 3) := by decide +kernel
theorem dX7_look_20 : decode cX7_look 20 = .ok (.iconst 0, 1) := by decide +kernel
theorem dX7_look_21 : decode cX7_look 21 = .ok (.goto 4, 3) := by decide +kernel
theorem dX7_look_24 : decode cX7_look 24 = .ok (.iconst 2, 1) := by decide +kernel
theorem dX7_look_25 : decode cX7_look 25 = .ok (.ireturn, 1) := by decide +kernel
theorem dX7_maximum_0 : decode cX7_maximum 0 = .ok (.aload_n 0, 1) := by decide +kernel
theorem dX7_maximum_1 : decode cX7_maximum 1 = .ok (.iconst 0, 1) := by decide +kernel
theorem dX7_maximum_2 : decode cX7_maximum 2 = .ok (.putfield 56, 3) := by decide +kernel
theorem dX7_maximum_5 : decode cX7_maximum 5 = .ok (.aload_n 0, 1) := by decide +kernel
theorem dX7_maximum_6 : decode cX7_maximum 6 = .ok (.getfield 19, 3) := by decide +kernel
theorem dX7_maximum_9 : decode cX7_maximum 9 = .ok (.iconst (-1), 1) := by decide +kernel
theorem dX7_maximum_10 : decode cX7_maximum 10 = .ok (.if_icmp .ne 11, 3) := by decide +kernel
theorem dX7_maximum_13 : decode cX7_maximum 13 = .ok (.aload_n 0, 1) := by decide +kernel
theorem dX7_maximum_14 : decode cX7_maximum 14 = .ok (.iconst 1, 1) := by decide +kernel
theorem dX7_maximum_15 : decode cX7_maximum 15 = .ok (.invokevirtual 66, 3) := by decide +kernel
theorem dX7_maximum_18 : decode cX7_maximum 18 = .ok (.goto 7, 3) := by decide +kernel
theorem dX7_maximum_21 : decode cX7_maximum 21 = .ok (.aload_n 0, 1) := by decide +kernel
theorem dX7_maximum_22 : decode cX7_maximum 22 = .ok (.invokevirtual 112, 3) := by decide +kernel
theorem dX7_maximum_25 : decode cX7_maximum 25 = .ok (.ireturn, 1) := by decide +kernel
theorem dX7_maximumWith_0 : decode cX7_maximumWith 0 = .ok (.aload_n 0, 1) := by decide +kernel
theorem dX7_maximumWith_1 : decode cX7_maximumWith 1 = .ok (.aload_n 0, 1) := by decide +kernel
theorem dX7_maximumWith_2 : decode cX7_maximumWith 2 = .ok (.iload_n 1, 1) := by decide +kernel
theorem dX7_maximumWith_3 : decode cX7_maximumWith 3 = .ok (.invokevirtual 116, 3) := by decide +kernel
theorem dX7_maximumWith_6 : decode cX7_maximumWith 6 = .ok (.putfield 56, 3) := by decide +kernel
theorem dX7_maximumWith_9 : decode cX7_maximumWith 9 = .ok (.aload_n 0, 1) := by decide +kernel
theorem dX7_maximumWith_10 : decode cX7_maximumWith 10 = .ok (.getfield 56, 3) := by decide +kernel
theorem dX7_maximumWith_13 : decode cX7_maximumWith 13 = .ok (.ifCond .eq 5, 3) := by decide +kernel
theorem dX7_maximumWith_16 : decode cX7_maximumWith 16 = .ok (.iconst 0, 1) := by decide +kernel
theorem dX7_maximumWith_17 : decode cX7_maximumWith 17 = .ok (.ireturn, 1) := by decide +kernel
theorem dX7_maximumWith_18 : decode cX7_maximumWith 18 = .ok (.iload_n 2, 1) := by decide +kernel
theorem dX7_maximumWith_19 : decode cX7_maximumWith 19 = .ok (.invokestatic 74, 3) := by decide +kernel
theorem dX7_maximumWith_22 : decode cX7_maximumWith 22 = .ok (.ifCond .eq 12, 3) := by decide +kernel
theorem dX7_maximumWith_25 : decode cX7_maximumWith 25 = .ok (.aload_n 0, 1) := by decide +kernel
theorem dX7_maximumWith_26 : decode cX7_maximumWith 26 = .ok (.iload_n 1, 1) := by decide +kernel
theorem dX7_maximumWith_27 : decode cX7_maximumWith 27 = .ok (.iload_n 2, 1) := by decide +kernel
theorem dX7_maximumWith_28 : decode cX7_maximumWith 28 = .ok (.invokevirtual 119, 3) := by decide +kernel
theorem dX7_maximumWith_31 : decode cX7_maximumWith 31 = .ok (.goto 8, 3) := by decide +kernel
theorem dX7_maximumWith_34 : decode cX7_maximumWith 34 = .ok (.aload_n 0, 1) := by decide +kernel
theorem dX7_maximumWith_35 : decode cX7_maximumWith 35 = .ok (.iconst 3, 1) := by decide +kernel
theorem dX7_maximumWith_36 : decode cX7_maximumWith 36 = .ok (.invokevirtual 66, 3) := by decide +kernel
theorem dX7_maximumWith_39 : decode cX7_maximumWith 39 = .ok (.ireturn, 1) := by decide +kernel
theorem dX7_maximumWithout_0 : decode cX7_maximumWithout 0 = .ok (.aload_n 0, 1) := by decide +kernel
theorem dX7_maximumWithout_1 : decode cX7_maximumWithout 1 = .ok (.iconst 0, 1) := by decide +kernel
theorem dX7_maximumWithout_2 : decode cX7_maximumWithout 2 = .ok (.putfield 56, 3) := by decide +kernel
theorem dX7_maximumWithout_5 : decode cX7_maximumWithout 5 = .ok (.aload_n 0, 1) := by decide +kernel
theorem dX7_maximumWithout_6 : decode cX7_maximumWithout 6 = .ok (.getfield 19, 3) := by decide +kernel
theorem dX7_maximumWithout_9 : decode cX7_maximumWithout 9 = .ok (.iconst (-1), 1) := by decide +kernel
theorem dX7_maximumWithout_10 : decode cX7_maximumWithout 10 = .ok (.if_icmp .ne 9, 3) := by decide +kernel
theorem dX7_maximumWithout_13 : decode cX7_maximumWithout 13 = .ok (.aload_n 0, 1) := by decide +kernel
theorem dX7_maximumWithout_14 : decode cX7_maximumWithout 14 = .ok (.iconst 1, 1) := by decide +kernel
theorem dX7_maximumWithout_15 : decode cX7_maximumWithout 15 = .ok (.invokevirtual 66, 3) := by decide +kernel
theorem dX7_maximumWithout_18 : decode cX7_maximumWithout 18 = .ok (.ireturn, 1) := by decide +kernel
theorem dX7_maximumWithout_19 : decode cX7_maximumWithout 19 = .ok (.aload_n 0, 1) := by decide +kernel
theorem dX7_maximumWithout_20 : decode cX7_maximumWithout 20 = .ok (.iload_n 1, 1) := by decide +kernel
theorem dX7_maximumWithout_21 : decode cX7_maximumWithout 21 = .ok (.invokevirtual 70, 3) := by decide +kernel
theorem dX7_maximumWithout_24 : decode cX7_maximumWithout 24 = .ok (.ifCond .ne 9, 3) := by decide +kernel
theorem dX7_maximumWithout_27 : decode cX7_maximumWithout 27 = .ok (.aload_n 0, 1) := by decide +kernel
theorem dX7_maximumWithout_28 : decode cX7_maximumWithout 28 = .ok (.iconst 2, 1) := by decide +kernel
theorem dX7_maximumWithout_29 : decode cX7_maximumWithout 29 = .ok (.invokevirtual 66, 3) := by decide +kernel
theorem dX7_maximumWithout_32 : decode cX7_maximumWithout 32 = .ok (.ireturn, 1) := by decide +kernel
theorem dX7_maximumWithout_33 : decode cX7_maximumWithout 33 = .ok (.aload_n 0, 1) := by decide +kernel
theorem dX7_maximumWithout_34 : decode cX7_maximumWithout 34 = .ok (.invokevirtual 104, 3) := by decide +kernel
theorem dX7_maximumWithout_37 : decode cX7_maximumWithout 37 = .ok (.iconst 0, 1) := by decide +kernel
theorem dX7_maximumWithout_38 : decode cX7_maximumWithout 38 = .ok (.istore_n 2, 1) := by decide +kernel
theorem dX7_maximumWithout_39 : decode cX7_maximumWithout 39 = .ok (.iload_n 2, 1) := by decide +kernel
theorem dX7_maximumWithout_40 : decode cX7_maximumWithout 40 = .ok (.aload_n 0, 1) := by decide +kernel
theorem dX7_maximumWithout_41 : decode cX7_maximumWithout 41 = .ok (.getfield 62, 3) := by decide +kernel
theorem dX7_maximumWithout_44 : decode cX7_maximumWithout 44 = .ok (.if_icmp .ge 36, 3) := by decide +kernel
theorem dX7_maximumWithout_47 : decode cX7_maximumWithout 47 = .ok (.aload_n 0, 1) := by decide +kernel
theorem dX7_maximumWithout_48 : decode cX7_maximumWithout 48 = .ok (.getfield 9, 3) := by decide +kernel
theorem dX7_maximumWithout_51 : decode cX7_maximumWithout 51 = .ok (.iload_n 2, 1) := by decide +kernel
theorem dX7_maximumWithout_52 : decode cX7_maximumWithout 52 = .ok (.iaload, 1) := by decide +kernel
theorem dX7_maximumWithout_53 : decode cX7_maximumWithout 53 = .ok (.iload_n 1, 1) := by decide +kernel
theorem dX7_maximumWithout_54 : decode cX7_maximumWithout 54 = .ok (.if_icmp .eq 13, 3) := by decide +kernel
theorem dX7_maximumWithout_57 : decode cX7_maximumWithout 57 = .ok (.aload_n 0, 1) := by decide +kernel
theorem dX7_maximumWithout_58 : decode cX7_maximumWithout 58 = .ok (.getfield 13, 3) := by decide +kernel
theorem dX7_maximumWithout_61 : decode cX7_maximumWithout 61 = .ok (.iload_n 2, 1) := by decide +kernel
theorem dX7_maximumWithout_62 : decode cX7_maximumWithout 62 = .ok (.iaload, 1) := by decide +kernel
theorem dX7_maximumWithout_63 : decode cX7_maximumWithout 63 = .ok (.iload_n 1, 1) := by decide +kernel
theorem dX7_maximumWithout_64 : decode cX7_maximumWithout 64 = .ok (.if_icmp .ne 10, 3) := by decide +kernel
theorem dX7_maximumWithout_67 : decode cX7_maximumWithout 67 = .ok (.aload_n 0, 1) := by decide +kernel
theorem dX7_maximumWithout_68 : decode cX7_maximumWithout 68 = .ok (.getfield 41, 3) := by decide +kernel
theorem dX7_maximumWithout_71 : decode cX7_maximumWithout 71 = .ok (.iload_n 2, 1) := by decide +kernel
theorem dX7_maximumWithout_72 : decode cX7_maximumWithout 72 = .ok (.iconst 0, 1) := by decide +kernel
theorem dX7_maximumWithout_73 : decode cX7_maximumWithout 73 = .ok (.iastore, 1) := by decide +kernel
theorem dX7_maximumWithout_74 : decode cX7_maximumWithout 74 = .ok (.iinc 2 1, 3) := by decide +kernel
theorem dX7_maximumWithout_77 : decode cX7_maximumWithout 77 = .ok (.goto (-38), 3) := by decide +kernel
theorem dX7_maximumWithout_80 : decode cX7_maximumWithout 80 = .ok (.aload_n 0, 1) := by decide +kernel
theorem dX7_maximumWithout_81 : decode cX7_maximumWithout 81 = .ok (.aload_n 0, 1) := by decide +kernel
theorem dX7_maximumWithout_82 : decode cX7_maximumWithout 82 = .ok (.getfield 19, 3) := by decide +kernel
theorem dX7_maximumWithout_85 : decode cX7_maximumWithout 85 = .ok (.aload_n 0, 1) := by decide +kernel
theorem dX7_maximumWithout_86 : decode cX7_maximumWithout 86 = .ok (.getfield 23, 3) := by decide +kernel
theorem dX7_maximumWithout_89 : decode cX7_maximumWithout 89 = .ok (.ldc 107, 2) := by decide +kernel
theorem dX7_maximumWithout_91 : decode cX7_maximumWithout 91 = .ok (.invokevirtual 108, 3) := by decide +kernel
theorem dX7_maximumWithout_94 : decode cX7_maximumWithout 94 = .ok (.ireturn, 1) := by decide +kernel
theorem dX7_maximumBetween_0 : decode cX7_maximumBetween 0 = .ok (.aload_n 0, 1) := by decide +kernel
theorem dX7_maximumBetween_1 : decode cX7_maximumBetween 1 = .ok (.iconst 0, 1) := by decide +kernel
theorem dX7_maximumBetween_2 : decode cX7_maximumBetween 2 = .ok (.putfield 56, 3) := by decide +kernel
theorem dX7_maximumBetween_5 : decode cX7_maximumBetween 5 = .ok (.aload_n 0, 1) := by decide +kernel
theorem dX7_maximumBetween_6 : decode cX7_maximumBetween 6 = .ok (.iload_n 1, 1) := by decide +kernel
theorem dX7_maximumBetween_7 : decode cX7_maximumBetween 7 = .ok (.invokevirtual 70, 3) := by decide +kernel
theorem dX7_maximumBetween_10 : decode cX7_maximumBetween 10 = .ok (.ifCond .eq 11, 3) := by decide +kernel
theorem dX7_maximumBetween_13 : decode cX7_maximumBetween 13 = .ok (.aload_n 0, 1) := by decide +kernel
theorem dX7_maximumBetween_14 : decode cX7_maximumBetween 14 = .ok (.iload_n 2, 1) := by decide +kernel
theorem dX7_maximumBetween_15 : decode cX7_maximumBetween 15 = .ok (.invokevirtual 70, 3) := by decide +kernel
theorem dX7_maximumBetween_18 : decode cX7_maximumBetween 18 = .ok (.ifCond .ne 9, 3) := by decide +kernel
theorem dX7_maximumBetween_21 : decode cX7_maximumBetween 21 = .ok (.aload_n 0, 1) := by decide +kernel
theorem dX7_maximumBetween_22 : decode cX7_maximumBetween 22 = .ok (.iconst 1, 1) := by decide +kernel
theorem dX7_maximumBetween_23 : decode cX7_maximumBetween 23 = .ok (.invokevirtual 66, 3) := by decide +kernel
theorem dX7_maximumBetween_26 : decode cX7_maximumBetween 26 = .ok (.ireturn, 1) := by decide +kernel
theorem dX7_maximumBetween_27 : decode cX7_maximumBetween 27 = .ok (.iload_n 1, 1) := by decide +kernel
theorem dX7_maximumBetween_28 : decode cX7_maximumBetween 28 = .ok (.iload_n 2, 1) := by decide +kernel
theorem dX7_maximumBetween_29 : decode cX7_maximumBetween 29 = .ok (.if_icmp .ne 9, 3) := by decide +kernel
theorem dX7_maximumBetween_32 : decode cX7_maximumBetween 32 = .ok (.aload_n 0, 1) := by decide +kernel
theorem dX7_maximumBetween_33 : decode cX7_maximumBetween 33 = .ok (.iconst 2, 1) := by decide +kernel
theorem dX7_maximumBetween_34 : decode cX7_maximumBetween 34 = .ok (.invokevirtual 66, 3) := by decide +kernel
theorem dX7_maximumBetween_37 : decode cX7_maximumBetween 37 = .ok (.ireturn, 1) := by decide +kernel
theorem dX7_maximumBetween_38 : decode cX7_maximumBetween 38 = .ok (.aload_n 0, 1) := by decide +kernel
theorem dX7_maximumBetween_39 : decode cX7_maximumBetween 39 = .ok (.invokevirtual 104, 3) := by decide +kernel
theorem dX7_maximumBetween_42 : decode cX7_maximumBetween 42 = .ok (.aload_n 0, 1) := by decide +kernel
theorem dX7_maximumBetween_43 : decode cX7_maximumBetween 43 = .ok (.iload_n 1, 1) := by decide +kernel
theorem dX7_maximumBetween_44 : decode cX7_maximumBetween 44 = .ok (.iload_n 2, 1) := by decide +kernel
theorem dX7_maximumBetween_45 : decode cX7_maximumBetween 45 = .ok (.ldc 107, 2) := by decide +kernel
theorem dX7_maximumBetween_47 : decode cX7_maximumBetween 47 = .ok (.invokevirtual 108, 3) := by decide +kernel
theorem dX7_maximumBetween_50 : decode cX7_maximumBetween 50 = .ok (.ireturn, 1) := by decide +kernel
theorem dX7_utilization_0 : decode cX7_utilization 0 = .ok (.aload_n 0, 1) := by decide +kernel
theorem dX7_utilization_1 : decode cX7_utilization 1 = .ok (.iconst 0, 1) := by decide +kernel
theorem dX7_utilization_2 : decode cX7_utilization 2 = .ok (.putfield 56, 3) := by decide +kernel
theorem dX7_utilization_5 : decode cX7_utilization 5 = .ok (.aload_n 0, 1) := by decide +kernel
theorem dX7_utilization_6 : decode cX7_utilization 6 = .ok (.getfield 19, 3) := by decide +kernel
theorem dX7_utilization_9 : decode cX7_utilization 9 = .ok (.iconst (-1), 1) := by decide +kernel
theorem dX7_utilization_10 : decode cX7_utilization 10 = .ok (.if_icmp .ne 10, 3) := by decide +kernel
theorem dX7_utilization_13 : decode cX7_utilization 13 = .ok (.aload_n 0, 1) := by decide +kernel
theorem dX7_utilization_14 : decode cX7_utilization 14 = .ok (.iconst 1, 1) := by decide +kernel
theorem dX7_utilization_15 : decode cX7_utilization 15 = .ok (.invokevirtual 66, 3) := by decide +kernel
theorem dX7_utilization_18 : decode cX7_utilization 18 = .ok (.i2d, 1) := by decide +kernel
theorem dX7_utilization_19 : decode cX7_utilization 19 = .ok (.dreturn, 1) := by decide +kernel
theorem dX7_utilization_20 : decode cX7_utilization 20 = .ok (.iconst 0, 1) := by decide +kernel
theorem dX7_utilization_21 : decode cX7_utilization 21 = .ok (.istore_n 1, 1) := by decide +kernel
theorem dX7_utilization_22 : decode cX7_utilization 22 = .ok (.iconst 0, 1) := by decide +kernel
theorem dX7_utilization_23 : decode cX7_utilization 23 = .ok (.istore_n 2, 1) := by decide +kernel
theorem dX7_utilization_24 : decode cX7_utilization 24 = .ok (.iload_n 2, 1) := by decide +kernel
theorem dX7_utilization_25 : decode cX7_utilization 25 = .ok (.aload_n 0, 1) := by decide +kernel
theorem dX7_utilization_26 : decode cX7_utilization 26 = .ok (.getfield 62, 3) := by decide +kernel
theorem dX7_utilization_29 : decode cX7_utilization 29 = .ok (.if_icmp .ge 35, 3) := by decide +kernel
theorem dX7_utilization_32 : decode cX7_utilization 32 = .ok (.iload_n 1, 1) := by decide +kernel
theorem dX7_utilization_33 : decode cX7_utilization 33 = .ok (.aload_n 0, 1) := by decide +kernel
theorem dX7_utilization_34 : decode cX7_utilization 34 = .ok (.getfield 9, 3) := by decide +kernel
theorem dX7_utilization_37 : decode cX7_utilization 37 = .ok (.iload_n 2, 1) := by decide +kernel
theorem dX7_utilization_38 : decode cX7_utilization 38 = .ok (.iaload, 1) := by decide +kernel
theorem dX7_utilization_39 : decode cX7_utilization 39 = .ok (.aload_n 0, 1) := by decide +kernel
theorem dX7_utilization_40 : decode cX7_utilization 40 = .ok (.getfield 19, 3) := by decide +kernel
theorem dX7_utilization_43 : decode cX7_utilization 43 = .ok (.if_icmp .ne 12, 3) := by decide +kernel
theorem dX7_utilization_46 : decode cX7_utilization 46 = .ok (.aload_n 0, 1) := by decide +kernel
theorem dX7_utilization_47 : decode cX7_utilization 47 = .ok (.getfield 16, 3) := by decide +kernel
theorem dX7_utilization_50 : decode cX7_utilization 50 = .ok (.iload_n 2, 1) := by decide +kernel
theorem dX7_utilization_51 : decode cX7_utilization 51 = .ok (.iaload, 1) := by decide +kernel
theorem dX7_utilization_52 : decode cX7_utilization 52 = .ok (.goto 4, 3) := by decide +kernel
theorem dX7_utilization_55 : decode cX7_utilization 55 = .ok (.iconst 0, 1) := by decide +kernel
theorem dX7_utilization_56 : decode cX7_utilization 56 = .ok (.iadd, 1) := by decide +kernel
theorem dX7_utilization_57 : decode cX7_utilization 57 = .ok (.istore_n 1, 1) := by decide +kernel
theorem dX7_utilization_58 : decode cX7_utilization 58 = .ok (.iinc 2 1, 3) := by decide +kernel
theorem dX7_utilization_61 : decode cX7_utilization 61 = .ok (.goto (-37), 3) := by decide +kernel
theorem dX7_utilization_64 : decode cX7_utilization 64 = .ok (.iload_n 1, 1) := by decide +kernel
theorem dX7_utilization_65 : decode cX7_utilization 65 = .ok (.ifCond .ne 7, 3) := by decide +kernel
theorem dX7_utilization_68 : decode cX7_utilization 68 = .ok (.dconst 0, 1) := by decide +kernel
theorem dX7_utilization_69 : decode cX7_utilization 69 = .ok (.goto 11, 3) := by decide +kernel
theorem dX7_utilization_72 : decode cX7_utilization 72 = .ok (.aload_n 0, 1) := by decide +kernel
theorem dX7_utilization_73 : decode cX7_utilization 73 = .ok (.invokevirtual 112, 3) := by decide +kernel
theorem dX7_utilization_76 : decode cX7_utilization 76 = .ok (.i2d, 1) := by decide +kernel
theorem dX7_utilization_77 : decode cX7_utilization 77 = .ok (.iload_n 1, 1) := by decide +kernel
theorem dX7_utilization_78 : decode cX7_utilization 78 = .ok (.i2d, 1) := by decide +kernel
theorem dX7_utilization_79 : decode cX7_utilization 79 = .ok (.ddiv, 1) := by decide +kernel
theorem dX7_utilization_80 : decode cX7_utilization 80 = .ok (.dreturn, 1) := by decide +kernel
theorem dX7_leastFlow_0 : decode cX7_leastFlow 0 = .ok (.aload_n 0, 1) := by decide +kernel
theorem dX7_leastFlow_1 : decode cX7_leastFlow 1 = .ok (.aload_n 0, 1) := by decide +kernel
theorem dX7_leastFlow_2 : decode cX7_leastFlow 2 = .ok (.iload_n 1, 1) := by decide +kernel
theorem dX7_leastFlow_3 : decode cX7_leastFlow 3 = .ok (.invokevirtual 116, 3) := by decide +kernel
theorem dX7_leastFlow_6 : decode cX7_leastFlow 6 = .ok (.putfield 56, 3) := by decide +kernel
theorem dX7_leastFlow_9 : decode cX7_leastFlow 9 = .ok (.aload_n 0, 1) := by decide +kernel
theorem dX7_leastFlow_10 : decode cX7_leastFlow 10 = .ok (.getfield 56, 3) := by decide +kernel
theorem dX7_leastFlow_13 : decode cX7_leastFlow 13 = .ok (.ifCond .ne 17, 3) := by decide +kernel
theorem dX7_leastFlow_16 : decode cX7_leastFlow 16 = .ok (.aload_n 0, 1) := by decide +kernel
theorem dX7_leastFlow_17 : decode cX7_leastFlow 17 = .ok (.invokevirtual 112, 3) := by decide +kernel
theorem dX7_leastFlow_20 : decode cX7_leastFlow 20 = .ok (.aload_n 0, 1) := by decide +kernel
theorem dX7_leastFlow_21 : decode cX7_leastFlow 21 = .ok (.iload_n 1, 1) := by decide +kernel
theorem dX7_leastFlow_22 : decode cX7_leastFlow 22 = .ok (.iconst 0, 1) := by decide +kernel
theorem dX7_leastFlow_23 : decode cX7_leastFlow 23 = .ok (.invokevirtual 119, 3) := by decide +kernel
theorem dX7_leastFlow_26 : decode cX7_leastFlow 26 = .ok (.isub, 1) := by decide +kernel
theorem dX7_leastFlow_27 : decode cX7_leastFlow 27 = .ok (.goto 4, 3) := by decide +kernel
theorem dX7_leastFlow_30 : decode cX7_leastFlow 30 = .ok (.iconst 0, 1) := by decide +kernel
theorem dX7_leastFlow_31 : decode cX7_leastFlow 31 = .ok (.ireturn, 1) := by decide +kernel
theorem dX7_greatestFlow_0 : decode cX7_greatestFlow 0 = .ok (.aload_n 0, 1) := by decide +kernel
theorem dX7_greatestFlow_1 : decode cX7_greatestFlow 1 = .ok (.aload_n 0, 1) := by decide +kernel
theorem dX7_greatestFlow_2 : decode cX7_greatestFlow 2 = .ok (.iload_n 1, 1) := by decide +kernel
theorem dX7_greatestFlow_3 : decode cX7_greatestFlow 3 = .ok (.invokevirtual 116, 3) := by decide +kernel
theorem dX7_greatestFlow_6 : decode cX7_greatestFlow 6 = .ok (.putfield 56, 3) := by decide +kernel
theorem dX7_greatestFlow_9 : decode cX7_greatestFlow 9 = .ok (.aload_n 0, 1) := by decide +kernel
theorem dX7_greatestFlow_10 : decode cX7_greatestFlow 10 = .ok (.getfield 56, 3) := by decide +kernel
theorem dX7_greatestFlow_13 : decode cX7_greatestFlow 13 = .ok (.ifCond .eq 5, 3) := by decide +kernel
theorem dX7_greatestFlow_16 : decode cX7_greatestFlow 16 = .ok (.iconst 0, 1) := by decide +kernel
theorem dX7_greatestFlow_17 : decode cX7_greatestFlow 17 = .ok (.ireturn, 1) := by decide +kernel
theorem dX7_greatestFlow_18 : decode cX7_greatestFlow 18 = .ok (.aload_n 0, 1) := by decide +kernel
theorem dX7_greatestFlow_19 : decode cX7_greatestFlow 19 = .ok (.invokevirtual 112, 3) := by decide +kernel
theorem dX7_greatestFlow_22 : decode cX7_greatestFlow 22 = .ok (.istore_n 2, 1) := by decide +kernel
theorem dX7_greatestFlow_23 : decode cX7_greatestFlow 23 = .ok (.iload_n 2, 1) := by decide +kernel
theorem dX7_greatestFlow_24 : decode cX7_greatestFlow 24 = .ok (.ifCond .ge 7, 3) := by decide +kernel
theorem dX7_greatestFlow_27 : decode cX7_greatestFlow 27 = .ok (.iconst 0, 1) := by decide +kernel
theorem dX7_greatestFlow_28 : decode cX7_greatestFlow 28 = .ok (.goto 9, 3) := by decide +kernel
theorem dX7_greatestFlow_31 : decode cX7_greatestFlow 31 = .ok (.aload_n 0, 1) := by decide +kernel
theorem dX7_greatestFlow_32 : decode cX7_greatestFlow 32 = .ok (.getfield 44, 3) := by decide +kernel
theorem dX7_greatestFlow_35 : decode cX7_greatestFlow 35 = .ok (.iload_n 1, 1) := by decide +kernel
theorem dX7_greatestFlow_36 : decode cX7_greatestFlow 36 = .ok (.iaload, 1) := by decide +kernel
theorem dX7_greatestFlow_37 : decode cX7_greatestFlow 37 = .ok (.istore_n 3, 1) := by decide +kernel
theorem dX7_greatestFlow_38 : decode cX7_greatestFlow 38 = .ok (.aload_n 0, 1) := by decide +kernel
theorem dX7_greatestFlow_39 : decode cX7_greatestFlow 39 = .ok (.getfield 41, 3) := by decide +kernel
theorem dX7_greatestFlow_42 : decode cX7_greatestFlow 42 = .ok (.iload_n 1, 1) := by decide +kernel
theorem dX7_greatestFlow_43 : decode cX7_greatestFlow 43 = .ok (.iaload, 1) := by decide +kernel
theorem dX7_greatestFlow_44 : decode cX7_greatestFlow 44 = .ok (.istore 4, 2) := by decide +kernel
theorem dX7_greatestFlow_46 : decode cX7_greatestFlow 46 = .ok (.aload_n 0, 1) := by decide +kernel
theorem dX7_greatestFlow_47 : decode cX7_greatestFlow 47 = .ok (.getfield 41, 3) := by decide +kernel
theorem dX7_greatestFlow_50 : decode cX7_greatestFlow 50 = .ok (.iload_n 1, 1) := by decide +kernel
theorem dX7_greatestFlow_51 : decode cX7_greatestFlow 51 = .ok (.iconst 0, 1) := by decide +kernel
theorem dX7_greatestFlow_52 : decode cX7_greatestFlow 52 = .ok (.iastore, 1) := by decide +kernel
theorem dX7_greatestFlow_53 : decode cX7_greatestFlow 53 = .ok (.aload_n 0, 1) := by decide +kernel
theorem dX7_greatestFlow_54 : decode cX7_greatestFlow 54 = .ok (.getfield 44, 3) := by decide +kernel
theorem dX7_greatestFlow_57 : decode cX7_greatestFlow 57 = .ok (.iload_n 1, 1) := by decide +kernel
theorem dX7_greatestFlow_58 : decode cX7_greatestFlow 58 = .ok (.iconst 0, 1) := by decide +kernel
theorem dX7_greatestFlow_59 : decode cX7_greatestFlow 59 = .ok (.iastore, 1) := by decide +kernel
theorem dX7_greatestFlow_60 : decode cX7_greatestFlow 60 = .ok (.iload_n 3, 1) := by decide +kernel
theorem dX7_greatestFlow_61 : decode cX7_greatestFlow 61 = .ok (.aload_n 0, 1) := by decide +kernel
theorem dX7_greatestFlow_62 : decode cX7_greatestFlow 62 = .ok (.aload_n 0, 1) := by decide +kernel
theorem dX7_greatestFlow_63 : decode cX7_greatestFlow 63 = .ok (.getfield 13, 3) := by decide +kernel
theorem dX7_greatestFlow_66 : decode cX7_greatestFlow 66 = .ok (.iload_n 1, 1) := by decide +kernel
theorem dX7_greatestFlow_67 : decode cX7_greatestFlow 67 = .ok (.iaload, 1) := by decide +kernel
theorem dX7_greatestFlow_68 : decode cX7_greatestFlow 68 = .ok (.aload_n 0, 1) := by decide +kernel
theorem dX7_greatestFlow_69 : decode cX7_greatestFlow 69 = .ok (.getfield 9, 3) := by decide +kernel
theorem dX7_greatestFlow_72 : decode cX7_greatestFlow 72 = .ok (.iload_n 1, 1) := by decide +kernel
theorem dX7_greatestFlow_73 : decode cX7_greatestFlow 73 = .ok (.iaload, 1) := by decide +kernel
theorem dX7_greatestFlow_74 : decode cX7_greatestFlow 74 = .ok (.iload 4, 2) := by decide +kernel
theorem dX7_greatestFlow_76 : decode cX7_greatestFlow 76 = .ok (.invokevirtual 108, 3) := by decide +kernel
theorem dX7_greatestFlow_79 : decode cX7_greatestFlow 79 = .ok (.iadd, 1) := by decide +kernel
theorem dX7_greatestFlow_80 : decode cX7_greatestFlow 80 = .ok (.ireturn, 1) := by decide +kernel
theorem dX7_isIn_0 : decode cX7_isIn 0 = .ok (.iload_n 1, 1) := by decide +kernel
theorem dX7_isIn_1 : decode cX7_isIn 1 = .ok (.iload_n 2, 1) := by decide +kernel
theorem dX7_isIn_2 : decode cX7_isIn 2 = .ok (.ishr, 1) := by decide +kernel
theorem dX7_isIn_3 : decode cX7_isIn 3 = .ok (.iconst 1, 1) := by decide +kernel
theorem dX7_isIn_4 : decode cX7_isIn 4 = .ok (.iand, 1) := by decide +kernel
theorem dX7_isIn_5 : decode cX7_isIn 5 = .ok (.iconst 1, 1) := by decide +kernel
theorem dX7_isIn_6 : decode cX7_isIn 6 = .ok (.if_icmp .ne 7, 3) := by decide +kernel
theorem dX7_isIn_9 : decode cX7_isIn 9 = .ok (.iconst 1, 1) := by decide +kernel
theorem dX7_isIn_10 : decode cX7_isIn 10 = .ok (.goto 4, 3) := by decide +kernel
theorem dX7_isIn_13 : decode cX7_isIn 13 = .ok (.iconst 0, 1) := by decide +kernel
theorem dX7_isIn_14 : decode cX7_isIn 14 = .ok (.ireturn, 1) := by decide +kernel
theorem dX7_capacityOf_0 : decode cX7_capacityOf 0 = .ok (.iconst 0, 1) := by decide +kernel
theorem dX7_capacityOf_1 : decode cX7_capacityOf 1 = .ok (.istore_n 2, 1) := by decide +kernel
theorem dX7_capacityOf_2 : decode cX7_capacityOf 2 = .ok (.iconst 0, 1) := by decide +kernel
theorem dX7_capacityOf_3 : decode cX7_capacityOf 3 = .ok (.istore_n 3, 1) := by decide +kernel
theorem dX7_capacityOf_4 : decode cX7_capacityOf 4 = .ok (.iload_n 3, 1) := by decide +kernel
theorem dX7_capacityOf_5 : decode cX7_capacityOf 5 = .ok (.aload_n 0, 1) := by decide +kernel
theorem dX7_capacityOf_6 : decode cX7_capacityOf 6 = .ok (.getfield 62, 3) := by decide +kernel
theorem dX7_capacityOf_9 : decode cX7_capacityOf 9 = .ok (.if_icmp .ge 50, 3) := by decide +kernel
theorem dX7_capacityOf_12 : decode cX7_capacityOf 12 = .ok (.iload_n 2, 1) := by decide +kernel
theorem dX7_capacityOf_13 : decode cX7_capacityOf 13 = .ok (.aload_n 0, 1) := by decide +kernel
theorem dX7_capacityOf_14 : decode cX7_capacityOf 14 = .ok (.iload_n 1, 1) := by decide +kernel
theorem dX7_capacityOf_15 : decode cX7_capacityOf 15 = .ok (.aload_n 0, 1) := by decide +kernel
theorem dX7_capacityOf_16 : decode cX7_capacityOf 16 = .ok (.getfield 9, 3) := by decide +kernel
theorem dX7_capacityOf_19 : decode cX7_capacityOf 19 = .ok (.iload_n 3, 1) := by decide +kernel
theorem dX7_capacityOf_20 : decode cX7_capacityOf 20 = .ok (.iaload, 1) := by decide +kernel
theorem dX7_capacityOf_21 : decode cX7_capacityOf 21 = .ok (.invokevirtual 122, 3) := by decide +kernel
theorem dX7_capacityOf_24 : decode cX7_capacityOf 24 = .ok (.ifCond .eq 26, 3) := by decide +kernel
theorem dX7_capacityOf_27 : decode cX7_capacityOf 27 = .ok (.aload_n 0, 1) := by decide +kernel
theorem dX7_capacityOf_28 : decode cX7_capacityOf 28 = .ok (.iload_n 1, 1) := by decide +kernel
theorem dX7_capacityOf_29 : decode cX7_capacityOf 29 = .ok (.aload_n 0, 1) := by decide +kernel
theorem dX7_capacityOf_30 : decode cX7_capacityOf 30 = .ok (.getfield 13, 3) := by decide +kernel
theorem dX7_capacityOf_33 : decode cX7_capacityOf 33 = .ok (.iload_n 3, 1) := by decide +kernel
theorem dX7_capacityOf_34 : decode cX7_capacityOf 34 = .ok (.iaload, 1) := by decide +kernel
theorem dX7_capacityOf_35 : decode cX7_capacityOf 35 = .ok (.invokevirtual 122, 3) := by decide +kernel
theorem dX7_capacityOf_38 : decode cX7_capacityOf 38 = .ok (.ifCond .ne 12, 3) := by decide +kernel
theorem dX7_capacityOf_41 : decode cX7_capacityOf 41 = .ok (.aload_n 0, 1) := by decide +kernel
theorem dX7_capacityOf_42 : decode cX7_capacityOf 42 = .ok (.getfield 16, 3) := by decide +kernel
theorem dX7_capacityOf_45 : decode cX7_capacityOf 45 = .ok (.iload_n 3, 1) := by decide +kernel
theorem dX7_capacityOf_46 : decode cX7_capacityOf 46 = .ok (.iaload, 1) := by decide +kernel
theorem dX7_capacityOf_47 : decode cX7_capacityOf 47 = .ok (.goto 4, 3) := by decide +kernel
theorem dX7_capacityOf_50 : decode cX7_capacityOf 50 = .ok (.iconst 0, 1) := by decide +kernel
theorem dX7_capacityOf_51 : decode cX7_capacityOf 51 = .ok (.iadd, 1) := by decide +kernel
theorem dX7_capacityOf_52 : decode cX7_capacityOf 52 = .ok (.istore_n 2, 1) := by decide +kernel
theorem dX7_capacityOf_53 : decode cX7_capacityOf 53 = .ok (.iinc 3 1, 3) := by decide +kernel
theorem dX7_capacityOf_56 : decode cX7_capacityOf 56 = .ok (.goto (-52), 3) := by decide +kernel
theorem dX7_capacityOf_59 : decode cX7_capacityOf 59 = .ok (.iload_n 2, 1) := by decide +kernel
theorem dX7_capacityOf_60 : decode cX7_capacityOf 60 = .ok (.ireturn, 1) := by decide +kernel
theorem dX7_cutCapacity_0 : decode cX7_cutCapacity 0 = .ok (.aload_n 0, 1) := by decide +kernel
theorem dX7_cutCapacity_1 : decode cX7_cutCapacity 1 = .ok (.iconst 0, 1) := by decide +kernel
theorem dX7_cutCapacity_2 : decode cX7_cutCapacity 2 = .ok (.putfield 56, 3) := by decide +kernel
theorem dX7_cutCapacity_5 : decode cX7_cutCapacity 5 = .ok (.aload_n 0, 1) := by decide +kernel
theorem dX7_cutCapacity_6 : decode cX7_cutCapacity 6 = .ok (.getfield 19, 3) := by decide +kernel
theorem dX7_cutCapacity_9 : decode cX7_cutCapacity 9 = .ok (.iconst (-1), 1) := by decide +kernel
theorem dX7_cutCapacity_10 : decode cX7_cutCapacity 10 = .ok (.if_icmp .ne 9, 3) := by decide +kernel
theorem dX7_cutCapacity_13 : decode cX7_cutCapacity 13 = .ok (.aload_n 0, 1) := by decide +kernel
theorem dX7_cutCapacity_14 : decode cX7_cutCapacity 14 = .ok (.iconst 1, 1) := by decide +kernel
theorem dX7_cutCapacity_15 : decode cX7_cutCapacity 15 = .ok (.invokevirtual 66, 3) := by decide +kernel
theorem dX7_cutCapacity_18 : decode cX7_cutCapacity 18 = .ok (.ireturn, 1) := by decide +kernel
theorem dX7_cutCapacity_19 : decode cX7_cutCapacity 19 = .ok (.iload_n 1, 1) := by decide +kernel
theorem dX7_cutCapacity_20 : decode cX7_cutCapacity 20 = .ok (.ifCond .lt 37, 3) := by decide +kernel
theorem dX7_cutCapacity_23 : decode cX7_cutCapacity 23 = .ok (.iload_n 1, 1) := by decide +kernel
theorem dX7_cutCapacity_24 : decode cX7_cutCapacity 24 = .ok (.iconst 1, 1) := by decide +kernel
theorem dX7_cutCapacity_25 : decode cX7_cutCapacity 25 = .ok (.aload_n 0, 1) := by decide +kernel
theorem dX7_cutCapacity_26 : decode cX7_cutCapacity 26 = .ok (.getfield 59, 3) := by decide +kernel
theorem dX7_cutCapacity_29 : decode cX7_cutCapacity 29 = .ok (.ishl, 1) := by decide +kernel
theorem dX7_cutCapacity_30 : decode cX7_cutCapacity 30 = .ok (.if_icmp .ge 27, 3) := by decide +kernel
theorem dX7_cutCapacity_33 : decode cX7_cutCapacity 33 = .ok (.aload_n 0, 1) := by decide +kernel
theorem dX7_cutCapacity_34 : decode cX7_cutCapacity 34 = .ok (.iload_n 1, 1) := by decide +kernel
theorem dX7_cutCapacity_35 : decode cX7_cutCapacity 35 = .ok (.aload_n 0, 1) := by decide +kernel
theorem dX7_cutCapacity_36 : decode cX7_cutCapacity 36 = .ok (.getfield 19, 3) := by decide +kernel
theorem dX7_cutCapacity_39 : decode cX7_cutCapacity 39 = .ok (.invokevirtual 122, 3) := by decide +kernel
theorem dX7_cutCapacity_42 : decode cX7_cutCapacity 42 = .ok (.ifCond .eq 15, 3) := by decide +kernel
theorem dX7_cutCapacity_45 : decode cX7_cutCapacity 45 = .ok (.aload_n 0, 1) := by decide +kernel
theorem dX7_cutCapacity_46 : decode cX7_cutCapacity 46 = .ok (.iload_n 1, 1) := by decide +kernel
theorem dX7_cutCapacity_47 : decode cX7_cutCapacity 47 = .ok (.aload_n 0, 1) := by decide +kernel
theorem dX7_cutCapacity_48 : decode cX7_cutCapacity 48 = .ok (.getfield 23, 3) := by decide +kernel
theorem dX7_cutCapacity_51 : decode cX7_cutCapacity 51 = .ok (.invokevirtual 122, 3) := by decide +kernel
theorem dX7_cutCapacity_54 : decode cX7_cutCapacity 54 = .ok (.ifCond .eq 9, 3) := by decide +kernel
theorem dX7_cutCapacity_57 : decode cX7_cutCapacity 57 = .ok (.aload_n 0, 1) := by decide +kernel
theorem dX7_cutCapacity_58 : decode cX7_cutCapacity 58 = .ok (.iconst 2, 1) := by decide +kernel
theorem dX7_cutCapacity_59 : decode cX7_cutCapacity 59 = .ok (.invokevirtual 66, 3) := by decide +kernel
theorem dX7_cutCapacity_62 : decode cX7_cutCapacity 62 = .ok (.ireturn, 1) := by decide +kernel
theorem dX7_cutCapacity_63 : decode cX7_cutCapacity 63 = .ok (.aload_n 0, 1) := by decide +kernel
theorem dX7_cutCapacity_64 : decode cX7_cutCapacity 64 = .ok (.iload_n 1, 1) := by decide +kernel
theorem dX7_cutCapacity_65 : decode cX7_cutCapacity 65 = .ok (.invokevirtual 125, 3) := by decide +kernel
theorem dX7_cutCapacity_68 : decode cX7_cutCapacity 68 = .ok (.ireturn, 1) := by decide +kernel
theorem dX7_findReached_0 : decode cX7_findReached 0 = .ok (.aload_n 0, 1) := by decide +kernel
theorem dX7_findReached_1 : decode cX7_findReached 1 = .ok (.invokevirtual 112, 3) := by decide +kernel
theorem dX7_findReached_4 : decode cX7_findReached 4 = .ok (.ifCond .ge 4, 3) := by decide +kernel
theorem dX7_findReached_7 : decode cX7_findReached 7 = .ok (.return_, 1) := by decide +kernel
theorem dX7_findReached_8 : decode cX7_findReached 8 = .ok (.iconst 0, 1) := by decide +kernel
theorem dX7_findReached_9 : decode cX7_findReached 9 = .ok (.istore_n 1, 1) := by decide +kernel
theorem dX7_findReached_10 : decode cX7_findReached 10 = .ok (.iload_n 1, 1) := by decide +kernel
theorem dX7_findReached_11 : decode cX7_findReached 11 = .ok (.aload_n 0, 1) := by decide +kernel
theorem dX7_findReached_12 : decode cX7_findReached 12 = .ok (.getfield 59, 3) := by decide +kernel
theorem dX7_findReached_15 : decode cX7_findReached 15 = .ok (.if_icmp .ge 69, 3) := by decide +kernel
theorem dX7_findReached_18 : decode cX7_findReached 18 = .ok (.aload_n 0, 1) := by decide +kernel
theorem dX7_findReached_19 : decode cX7_findReached 19 = .ok (.iload_n 1, 1) := by decide +kernel
theorem dX7_findReached_20 : decode cX7_findReached 20 = .ok (.iload_n 1, 1) := by decide +kernel
theorem dX7_findReached_21 : decode cX7_findReached 21 = .ok (.invokevirtual 94, 3) := by decide +kernel
theorem dX7_findReached_24 : decode cX7_findReached 24 = .ok (.istore_n 2, 1) := by decide +kernel
theorem dX7_findReached_25 : decode cX7_findReached 25 = .ok (.aload_n 0, 1) := by decide +kernel
theorem dX7_findReached_26 : decode cX7_findReached 26 = .ok (.getfield 53, 3) := by decide +kernel
theorem dX7_findReached_29 : decode cX7_findReached 29 = .ok (.iload_n 1, 1) := by decide +kernel
theorem dX7_findReached_30 : decode cX7_findReached 30 = .ok (.iconst 0, 1) := by decide +kernel
theorem dX7_findReached_31 : decode cX7_findReached 31 = .ok (.iastore, 1) := by decide +kernel
theorem dX7_findReached_32 : decode cX7_findReached 32 = .ok (.iconst 0, 1) := by decide +kernel
theorem dX7_findReached_33 : decode cX7_findReached 33 = .ok (.istore_n 3, 1) := by decide +kernel
theorem dX7_findReached_34 : decode cX7_findReached 34 = .ok (.iload_n 3, 1) := by decide +kernel
theorem dX7_findReached_35 : decode cX7_findReached 35 = .ok (.aload_n 0, 1) := by decide +kernel
theorem dX7_findReached_36 : decode cX7_findReached 36 = .ok (.getfield 59, 3) := by decide +kernel
theorem dX7_findReached_39 : decode cX7_findReached 39 = .ok (.if_icmp .ge 39, 3) := by decide +kernel
theorem dX7_findReached_42 : decode cX7_findReached 42 = .ok (.iload_n 2, 1) := by decide +kernel
theorem dX7_findReached_43 : decode cX7_findReached 43 = .ok (.ifCond .eq 35, 3) := by decide +kernel
theorem dX7_findReached_46 : decode cX7_findReached 46 = .ok (.aload_n 0, 1) := by decide +kernel
theorem dX7_findReached_47 : decode cX7_findReached 47 = .ok (.getfield 53, 3) := by decide +kernel
theorem dX7_findReached_50 : decode cX7_findReached 50 = .ok (.iload_n 1, 1) := by decide +kernel
theorem dX7_findReached_51 : decode cX7_findReached 51 = .ok (.dup2, 1) := by decide +kernel
theorem dX7_findReached_52 : decode cX7_findReached 52 = .ok (.iaload, 1) := by decide +kernel
theorem dX7_findReached_53 : decode cX7_findReached 53 = .ok (.aload_n 0, 1) := by decide +kernel
theorem dX7_findReached_54 : decode cX7_findReached 54 = .ok (.getfield 47, 3) := by decide +kernel
theorem dX7_findReached_57 : decode cX7_findReached 57 = .ok (.iload_n 3, 1) := by decide +kernel
theorem dX7_findReached_58 : decode cX7_findReached 58 = .ok (.iaload, 1) := by decide +kernel
theorem dX7_findReached_59 : decode cX7_findReached 59 = .ok (.iconst (-1), 1) := by decide +kernel
theorem dX7_findReached_60 : decode cX7_findReached 60 = .ok (.if_icmp .eq 9, 3) := by decide +kernel
theorem dX7_findReached_63 : decode cX7_findReached 63 = .ok (.iconst 1, 1) := by decide +kernel
theorem dX7_findReached_64 : decode cX7_findReached 64 = .ok (.iload_n 3, 1) := by decide +kernel
theorem dX7_findReached_65 : decode cX7_findReached 65 = .ok (.ishl, 1) := by decide +kernel
theorem dX7_findReached_66 : decode cX7_findReached 66 = .ok (.goto 4, 3) := by decide +kernel
theorem dX7_findReached_69 : decode cX7_findReached 69 = .ok (.iconst 0, 1) := by decide +kernel
theorem dX7_findReached_70 : decode cX7_findReached 70 = .ok (.ior, 1) := by decide +kernel
theorem dX7_findReached_71 : decode cX7_findReached 71 = .ok (.iastore, 1) := by decide +kernel
theorem dX7_findReached_72 : decode cX7_findReached 72 = .ok (.iinc 3 1, 3) := by decide +kernel
theorem dX7_findReached_75 : decode cX7_findReached 75 = .ok (.goto (-41), 3) := by decide +kernel
theorem dX7_findReached_78 : decode cX7_findReached 78 = .ok (.iinc 1 1, 3) := by decide +kernel
theorem dX7_findReached_81 : decode cX7_findReached 81 = .ok (.goto (-71), 3) := by decide +kernel
theorem dX7_findReached_84 : decode cX7_findReached 84 = .ok (.return_, 1) := by decide +kernel
theorem dX7_smallest_0 : decode cX7_smallest 0 = .ok (.aload_n 0, 1) := by decide +kernel
theorem dX7_smallest_1 : decode cX7_smallest 1 = .ok (.invokevirtual 128, 3) := by decide +kernel
theorem dX7_smallest_4 : decode cX7_smallest 4 = .ok (.aload_n 0, 1) := by decide +kernel
theorem dX7_smallest_5 : decode cX7_smallest 5 = .ok (.getfield 53, 3) := by decide +kernel
theorem dX7_smallest_8 : decode cX7_smallest 8 = .ok (.aload_n 0, 1) := by decide +kernel
theorem dX7_smallest_9 : decode cX7_smallest 9 = .ok (.getfield 19, 3) := by decide +kernel
theorem dX7_smallest_12 : decode cX7_smallest 12 = .ok (.iaload, 1) := by decide +kernel
theorem dX7_smallest_13 : decode cX7_smallest 13 = .ok (.ireturn, 1) := by decide +kernel
theorem dX7_greatest_0 : decode cX7_greatest 0 = .ok (.aload_n 0, 1) := by decide +kernel
theorem dX7_greatest_1 : decode cX7_greatest 1 = .ok (.invokevirtual 128, 3) := by decide +kernel
theorem dX7_greatest_4 : decode cX7_greatest 4 = .ok (.iconst 0, 1) := by decide +kernel
theorem dX7_greatest_5 : decode cX7_greatest 5 = .ok (.istore_n 1, 1) := by decide +kernel
theorem dX7_greatest_6 : decode cX7_greatest 6 = .ok (.iconst 0, 1) := by decide +kernel
theorem dX7_greatest_7 : decode cX7_greatest 7 = .ok (.istore_n 2, 1) := by decide +kernel
theorem dX7_greatest_8 : decode cX7_greatest 8 = .ok (.iload_n 2, 1) := by decide +kernel
theorem dX7_greatest_9 : decode cX7_greatest 9 = .ok (.aload_n 0, 1) := by decide +kernel
theorem dX7_greatest_10 : decode cX7_greatest 10 = .ok (.getfield 59, 3) := by decide +kernel
theorem dX7_greatest_13 : decode cX7_greatest 13 = .ok (.if_icmp .ge 36, 3) := by decide +kernel
theorem dX7_greatest_16 : decode cX7_greatest 16 = .ok (.iload_n 1, 1) := by decide +kernel
theorem dX7_greatest_17 : decode cX7_greatest 17 = .ok (.aload_n 0, 1) := by decide +kernel
theorem dX7_greatest_18 : decode cX7_greatest 18 = .ok (.aload_n 0, 1) := by decide +kernel
theorem dX7_greatest_19 : decode cX7_greatest 19 = .ok (.getfield 53, 3) := by decide +kernel
theorem dX7_greatest_22 : decode cX7_greatest 22 = .ok (.iload_n 2, 1) := by decide +kernel
theorem dX7_greatest_23 : decode cX7_greatest 23 = .ok (.iaload, 1) := by decide +kernel
theorem dX7_greatest_24 : decode cX7_greatest 24 = .ok (.aload_n 0, 1) := by decide +kernel
theorem dX7_greatest_25 : decode cX7_greatest 25 = .ok (.getfield 23, 3) := by decide +kernel
theorem dX7_greatest_28 : decode cX7_greatest 28 = .ok (.invokevirtual 122, 3) := by decide +kernel
theorem dX7_greatest_31 : decode cX7_greatest 31 = .ok (.ifCond .eq 7, 3) := by decide +kernel
theorem dX7_greatest_34 : decode cX7_greatest 34 = .ok (.iconst 0, 1) := by decide +kernel
theorem dX7_greatest_35 : decode cX7_greatest 35 = .ok (.goto 6, 3) := by decide +kernel
theorem dX7_greatest_38 : decode cX7_greatest 38 = .ok (.iconst 1, 1) := by decide +kernel
theorem dX7_greatest_39 : decode cX7_greatest 39 = .ok (.iload_n 2, 1) := by decide +kernel
theorem dX7_greatest_40 : decode cX7_greatest 40 = .ok (.ishl, 1) := by decide +kernel
theorem dX7_greatest_41 : decode cX7_greatest 41 = .ok (.ior, 1) := by decide +kernel
theorem dX7_greatest_42 : decode cX7_greatest 42 = .ok (.istore_n 1, 1) := by decide +kernel
theorem dX7_greatest_43 : decode cX7_greatest 43 = .ok (.iinc 2 1, 3) := by decide +kernel
theorem dX7_greatest_46 : decode cX7_greatest 46 = .ok (.goto (-38), 3) := by decide +kernel
theorem dX7_greatest_49 : decode cX7_greatest 49 = .ok (.iload_n 1, 1) := by decide +kernel
theorem dX7_greatest_50 : decode cX7_greatest 50 = .ok (.ireturn, 1) := by decide +kernel
theorem dX7_smallestCut_0 : decode cX7_smallestCut 0 = .ok (.aload_n 0, 1) := by decide +kernel
theorem dX7_smallestCut_1 : decode cX7_smallestCut 1 = .ok (.iconst 0, 1) := by decide +kernel
theorem dX7_smallestCut_2 : decode cX7_smallestCut 2 = .ok (.putfield 56, 3) := by decide +kernel
theorem dX7_smallestCut_5 : decode cX7_smallestCut 5 = .ok (.aload_n 0, 1) := by decide +kernel
theorem dX7_smallestCut_6 : decode cX7_smallestCut 6 = .ok (.getfield 19, 3) := by decide +kernel
theorem dX7_smallestCut_9 : decode cX7_smallestCut 9 = .ok (.iconst (-1), 1) := by decide +kernel
theorem dX7_smallestCut_10 : decode cX7_smallestCut 10 = .ok (.if_icmp .ne 11, 3) := by decide +kernel
theorem dX7_smallestCut_13 : decode cX7_smallestCut 13 = .ok (.aload_n 0, 1) := by decide +kernel
theorem dX7_smallestCut_14 : decode cX7_smallestCut 14 = .ok (.iconst 1, 1) := by decide +kernel
theorem dX7_smallestCut_15 : decode cX7_smallestCut 15 = .ok (.invokevirtual 66, 3) := by decide +kernel
theorem dX7_smallestCut_18 : decode cX7_smallestCut 18 = .ok (.goto 7, 3) := by decide +kernel
theorem dX7_smallestCut_21 : decode cX7_smallestCut 21 = .ok (.aload_n 0, 1) := by decide +kernel
theorem dX7_smallestCut_22 : decode cX7_smallestCut 22 = .ok (.invokevirtual 131, 3) := by decide +kernel
theorem dX7_smallestCut_25 : decode cX7_smallestCut 25 = .ok (.ireturn, 1) := by decide +kernel
theorem dX7_greatestCut_0 : decode cX7_greatestCut 0 = .ok (.aload_n 0, 1) := by decide +kernel
theorem dX7_greatestCut_1 : decode cX7_greatestCut 1 = .ok (.iconst 0, 1) := by decide +kernel
theorem dX7_greatestCut_2 : decode cX7_greatestCut 2 = .ok (.putfield 56, 3) := by decide +kernel
theorem dX7_greatestCut_5 : decode cX7_greatestCut 5 = .ok (.aload_n 0, 1) := by decide +kernel
theorem dX7_greatestCut_6 : decode cX7_greatestCut 6 = .ok (.getfield 19, 3) := by decide +kernel
theorem dX7_greatestCut_9 : decode cX7_greatestCut 9 = .ok (.iconst (-1), 1) := by decide +kernel
theorem dX7_greatestCut_10 : decode cX7_greatestCut 10 = .ok (.if_icmp .ne 11, 3) := by decide +kernel
theorem dX7_greatestCut_13 : decode cX7_greatestCut 13 = .ok (.aload_n 0, 1) := by decide +kernel
theorem dX7_greatestCut_14 : decode cX7_greatestCut 14 = .ok (.iconst 1, 1) := by decide +kernel
theorem dX7_greatestCut_15 : decode cX7_greatestCut 15 = .ok (.invokevirtual 66, 3) := by decide +kernel
theorem dX7_greatestCut_18 : decode cX7_greatestCut 18 = .ok (.goto 7, 3) := by decide +kernel
theorem dX7_greatestCut_21 : decode cX7_greatestCut 21 = .ok (.aload_n 0, 1) := by decide +kernel
theorem dX7_greatestCut_22 : decode cX7_greatestCut 22 = .ok (.invokevirtual 134, 3) := by decide +kernel
theorem dX7_greatestCut_25 : decode cX7_greatestCut 25 = .ok (.ireturn, 1) := by decide +kernel
theorem dX7_closed_0 : decode cX7_closed 0 = .ok (.aload_n 0, 1) := by decide +kernel
theorem dX7_closed_1 : decode cX7_closed 1 = .ok (.getfield 53, 3) := by decide +kernel
theorem dX7_closed_4 : decode cX7_closed 4 = .ok (.aload_n 0, 1) := by decide +kernel
theorem dX7_closed_5 : decode cX7_closed 5 = .ok (.getfield 19, 3) := by decide +kernel
theorem dX7_closed_8 : decode cX7_closed 8 = .ok (.iaload, 1) := by decide +kernel
theorem dX7_closed_9 : decode cX7_closed 9 = .ok (.istore_n 3, 1) := by decide +kernel
theorem dX7_closed_10 : decode cX7_closed 10 = .ok (.iconst 0, 1) := by decide +kernel
theorem dX7_closed_11 : decode cX7_closed 11 = .ok (.istore 4, 2) := by decide +kernel
theorem dX7_closed_13 : decode cX7_closed 13 = .ok (.iload 4, 2) := by decide +kernel
theorem dX7_closed_15 : decode cX7_closed 15 = .ok (.aload_n 0, 1) := by decide +kernel
theorem dX7_closed_16 : decode cX7_closed 16 = .ok (.getfield 59, 3) := by decide +kernel
theorem dX7_closed_19 : decode cX7_closed 19 = .ok (.if_icmp .ge 33, 3) := by decide +kernel
theorem dX7_closed_22 : decode cX7_closed 22 = .ok (.iload_n 3, 1) := by decide +kernel
theorem dX7_closed_23 : decode cX7_closed 23 = .ok (.aload_n 0, 1) := by decide +kernel
theorem dX7_closed_24 : decode cX7_closed 24 = .ok (.iload_n 1, 1) := by decide +kernel
theorem dX7_closed_25 : decode cX7_closed 25 = .ok (.iload 4, 2) := by decide +kernel
theorem dX7_closed_27 : decode cX7_closed 27 = .ok (.invokevirtual 122, 3) := by decide +kernel
theorem dX7_closed_30 : decode cX7_closed 30 = .ok (.ifCond .eq 13, 3) := by decide +kernel
theorem dX7_closed_33 : decode cX7_closed 33 = .ok (.aload_n 0, 1) := by decide +kernel
theorem dX7_closed_34 : decode cX7_closed 34 = .ok (.getfield 53, 3) := by decide +kernel
theorem dX7_closed_37 : decode cX7_closed 37 = .ok (.iload 4, 2) := by decide +kernel
theorem dX7_closed_39 : decode cX7_closed 39 = .ok (.iaload, 1) := by decide +kernel
theorem dX7_closed_40 : decode cX7_closed 40 = .ok (.goto 4, 3) := by decide +kernel
theorem dX7_closed_43 : decode cX7_closed 43 = .ok (.iconst 0, 1) := by decide +kernel
theorem dX7_closed_44 : decode cX7_closed 44 = .ok (.ior, 1) := by decide +kernel
theorem dX7_closed_45 : decode cX7_closed 45 = .ok (.istore_n 3, 1) := by decide +kernel
theorem dX7_closed_46 : decode cX7_closed 46 = .ok (.iinc 4 1, 3) := by decide +kernel
theorem dX7_closed_49 : decode cX7_closed 49 = .ok (.goto (-36), 3) := by decide +kernel
theorem dX7_closed_52 : decode cX7_closed 52 = .ok (.aload_n 0, 1) := by decide +kernel
theorem dX7_closed_53 : decode cX7_closed 53 = .ok (.iload_n 3, 1) := by decide +kernel
theorem dX7_closed_54 : decode cX7_closed 54 = .ok (.aload_n 0, 1) := by decide +kernel
theorem dX7_closed_55 : decode cX7_closed 55 = .ok (.getfield 23, 3) := by decide +kernel
theorem dX7_closed_58 : decode cX7_closed 58 = .ok (.invokevirtual 122, 3) := by decide +kernel
theorem dX7_closed_61 : decode cX7_closed 61 = .ok (.ifCond .ne 9, 3) := by decide +kernel
theorem dX7_closed_64 : decode cX7_closed 64 = .ok (.iload_n 3, 1) := by decide +kernel
theorem dX7_closed_65 : decode cX7_closed 65 = .ok (.iload_n 2, 1) := by decide +kernel
theorem dX7_closed_66 : decode cX7_closed 66 = .ok (.iand, 1) := by decide +kernel
theorem dX7_closed_67 : decode cX7_closed 67 = .ok (.ifCond .eq 7, 3) := by decide +kernel
theorem dX7_closed_70 : decode cX7_closed 70 = .ok (.iconst (-1), 1) := by decide +kernel
theorem dX7_closed_71 : decode cX7_closed 71 = .ok (.goto 4, 3) := by decide +kernel
theorem dX7_closed_74 : decode cX7_closed 74 = .ok (.iload_n 3, 1) := by decide +kernel
theorem dX7_closed_75 : decode cX7_closed 75 = .ok (.ireturn, 1) := by decide +kernel
theorem dX7_cutBehind_0 : decode cX7_cutBehind 0 = .ok (.iconst 0, 1) := by decide +kernel
theorem dX7_cutBehind_1 : decode cX7_cutBehind 1 = .ok (.istore_n 2, 1) := by decide +kernel
theorem dX7_cutBehind_2 : decode cX7_cutBehind 2 = .ok (.iload_n 2, 1) := by decide +kernel
theorem dX7_cutBehind_3 : decode cX7_cutBehind 3 = .ok (.aload_n 0, 1) := by decide +kernel
theorem dX7_cutBehind_4 : decode cX7_cutBehind 4 = .ok (.getfield 59, 3) := by decide +kernel
theorem dX7_cutBehind_7 : decode cX7_cutBehind 7 = .ok (.if_icmp .ge 64, 3) := by decide +kernel
theorem dX7_cutBehind_10 : decode cX7_cutBehind 10 = .ok (.aload_n 0, 1) := by decide +kernel
theorem dX7_cutBehind_11 : decode cX7_cutBehind 11 = .ok (.iload_n 1, 1) := by decide +kernel
theorem dX7_cutBehind_12 : decode cX7_cutBehind 12 = .ok (.iload_n 2, 1) := by decide +kernel
theorem dX7_cutBehind_13 : decode cX7_cutBehind 13 = .ok (.invokevirtual 122, 3) := by decide +kernel
theorem dX7_cutBehind_16 : decode cX7_cutBehind 16 = .ok (.ifCond .eq 6, 3) := by decide +kernel
theorem dX7_cutBehind_19 : decode cX7_cutBehind 19 = .ok (.goto 46, 3) := by decide +kernel
theorem dX7_cutBehind_22 : decode cX7_cutBehind 22 = .ok (.iload_n 1, 1) := by decide +kernel
theorem dX7_cutBehind_23 : decode cX7_cutBehind 23 = .ok (.iload_n 2, 1) := by decide +kernel
theorem dX7_cutBehind_24 : decode cX7_cutBehind 24 = .ok (.ishr, 1) := by decide +kernel
theorem dX7_cutBehind_25 : decode cX7_cutBehind 25 = .ok (.iload_n 2, 1) := by decide +kernel
theorem dX7_cutBehind_26 : decode cX7_cutBehind 26 = .ok (.ishl, 1) := by decide +kernel
theorem dX7_cutBehind_27 : decode cX7_cutBehind 27 = .ok (.istore_n 3, 1) := by decide +kernel
theorem dX7_cutBehind_28 : decode cX7_cutBehind 28 = .ok (.aload_n 0, 1) := by decide +kernel
theorem dX7_cutBehind_29 : decode cX7_cutBehind 29 = .ok (.iload_n 3, 1) := by decide +kernel
theorem dX7_cutBehind_30 : decode cX7_cutBehind 30 = .ok (.iconst 1, 1) := by decide +kernel
theorem dX7_cutBehind_31 : decode cX7_cutBehind 31 = .ok (.iload_n 2, 1) := by decide +kernel
theorem dX7_cutBehind_32 : decode cX7_cutBehind 32 = .ok (.ishl, 1) := by decide +kernel
theorem dX7_cutBehind_33 : decode cX7_cutBehind 33 = .ok (.ior, 1) := by decide +kernel
theorem dX7_cutBehind_34 : decode cX7_cutBehind 34 = .ok (.iconst 1, 1) := by decide +kernel
theorem dX7_cutBehind_35 : decode cX7_cutBehind 35 = .ok (.aload_n 0, 1) := by decide +kernel
theorem dX7_cutBehind_36 : decode cX7_cutBehind 36 = .ok (.getfield 59, 3) := by decide +kernel
theorem dX7_cutBehind_39 : decode cX7_cutBehind 39 = .ok (.ishl, 1) := by decide +kernel
theorem dX7_cutBehind_40 : decode cX7_cutBehind 40 = .ok (.iconst 1, 1) := by decide +kernel
theorem dX7_cutBehind_41 : decode cX7_cutBehind 41 = .ok (.isub, 1) := by decide +kernel
theorem dX7_cutBehind_42 : decode cX7_cutBehind 42 = .ok (.iload_n 3, 1) := by decide +kernel
theorem dX7_cutBehind_43 : decode cX7_cutBehind 43 = .ok (.iconst (-1), 1) := by decide +kernel
theorem dX7_cutBehind_44 : decode cX7_cutBehind 44 = .ok (.ixor, 1) := by decide +kernel
theorem dX7_cutBehind_45 : decode cX7_cutBehind 45 = .ok (.iand, 1) := by decide +kernel
theorem dX7_cutBehind_46 : decode cX7_cutBehind 46 = .ok (.iconst 2, 1) := by decide +kernel
theorem dX7_cutBehind_47 : decode cX7_cutBehind 47 = .ok (.iload_n 2, 1) := by decide +kernel
theorem dX7_cutBehind_48 : decode cX7_cutBehind 48 = .ok (.ishl, 1) := by decide +kernel
theorem dX7_cutBehind_49 : decode cX7_cutBehind 49 = .ok (.ineg, 1) := by decide +kernel
theorem dX7_cutBehind_50 : decode cX7_cutBehind 50 = .ok (.iand, 1) := by decide +kernel
theorem dX7_cutBehind_51 : decode cX7_cutBehind 51 = .ok (.invokevirtual 137, 3) := by decide +kernel
theorem dX7_cutBehind_54 : decode cX7_cutBehind 54 = .ok (.istore 4, 2) := by decide +kernel
theorem dX7_cutBehind_56 : decode cX7_cutBehind 56 = .ok (.iload 4, 2) := by decide +kernel
theorem dX7_cutBehind_58 : decode cX7_cutBehind 58 = .ok (.iconst (-1), 1) := by decide +kernel
theorem dX7_cutBehind_59 : decode cX7_cutBehind 59 = .ok (.if_icmp .eq 6, 3) := by decide +kernel
theorem dX7_cutBehind_62 : decode cX7_cutBehind 62 = .ok (.iload 4, 2) := by decide +kernel
theorem dX7_cutBehind_64 : decode cX7_cutBehind 64 = .ok (.ireturn, 1) := by decide +kernel
theorem dX7_cutBehind_65 : decode cX7_cutBehind 65 = .ok (.iinc 2 1, 3) := by decide +kernel
theorem dX7_cutBehind_68 : decode cX7_cutBehind 68 = .ok (.goto (-66), 3) := by decide +kernel
theorem dX7_cutBehind_71 : decode cX7_cutBehind 71 = .ok (.iconst (-1), 1) := by decide +kernel
theorem dX7_cutBehind_72 : decode cX7_cutBehind 72 = .ok (.ireturn, 1) := by decide +kernel
theorem dX7_findCuts_0 : decode cX7_findCuts 0 = .ok (.aload_n 0, 1) := by decide +kernel
theorem dX7_findCuts_1 : decode cX7_findCuts 1 = .ok (.iconst 0, 1) := by decide +kernel
theorem dX7_findCuts_2 : decode cX7_findCuts 2 = .ok (.putfield 56, 3) := by decide +kernel
theorem dX7_findCuts_5 : decode cX7_findCuts 5 = .ok (.aload_n 0, 1) := by decide +kernel
theorem dX7_findCuts_6 : decode cX7_findCuts 6 = .ok (.getfield 19, 3) := by decide +kernel
theorem dX7_findCuts_9 : decode cX7_findCuts 9 = .ok (.iconst (-1), 1) := by decide +kernel
theorem dX7_findCuts_10 : decode cX7_findCuts 10 = .ok (.if_icmp .ne 9, 3) := by decide +kernel
theorem dX7_findCuts_13 : decode cX7_findCuts 13 = .ok (.aload_n 0, 1) := by decide +kernel
theorem dX7_findCuts_14 : decode cX7_findCuts 14 = .ok (.iconst 1, 1) := by decide +kernel
theorem dX7_findCuts_15 : decode cX7_findCuts 15 = .ok (.invokevirtual 66, 3) := by decide +kernel
theorem dX7_findCuts_18 : decode cX7_findCuts 18 = .ok (.ireturn, 1) := by decide +kernel
theorem dX7_findCuts_19 : decode cX7_findCuts 19 = .ok (.aload_n 0, 1) := by decide +kernel
theorem dX7_findCuts_20 : decode cX7_findCuts 20 = .ok (.invokevirtual 128, 3) := by decide +kernel
theorem dX7_findCuts_23 : decode cX7_findCuts 23 = .ok (.aload_n 0, 1) := by decide +kernel
theorem dX7_findCuts_24 : decode cX7_findCuts 24 = .ok (.iconst 0, 1) := by decide +kernel
theorem dX7_findCuts_25 : decode cX7_findCuts 25 = .ok (.putfield 140, 3) := by decide +kernel
theorem dX7_findCuts_28 : decode cX7_findCuts 28 = .ok (.aload_n 0, 1) := by decide +kernel
theorem dX7_findCuts_29 : decode cX7_findCuts 29 = .ok (.iconst 0, 1) := by decide +kernel
theorem dX7_findCuts_30 : decode cX7_findCuts 30 = .ok (.iconst 0, 1) := by decide +kernel
theorem dX7_findCuts_31 : decode cX7_findCuts 31 = .ok (.invokevirtual 137, 3) := by decide +kernel
theorem dX7_findCuts_34 : decode cX7_findCuts 34 = .ok (.istore_n 1, 1) := by decide +kernel
theorem dX7_findCuts_35 : decode cX7_findCuts 35 = .ok (.iload_n 1, 1) := by decide +kernel
theorem dX7_findCuts_36 : decode cX7_findCuts 36 = .ok (.iconst (-1), 1) := by decide +kernel
theorem dX7_findCuts_37 : decode cX7_findCuts 37 = .ok (.if_icmp .eq 42, 3) := by decide +kernel
theorem dX7_findCuts_40 : decode cX7_findCuts 40 = .ok (.aload_n 0, 1) := by decide +kernel
theorem dX7_findCuts_41 : decode cX7_findCuts 41 = .ok (.getfield 140, 3) := by decide +kernel
theorem dX7_findCuts_44 : decode cX7_findCuts 44 = .ok (.sipush 300, 3) := by decide +kernel
theorem dX7_findCuts_47 : decode cX7_findCuts 47 = .ok (.if_icmp .ge 32, 3) := by decide +kernel
theorem dX7_findCuts_50 : decode cX7_findCuts 50 = .ok (.aload_n 0, 1) := by decide +kernel
theorem dX7_findCuts_51 : decode cX7_findCuts 51 = .ok (.getfield 38, 3) := by decide +kernel
theorem dX7_findCuts_54 : decode cX7_findCuts 54 = .ok (.aload_n 0, 1) := by decide +kernel
theorem dX7_findCuts_55 : decode cX7_findCuts 55 = .ok (.getfield 140, 3) := by decide +kernel
theorem dX7_findCuts_58 : decode cX7_findCuts 58 = .ok (.iload_n 1, 1) := by decide +kernel
theorem dX7_findCuts_59 : decode cX7_findCuts 59 = .ok (.iastore, 1) := by decide +kernel
theorem dX7_findCuts_60 : decode cX7_findCuts 60 = .ok (.aload_n 0, 1) := by decide +kernel
theorem dX7_findCuts_61 : decode cX7_findCuts 61 = .ok (.dup, 1) := by decide +kernel
theorem dX7_findCuts_62 : decode cX7_findCuts 62 = .ok (.getfield 140, 3) := by decide +kernel
theorem dX7_findCuts_65 : decode cX7_findCuts 65 = .ok (.iconst 1, 1) := by decide +kernel
theorem dX7_findCuts_66 : decode cX7_findCuts 66 = .ok (.iadd, 1) := by decide +kernel
theorem dX7_findCuts_67 : decode cX7_findCuts 67 = .ok (.putfield 140, 3) := by decide +kernel
theorem dX7_findCuts_70 : decode cX7_findCuts 70 = .ok (.aload_n 0, 1) := by decide +kernel
theorem dX7_findCuts_71 : decode cX7_findCuts 71 = .ok (.iload_n 1, 1) := by decide +kernel
theorem dX7_findCuts_72 : decode cX7_findCuts 72 = .ok (.invokevirtual 143, 3) := by decide +kernel
theorem dX7_findCuts_75 : decode cX7_findCuts 75 = .ok (.istore_n 1, 1) := by decide +kernel
theorem dX7_findCuts_76 : decode cX7_findCuts 76 = .ok (.goto (-41), 3) := by decide +kernel
theorem dX7_findCuts_79 : decode cX7_findCuts 79 = .ok (.aload_n 0, 1) := by decide +kernel
theorem dX7_findCuts_80 : decode cX7_findCuts 80 = .ok (.getfield 140, 3) := by decide +kernel
theorem dX7_findCuts_83 : decode cX7_findCuts 83 = .ok (.ireturn, 1) := by decide +kernel
theorem dX7_cut_0 : decode cX7_cut 0 = .ok (.aload_n 0, 1) := by decide +kernel
theorem dX7_cut_1 : decode cX7_cut 1 = .ok (.iconst 0, 1) := by decide +kernel
theorem dX7_cut_2 : decode cX7_cut 2 = .ok (.putfield 56, 3) := by decide +kernel
theorem dX7_cut_5 : decode cX7_cut 5 = .ok (.iload_n 1, 1) := by decide +kernel
theorem dX7_cut_6 : decode cX7_cut 6 = .ok (.ifCond .lt 20, 3) := by decide +kernel
theorem dX7_cut_9 : decode cX7_cut 9 = .ok (.iload_n 1, 1) := by decide +kernel
theorem dX7_cut_10 : decode cX7_cut 10 = .ok (.aload_n 0, 1) := by decide +kernel
theorem dX7_cut_11 : decode cX7_cut 11 = .ok (.getfield 140, 3) := by decide +kernel
theorem dX7_cut_14 : decode cX7_cut 14 = .ok (.if_icmp .ge 12, 3) := by decide +kernel
theorem dX7_cut_17 : decode cX7_cut 17 = .ok (.aload_n 0, 1) := by decide +kernel
theorem dX7_cut_18 : decode cX7_cut 18 = .ok (.getfield 38, 3) := by decide +kernel
theorem dX7_cut_21 : decode cX7_cut 21 = .ok (.iload_n 1, 1) := by decide +kernel
theorem dX7_cut_22 : decode cX7_cut 22 = .ok (.iaload, 1) := by decide +kernel
theorem dX7_cut_23 : decode cX7_cut 23 = .ok (.goto 8, 3) := by decide +kernel
theorem dX7_cut_26 : decode cX7_cut 26 = .ok (.aload_n 0, 1) := by decide +kernel
theorem dX7_cut_27 : decode cX7_cut 27 = .ok (.iconst 1, 1) := by decide +kernel
theorem dX7_cut_28 : decode cX7_cut 28 = .ok (.invokevirtual 66, 3) := by decide +kernel
theorem dX7_cut_31 : decode cX7_cut 31 = .ok (.ireturn, 1) := by decide +kernel
theorem dX7_isBottleneck_0 : decode cX7_isBottleneck 0 = .ok (.aload_n 0, 1) := by decide +kernel
theorem dX7_isBottleneck_1 : decode cX7_isBottleneck 1 = .ok (.aload_n 0, 1) := by decide +kernel
theorem dX7_isBottleneck_2 : decode cX7_isBottleneck 2 = .ok (.iload_n 1, 1) := by decide +kernel
theorem dX7_isBottleneck_3 : decode cX7_isBottleneck 3 = .ok (.invokevirtual 116, 3) := by decide +kernel
theorem dX7_isBottleneck_6 : decode cX7_isBottleneck 6 = .ok (.putfield 56, 3) := by decide +kernel
theorem dX7_isBottleneck_9 : decode cX7_isBottleneck 9 = .ok (.aload_n 0, 1) := by decide +kernel
theorem dX7_isBottleneck_10 : decode cX7_isBottleneck 10 = .ok (.getfield 56, 3) := by decide +kernel
theorem dX7_isBottleneck_13 : decode cX7_isBottleneck 13 = .ok (.ifCond .ne 12, 3) := by decide +kernel
theorem dX7_isBottleneck_16 : decode cX7_isBottleneck 16 = .ok (.aload_n 0, 1) := by decide +kernel
theorem dX7_isBottleneck_17 : decode cX7_isBottleneck 17 = .ok (.getfield 16, 3) := by decide +kernel
theorem dX7_isBottleneck_20 : decode cX7_isBottleneck 20 = .ok (.iload_n 1, 1) := by decide +kernel
theorem dX7_isBottleneck_21 : decode cX7_isBottleneck 21 = .ok (.iaload, 1) := by decide +kernel
theorem dX7_isBottleneck_22 : decode cX7_isBottleneck 22 = .ok (.ifCond .ne 5, 3) := by decide +kernel
theorem dX7_isBottleneck_25 : decode cX7_isBottleneck 25 = .ok (.iconst 0, 1) := by decide +kernel
theorem dX7_isBottleneck_26 : decode cX7_isBottleneck 26 = .ok (.ireturn, 1) := by decide +kernel
theorem dX7_isBottleneck_27 : decode cX7_isBottleneck 27 = .ok (.aload_n 0, 1) := by decide +kernel
theorem dX7_isBottleneck_28 : decode cX7_isBottleneck 28 = .ok (.invokevirtual 128, 3) := by decide +kernel
theorem dX7_isBottleneck_31 : decode cX7_isBottleneck 31 = .ok (.aload_n 0, 1) := by decide +kernel
theorem dX7_isBottleneck_32 : decode cX7_isBottleneck 32 = .ok (.iconst 1, 1) := by decide +kernel
theorem dX7_isBottleneck_33 : decode cX7_isBottleneck 33 = .ok (.aload_n 0, 1) := by decide +kernel
theorem dX7_isBottleneck_34 : decode cX7_isBottleneck 34 = .ok (.getfield 9, 3) := by decide +kernel
theorem dX7_isBottleneck_37 : decode cX7_isBottleneck 37 = .ok (.iload_n 1, 1) := by decide +kernel
theorem dX7_isBottleneck_38 : decode cX7_isBottleneck 38 = .ok (.iaload, 1) := by decide +kernel
theorem dX7_isBottleneck_39 : decode cX7_isBottleneck 39 = .ok (.ishl, 1) := by decide +kernel
theorem dX7_isBottleneck_40 : decode cX7_isBottleneck 40 = .ok (.iconst 1, 1) := by decide +kernel
theorem dX7_isBottleneck_41 : decode cX7_isBottleneck 41 = .ok (.aload_n 0, 1) := by decide +kernel
theorem dX7_isBottleneck_42 : decode cX7_isBottleneck 42 = .ok (.getfield 13, 3) := by decide +kernel
theorem dX7_isBottleneck_45 : decode cX7_isBottleneck 45 = .ok (.iload_n 1, 1) := by decide +kernel
theorem dX7_isBottleneck_46 : decode cX7_isBottleneck 46 = .ok (.iaload, 1) := by decide +kernel
theorem dX7_isBottleneck_47 : decode cX7_isBottleneck 47 = .ok (.ishl, 1) := by decide +kernel
theorem dX7_isBottleneck_48 : decode cX7_isBottleneck 48 = .ok (.invokevirtual 137, 3) := by decide +kernel
theorem dX7_isBottleneck_51 : decode cX7_isBottleneck 51 = .ok (.iconst (-1), 1) := by decide +kernel
theorem dX7_isBottleneck_52 : decode cX7_isBottleneck 52 = .ok (.if_icmp .eq 7, 3) := by decide +kernel
theorem dX7_isBottleneck_55 : decode cX7_isBottleneck 55 = .ok (.iconst 1, 1) := by decide +kernel
theorem dX7_isBottleneck_56 : decode cX7_isBottleneck 56 = .ok (.goto 4, 3) := by decide +kernel
theorem dX7_isBottleneck_59 : decode cX7_isBottleneck 59 = .ok (.iconst 0, 1) := by decide +kernel
theorem dX7_isBottleneck_60 : decode cX7_isBottleneck 60 = .ok (.ireturn, 1) := by decide +kernel
theorem dX7_isLimiting_0 : decode cX7_isLimiting 0 = .ok (.aload_n 0, 1) := by decide +kernel
theorem dX7_isLimiting_1 : decode cX7_isLimiting 1 = .ok (.aload_n 0, 1) := by decide +kernel
theorem dX7_isLimiting_2 : decode cX7_isLimiting 2 = .ok (.iload_n 1, 1) := by decide +kernel
theorem dX7_isLimiting_3 : decode cX7_isLimiting 3 = .ok (.invokevirtual 116, 3) := by decide +kernel
theorem dX7_isLimiting_6 : decode cX7_isLimiting 6 = .ok (.putfield 56, 3) := by decide +kernel
theorem dX7_isLimiting_9 : decode cX7_isLimiting 9 = .ok (.aload_n 0, 1) := by decide +kernel
theorem dX7_isLimiting_10 : decode cX7_isLimiting 10 = .ok (.getfield 56, 3) := by decide +kernel
theorem dX7_isLimiting_13 : decode cX7_isLimiting 13 = .ok (.ifCond .ne 27, 3) := by decide +kernel
theorem dX7_isLimiting_16 : decode cX7_isLimiting 16 = .ok (.aload_n 0, 1) := by decide +kernel
theorem dX7_isLimiting_17 : decode cX7_isLimiting 17 = .ok (.iload_n 1, 1) := by decide +kernel
theorem dX7_isLimiting_18 : decode cX7_isLimiting 18 = .ok (.aload_n 0, 1) := by decide +kernel
theorem dX7_isLimiting_19 : decode cX7_isLimiting 19 = .ok (.getfield 16, 3) := by decide +kernel
theorem dX7_isLimiting_22 : decode cX7_isLimiting 22 = .ok (.iload_n 1, 1) := by decide +kernel
theorem dX7_isLimiting_23 : decode cX7_isLimiting 23 = .ok (.iaload, 1) := by decide +kernel
theorem dX7_isLimiting_24 : decode cX7_isLimiting 24 = .ok (.iconst 1, 1) := by decide +kernel
theorem dX7_isLimiting_25 : decode cX7_isLimiting 25 = .ok (.iadd, 1) := by decide +kernel
theorem dX7_isLimiting_26 : decode cX7_isLimiting 26 = .ok (.invokevirtual 119, 3) := by decide +kernel
theorem dX7_isLimiting_29 : decode cX7_isLimiting 29 = .ok (.aload_n 0, 1) := by decide +kernel
theorem dX7_isLimiting_30 : decode cX7_isLimiting 30 = .ok (.invokevirtual 112, 3) := by decide +kernel
theorem dX7_isLimiting_33 : decode cX7_isLimiting 33 = .ok (.if_icmp .le 7, 3) := by decide +kernel
theorem dX7_isLimiting_36 : decode cX7_isLimiting 36 = .ok (.iconst 1, 1) := by decide +kernel
theorem dX7_isLimiting_37 : decode cX7_isLimiting 37 = .ok (.goto 4, 3) := by decide +kernel
theorem dX7_isLimiting_40 : decode cX7_isLimiting 40 = .ok (.iconst 0, 1) := by decide +kernel
theorem dX7_isLimiting_41 : decode cX7_isLimiting 41 = .ok (.ireturn, 1) := by decide +kernel
theorem dX7_headroom_0 : decode cX7_headroom 0 = .ok (.aload_n 0, 1) := by decide +kernel
theorem dX7_headroom_1 : decode cX7_headroom 1 = .ok (.aload_n 0, 1) := by decide +kernel
theorem dX7_headroom_2 : decode cX7_headroom 2 = .ok (.iload_n 1, 1) := by decide +kernel
theorem dX7_headroom_3 : decode cX7_headroom 3 = .ok (.invokevirtual 116, 3) := by decide +kernel
theorem dX7_headroom_6 : decode cX7_headroom 6 = .ok (.putfield 56, 3) := by decide +kernel
theorem dX7_headroom_9 : decode cX7_headroom 9 = .ok (.aload_n 0, 1) := by decide +kernel
theorem dX7_headroom_10 : decode cX7_headroom 10 = .ok (.getfield 56, 3) := by decide +kernel
theorem dX7_headroom_13 : decode cX7_headroom 13 = .ok (.ifCond .eq 5, 3) := by decide +kernel
theorem dX7_headroom_16 : decode cX7_headroom 16 = .ok (.iconst 0, 1) := by decide +kernel
theorem dX7_headroom_17 : decode cX7_headroom 17 = .ok (.ireturn, 1) := by decide +kernel
theorem dX7_headroom_18 : decode cX7_headroom 18 = .ok (.aload_n 0, 1) := by decide +kernel
theorem dX7_headroom_19 : decode cX7_headroom 19 = .ok (.getfield 9, 3) := by decide +kernel
theorem dX7_headroom_22 : decode cX7_headroom 22 = .ok (.iload_n 1, 1) := by decide +kernel
theorem dX7_headroom_23 : decode cX7_headroom 23 = .ok (.iaload, 1) := by decide +kernel
theorem dX7_headroom_24 : decode cX7_headroom 24 = .ok (.aload_n 0, 1) := by decide +kernel
theorem dX7_headroom_25 : decode cX7_headroom 25 = .ok (.getfield 19, 3) := by decide +kernel
theorem dX7_headroom_28 : decode cX7_headroom 28 = .ok (.if_icmp .ne 18, 3) := by decide +kernel
theorem dX7_headroom_31 : decode cX7_headroom 31 = .ok (.aload_n 0, 1) := by decide +kernel
theorem dX7_headroom_32 : decode cX7_headroom 32 = .ok (.getfield 13, 3) := by decide +kernel
theorem dX7_headroom_35 : decode cX7_headroom 35 = .ok (.iload_n 1, 1) := by decide +kernel
theorem dX7_headroom_36 : decode cX7_headroom 36 = .ok (.iaload, 1) := by decide +kernel
theorem dX7_headroom_37 : decode cX7_headroom 37 = .ok (.aload_n 0, 1) := by decide +kernel
theorem dX7_headroom_38 : decode cX7_headroom 38 = .ok (.getfield 23, 3) := by decide +kernel
theorem dX7_headroom_41 : decode cX7_headroom 41 = .ok (.if_icmp .ne 5, 3) := by decide +kernel
theorem dX7_headroom_44 : decode cX7_headroom 44 = .ok (.iconst (-1), 1) := by decide +kernel
theorem dX7_headroom_45 : decode cX7_headroom 45 = .ok (.ireturn, 1) := by decide +kernel
theorem dX7_headroom_46 : decode cX7_headroom 46 = .ok (.aload_n 0, 1) := by decide +kernel
theorem dX7_headroom_47 : decode cX7_headroom 47 = .ok (.iload_n 1, 1) := by decide +kernel
theorem dX7_headroom_48 : decode cX7_headroom 48 = .ok (.ldc 107, 2) := by decide +kernel
theorem dX7_headroom_50 : decode cX7_headroom 50 = .ok (.invokevirtual 119, 3) := by decide +kernel
theorem dX7_headroom_53 : decode cX7_headroom 53 = .ok (.aload_n 0, 1) := by decide +kernel
theorem dX7_headroom_54 : decode cX7_headroom 54 = .ok (.invokevirtual 112, 3) := by decide +kernel
theorem dX7_headroom_57 : decode cX7_headroom 57 = .ok (.isub, 1) := by decide +kernel
theorem dX7_headroom_58 : decode cX7_headroom 58 = .ok (.ireturn, 1) := by decide +kernel
theorem dX7_push_0 : decode cX7_push 0 = .ok (.aload_n 0, 1) := by decide +kernel
theorem dX7_push_1 : decode cX7_push 1 = .ok (.iconst 0, 1) := by decide +kernel
theorem dX7_push_2 : decode cX7_push 2 = .ok (.putfield 56, 3) := by decide +kernel
theorem dX7_push_5 : decode cX7_push 5 = .ok (.aload_n 0, 1) := by decide +kernel
theorem dX7_push_6 : decode cX7_push 6 = .ok (.getfield 146, 3) := by decide +kernel
theorem dX7_push_9 : decode cX7_push 9 = .ok (.bipush 8, 2) := by decide +kernel
theorem dX7_push_11 : decode cX7_push 11 = .ok (.if_icmp .ne 9, 3) := by decide +kernel
theorem dX7_push_14 : decode cX7_push 14 = .ok (.aload_n 0, 1) := by decide +kernel
theorem dX7_push_15 : decode cX7_push 15 = .ok (.iconst 1, 1) := by decide +kernel
theorem dX7_push_16 : decode cX7_push 16 = .ok (.invokevirtual 66, 3) := by decide +kernel
theorem dX7_push_19 : decode cX7_push 19 = .ok (.ireturn, 1) := by decide +kernel
theorem dX7_push_20 : decode cX7_push 20 = .ok (.aload_n 0, 1) := by decide +kernel
theorem dX7_push_21 : decode cX7_push 21 = .ok (.getfield 26, 3) := by decide +kernel
theorem dX7_push_24 : decode cX7_push 24 = .ok (.aload_n 0, 1) := by decide +kernel
theorem dX7_push_25 : decode cX7_push 25 = .ok (.getfield 146, 3) := by decide +kernel
theorem dX7_push_28 : decode cX7_push 28 = .ok (.aload_n 0, 1) := by decide +kernel
theorem dX7_push_29 : decode cX7_push 29 = .ok (.getfield 62, 3) := by decide +kernel
theorem dX7_push_32 : decode cX7_push 32 = .ok (.iastore, 1) := by decide +kernel
theorem dX7_push_33 : decode cX7_push 33 = .ok (.aload_n 0, 1) := by decide +kernel
theorem dX7_push_34 : decode cX7_push 34 = .ok (.getfield 32, 3) := by decide +kernel
theorem dX7_push_37 : decode cX7_push 37 = .ok (.aload_n 0, 1) := by decide +kernel
theorem dX7_push_38 : decode cX7_push 38 = .ok (.getfield 146, 3) := by decide +kernel
theorem dX7_push_41 : decode cX7_push 41 = .ok (.aload_n 0, 1) := by decide +kernel
theorem dX7_push_42 : decode cX7_push 42 = .ok (.getfield 19, 3) := by decide +kernel
theorem dX7_push_45 : decode cX7_push 45 = .ok (.iastore, 1) := by decide +kernel
theorem dX7_push_46 : decode cX7_push 46 = .ok (.aload_n 0, 1) := by decide +kernel
theorem dX7_push_47 : decode cX7_push 47 = .ok (.getfield 35, 3) := by decide +kernel
theorem dX7_push_50 : decode cX7_push 50 = .ok (.aload_n 0, 1) := by decide +kernel
theorem dX7_push_51 : decode cX7_push 51 = .ok (.getfield 146, 3) := by decide +kernel
theorem dX7_push_54 : decode cX7_push 54 = .ok (.aload_n 0, 1) := by decide +kernel
theorem dX7_push_55 : decode cX7_push 55 = .ok (.getfield 23, 3) := by decide +kernel
theorem dX7_push_58 : decode cX7_push 58 = .ok (.iastore, 1) := by decide +kernel
theorem dX7_push_59 : decode cX7_push 59 = .ok (.iconst 0, 1) := by decide +kernel
theorem dX7_push_60 : decode cX7_push 60 = .ok (.istore_n 1, 1) := by decide +kernel
theorem dX7_push_61 : decode cX7_push 61 = .ok (.iload_n 1, 1) := by decide +kernel
theorem dX7_push_62 : decode cX7_push 62 = .ok (.aload_n 0, 1) := by decide +kernel
theorem dX7_push_63 : decode cX7_push 63 = .ok (.getfield 62, 3) := by decide +kernel
theorem dX7_push_66 : decode cX7_push 66 = .ok (.if_icmp .ge 29, 3) := by decide +kernel
theorem dX7_push_69 : decode cX7_push 69 = .ok (.aload_n 0, 1) := by decide +kernel
theorem dX7_push_70 : decode cX7_push 70 = .ok (.getfield 29, 3) := by decide +kernel
theorem dX7_push_73 : decode cX7_push 73 = .ok (.bipush 80, 2) := by decide +kernel
theorem dX7_push_75 : decode cX7_push 75 = .ok (.aload_n 0, 1) := by decide +kernel
theorem dX7_push_76 : decode cX7_push 76 = .ok (.getfield 146, 3) := by decide +kernel
theorem dX7_push_79 : decode cX7_push 79 = .ok (.imul, 1) := by decide +kernel
theorem dX7_push_80 : decode cX7_push 80 = .ok (.iload_n 1, 1) := by decide +kernel
theorem dX7_push_81 : decode cX7_push 81 = .ok (.iadd, 1) := by decide +kernel
theorem dX7_push_82 : decode cX7_push 82 = .ok (.aload_n 0, 1) := by decide +kernel
theorem dX7_push_83 : decode cX7_push 83 = .ok (.getfield 16, 3) := by decide +kernel
theorem dX7_push_86 : decode cX7_push 86 = .ok (.iload_n 1, 1) := by decide +kernel
theorem dX7_push_87 : decode cX7_push 87 = .ok (.iaload, 1) := by decide +kernel
theorem dX7_push_88 : decode cX7_push 88 = .ok (.iastore, 1) := by decide +kernel
theorem dX7_push_89 : decode cX7_push 89 = .ok (.iinc 1 1, 3) := by decide +kernel
theorem dX7_push_92 : decode cX7_push 92 = .ok (.goto (-31), 3) := by decide +kernel
theorem dX7_push_95 : decode cX7_push 95 = .ok (.aload_n 0, 1) := by decide +kernel
theorem dX7_push_96 : decode cX7_push 96 = .ok (.dup, 1) := by decide +kernel
theorem dX7_push_97 : decode cX7_push 97 = .ok (.getfield 146, 3) := by decide +kernel
theorem dX7_push_100 : decode cX7_push 100 = .ok (.iconst 1, 1) := by decide +kernel
theorem dX7_push_101 : decode cX7_push 101 = .ok (.iadd, 1) := by decide +kernel
theorem dX7_push_102 : decode cX7_push 102 = .ok (.putfield 146, 3) := by decide +kernel
theorem dX7_push_105 : decode cX7_push 105 = .ok (.aload_n 0, 1) := by decide +kernel
theorem dX7_push_106 : decode cX7_push 106 = .ok (.getfield 146, 3) := by decide +kernel
theorem dX7_push_109 : decode cX7_push 109 = .ok (.ireturn, 1) := by decide +kernel
theorem dX7_pop_0 : decode cX7_pop 0 = .ok (.aload_n 0, 1) := by decide +kernel
theorem dX7_pop_1 : decode cX7_pop 1 = .ok (.iconst 0, 1) := by decide +kernel
theorem dX7_pop_2 : decode cX7_pop 2 = .ok (.putfield 56, 3) := by decide +kernel
theorem dX7_pop_5 : decode cX7_pop 5 = .ok (.aload_n 0, 1) := by decide +kernel
theorem dX7_pop_6 : decode cX7_pop 6 = .ok (.getfield 146, 3) := by decide +kernel
theorem dX7_pop_9 : decode cX7_pop 9 = .ok (.ifCond .ne 9, 3) := by decide +kernel
theorem dX7_pop_12 : decode cX7_pop 12 = .ok (.aload_n 0, 1) := by decide +kernel
theorem dX7_pop_13 : decode cX7_pop 13 = .ok (.iconst 1, 1) := by decide +kernel
theorem dX7_pop_14 : decode cX7_pop 14 = .ok (.invokevirtual 66, 3) := by decide +kernel
theorem dX7_pop_17 : decode cX7_pop 17 = .ok (.ireturn, 1) := by decide +kernel
theorem dX7_pop_18 : decode cX7_pop 18 = .ok (.aload_n 0, 1) := by decide +kernel
theorem dX7_pop_19 : decode cX7_pop 19 = .ok (.dup, 1) := by decide +kernel
theorem dX7_pop_20 : decode cX7_pop 20 = .ok (.getfield 146, 3) := by decide +kernel
theorem dX7_pop_23 : decode cX7_pop 23 = .ok (.iconst 1, 1) := by decide +kernel
theorem dX7_pop_24 : decode cX7_pop 24 = .ok (.isub, 1) := by decide +kernel
theorem dX7_pop_25 : decode cX7_pop 25 = .ok (.putfield 146, 3) := by decide +kernel
theorem dX7_pop_28 : decode cX7_pop 28 = .ok (.aload_n 0, 1) := by decide +kernel
theorem dX7_pop_29 : decode cX7_pop 29 = .ok (.aload_n 0, 1) := by decide +kernel
theorem dX7_pop_30 : decode cX7_pop 30 = .ok (.getfield 32, 3) := by decide +kernel
theorem dX7_pop_33 : decode cX7_pop 33 = .ok (.aload_n 0, 1) := by decide +kernel
theorem dX7_pop_34 : decode cX7_pop 34 = .ok (.getfield 146, 3) := by decide +kernel
theorem dX7_pop_37 : decode cX7_pop 37 = .ok (.iaload, 1) := by decide +kernel
theorem dX7_pop_38 : decode cX7_pop 38 = .ok (.putfield 19, 3) := by decide +kernel
theorem dX7_pop_41 : decode cX7_pop 41 = .ok (.aload_n 0, 1) := by decide +kernel
theorem dX7_pop_42 : decode cX7_pop 42 = .ok (.aload_n 0, 1) := by decide +kernel
theorem dX7_pop_43 : decode cX7_pop 43 = .ok (.getfield 35, 3) := by decide +kernel
theorem dX7_pop_46 : decode cX7_pop 46 = .ok (.aload_n 0, 1) := by decide +kernel
theorem dX7_pop_47 : decode cX7_pop 47 = .ok (.getfield 146, 3) := by decide +kernel
theorem dX7_pop_50 : decode cX7_pop 50 = .ok (.iaload, 1) := by decide +kernel
theorem dX7_pop_51 : decode cX7_pop 51 = .ok (.putfield 23, 3) := by decide +kernel
theorem dX7_pop_54 : decode cX7_pop 54 = .ok (.iconst 0, 1) := by decide +kernel
theorem dX7_pop_55 : decode cX7_pop 55 = .ok (.istore_n 1, 1) := by decide +kernel
theorem dX7_pop_56 : decode cX7_pop 56 = .ok (.iload_n 1, 1) := by decide +kernel
theorem dX7_pop_57 : decode cX7_pop 57 = .ok (.aload_n 0, 1) := by decide +kernel
theorem dX7_pop_58 : decode cX7_pop 58 = .ok (.getfield 62, 3) := by decide +kernel
theorem dX7_pop_61 : decode cX7_pop 61 = .ok (.if_icmp .ge 46, 3) := by decide +kernel
theorem dX7_pop_64 : decode cX7_pop 64 = .ok (.aload_n 0, 1) := by decide +kernel
theorem dX7_pop_65 : decode cX7_pop 65 = .ok (.getfield 16, 3) := by decide +kernel
theorem dX7_pop_68 : decode cX7_pop 68 = .ok (.iload_n 1, 1) := by decide +kernel
theorem dX7_pop_69 : decode cX7_pop 69 = .ok (.iload_n 1, 1) := by decide +kernel
theorem dX7_pop_70 : decode cX7_pop 70 = .ok (.aload_n 0, 1) := by decide +kernel
theorem dX7_pop_71 : decode cX7_pop 71 = .ok (.getfield 26, 3) := by decide +kernel
theorem dX7_pop_74 : decode cX7_pop 74 = .ok (.aload_n 0, 1) := by decide +kernel
theorem dX7_pop_75 : decode cX7_pop 75 = .ok (.getfield 146, 3) := by decide +kernel
theorem dX7_pop_78 : decode cX7_pop 78 = .ok (.iaload, 1) := by decide +kernel
theorem dX7_pop_79 : decode cX7_pop 79 = .ok (.if_icmp .ge 20, 3) := by decide +kernel
theorem dX7_pop_82 : decode cX7_pop 82 = .ok (.aload_n 0, 1) := by decide +kernel
theorem dX7_pop_83 : decode cX7_pop 83 = .ok (.getfield 29, 3) := by decide +kernel
theorem dX7_pop_86 : decode cX7_pop 86 = .ok (.bipush 80, 2) := by decide +kernel
theorem dX7_pop_88 : decode cX7_pop 88 = .ok (.aload_n 0, 1) := by decide +kernel
theorem dX7_pop_89 : decode cX7_pop 89 = .ok (.getfield 146, 3) := by decide +kernel
theorem dX7_pop_92 : decode cX7_pop 92 = .ok (.imul, 1) := by decide +kernel
theorem dX7_pop_93 : decode cX7_pop 93 = .ok (.iload_n 1, 1) := by decide +kernel
theorem dX7_pop_94 : decode cX7_pop 94 = .ok (.iadd, 1) := by decide +kernel
theorem dX7_pop_95 : decode cX7_pop 95 = .ok (.iaload, 1) := by decide +kernel
theorem dX7_pop_96 : decode cX7_pop 96 = .ok (.goto 4, 3) := by decide +kernel
theorem dX7_pop_99 : decode cX7_pop 99 = .ok (.iconst 0, 1) := by decide +kernel
theorem dX7_pop_100 : decode cX7_pop 100 = .ok (.iastore, 1) := by decide +kernel
theorem dX7_pop_101 : decode cX7_pop 101 = .ok (.iinc 1 1, 3) := by decide +kernel
theorem dX7_pop_104 : decode cX7_pop 104 = .ok (.goto (-48), 3) := by decide +kernel
theorem dX7_pop_107 : decode cX7_pop 107 = .ok (.aload_n 0, 1) := by decide +kernel
theorem dX7_pop_108 : decode cX7_pop 108 = .ok (.getfield 146, 3) := by decide +kernel
theorem dX7_pop_111 : decode cX7_pop 111 = .ok (.ireturn, 1) := by decide +kernel
theorem dX7_digest_0 : decode cX7_digest 0 = .ok (.aload_n 0, 1) := by decide +kernel
theorem dX7_digest_1 : decode cX7_digest 1 = .ok (.iconst 0, 1) := by decide +kernel
theorem dX7_digest_2 : decode cX7_digest 2 = .ok (.putfield 56, 3) := by decide +kernel
theorem dX7_digest_5 : decode cX7_digest 5 = .ok (.ldc2_w 149, 3) := by decide +kernel
theorem dX7_digest_8 : decode cX7_digest 8 = .ok (.aload_n 0, 1) := by decide +kernel
theorem dX7_digest_9 : decode cX7_digest 9 = .ok (.getfield 59, 3) := by decide +kernel
theorem dX7_digest_12 : decode cX7_digest 12 = .ok (.i2l, 1) := by decide +kernel
theorem dX7_digest_13 : decode cX7_digest 13 = .ok (.ladd, 1) := by decide +kernel
theorem dX7_digest_14 : decode cX7_digest 14 = .ok (.ldc2_w 151, 3) := by decide +kernel
theorem dX7_digest_17 : decode cX7_digest 17 = .ok (.lmul, 1) := by decide +kernel
theorem dX7_digest_18 : decode cX7_digest 18 = .ok (.aload_n 0, 1) := by decide +kernel
theorem dX7_digest_19 : decode cX7_digest 19 = .ok (.getfield 62, 3) := by decide +kernel
theorem dX7_digest_22 : decode cX7_digest 22 = .ok (.i2l, 1) := by decide +kernel
theorem dX7_digest_23 : decode cX7_digest 23 = .ok (.ladd, 1) := by decide +kernel
theorem dX7_digest_24 : decode cX7_digest 24 = .ok (.ldc2_w 151, 3) := by decide +kernel
theorem dX7_digest_27 : decode cX7_digest 27 = .ok (.lmul, 1) := by decide +kernel
theorem dX7_digest_28 : decode cX7_digest 28 = .ok (.aload_n 0, 1) := by decide +kernel
theorem dX7_digest_29 : decode cX7_digest 29 = .ok (.getfield 146, 3) := by decide +kernel
theorem dX7_digest_32 : decode cX7_digest 32 = .ok (.i2l, 1) := by decide +kernel
theorem dX7_digest_33 : decode cX7_digest 33 = .ok (.ladd, 1) := by decide +kernel
theorem dX7_digest_34 : decode cX7_digest 34 = .ok (.lstore_n 1, 1) := by decide +kernel
theorem dX7_digest_35 : decode cX7_digest 35 = .ok (.iconst 0, 1) := by decide +kernel
theorem dX7_digest_36 : decode cX7_digest 36 = .ok (.istore_n 3, 1) := by decide +kernel
theorem dX7_digest_37 : decode cX7_digest 37 = .ok (.iload_n 3, 1) := by decide +kernel
theorem dX7_digest_38 : decode cX7_digest 38 = .ok (.aload_n 0, 1) := by decide +kernel
theorem dX7_digest_39 : decode cX7_digest 39 = .ok (.getfield 62, 3) := by decide +kernel
theorem dX7_digest_42 : decode cX7_digest 42 = .ok (.if_icmp .ge 23, 3) := by decide +kernel
theorem dX7_digest_45 : decode cX7_digest 45 = .ok (.lload_n 1, 1) := by decide +kernel
theorem dX7_digest_46 : decode cX7_digest 46 = .ok (.ldc2_w 151, 3) := by decide +kernel
theorem dX7_digest_49 : decode cX7_digest 49 = .ok (.lmul, 1) := by decide +kernel
theorem dX7_digest_50 : decode cX7_digest 50 = .ok (.aload_n 0, 1) := by decide +kernel
theorem dX7_digest_51 : decode cX7_digest 51 = .ok (.getfield 16, 3) := by decide +kernel
theorem dX7_digest_54 : decode cX7_digest 54 = .ok (.iload_n 3, 1) := by decide +kernel
theorem dX7_digest_55 : decode cX7_digest 55 = .ok (.iaload, 1) := by decide +kernel
theorem dX7_digest_56 : decode cX7_digest 56 = .ok (.i2l, 1) := by decide +kernel
theorem dX7_digest_57 : decode cX7_digest 57 = .ok (.ladd, 1) := by decide +kernel
theorem dX7_digest_58 : decode cX7_digest 58 = .ok (.lstore_n 1, 1) := by decide +kernel
theorem dX7_digest_59 : decode cX7_digest 59 = .ok (.iinc 3 1, 3) := by decide +kernel
theorem dX7_digest_62 : decode cX7_digest 62 = .ok (.goto (-25), 3) := by decide +kernel
theorem dX7_digest_65 : decode cX7_digest 65 = .ok (.lload_n 1, 1) := by decide +kernel
theorem dX7_digest_66 : decode cX7_digest 66 = .ok (.ldc2_w 151, 3) := by decide +kernel
theorem dX7_digest_69 : decode cX7_digest 69 = .ok (.lmul, 1) := by decide +kernel
theorem dX7_digest_70 : decode cX7_digest 70 = .ok (.aload_n 0, 1) := by decide +kernel
theorem dX7_digest_71 : decode cX7_digest 71 = .ok (.getfield 19, 3) := by decide +kernel
theorem dX7_digest_74 : decode cX7_digest 74 = .ok (.i2l, 1) := by decide +kernel
theorem dX7_digest_75 : decode cX7_digest 75 = .ok (.ladd, 1) := by decide +kernel
theorem dX7_digest_76 : decode cX7_digest 76 = .ok (.ldc2_w 151, 3) := by decide +kernel
theorem dX7_digest_79 : decode cX7_digest 79 = .ok (.lmul, 1) := by decide +kernel
theorem dX7_digest_80 : decode cX7_digest 80 = .ok (.aload_n 0, 1) := by decide +kernel
theorem dX7_digest_81 : decode cX7_digest 81 = .ok (.getfield 23, 3) := by decide +kernel
theorem dX7_digest_84 : decode cX7_digest 84 = .ok (.i2l, 1) := by decide +kernel
theorem dX7_digest_85 : decode cX7_digest 85 = .ok (.ladd, 1) := by decide +kernel
theorem dX7_digest_86 : decode cX7_digest 86 = .ok (.lstore_n 1, 1) := by decide +kernel
theorem dX7_digest_87 : decode cX7_digest 87 = .ok (.aload_n 0, 1) := by decide +kernel
theorem dX7_digest_88 : decode cX7_digest 88 = .ok (.getfield 19, 3) := by decide +kernel
theorem dX7_digest_91 : decode cX7_digest 91 = .ok (.iconst (-1), 1) := by decide +kernel
theorem dX7_digest_92 : decode cX7_digest 92 = .ok (.if_icmp .ne 5, 3) := by decide +kernel
theorem dX7_digest_95 : decode cX7_digest 95 = .ok (.lload_n 1, 1) := by decide +kernel
theorem dX7_digest_96 : decode cX7_digest 96 = .ok (.lreturn, 1) := by decide +kernel
theorem dX7_digest_97 : decode cX7_digest 97 = .ok (.lload_n 1, 1) := by decide +kernel
theorem dX7_digest_98 : decode cX7_digest 98 = .ok (.ldc2_w 151, 3) := by decide +kernel
theorem dX7_digest_101 : decode cX7_digest 101 = .ok (.lmul, 1) := by decide +kernel
theorem dX7_digest_102 : decode cX7_digest 102 = .ok (.aload_n 0, 1) := by decide +kernel
theorem dX7_digest_103 : decode cX7_digest 103 = .ok (.invokevirtual 112, 3) := by decide +kernel
theorem dX7_digest_106 : decode cX7_digest 106 = .ok (.i2l, 1) := by decide +kernel
theorem dX7_digest_107 : decode cX7_digest 107 = .ok (.ladd, 1) := by decide +kernel
theorem dX7_digest_108 : decode cX7_digest 108 = .ok (.ldc2_w 151, 3) := by decide +kernel
theorem dX7_digest_111 : decode cX7_digest 111 = .ok (.lmul, 1) := by decide +kernel
theorem dX7_digest_112 : decode cX7_digest 112 = .ok (.aload_n 0, 1) := by decide +kernel
theorem dX7_digest_113 : decode cX7_digest 113 = .ok (.invokevirtual 131, 3) := by decide +kernel
theorem dX7_digest_116 : decode cX7_digest 116 = .ok (.i2l, 1) := by decide +kernel
theorem dX7_digest_117 : decode cX7_digest 117 = .ok (.ladd, 1) := by decide +kernel
theorem dX7_digest_118 : decode cX7_digest 118 = .ok (.ldc2_w 151, 3) := by decide +kernel
theorem dX7_digest_121 : decode cX7_digest 121 = .ok (.lmul, 1) := by decide +kernel
theorem dX7_digest_122 : decode cX7_digest 122 = .ok (.aload_n 0, 1) := by decide +kernel
theorem dX7_digest_123 : decode cX7_digest 123 = .ok (.invokevirtual 134, 3) := by decide +kernel
theorem dX7_digest_126 : decode cX7_digest 126 = .ok (.i2l, 1) := by decide +kernel
theorem dX7_digest_127 : decode cX7_digest 127 = .ok (.ladd, 1) := by decide +kernel
theorem dX7_digest_128 : decode cX7_digest 128 = .ok (.lreturn, 1) := by decide +kernel
theorem dJ9_rint_294c1_0 : decode cJ9_rint_294c1 0 = .ok (.dload_n 0, 1) := by decide +kernel
theorem dJ9_rint_294c1_1 : decode cJ9_rint_294c1 1 = .ok (.invokestatic 59, 3) := by decide +kernel
theorem dJ9_rint_294c1_4 : decode cJ9_rint_294c1 4 = .ok (.dreturn, 1) := by decide +kernel
theorem dJ9_abs_294c1_0 : decode cJ9_abs_294c1 0 = .ok (.dload_n 0, 1) := by decide +kernel
theorem dJ9_abs_294c1_1 : decode cJ9_abs_294c1 1 = .ok (.invokestatic 79, 3) := by decide +kernel
theorem dJ9_abs_294c1_4 : decode cJ9_abs_294c1 4 = .ok (.ldc2_w 135, 3) := by decide +kernel
theorem dJ9_abs_294c1_7 : decode cJ9_abs_294c1 7 = .ok (.land, 1) := by decide +kernel
theorem dJ9_abs_294c1_8 : decode cJ9_abs_294c1 8 = .ok (.invokestatic 166, 3) := by decide +kernel
theorem dJ9_abs_294c1_11 : decode cJ9_abs_294c1 11 = .ok (.dreturn, 1) := by decide +kernel
theorem dJ9_min_7cf53_0 : decode cJ9_min_7cf53 0 = .ok (.iload_n 0, 1) := by decide +kernel
theorem dJ9_min_7cf53_1 : decode cJ9_min_7cf53 1 = .ok (.iload_n 1, 1) := by decide +kernel
theorem dJ9_min_7cf53_2 : decode cJ9_min_7cf53 2 = .ok (.if_icmp .gt 7, 3) := by decide +kernel
theorem dJ9_min_7cf53_5 : decode cJ9_min_7cf53 5 = .ok (.iload_n 0, 1) := by decide +kernel
theorem dJ9_min_7cf53_6 : decode cJ9_min_7cf53 6 = .ok (.goto 4, 3) := by decide +kernel
theorem dJ9_min_7cf53_9 : decode cJ9_min_7cf53 9 = .ok (.iload_n 1, 1) := by decide +kernel
theorem dJ9_min_7cf53_10 : decode cJ9_min_7cf53 10 = .ok (.ireturn, 1) := by decide +kernel
theorem dJ9_min_eb370_0 : decode cJ9_min_eb370 0 = .ok (.dload_n 0, 1) := by decide +kernel
theorem dJ9_min_eb370_1 : decode cJ9_min_eb370 1 = .ok (.dload_n 0, 1) := by decide +kernel
theorem dJ9_min_eb370_2 : decode cJ9_min_eb370 2 = .ok (.dcmp .l, 1) := by decide +kernel
theorem dJ9_min_eb370_3 : decode cJ9_min_eb370 3 = .ok (.ifCond .eq 5, 3) := by decide +kernel
theorem dJ9_min_eb370_6 : decode cJ9_min_eb370 6 = .ok (.dload_n 0, 1) := by decide +kernel
theorem dJ9_min_eb370_7 : decode cJ9_min_eb370 7 = .ok (.dreturn, 1) := by decide +kernel
theorem dJ9_min_eb370_8 : decode cJ9_min_eb370 8 = .ok (.dload_n 0, 1) := by decide +kernel
theorem dJ9_min_eb370_9 : decode cJ9_min_eb370 9 = .ok (.dconst 0, 1) := by decide +kernel
theorem dJ9_min_eb370_10 : decode cJ9_min_eb370 10 = .ok (.dcmp .l, 1) := by decide +kernel
theorem dJ9_min_eb370_11 : decode cJ9_min_eb370 11 = .ok (.ifCond .ne 22, 3) := by decide +kernel
theorem dJ9_min_eb370_14 : decode cJ9_min_eb370 14 = .ok (.dload_n 2, 1) := by decide +kernel
theorem dJ9_min_eb370_15 : decode cJ9_min_eb370 15 = .ok (.dconst 0, 1) := by decide +kernel
theorem dJ9_min_eb370_16 : decode cJ9_min_eb370 16 = .ok (.dcmp .l, 1) := by decide +kernel
theorem dJ9_min_eb370_17 : decode cJ9_min_eb370 17 = .ok (.ifCond .ne 16, 3) := by decide +kernel
theorem dJ9_min_eb370_20 : decode cJ9_min_eb370 20 = .ok (.dload_n 2, 1) := by decide +kernel
theorem dJ9_min_eb370_21 : decode cJ9_min_eb370 21 = .ok (.invokestatic 79, 3) := by decide +kernel
theorem dJ9_min_eb370_24 : decode cJ9_min_eb370 24 = .ok (.getstatic 174, 3) := by decide +kernel
theorem dJ9_min_eb370_27 : decode cJ9_min_eb370 27 = .ok (.lcmp, 1) := by decide +kernel
theorem dJ9_min_eb370_28 : decode cJ9_min_eb370 28 = .ok (.ifCond .ne 5, 3) := by decide +kernel
theorem dJ9_min_eb370_31 : decode cJ9_min_eb370 31 = .ok (.dload_n 2, 1) := by decide +kernel
theorem dJ9_min_eb370_32 : decode cJ9_min_eb370 32 = .ok (.dreturn, 1) := by decide +kernel
theorem dJ9_min_eb370_33 : decode cJ9_min_eb370 33 = .ok (.dload_n 0, 1) := by decide +kernel
theorem dJ9_min_eb370_34 : decode cJ9_min_eb370 34 = .ok (.dload_n 2, 1) := by decide +kernel
theorem dJ9_min_eb370_35 : decode cJ9_min_eb370 35 = .ok (.dcmp .g, 1) := by decide +kernel
theorem dJ9_min_eb370_36 : decode cJ9_min_eb370 36 = .ok (.ifCond .gt 7, 3) := by decide +kernel
theorem dJ9_min_eb370_39 : decode cJ9_min_eb370 39 = .ok (.dload_n 0, 1) := by decide +kernel
theorem dJ9_min_eb370_40 : decode cJ9_min_eb370 40 = .ok (.goto 4, 3) := by decide +kernel
theorem dJ9_min_eb370_43 : decode cJ9_min_eb370 43 = .ok (.dload_n 2, 1) := by decide +kernel
theorem dJ9_min_eb370_44 : decode cJ9_min_eb370 44 = .ok (.dreturn, 1) := by decide +kernel
theorem dJ9_copySign_eb370_0 : decode cJ9_copySign_eb370 0 = .ok (.dload_n 2, 1) := by decide +kernel
theorem dJ9_copySign_eb370_1 : decode cJ9_copySign_eb370 1 = .ok (.invokestatic 79, 3) := by decide +kernel
theorem dJ9_copySign_eb370_4 : decode cJ9_copySign_eb370 4 = .ok (.ldc2_w 128, 3) := by decide +kernel
theorem dJ9_copySign_eb370_7 : decode cJ9_copySign_eb370 7 = .ok (.land, 1) := by decide +kernel
theorem dJ9_copySign_eb370_8 : decode cJ9_copySign_eb370 8 = .ok (.dload_n 0, 1) := by decide +kernel
theorem dJ9_copySign_eb370_9 : decode cJ9_copySign_eb370 9 = .ok (.invokestatic 79, 3) := by decide +kernel
theorem dJ9_copySign_eb370_12 : decode cJ9_copySign_eb370 12 = .ok (.ldc2_w 135, 3) := by decide +kernel
theorem dJ9_copySign_eb370_15 : decode cJ9_copySign_eb370 15 = .ok (.land, 1) := by decide +kernel
theorem dJ9_copySign_eb370_16 : decode cJ9_copySign_eb370 16 = .ok (.lor, 1) := by decide +kernel
theorem dJ9_copySign_eb370_17 : decode cJ9_copySign_eb370 17 = .ok (.invokestatic 166, 3) := by decide +kernel
theorem dJ9_copySign_eb370_20 : decode cJ9_copySign_eb370 20 = .ok (.dreturn, 1) := by decide +kernel
theorem dJxfc994_rint_294c1_0 : decode cJxfc994_rint_294c1 0 = .ok (.ldc2_w 93, 3) := by decide +kernel
theorem dJxfc994_rint_294c1_3 : decode cJxfc994_rint_294c1 3 = .ok (.dstore_n 2, 1) := by decide +kernel
theorem dJxfc994_rint_294c1_4 : decode cJxfc994_rint_294c1 4 = .ok (.dconst 1, 1) := by decide +kernel
theorem dJxfc994_rint_294c1_5 : decode cJxfc994_rint_294c1 5 = .ok (.dload_n 0, 1) := by decide +kernel
theorem dJxfc994_rint_294c1_6 : decode cJxfc994_rint_294c1 6 = .ok (.invokestatic 95, 3) := by decide +kernel
theorem dJxfc994_rint_294c1_9 : decode cJxfc994_rint_294c1 9 = .ok (.dstore 4, 2) := by decide +kernel
theorem dJxfc994_rint_294c1_11 : decode cJxfc994_rint_294c1 11 = .ok (.dload_n 0, 1) := by decide +kernel
theorem dJxfc994_rint_294c1_12 : decode cJxfc994_rint_294c1 12 = .ok (.invokestatic 98, 3) := by decide +kernel
theorem dJxfc994_rint_294c1_15 : decode cJxfc994_rint_294c1 15 = .ok (.dstore_n 0, 1) := by decide +kernel
theorem dJxfc994_rint_294c1_16 : decode cJxfc994_rint_294c1 16 = .ok (.dload_n 0, 1) := by decide +kernel
theorem dJxfc994_rint_294c1_17 : decode cJxfc994_rint_294c1 17 = .ok (.dload_n 2, 1) := by decide +kernel
theorem dJxfc994_rint_294c1_18 : decode cJxfc994_rint_294c1 18 = .ok (.dcmp .g, 1) := by decide +kernel
theorem dJxfc994_rint_294c1_19 : decode cJxfc994_rint_294c1 19 = .ok (.ifCond .ge 9, 3) := by decide +kernel
theorem dJxfc994_rint_294c1_22 : decode cJxfc994_rint_294c1 22 = .ok (.dload_n 2, 1) := by decide +kernel
theorem dJxfc994_rint_294c1_23 : decode cJxfc994_rint_294c1 23 = .ok (.dload_n 0, 1) := by decide +kernel
theorem dJxfc994_rint_294c1_24 : decode cJxfc994_rint_294c1 24 = .ok (.dadd, 1) := by decide +kernel
theorem dJxfc994_rint_294c1_25 : decode cJxfc994_rint_294c1 25 = .ok (.dload_n 2, 1) := by decide +kernel
theorem dJxfc994_rint_294c1_26 : decode cJxfc994_rint_294c1 26 = .ok (.dsub, 1) := by decide +kernel
theorem dJxfc994_rint_294c1_27 : decode cJxfc994_rint_294c1 27 = .ok (.dstore_n 0, 1) := by decide +kernel
theorem dJxfc994_rint_294c1_28 : decode cJxfc994_rint_294c1 28 = .ok (.dload 4, 2) := by decide +kernel
theorem dJxfc994_rint_294c1_30 : decode cJxfc994_rint_294c1 30 = .ok (.dload_n 0, 1) := by decide +kernel
theorem dJxfc994_rint_294c1_31 : decode cJxfc994_rint_294c1 31 = .ok (.dmul, 1) := by decide +kernel
theorem dJxfc994_rint_294c1_32 : decode cJxfc994_rint_294c1 32 = .ok (.dreturn, 1) := by decide +kernel
theorem dJ7_fill_53178_0 : decode cJ7_fill_53178 0 = .ok (.iconst 0, 1) := by decide +kernel
theorem dJ7_fill_53178_1 : decode cJ7_fill_53178 1 = .ok (.istore_n 2, 1) := by decide +kernel
theorem dJ7_fill_53178_2 : decode cJ7_fill_53178 2 = .ok (.aload_n 0, 1) := by decide +kernel
theorem dJ7_fill_53178_3 : decode cJ7_fill_53178 3 = .ok (.arraylength, 1) := by decide +kernel
theorem dJ7_fill_53178_4 : decode cJ7_fill_53178 4 = .ok (.istore_n 3, 1) := by decide +kernel
theorem dJ7_fill_53178_5 : decode cJ7_fill_53178 5 = .ok (.iload_n 2, 1) := by decide +kernel
theorem dJ7_fill_53178_6 : decode cJ7_fill_53178 6 = .ok (.iload_n 3, 1) := by decide +kernel
theorem dJ7_fill_53178_7 : decode cJ7_fill_53178 7 = .ok (.if_icmp .ge 13, 3) := by decide +kernel
theorem dJ7_fill_53178_10 : decode cJ7_fill_53178 10 = .ok (.aload_n 0, 1) := by decide +kernel
theorem dJ7_fill_53178_11 : decode cJ7_fill_53178 11 = .ok (.iload_n 2, 1) := by decide +kernel
theorem dJ7_fill_53178_12 : decode cJ7_fill_53178 12 = .ok (.iload_n 1, 1) := by decide +kernel
theorem dJ7_fill_53178_13 : decode cJ7_fill_53178 13 = .ok (.iastore, 1) := by decide +kernel
theorem dJ7_fill_53178_14 : decode cJ7_fill_53178 14 = .ok (.iinc 2 1, 3) := by decide +kernel
theorem dJ7_fill_53178_17 : decode cJ7_fill_53178 17 = .ok (.goto (-12), 3) := by decide +kernel
theorem dJ7_fill_53178_20 : decode cJ7_fill_53178 20 = .ok (.return_, 1) := by decide +kernel
theorem dL_addNode_0 : decode cL_addNode 0 = .ok (.aload_n 1, 1) := by decide +kernel
theorem dL_addNode_1 : decode cL_addNode 1 = .ok (.iconst 0, 1) := by decide +kernel
theorem dL_addNode_2 : decode cL_addNode 2 = .ok (.aload_n 0, 1) := by decide +kernel
theorem dL_addNode_3 : decode cL_addNode 3 = .ok (.invokevirtual 7, 3) := by decide +kernel
theorem dL_addNode_6 : decode cL_addNode 6 = .ok (.i2l, 1) := by decide +kernel
theorem dL_addNode_7 : decode cL_addNode 7 = .ok (.lastore, 1) := by decide +kernel
theorem dL_addNode_8 : decode cL_addNode 8 = .ok (.goto 6, 3) := by decide +kernel
theorem dL_addNode_11 : decode cL_addNode 11 = .ok (.astore_n 2, 1) := by decide +kernel
theorem dL_addNode_12 : decode cL_addNode 12 = .ok (.iconst 1, 1) := by decide +kernel
theorem dL_addNode_13 : decode cL_addNode 13 = .ok (.ireturn, 1) := by decide +kernel
theorem dL_addNode_14 : decode cL_addNode 14 = .ok (.iconst 0, 1) := by decide +kernel
theorem dL_addNode_15 : decode cL_addNode 15 = .ok (.ireturn, 1) := by decide +kernel
theorem dL_addArc_0 : decode cL_addArc 0 = .ok (.aload 4, 2) := by decide +kernel
theorem dL_addArc_2 : decode cL_addArc 2 = .ok (.iconst 0, 1) := by decide +kernel
theorem dL_addArc_3 : decode cL_addArc 3 = .ok (.aload_n 0, 1) := by decide +kernel
theorem dL_addArc_4 : decode cL_addArc 4 = .ok (.iload_n 1, 1) := by decide +kernel
theorem dL_addArc_5 : decode cL_addArc 5 = .ok (.iload_n 2, 1) := by decide +kernel
theorem dL_addArc_6 : decode cL_addArc 6 = .ok (.iload_n 3, 1) := by decide +kernel
theorem dL_addArc_7 : decode cL_addArc 7 = .ok (.invokevirtual 15, 3) := by decide +kernel
theorem dL_addArc_10 : decode cL_addArc 10 = .ok (.i2l, 1) := by decide +kernel
theorem dL_addArc_11 : decode cL_addArc 11 = .ok (.lastore, 1) := by decide +kernel
theorem dL_addArc_12 : decode cL_addArc 12 = .ok (.goto 15, 3) := by decide +kernel
theorem dL_addArc_15 : decode cL_addArc 15 = .ok (.astore 5, 2) := by decide +kernel
theorem dL_addArc_17 : decode cL_addArc 17 = .ok (.iconst 1, 1) := by decide +kernel
theorem dL_addArc_18 : decode cL_addArc 18 = .ok (.ireturn, 1) := by decide +kernel
theorem dL_addArc_19 : decode cL_addArc 19 = .ok (.astore 5, 2) := by decide +kernel
theorem dL_addArc_21 : decode cL_addArc 21 = .ok (.iconst 2, 1) := by decide +kernel
theorem dL_addArc_22 : decode cL_addArc 22 = .ok (.ireturn, 1) := by decide +kernel
theorem dL_addArc_23 : decode cL_addArc 23 = .ok (.astore 5, 2) := by decide +kernel
theorem dL_addArc_25 : decode cL_addArc 25 = .ok (.iconst 3, 1) := by decide +kernel
theorem dL_addArc_26 : decode cL_addArc 26 = .ok (.ireturn, 1) := by decide +kernel
theorem dL_addArc_27 : decode cL_addArc 27 = .ok (.iconst 0, 1) := by decide +kernel
theorem dL_addArc_28 : decode cL_addArc 28 = .ok (.ireturn, 1) := by decide +kernel
theorem dL_setCapacity_0 : decode cL_setCapacity 0 = .ok (.aload_n 3, 1) := by decide +kernel
theorem dL_setCapacity_1 : decode cL_setCapacity 1 = .ok (.iconst 0, 1) := by decide +kernel
theorem dL_setCapacity_2 : decode cL_setCapacity 2 = .ok (.aload_n 0, 1) := by decide +kernel
theorem dL_setCapacity_3 : decode cL_setCapacity 3 = .ok (.iload_n 1, 1) := by decide +kernel
theorem dL_setCapacity_4 : decode cL_setCapacity 4 = .ok (.iload_n 2, 1) := by decide +kernel
theorem dL_setCapacity_5 : decode cL_setCapacity 5 = .ok (.invokevirtual 23, 3) := by decide +kernel
theorem dL_setCapacity_8 : decode cL_setCapacity 8 = .ok (.i2l, 1) := by decide +kernel
theorem dL_setCapacity_9 : decode cL_setCapacity 9 = .ok (.lastore, 1) := by decide +kernel
theorem dL_setCapacity_10 : decode cL_setCapacity 10 = .ok (.goto 11, 3) := by decide +kernel
theorem dL_setCapacity_13 : decode cL_setCapacity 13 = .ok (.astore 4, 2) := by decide +kernel
theorem dL_setCapacity_15 : decode cL_setCapacity 15 = .ok (.iconst 1, 1) := by decide +kernel
theorem dL_setCapacity_16 : decode cL_setCapacity 16 = .ok (.ireturn, 1) := by decide +kernel
theorem dL_setCapacity_17 : decode cL_setCapacity 17 = .ok (.astore 4, 2) := by decide +kernel
theorem dL_setCapacity_19 : decode cL_setCapacity 19 = .ok (.iconst 2, 1) := by decide +kernel
theorem dL_setCapacity_20 : decode cL_setCapacity 20 = .ok (.ireturn, 1) := by decide +kernel
theorem dL_setCapacity_21 : decode cL_setCapacity 21 = .ok (.iconst 0, 1) := by decide +kernel
theorem dL_setCapacity_22 : decode cL_setCapacity 22 = .ok (.ireturn, 1) := by decide +kernel
theorem dL_scale_0 : decode cL_scale 0 = .ok (.aload 4, 2) := by decide +kernel
theorem dL_scale_2 : decode cL_scale 2 = .ok (.iconst 0, 1) := by decide +kernel
theorem dL_scale_3 : decode cL_scale 3 = .ok (.aload_n 0, 1) := by decide +kernel
theorem dL_scale_4 : decode cL_scale 4 = .ok (.iload_n 1, 1) := by decide +kernel
theorem dL_scale_5 : decode cL_scale 5 = .ok (.dload_n 2, 1) := by decide +kernel
theorem dL_scale_6 : decode cL_scale 6 = .ok (.invokevirtual 27, 3) := by decide +kernel
theorem dL_scale_9 : decode cL_scale 9 = .ok (.i2l, 1) := by decide +kernel
theorem dL_scale_10 : decode cL_scale 10 = .ok (.lastore, 1) := by decide +kernel
theorem dL_scale_11 : decode cL_scale 11 = .ok (.goto 11, 3) := by decide +kernel
theorem dL_scale_14 : decode cL_scale 14 = .ok (.astore 5, 2) := by decide +kernel
theorem dL_scale_16 : decode cL_scale 16 = .ok (.iconst 1, 1) := by decide +kernel
theorem dL_scale_17 : decode cL_scale 17 = .ok (.ireturn, 1) := by decide +kernel
theorem dL_scale_18 : decode cL_scale 18 = .ok (.astore 5, 2) := by decide +kernel
theorem dL_scale_20 : decode cL_scale 20 = .ok (.iconst 2, 1) := by decide +kernel
theorem dL_scale_21 : decode cL_scale 21 = .ok (.ireturn, 1) := by decide +kernel
theorem dL_scale_22 : decode cL_scale 22 = .ok (.iconst 0, 1) := by decide +kernel
theorem dL_scale_23 : decode cL_scale 23 = .ok (.ireturn, 1) := by decide +kernel
theorem dL_setEnds_0 : decode cL_setEnds 0 = .ok (.aload_n 3, 1) := by decide +kernel
theorem dL_setEnds_1 : decode cL_setEnds 1 = .ok (.iconst 0, 1) := by decide +kernel
theorem dL_setEnds_2 : decode cL_setEnds 2 = .ok (.aload_n 0, 1) := by decide +kernel
theorem dL_setEnds_3 : decode cL_setEnds 3 = .ok (.iload_n 1, 1) := by decide +kernel
theorem dL_setEnds_4 : decode cL_setEnds 4 = .ok (.iload_n 2, 1) := by decide +kernel
theorem dL_setEnds_5 : decode cL_setEnds 5 = .ok (.invokevirtual 31, 3) := by decide +kernel
theorem dL_setEnds_8 : decode cL_setEnds 8 = .ok (.ifCond .eq 7, 3) := by decide +kernel
theorem dL_setEnds_11 : decode cL_setEnds 11 = .ok (.lconst 1, 1) := by decide +kernel
theorem dL_setEnds_12 : decode cL_setEnds 12 = .ok (.goto 4, 3) := by decide +kernel
theorem dL_setEnds_15 : decode cL_setEnds 15 = .ok (.lconst 0, 1) := by decide +kernel
theorem dL_setEnds_16 : decode cL_setEnds 16 = .ok (.lastore, 1) := by decide +kernel
theorem dL_setEnds_17 : decode cL_setEnds 17 = .ok (.goto 11, 3) := by decide +kernel
theorem dL_setEnds_20 : decode cL_setEnds 20 = .ok (.astore 4, 2) := by decide +kernel
theorem dL_setEnds_22 : decode cL_setEnds 22 = .ok (.iconst 1, 1) := by decide +kernel
theorem dL_setEnds_23 : decode cL_setEnds 23 = .ok (.ireturn, 1) := by decide +kernel
theorem dL_setEnds_24 : decode cL_setEnds 24 = .ok (.astore 4, 2) := by decide +kernel
theorem dL_setEnds_26 : decode cL_setEnds 26 = .ok (.iconst 2, 1) := by decide +kernel
theorem dL_setEnds_27 : decode cL_setEnds 27 = .ok (.ireturn, 1) := by decide +kernel
theorem dL_setEnds_28 : decode cL_setEnds 28 = .ok (.iconst 0, 1) := by decide +kernel
theorem dL_setEnds_29 : decode cL_setEnds 29 = .ok (.ireturn, 1) := by decide +kernel
theorem dL_capacity_0 : decode cL_capacity 0 = .ok (.aload_n 2, 1) := by decide +kernel
theorem dL_capacity_1 : decode cL_capacity 1 = .ok (.iconst 0, 1) := by decide +kernel
theorem dL_capacity_2 : decode cL_capacity 2 = .ok (.aload_n 0, 1) := by decide +kernel
theorem dL_capacity_3 : decode cL_capacity 3 = .ok (.iload_n 1, 1) := by decide +kernel
theorem dL_capacity_4 : decode cL_capacity 4 = .ok (.invokevirtual 35, 3) := by decide +kernel
theorem dL_capacity_7 : decode cL_capacity 7 = .ok (.i2l, 1) := by decide +kernel
theorem dL_capacity_8 : decode cL_capacity 8 = .ok (.lastore, 1) := by decide +kernel
theorem dL_capacity_9 : decode cL_capacity 9 = .ok (.goto 6, 3) := by decide +kernel
theorem dL_capacity_12 : decode cL_capacity 12 = .ok (.astore_n 3, 1) := by decide +kernel
theorem dL_capacity_13 : decode cL_capacity 13 = .ok (.iconst 1, 1) := by decide +kernel
theorem dL_capacity_14 : decode cL_capacity 14 = .ok (.ireturn, 1) := by decide +kernel
theorem dL_capacity_15 : decode cL_capacity 15 = .ok (.iconst 0, 1) := by decide +kernel
theorem dL_capacity_16 : decode cL_capacity 16 = .ok (.ireturn, 1) := by decide +kernel
theorem dL_maximum_0 : decode cL_maximum 0 = .ok (.aload_n 1, 1) := by decide +kernel
theorem dL_maximum_1 : decode cL_maximum 1 = .ok (.iconst 0, 1) := by decide +kernel
theorem dL_maximum_2 : decode cL_maximum 2 = .ok (.aload_n 0, 1) := by decide +kernel
theorem dL_maximum_3 : decode cL_maximum 3 = .ok (.invokevirtual 39, 3) := by decide +kernel
theorem dL_maximum_6 : decode cL_maximum 6 = .ok (.i2l, 1) := by decide +kernel
theorem dL_maximum_7 : decode cL_maximum 7 = .ok (.lastore, 1) := by decide +kernel
theorem dL_maximum_8 : decode cL_maximum 8 = .ok (.goto 6, 3) := by decide +kernel
theorem dL_maximum_11 : decode cL_maximum 11 = .ok (.astore_n 2, 1) := by decide +kernel
theorem dL_maximum_12 : decode cL_maximum 12 = .ok (.iconst 1, 1) := by decide +kernel
theorem dL_maximum_13 : decode cL_maximum 13 = .ok (.ireturn, 1) := by decide +kernel
theorem dL_maximum_14 : decode cL_maximum 14 = .ok (.iconst 0, 1) := by decide +kernel
theorem dL_maximum_15 : decode cL_maximum 15 = .ok (.ireturn, 1) := by decide +kernel
theorem dL_maximumWith_0 : decode cL_maximumWith 0 = .ok (.aload_n 3, 1) := by decide +kernel
theorem dL_maximumWith_1 : decode cL_maximumWith 1 = .ok (.iconst 0, 1) := by decide +kernel
theorem dL_maximumWith_2 : decode cL_maximumWith 2 = .ok (.aload_n 0, 1) := by decide +kernel
theorem dL_maximumWith_3 : decode cL_maximumWith 3 = .ok (.iload_n 1, 1) := by decide +kernel
theorem dL_maximumWith_4 : decode cL_maximumWith 4 = .ok (.iload_n 2, 1) := by decide +kernel
theorem dL_maximumWith_5 : decode cL_maximumWith 5 = .ok (.invokevirtual 42, 3) := by decide +kernel
theorem dL_maximumWith_8 : decode cL_maximumWith 8 = .ok (.i2l, 1) := by decide +kernel
theorem dL_maximumWith_9 : decode cL_maximumWith 9 = .ok (.lastore, 1) := by decide +kernel
theorem dL_maximumWith_10 : decode cL_maximumWith 10 = .ok (.goto 15, 3) := by decide +kernel
theorem dL_maximumWith_13 : decode cL_maximumWith 13 = .ok (.astore 4, 2) := by decide +kernel
theorem dL_maximumWith_15 : decode cL_maximumWith 15 = .ok (.iconst 1, 1) := by decide +kernel
theorem dL_maximumWith_16 : decode cL_maximumWith 16 = .ok (.ireturn, 1) := by decide +kernel
theorem dL_maximumWith_17 : decode cL_maximumWith 17 = .ok (.astore 4, 2) := by decide +kernel
theorem dL_maximumWith_19 : decode cL_maximumWith 19 = .ok (.iconst 2, 1) := by decide +kernel
theorem dL_maximumWith_20 : decode cL_maximumWith 20 = .ok (.ireturn, 1) := by decide +kernel
theorem dL_maximumWith_21 : decode cL_maximumWith 21 = .ok (.astore 4, 2) := by decide +kernel
theorem dL_maximumWith_23 : decode cL_maximumWith 23 = .ok (.iconst 3, 1) := by decide +kernel
theorem dL_maximumWith_24 : decode cL_maximumWith 24 = .ok (.ireturn, 1) := by decide +kernel
theorem dL_maximumWith_25 : decode cL_maximumWith 25 = .ok (.iconst 0, 1) := by decide +kernel
theorem dL_maximumWith_26 : decode cL_maximumWith 26 = .ok (.ireturn, 1) := by decide +kernel
theorem dL_maximumWithout_0 : decode cL_maximumWithout 0 = .ok (.aload_n 2, 1) := by decide +kernel
theorem dL_maximumWithout_1 : decode cL_maximumWithout 1 = .ok (.iconst 0, 1) := by decide +kernel
theorem dL_maximumWithout_2 : decode cL_maximumWithout 2 = .ok (.aload_n 0, 1) := by decide +kernel
theorem dL_maximumWithout_3 : decode cL_maximumWithout 3 = .ok (.iload_n 1, 1) := by decide +kernel
theorem dL_maximumWithout_4 : decode cL_maximumWithout 4 = .ok (.invokevirtual 45, 3) := by decide +kernel
theorem dL_maximumWithout_7 : decode cL_maximumWithout 7 = .ok (.i2l, 1) := by decide +kernel
theorem dL_maximumWithout_8 : decode cL_maximumWithout 8 = .ok (.lastore, 1) := by decide +kernel
theorem dL_maximumWithout_9 : decode cL_maximumWithout 9 = .ok (.goto 9, 3) := by decide +kernel
theorem dL_maximumWithout_12 : decode cL_maximumWithout 12 = .ok (.astore_n 3, 1) := by decide +kernel
theorem dL_maximumWithout_13 : decode cL_maximumWithout 13 = .ok (.iconst 1, 1) := by decide +kernel
theorem dL_maximumWithout_14 : decode cL_maximumWithout 14 = .ok (.ireturn, 1) := by decide +kernel
theorem dL_maximumWithout_15 : decode cL_maximumWithout 15 = .ok (.astore_n 3, 1) := by decide +kernel
theorem dL_maximumWithout_16 : decode cL_maximumWithout 16 = .ok (.iconst 2, 1) := by decide +kernel
theorem dL_maximumWithout_17 : decode cL_maximumWithout 17 = .ok (.ireturn, 1) := by decide +kernel
theorem dL_maximumWithout_18 : decode cL_maximumWithout 18 = .ok (.iconst 0, 1) := by decide +kernel
theorem dL_maximumWithout_19 : decode cL_maximumWithout 19 = .ok (.ireturn, 1) := by decide +kernel
theorem dL_maximumBetween_0 : decode cL_maximumBetween 0 = .ok (.aload_n 3, 1) := by decide +kernel
theorem dL_maximumBetween_1 : decode cL_maximumBetween 1 = .ok (.iconst 0, 1) := by decide +kernel
theorem dL_maximumBetween_2 : decode cL_maximumBetween 2 = .ok (.aload_n 0, 1) := by decide +kernel
theorem dL_maximumBetween_3 : decode cL_maximumBetween 3 = .ok (.iload_n 1, 1) := by decide +kernel
theorem dL_maximumBetween_4 : decode cL_maximumBetween 4 = .ok (.iload_n 2, 1) := by decide +kernel
theorem dL_maximumBetween_5 : decode cL_maximumBetween 5 = .ok (.invokevirtual 48, 3) := by decide +kernel
theorem dL_maximumBetween_8 : decode cL_maximumBetween 8 = .ok (.i2l, 1) := by decide +kernel
theorem dL_maximumBetween_9 : decode cL_maximumBetween 9 = .ok (.lastore, 1) := by decide +kernel
theorem dL_maximumBetween_10 : decode cL_maximumBetween 10 = .ok (.goto 11, 3) := by decide +kernel
theorem dL_maximumBetween_13 : decode cL_maximumBetween 13 = .ok (.astore 4, 2) := by decide +kernel
theorem dL_maximumBetween_15 : decode cL_maximumBetween 15 = .ok (.iconst 1, 1) := by decide +kernel
theorem dL_maximumBetween_16 : decode cL_maximumBetween 16 = .ok (.ireturn, 1) := by decide +kernel
theorem dL_maximumBetween_17 : decode cL_maximumBetween 17 = .ok (.astore 4, 2) := by decide +kernel
theorem dL_maximumBetween_19 : decode cL_maximumBetween 19 = .ok (.iconst 2, 1) := by decide +kernel
theorem dL_maximumBetween_20 : decode cL_maximumBetween 20 = .ok (.ireturn, 1) := by decide +kernel
theorem dL_maximumBetween_21 : decode cL_maximumBetween 21 = .ok (.iconst 0, 1) := by decide +kernel
theorem dL_maximumBetween_22 : decode cL_maximumBetween 22 = .ok (.ireturn, 1) := by decide +kernel
theorem dL_utilization_0 : decode cL_utilization 0 = .ok (.aload_n 1, 1) := by decide +kernel
theorem dL_utilization_1 : decode cL_utilization 1 = .ok (.iconst 0, 1) := by decide +kernel
theorem dL_utilization_2 : decode cL_utilization 2 = .ok (.aload_n 0, 1) := by decide +kernel
theorem dL_utilization_3 : decode cL_utilization 3 = .ok (.invokevirtual 51, 3) := by decide +kernel
theorem dL_utilization_6 : decode cL_utilization 6 = .ok (.dastore, 1) := by decide +kernel
theorem dL_utilization_7 : decode cL_utilization 7 = .ok (.goto 6, 3) := by decide +kernel
theorem dL_utilization_10 : decode cL_utilization 10 = .ok (.astore_n 2, 1) := by decide +kernel
theorem dL_utilization_11 : decode cL_utilization 11 = .ok (.iconst 1, 1) := by decide +kernel
theorem dL_utilization_12 : decode cL_utilization 12 = .ok (.ireturn, 1) := by decide +kernel
theorem dL_utilization_13 : decode cL_utilization 13 = .ok (.iconst 0, 1) := by decide +kernel
theorem dL_utilization_14 : decode cL_utilization 14 = .ok (.ireturn, 1) := by decide +kernel
theorem dL_leastFlow_0 : decode cL_leastFlow 0 = .ok (.aload_n 2, 1) := by decide +kernel
theorem dL_leastFlow_1 : decode cL_leastFlow 1 = .ok (.iconst 0, 1) := by decide +kernel
theorem dL_leastFlow_2 : decode cL_leastFlow 2 = .ok (.aload_n 0, 1) := by decide +kernel
theorem dL_leastFlow_3 : decode cL_leastFlow 3 = .ok (.iload_n 1, 1) := by decide +kernel
theorem dL_leastFlow_4 : decode cL_leastFlow 4 = .ok (.invokevirtual 55, 3) := by decide +kernel
theorem dL_leastFlow_7 : decode cL_leastFlow 7 = .ok (.i2l, 1) := by decide +kernel
theorem dL_leastFlow_8 : decode cL_leastFlow 8 = .ok (.lastore, 1) := by decide +kernel
theorem dL_leastFlow_9 : decode cL_leastFlow 9 = .ok (.goto 9, 3) := by decide +kernel
theorem dL_leastFlow_12 : decode cL_leastFlow 12 = .ok (.astore_n 3, 1) := by decide +kernel
theorem dL_leastFlow_13 : decode cL_leastFlow 13 = .ok (.iconst 1, 1) := by decide +kernel
theorem dL_leastFlow_14 : decode cL_leastFlow 14 = .ok (.ireturn, 1) := by decide +kernel
theorem dL_leastFlow_15 : decode cL_leastFlow 15 = .ok (.astore_n 3, 1) := by decide +kernel
theorem dL_leastFlow_16 : decode cL_leastFlow 16 = .ok (.iconst 2, 1) := by decide +kernel
theorem dL_leastFlow_17 : decode cL_leastFlow 17 = .ok (.ireturn, 1) := by decide +kernel
theorem dL_leastFlow_18 : decode cL_leastFlow 18 = .ok (.iconst 0, 1) := by decide +kernel
theorem dL_leastFlow_19 : decode cL_leastFlow 19 = .ok (.ireturn, 1) := by decide +kernel
theorem dL_greatestFlow_0 : decode cL_greatestFlow 0 = .ok (.aload_n 2, 1) := by decide +kernel
theorem dL_greatestFlow_1 : decode cL_greatestFlow 1 = .ok (.iconst 0, 1) := by decide +kernel
theorem dL_greatestFlow_2 : decode cL_greatestFlow 2 = .ok (.aload_n 0, 1) := by decide +kernel
theorem dL_greatestFlow_3 : decode cL_greatestFlow 3 = .ok (.iload_n 1, 1) := by decide +kernel
theorem dL_greatestFlow_4 : decode cL_greatestFlow 4 = .ok (.invokevirtual 58, 3) := by decide +kernel
theorem dL_greatestFlow_7 : decode cL_greatestFlow 7 = .ok (.i2l, 1) := by decide +kernel
theorem dL_greatestFlow_8 : decode cL_greatestFlow 8 = .ok (.lastore, 1) := by decide +kernel
theorem dL_greatestFlow_9 : decode cL_greatestFlow 9 = .ok (.goto 9, 3) := by decide +kernel
theorem dL_greatestFlow_12 : decode cL_greatestFlow 12 = .ok (.astore_n 3, 1) := by decide +kernel
theorem dL_greatestFlow_13 : decode cL_greatestFlow 13 = .ok (.iconst 1, 1) := by decide +kernel
theorem dL_greatestFlow_14 : decode cL_greatestFlow 14 = .ok (.ireturn, 1) := by decide +kernel
theorem dL_greatestFlow_15 : decode cL_greatestFlow 15 = .ok (.astore_n 3, 1) := by decide +kernel
theorem dL_greatestFlow_16 : decode cL_greatestFlow 16 = .ok (.iconst 2, 1) := by decide +kernel
theorem dL_greatestFlow_17 : decode cL_greatestFlow 17 = .ok (.ireturn, 1) := by decide +kernel
theorem dL_greatestFlow_18 : decode cL_greatestFlow 18 = .ok (.iconst 0, 1) := by decide +kernel
theorem dL_greatestFlow_19 : decode cL_greatestFlow 19 = .ok (.ireturn, 1) := by decide +kernel
theorem dL_cutCapacity_0 : decode cL_cutCapacity 0 = .ok (.aload_n 2, 1) := by decide +kernel
theorem dL_cutCapacity_1 : decode cL_cutCapacity 1 = .ok (.iconst 0, 1) := by decide +kernel
theorem dL_cutCapacity_2 : decode cL_cutCapacity 2 = .ok (.aload_n 0, 1) := by decide +kernel
theorem dL_cutCapacity_3 : decode cL_cutCapacity 3 = .ok (.iload_n 1, 1) := by decide +kernel
theorem dL_cutCapacity_4 : decode cL_cutCapacity 4 = .ok (.invokevirtual 61, 3) := by decide +kernel
theorem dL_cutCapacity_7 : decode cL_cutCapacity 7 = .ok (.i2l, 1) := by decide +kernel
theorem dL_cutCapacity_8 : decode cL_cutCapacity 8 = .ok (.lastore, 1) := by decide +kernel
theorem dL_cutCapacity_9 : decode cL_cutCapacity 9 = .ok (.goto 9, 3) := by decide +kernel
theorem dL_cutCapacity_12 : decode cL_cutCapacity 12 = .ok (.astore_n 3, 1) := by decide +kernel
theorem dL_cutCapacity_13 : decode cL_cutCapacity 13 = .ok (.iconst 1, 1) := by decide +kernel
theorem dL_cutCapacity_14 : decode cL_cutCapacity 14 = .ok (.ireturn, 1) := by decide +kernel
theorem dL_cutCapacity_15 : decode cL_cutCapacity 15 = .ok (.astore_n 3, 1) := by decide +kernel
theorem dL_cutCapacity_16 : decode cL_cutCapacity 16 = .ok (.iconst 2, 1) := by decide +kernel
theorem dL_cutCapacity_17 : decode cL_cutCapacity 17 = .ok (.ireturn, 1) := by decide +kernel
theorem dL_cutCapacity_18 : decode cL_cutCapacity 18 = .ok (.iconst 0, 1) := by decide +kernel
theorem dL_cutCapacity_19 : decode cL_cutCapacity 19 = .ok (.ireturn, 1) := by decide +kernel
theorem dL_smallestCut_0 : decode cL_smallestCut 0 = .ok (.aload_n 1, 1) := by decide +kernel
theorem dL_smallestCut_1 : decode cL_smallestCut 1 = .ok (.iconst 0, 1) := by decide +kernel
theorem dL_smallestCut_2 : decode cL_smallestCut 2 = .ok (.aload_n 0, 1) := by decide +kernel
theorem dL_smallestCut_3 : decode cL_smallestCut 3 = .ok (.invokevirtual 64, 3) := by decide +kernel
theorem dL_smallestCut_6 : decode cL_smallestCut 6 = .ok (.i2l, 1) := by decide +kernel
theorem dL_smallestCut_7 : decode cL_smallestCut 7 = .ok (.lastore, 1) := by decide +kernel
theorem dL_smallestCut_8 : decode cL_smallestCut 8 = .ok (.goto 6, 3) := by decide +kernel
theorem dL_smallestCut_11 : decode cL_smallestCut 11 = .ok (.astore_n 2, 1) := by decide +kernel
theorem dL_smallestCut_12 : decode cL_smallestCut 12 = .ok (.iconst 1, 1) := by decide +kernel
theorem dL_smallestCut_13 : decode cL_smallestCut 13 = .ok (.ireturn, 1) := by decide +kernel
theorem dL_smallestCut_14 : decode cL_smallestCut 14 = .ok (.iconst 0, 1) := by decide +kernel
theorem dL_smallestCut_15 : decode cL_smallestCut 15 = .ok (.ireturn, 1) := by decide +kernel
theorem dL_greatestCut_0 : decode cL_greatestCut 0 = .ok (.aload_n 1, 1) := by decide +kernel
theorem dL_greatestCut_1 : decode cL_greatestCut 1 = .ok (.iconst 0, 1) := by decide +kernel
theorem dL_greatestCut_2 : decode cL_greatestCut 2 = .ok (.aload_n 0, 1) := by decide +kernel
theorem dL_greatestCut_3 : decode cL_greatestCut 3 = .ok (.invokevirtual 67, 3) := by decide +kernel
theorem dL_greatestCut_6 : decode cL_greatestCut 6 = .ok (.i2l, 1) := by decide +kernel
theorem dL_greatestCut_7 : decode cL_greatestCut 7 = .ok (.lastore, 1) := by decide +kernel
theorem dL_greatestCut_8 : decode cL_greatestCut 8 = .ok (.goto 6, 3) := by decide +kernel
theorem dL_greatestCut_11 : decode cL_greatestCut 11 = .ok (.astore_n 2, 1) := by decide +kernel
theorem dL_greatestCut_12 : decode cL_greatestCut 12 = .ok (.iconst 1, 1) := by decide +kernel
theorem dL_greatestCut_13 : decode cL_greatestCut 13 = .ok (.ireturn, 1) := by decide +kernel
theorem dL_greatestCut_14 : decode cL_greatestCut 14 = .ok (.iconst 0, 1) := by decide +kernel
theorem dL_greatestCut_15 : decode cL_greatestCut 15 = .ok (.ireturn, 1) := by decide +kernel
theorem dL_findCuts_0 : decode cL_findCuts 0 = .ok (.aload_n 1, 1) := by decide +kernel
theorem dL_findCuts_1 : decode cL_findCuts 1 = .ok (.iconst 0, 1) := by decide +kernel
theorem dL_findCuts_2 : decode cL_findCuts 2 = .ok (.aload_n 0, 1) := by decide +kernel
theorem dL_findCuts_3 : decode cL_findCuts 3 = .ok (.invokevirtual 70, 3) := by decide +kernel
theorem dL_findCuts_6 : decode cL_findCuts 6 = .ok (.i2l, 1) := by decide +kernel
theorem dL_findCuts_7 : decode cL_findCuts 7 = .ok (.lastore, 1) := by decide +kernel
theorem dL_findCuts_8 : decode cL_findCuts 8 = .ok (.goto 6, 3) := by decide +kernel
theorem dL_findCuts_11 : decode cL_findCuts 11 = .ok (.astore_n 2, 1) := by decide +kernel
theorem dL_findCuts_12 : decode cL_findCuts 12 = .ok (.iconst 1, 1) := by decide +kernel
theorem dL_findCuts_13 : decode cL_findCuts 13 = .ok (.ireturn, 1) := by decide +kernel
theorem dL_findCuts_14 : decode cL_findCuts 14 = .ok (.iconst 0, 1) := by decide +kernel
theorem dL_findCuts_15 : decode cL_findCuts 15 = .ok (.ireturn, 1) := by decide +kernel
theorem dL_cut_0 : decode cL_cut 0 = .ok (.aload_n 2, 1) := by decide +kernel
theorem dL_cut_1 : decode cL_cut 1 = .ok (.iconst 0, 1) := by decide +kernel
theorem dL_cut_2 : decode cL_cut 2 = .ok (.aload_n 0, 1) := by decide +kernel
theorem dL_cut_3 : decode cL_cut 3 = .ok (.iload_n 1, 1) := by decide +kernel
theorem dL_cut_4 : decode cL_cut 4 = .ok (.invokevirtual 73, 3) := by decide +kernel
theorem dL_cut_7 : decode cL_cut 7 = .ok (.i2l, 1) := by decide +kernel
theorem dL_cut_8 : decode cL_cut 8 = .ok (.lastore, 1) := by decide +kernel
theorem dL_cut_9 : decode cL_cut 9 = .ok (.goto 6, 3) := by decide +kernel
theorem dL_cut_12 : decode cL_cut 12 = .ok (.astore_n 3, 1) := by decide +kernel
theorem dL_cut_13 : decode cL_cut 13 = .ok (.iconst 1, 1) := by decide +kernel
theorem dL_cut_14 : decode cL_cut 14 = .ok (.ireturn, 1) := by decide +kernel
theorem dL_cut_15 : decode cL_cut 15 = .ok (.iconst 0, 1) := by decide +kernel
theorem dL_cut_16 : decode cL_cut 16 = .ok (.ireturn, 1) := by decide +kernel
theorem dL_isBottleneck_0 : decode cL_isBottleneck 0 = .ok (.aload_n 2, 1) := by decide +kernel
theorem dL_isBottleneck_1 : decode cL_isBottleneck 1 = .ok (.iconst 0, 1) := by decide +kernel
theorem dL_isBottleneck_2 : decode cL_isBottleneck 2 = .ok (.aload_n 0, 1) := by decide +kernel
theorem dL_isBottleneck_3 : decode cL_isBottleneck 3 = .ok (.iload_n 1, 1) := by decide +kernel
theorem dL_isBottleneck_4 : decode cL_isBottleneck 4 = .ok (.invokevirtual 76, 3) := by decide +kernel
theorem dL_isBottleneck_7 : decode cL_isBottleneck 7 = .ok (.ifCond .eq 7, 3) := by decide +kernel
theorem dL_isBottleneck_10 : decode cL_isBottleneck 10 = .ok (.lconst 1, 1) := by decide +kernel
theorem dL_isBottleneck_11 : decode cL_isBottleneck 11 = .ok (.goto 4, 3) := by decide +kernel
theorem dL_isBottleneck_14 : decode cL_isBottleneck 14 = .ok (.lconst 0, 1) := by decide +kernel
theorem dL_isBottleneck_15 : decode cL_isBottleneck 15 = .ok (.lastore, 1) := by decide +kernel
theorem dL_isBottleneck_16 : decode cL_isBottleneck 16 = .ok (.goto 9, 3) := by decide +kernel
theorem dL_isBottleneck_19 : decode cL_isBottleneck 19 = .ok (.astore_n 3, 1) := by decide +kernel
theorem dL_isBottleneck_20 : decode cL_isBottleneck 20 = .ok (.iconst 1, 1) := by decide +kernel
theorem dL_isBottleneck_21 : decode cL_isBottleneck 21 = .ok (.ireturn, 1) := by decide +kernel
theorem dL_isBottleneck_22 : decode cL_isBottleneck 22 = .ok (.astore_n 3, 1) := by decide +kernel
theorem dL_isBottleneck_23 : decode cL_isBottleneck 23 = .ok (.iconst 2, 1) := by decide +kernel
theorem dL_isBottleneck_24 : decode cL_isBottleneck 24 = .ok (.ireturn, 1) := by decide +kernel
theorem dL_isBottleneck_25 : decode cL_isBottleneck 25 = .ok (.iconst 0, 1) := by decide +kernel
theorem dL_isBottleneck_26 : decode cL_isBottleneck 26 = .ok (.ireturn, 1) := by decide +kernel
theorem dL_isLimiting_0 : decode cL_isLimiting 0 = .ok (.aload_n 2, 1) := by decide +kernel
theorem dL_isLimiting_1 : decode cL_isLimiting 1 = .ok (.iconst 0, 1) := by decide +kernel
theorem dL_isLimiting_2 : decode cL_isLimiting 2 = .ok (.aload_n 0, 1) := by decide +kernel
theorem dL_isLimiting_3 : decode cL_isLimiting 3 = .ok (.iload_n 1, 1) := by decide +kernel
theorem dL_isLimiting_4 : decode cL_isLimiting 4 = .ok (.invokevirtual 80, 3) := by decide +kernel
theorem dL_isLimiting_7 : decode cL_isLimiting 7 = .ok (.ifCond .eq 7, 3) := by decide +kernel
theorem dL_isLimiting_10 : decode cL_isLimiting 10 = .ok (.lconst 1, 1) := by decide +kernel
theorem dL_isLimiting_11 : decode cL_isLimiting 11 = .ok (.goto 4, 3) := by decide +kernel
theorem dL_isLimiting_14 : decode cL_isLimiting 14 = .ok (.lconst 0, 1) := by decide +kernel
theorem dL_isLimiting_15 : decode cL_isLimiting 15 = .ok (.lastore, 1) := by decide +kernel
theorem dL_isLimiting_16 : decode cL_isLimiting 16 = .ok (.goto 9, 3) := by decide +kernel
theorem dL_isLimiting_19 : decode cL_isLimiting 19 = .ok (.astore_n 3, 1) := by decide +kernel
theorem dL_isLimiting_20 : decode cL_isLimiting 20 = .ok (.iconst 1, 1) := by decide +kernel
theorem dL_isLimiting_21 : decode cL_isLimiting 21 = .ok (.ireturn, 1) := by decide +kernel
theorem dL_isLimiting_22 : decode cL_isLimiting 22 = .ok (.astore_n 3, 1) := by decide +kernel
theorem dL_isLimiting_23 : decode cL_isLimiting 23 = .ok (.iconst 2, 1) := by decide +kernel
theorem dL_isLimiting_24 : decode cL_isLimiting 24 = .ok (.ireturn, 1) := by decide +kernel
theorem dL_isLimiting_25 : decode cL_isLimiting 25 = .ok (.iconst 0, 1) := by decide +kernel
theorem dL_isLimiting_26 : decode cL_isLimiting 26 = .ok (.ireturn, 1) := by decide +kernel
theorem dL_headroom_0 : decode cL_headroom 0 = .ok (.aload_n 2, 1) := by decide +kernel
theorem dL_headroom_1 : decode cL_headroom 1 = .ok (.iconst 0, 1) := by decide +kernel
theorem dL_headroom_2 : decode cL_headroom 2 = .ok (.aload_n 0, 1) := by decide +kernel
theorem dL_headroom_3 : decode cL_headroom 3 = .ok (.iload_n 1, 1) := by decide +kernel
theorem dL_headroom_4 : decode cL_headroom 4 = .ok (.invokevirtual 83, 3) := by decide +kernel
theorem dL_headroom_7 : decode cL_headroom 7 = .ok (.i2l, 1) := by decide +kernel
theorem dL_headroom_8 : decode cL_headroom 8 = .ok (.lastore, 1) := by decide +kernel
theorem dL_headroom_9 : decode cL_headroom 9 = .ok (.goto 9, 3) := by decide +kernel
theorem dL_headroom_12 : decode cL_headroom 12 = .ok (.astore_n 3, 1) := by decide +kernel
theorem dL_headroom_13 : decode cL_headroom 13 = .ok (.iconst 1, 1) := by decide +kernel
theorem dL_headroom_14 : decode cL_headroom 14 = .ok (.ireturn, 1) := by decide +kernel
theorem dL_headroom_15 : decode cL_headroom 15 = .ok (.astore_n 3, 1) := by decide +kernel
theorem dL_headroom_16 : decode cL_headroom 16 = .ok (.iconst 2, 1) := by decide +kernel
theorem dL_headroom_17 : decode cL_headroom 17 = .ok (.ireturn, 1) := by decide +kernel
theorem dL_headroom_18 : decode cL_headroom 18 = .ok (.iconst 0, 1) := by decide +kernel
theorem dL_headroom_19 : decode cL_headroom 19 = .ok (.ireturn, 1) := by decide +kernel
theorem dL_push_0 : decode cL_push 0 = .ok (.aload_n 1, 1) := by decide +kernel
theorem dL_push_1 : decode cL_push 1 = .ok (.iconst 0, 1) := by decide +kernel
theorem dL_push_2 : decode cL_push 2 = .ok (.aload_n 0, 1) := by decide +kernel
theorem dL_push_3 : decode cL_push 3 = .ok (.invokevirtual 86, 3) := by decide +kernel
theorem dL_push_6 : decode cL_push 6 = .ok (.i2l, 1) := by decide +kernel
theorem dL_push_7 : decode cL_push 7 = .ok (.lastore, 1) := by decide +kernel
theorem dL_push_8 : decode cL_push 8 = .ok (.goto 6, 3) := by decide +kernel
theorem dL_push_11 : decode cL_push 11 = .ok (.astore_n 2, 1) := by decide +kernel
theorem dL_push_12 : decode cL_push 12 = .ok (.iconst 1, 1) := by decide +kernel
theorem dL_push_13 : decode cL_push 13 = .ok (.ireturn, 1) := by decide +kernel
theorem dL_push_14 : decode cL_push 14 = .ok (.iconst 0, 1) := by decide +kernel
theorem dL_push_15 : decode cL_push 15 = .ok (.ireturn, 1) := by decide +kernel
theorem dL_pop_0 : decode cL_pop 0 = .ok (.aload_n 1, 1) := by decide +kernel
theorem dL_pop_1 : decode cL_pop 1 = .ok (.iconst 0, 1) := by decide +kernel
theorem dL_pop_2 : decode cL_pop 2 = .ok (.aload_n 0, 1) := by decide +kernel
theorem dL_pop_3 : decode cL_pop 3 = .ok (.invokevirtual 89, 3) := by decide +kernel
theorem dL_pop_6 : decode cL_pop 6 = .ok (.i2l, 1) := by decide +kernel
theorem dL_pop_7 : decode cL_pop 7 = .ok (.lastore, 1) := by decide +kernel
theorem dL_pop_8 : decode cL_pop 8 = .ok (.goto 6, 3) := by decide +kernel
theorem dL_pop_11 : decode cL_pop 11 = .ok (.astore_n 2, 1) := by decide +kernel
theorem dL_pop_12 : decode cL_pop 12 = .ok (.iconst 1, 1) := by decide +kernel
theorem dL_pop_13 : decode cL_pop 13 = .ok (.ireturn, 1) := by decide +kernel
theorem dL_pop_14 : decode cL_pop 14 = .ok (.iconst 0, 1) := by decide +kernel
theorem dL_pop_15 : decode cL_pop 15 = .ok (.ireturn, 1) := by decide +kernel
theorem dL_law_0 : decode cL_law 0 = .ok (.new 8, 3) := by decide +kernel
theorem dL_law_3 : decode cL_law 3 = .ok (.dup, 1) := by decide +kernel
theorem dL_law_4 : decode cL_law 4 = .ok (.invokespecial 92, 3) := by decide +kernel
theorem dL_law_7 : decode cL_law 7 = .ok (.astore_n 1, 1) := by decide +kernel
theorem dL_law_8 : decode cL_law 8 = .ok (.new 93, 3) := by decide +kernel
theorem dL_law_11 : decode cL_law 11 = .ok (.dup, 1) := by decide +kernel
theorem dL_law_12 : decode cL_law 12 = .ok (.invokespecial 95, 3) := by decide +kernel
theorem dL_law_15 : decode cL_law 15 = .ok (.astore_n 2, 1) := by decide +kernel
theorem dL_law_16 : decode cL_law 16 = .ok (.iconst 1, 1) := by decide +kernel
theorem dL_law_17 : decode cL_law 17 = .ok (.newarray .long, 2) := by decide +kernel
theorem dL_law_19 : decode cL_law 19 = .ok (.astore_n 3, 1) := by decide +kernel
theorem dL_law_20 : decode cL_law 20 = .ok (.iconst 1, 1) := by decide +kernel
theorem dL_law_21 : decode cL_law 21 = .ok (.newarray .double, 2) := by decide +kernel
theorem dL_law_23 : decode cL_law 23 = .ok (.astore 4, 2) := by decide +kernel
theorem dL_law_25 : decode cL_law 25 = .ok (.iconst 0, 1) := by decide +kernel
theorem dL_law_26 : decode cL_law 26 = .ok (.istore 5, 2) := by decide +kernel
theorem dL_law_28 : decode cL_law 28 = .ok (.iload 5, 2) := by decide +kernel
theorem dL_law_30 : decode cL_law 30 = .ok (.aload_n 0, 1) := by decide +kernel
theorem dL_law_31 : decode cL_law 31 = .ok (.arraylength, 1) := by decide +kernel
theorem dL_law_32 : decode cL_law 32 = .ok (.iconst 4, 1) := by decide +kernel
theorem dL_law_33 : decode cL_law 33 = .ok (.isub, 1) := by decide +kernel
theorem dL_law_34 : decode cL_law 34 = .ok (.if_icmp .gt 1504, 3) := by decide +kernel
theorem dL_law_37 : decode cL_law 37 = .ok (.aload_n 0, 1) := by decide +kernel
theorem dL_law_38 : decode cL_law 38 = .ok (.iload 5, 2) := by decide +kernel
theorem dL_law_40 : decode cL_law 40 = .ok (.iaload, 1) := by decide +kernel
theorem dL_law_41 : decode cL_law 41 = .ok (.bipush 31, 2) := by decide +kernel
theorem dL_law_43 : decode cL_law 43 = .ok (.iand, 1) := by decide +kernel
theorem dL_law_44 : decode cL_law 44 = .ok (.tableswitch 1488 0 25 #[120, 164, 244, 312, 390, 465, 478, 491, 547, 591, 659, 715, 783, 848, 904, 960, 1016, 1060, 1104, 1148, 1204, 1267, 1330, 1386, 1430, 1474], 120) := by decide +kernel
theorem dL_law_164 : decode cL_law 164 = .ok (.aload_n 1, 1) := by decide +kernel
theorem dL_law_165 : decode cL_law 165 = .ok (.aload_n 3, 1) := by decide +kernel
theorem dL_law_166 : decode cL_law 166 = .ok (.invokestatic 96, 3) := by decide +kernel
theorem dL_law_169 : decode cL_law 169 = .ok (.istore 6, 2) := by decide +kernel
theorem dL_law_171 : decode cL_law 171 = .ok (.aload_n 2, 1) := by decide +kernel
theorem dL_law_172 : decode cL_law 172 = .ok (.invokevirtual 101, 3) := by decide +kernel
theorem dL_law_175 : decode cL_law 175 = .ok (.istore 7, 2) := by decide +kernel
theorem dL_law_177 : decode cL_law 177 = .ok (.aload_n 2, 1) := by decide +kernel
theorem dL_law_178 : decode cL_law 178 = .ok (.invokevirtual 102, 3) := by decide +kernel
theorem dL_law_181 : decode cL_law 181 = .ok (.iload 6, 2) := by decide +kernel
theorem dL_law_183 : decode cL_law 183 = .ok (.if_icmp .eq 5, 3) := by decide +kernel
theorem dL_law_186 : decode cL_law 186 = .ok (.iconst 0, 1) := by decide +kernel
theorem dL_law_187 : decode cL_law 187 = .ok (.ireturn, 1) := by decide +kernel
theorem dL_law_188 : decode cL_law 188 = .ok (.iload 6, 2) := by decide +kernel
theorem dL_law_190 : decode cL_law 190 = .ok (.ifCond .ne 15, 3) := by decide +kernel
theorem dL_law_193 : decode cL_law 193 = .ok (.aload_n 3, 1) := by decide +kernel
theorem dL_law_194 : decode cL_law 194 = .ok (.iconst 0, 1) := by decide +kernel
theorem dL_law_195 : decode cL_law 195 = .ok (.laload, 1) := by decide +kernel
theorem dL_law_196 : decode cL_law 196 = .ok (.iload 7, 2) := by decide +kernel
theorem dL_law_198 : decode cL_law 198 = .ok (.i2l, 1) := by decide +kernel
theorem dL_law_199 : decode cL_law 199 = .ok (.lcmp, 1) := by decide +kernel
theorem dL_law_200 : decode cL_law 200 = .ok (.ifCond .eq 5, 3) := by decide +kernel
theorem dL_law_203 : decode cL_law 203 = .ok (.iconst 0, 1) := by decide +kernel
theorem dL_law_204 : decode cL_law 204 = .ok (.ireturn, 1) := by decide +kernel
theorem dL_law_205 : decode cL_law 205 = .ok (.goto 1327, 3) := by decide +kernel
theorem dL_law_208 : decode cL_law 208 = .ok (.aload_n 1, 1) := by decide +kernel
theorem dL_law_209 : decode cL_law 209 = .ok (.aload_n 0, 1) := by decide +kernel
theorem dL_law_210 : decode cL_law 210 = .ok (.iload 5, 2) := by decide +kernel
theorem dL_law_212 : decode cL_law 212 = .ok (.iconst 1, 1) := by decide +kernel
theorem dL_law_213 : decode cL_law 213 = .ok (.iadd, 1) := by decide +kernel
theorem dL_law_214 : decode cL_law 214 = .ok (.iaload, 1) := by decide +kernel
theorem dL_law_215 : decode cL_law 215 = .ok (.aload_n 0, 1) := by decide +kernel
theorem dL_law_216 : decode cL_law 216 = .ok (.iload 5, 2) := by decide +kernel
theorem dL_law_218 : decode cL_law 218 = .ok (.iconst 2, 1) := by decide +kernel
theorem dL_law_219 : decode cL_law 219 = .ok (.iadd, 1) := by decide +kernel
theorem dL_law_220 : decode cL_law 220 = .ok (.iaload, 1) := by decide +kernel
theorem dL_law_221 : decode cL_law 221 = .ok (.aload_n 0, 1) := by decide +kernel
theorem dL_law_222 : decode cL_law 222 = .ok (.iload 5, 2) := by decide +kernel
theorem dL_law_224 : decode cL_law 224 = .ok (.iconst 3, 1) := by decide +kernel
theorem dL_law_225 : decode cL_law 225 = .ok (.iadd, 1) := by decide +kernel
theorem dL_law_226 : decode cL_law 226 = .ok (.iaload, 1) := by decide +kernel
theorem dL_law_227 : decode cL_law 227 = .ok (.aload_n 3, 1) := by decide +kernel
theorem dL_law_228 : decode cL_law 228 = .ok (.invokestatic 105, 3) := by decide +kernel
theorem dL_law_231 : decode cL_law 231 = .ok (.istore 6, 2) := by decide +kernel
theorem dL_law_233 : decode cL_law 233 = .ok (.aload_n 2, 1) := by decide +kernel
theorem dL_law_234 : decode cL_law 234 = .ok (.aload_n 0, 1) := by decide +kernel
theorem dL_law_235 : decode cL_law 235 = .ok (.iload 5, 2) := by decide +kernel
theorem dL_law_237 : decode cL_law 237 = .ok (.iconst 1, 1) := by decide +kernel
theorem dL_law_238 : decode cL_law 238 = .ok (.iadd, 1) := by decide +kernel
theorem dL_law_239 : decode cL_law 239 = .ok (.iaload, 1) := by decide +kernel
theorem dL_law_240 : decode cL_law 240 = .ok (.aload_n 0, 1) := by decide +kernel
theorem dL_law_241 : decode cL_law 241 = .ok (.iload 5, 2) := by decide +kernel
theorem dL_law_243 : decode cL_law 243 = .ok (.iconst 2, 1) := by decide +kernel
theorem dL_law_244 : decode cL_law 244 = .ok (.iadd, 1) := by decide +kernel
theorem dL_law_245 : decode cL_law 245 = .ok (.iaload, 1) := by decide +kernel
theorem dL_law_246 : decode cL_law 246 = .ok (.aload_n 0, 1) := by decide +kernel
theorem dL_law_247 : decode cL_law 247 = .ok (.iload 5, 2) := by decide +kernel
theorem dL_law_249 : decode cL_law 249 = .ok (.iconst 3, 1) := by decide +kernel
theorem dL_law_250 : decode cL_law 250 = .ok (.iadd, 1) := by decide +kernel
theorem dL_law_251 : decode cL_law 251 = .ok (.iaload, 1) := by decide +kernel
theorem dL_law_252 : decode cL_law 252 = .ok (.invokevirtual 108, 3) := by decide +kernel
theorem dL_law_255 : decode cL_law 255 = .ok (.istore 7, 2) := by decide +kernel
theorem dL_law_257 : decode cL_law 257 = .ok (.aload_n 2, 1) := by decide +kernel
theorem dL_law_258 : decode cL_law 258 = .ok (.invokevirtual 102, 3) := by decide +kernel
theorem dL_law_261 : decode cL_law 261 = .ok (.iload 6, 2) := by decide +kernel
theorem dL_law_263 : decode cL_law 263 = .ok (.if_icmp .eq 5, 3) := by decide +kernel
theorem dL_law_266 : decode cL_law 266 = .ok (.iconst 0, 1) := by decide +kernel
theorem dL_law_267 : decode cL_law 267 = .ok (.ireturn, 1) := by decide +kernel
theorem dL_law_268 : decode cL_law 268 = .ok (.iload 6, 2) := by decide +kernel
theorem dL_law_270 : decode cL_law 270 = .ok (.ifCond .ne 15, 3) := by decide +kernel
theorem dL_law_273 : decode cL_law 273 = .ok (.aload_n 3, 1) := by decide +kernel
theorem dL_law_274 : decode cL_law 274 = .ok (.iconst 0, 1) := by decide +kernel
theorem dL_law_275 : decode cL_law 275 = .ok (.laload, 1) := by decide +kernel
theorem dL_law_276 : decode cL_law 276 = .ok (.iload 7, 2) := by decide +kernel
theorem dL_law_278 : decode cL_law 278 = .ok (.i2l, 1) := by decide +kernel
theorem dL_law_279 : decode cL_law 279 = .ok (.lcmp, 1) := by decide +kernel
theorem dL_law_280 : decode cL_law 280 = .ok (.ifCond .eq 5, 3) := by decide +kernel
theorem dL_law_283 : decode cL_law 283 = .ok (.iconst 0, 1) := by decide +kernel
theorem dL_law_284 : decode cL_law 284 = .ok (.ireturn, 1) := by decide +kernel
theorem dL_law_285 : decode cL_law 285 = .ok (.goto 1247, 3) := by decide +kernel
theorem dL_law_288 : decode cL_law 288 = .ok (.aload_n 1, 1) := by decide +kernel
theorem dL_law_289 : decode cL_law 289 = .ok (.aload_n 0, 1) := by decide +kernel
theorem dL_law_290 : decode cL_law 290 = .ok (.iload 5, 2) := by decide +kernel
theorem dL_law_292 : decode cL_law 292 = .ok (.iconst 1, 1) := by decide +kernel
theorem dL_law_293 : decode cL_law 293 = .ok (.iadd, 1) := by decide +kernel
theorem dL_law_294 : decode cL_law 294 = .ok (.iaload, 1) := by decide +kernel
theorem dL_law_295 : decode cL_law 295 = .ok (.aload_n 0, 1) := by decide +kernel
theorem dL_law_296 : decode cL_law 296 = .ok (.iload 5, 2) := by decide +kernel
theorem dL_law_298 : decode cL_law 298 = .ok (.iconst 2, 1) := by decide +kernel
theorem dL_law_299 : decode cL_law 299 = .ok (.iadd, 1) := by decide +kernel
theorem dL_law_300 : decode cL_law 300 = .ok (.iaload, 1) := by decide +kernel
theorem dL_law_301 : decode cL_law 301 = .ok (.aload_n 3, 1) := by decide +kernel
theorem dL_law_302 : decode cL_law 302 = .ok (.invokestatic 109, 3) := by decide +kernel
theorem dL_law_305 : decode cL_law 305 = .ok (.istore 6, 2) := by decide +kernel
theorem dL_law_307 : decode cL_law 307 = .ok (.aload_n 2, 1) := by decide +kernel
theorem dL_law_308 : decode cL_law 308 = .ok (.aload_n 0, 1) := by decide +kernel
theorem dL_law_309 : decode cL_law 309 = .ok (.iload 5, 2) := by decide +kernel
theorem dL_law_311 : decode cL_law 311 = .ok (.iconst 1, 1) := by decide +kernel
theorem dL_law_312 : decode cL_law 312 = .ok (.iadd, 1) := by decide +kernel
theorem dL_law_313 : decode cL_law 313 = .ok (.iaload, 1) := by decide +kernel
theorem dL_law_314 : decode cL_law 314 = .ok (.aload_n 0, 1) := by decide +kernel
theorem dL_law_315 : decode cL_law 315 = .ok (.iload 5, 2) := by decide +kernel
theorem dL_law_317 : decode cL_law 317 = .ok (.iconst 2, 1) := by decide +kernel
theorem dL_law_318 : decode cL_law 318 = .ok (.iadd, 1) := by decide +kernel
theorem dL_law_319 : decode cL_law 319 = .ok (.iaload, 1) := by decide +kernel
theorem dL_law_320 : decode cL_law 320 = .ok (.invokevirtual 112, 3) := by decide +kernel
theorem dL_law_323 : decode cL_law 323 = .ok (.istore 7, 2) := by decide +kernel
theorem dL_law_325 : decode cL_law 325 = .ok (.aload_n 2, 1) := by decide +kernel
theorem dL_law_326 : decode cL_law 326 = .ok (.invokevirtual 102, 3) := by decide +kernel
theorem dL_law_329 : decode cL_law 329 = .ok (.iload 6, 2) := by decide +kernel
theorem dL_law_331 : decode cL_law 331 = .ok (.if_icmp .eq 5, 3) := by decide +kernel
theorem dL_law_334 : decode cL_law 334 = .ok (.iconst 0, 1) := by decide +kernel
theorem dL_law_335 : decode cL_law 335 = .ok (.ireturn, 1) := by decide +kernel
theorem dL_law_336 : decode cL_law 336 = .ok (.iload 6, 2) := by decide +kernel
theorem dL_law_338 : decode cL_law 338 = .ok (.ifCond .ne 15, 3) := by decide +kernel
theorem dL_law_341 : decode cL_law 341 = .ok (.aload_n 3, 1) := by decide +kernel
theorem dL_law_342 : decode cL_law 342 = .ok (.iconst 0, 1) := by decide +kernel
theorem dL_law_343 : decode cL_law 343 = .ok (.laload, 1) := by decide +kernel
theorem dL_law_344 : decode cL_law 344 = .ok (.iload 7, 2) := by decide +kernel
theorem dL_law_346 : decode cL_law 346 = .ok (.i2l, 1) := by decide +kernel
theorem dL_law_347 : decode cL_law 347 = .ok (.lcmp, 1) := by decide +kernel
theorem dL_law_348 : decode cL_law 348 = .ok (.ifCond .eq 5, 3) := by decide +kernel
theorem dL_law_351 : decode cL_law 351 = .ok (.iconst 0, 1) := by decide +kernel
theorem dL_law_352 : decode cL_law 352 = .ok (.ireturn, 1) := by decide +kernel
theorem dL_law_353 : decode cL_law 353 = .ok (.goto 1179, 3) := by decide +kernel
theorem dL_law_356 : decode cL_law 356 = .ok (.aload_n 1, 1) := by decide +kernel
theorem dL_law_357 : decode cL_law 357 = .ok (.aload_n 0, 1) := by decide +kernel
theorem dL_law_358 : decode cL_law 358 = .ok (.iload 5, 2) := by decide +kernel
theorem dL_law_360 : decode cL_law 360 = .ok (.iconst 1, 1) := by decide +kernel
theorem dL_law_361 : decode cL_law 361 = .ok (.iadd, 1) := by decide +kernel
theorem dL_law_362 : decode cL_law 362 = .ok (.iaload, 1) := by decide +kernel
theorem dL_law_363 : decode cL_law 363 = .ok (.aload_n 0, 1) := by decide +kernel
theorem dL_law_364 : decode cL_law 364 = .ok (.iload 5, 2) := by decide +kernel
theorem dL_law_366 : decode cL_law 366 = .ok (.iconst 2, 1) := by decide +kernel
theorem dL_law_367 : decode cL_law 367 = .ok (.iadd, 1) := by decide +kernel
theorem dL_law_368 : decode cL_law 368 = .ok (.iaload, 1) := by decide +kernel
theorem dL_law_369 : decode cL_law 369 = .ok (.i2d, 1) := by decide +kernel
theorem dL_law_370 : decode cL_law 370 = .ok (.ldc2_w 113, 3) := by decide +kernel
theorem dL_law_373 : decode cL_law 373 = .ok (.dmul, 1) := by decide +kernel
theorem dL_law_374 : decode cL_law 374 = .ok (.aload_n 3, 1) := by decide +kernel
theorem dL_law_375 : decode cL_law 375 = .ok (.invokestatic 115, 3) := by decide +kernel
theorem dL_law_378 : decode cL_law 378 = .ok (.istore 6, 2) := by decide +kernel
theorem dL_law_380 : decode cL_law 380 = .ok (.aload_n 2, 1) := by decide +kernel
theorem dL_law_381 : decode cL_law 381 = .ok (.aload_n 0, 1) := by decide +kernel
theorem dL_law_382 : decode cL_law 382 = .ok (.iload 5, 2) := by decide +kernel
theorem dL_law_384 : decode cL_law 384 = .ok (.iconst 1, 1) := by decide +kernel
theorem dL_law_385 : decode cL_law 385 = .ok (.iadd, 1) := by decide +kernel
theorem dL_law_386 : decode cL_law 386 = .ok (.iaload, 1) := by decide +kernel
theorem dL_law_387 : decode cL_law 387 = .ok (.aload_n 0, 1) := by decide +kernel
theorem dL_law_388 : decode cL_law 388 = .ok (.iload 5, 2) := by decide +kernel
theorem dL_law_390 : decode cL_law 390 = .ok (.iconst 2, 1) := by decide +kernel
theorem dL_law_391 : decode cL_law 391 = .ok (.iadd, 1) := by decide +kernel
theorem dL_law_392 : decode cL_law 392 = .ok (.iaload, 1) := by decide +kernel
theorem dL_law_393 : decode cL_law 393 = .ok (.i2d, 1) := by decide +kernel
theorem dL_law_394 : decode cL_law 394 = .ok (.ldc2_w 113, 3) := by decide +kernel
theorem dL_law_397 : decode cL_law 397 = .ok (.dmul, 1) := by decide +kernel
theorem dL_law_398 : decode cL_law 398 = .ok (.invokevirtual 118, 3) := by decide +kernel
theorem dL_law_401 : decode cL_law 401 = .ok (.istore 7, 2) := by decide +kernel
theorem dL_law_403 : decode cL_law 403 = .ok (.aload_n 2, 1) := by decide +kernel
theorem dL_law_404 : decode cL_law 404 = .ok (.invokevirtual 102, 3) := by decide +kernel
theorem dL_law_407 : decode cL_law 407 = .ok (.iload 6, 2) := by decide +kernel
theorem dL_law_409 : decode cL_law 409 = .ok (.if_icmp .eq 5, 3) := by decide +kernel
theorem dL_law_412 : decode cL_law 412 = .ok (.iconst 0, 1) := by decide +kernel
theorem dL_law_413 : decode cL_law 413 = .ok (.ireturn, 1) := by decide +kernel
theorem dL_law_414 : decode cL_law 414 = .ok (.iload 6, 2) := by decide +kernel
theorem dL_law_416 : decode cL_law 416 = .ok (.ifCond .ne 15, 3) := by decide +kernel
theorem dL_law_419 : decode cL_law 419 = .ok (.aload_n 3, 1) := by decide +kernel
theorem dL_law_420 : decode cL_law 420 = .ok (.iconst 0, 1) := by decide +kernel
theorem dL_law_421 : decode cL_law 421 = .ok (.laload, 1) := by decide +kernel
theorem dL_law_422 : decode cL_law 422 = .ok (.iload 7, 2) := by decide +kernel
theorem dL_law_424 : decode cL_law 424 = .ok (.i2l, 1) := by decide +kernel
theorem dL_law_425 : decode cL_law 425 = .ok (.lcmp, 1) := by decide +kernel
theorem dL_law_426 : decode cL_law 426 = .ok (.ifCond .eq 5, 3) := by decide +kernel
theorem dL_law_429 : decode cL_law 429 = .ok (.iconst 0, 1) := by decide +kernel
theorem dL_law_430 : decode cL_law 430 = .ok (.ireturn, 1) := by decide +kernel
theorem dL_law_431 : decode cL_law 431 = .ok (.goto 1101, 3) := by decide +kernel
theorem dL_law_434 : decode cL_law 434 = .ok (.aload_n 1, 1) := by decide +kernel
theorem dL_law_435 : decode cL_law 435 = .ok (.aload_n 0, 1) := by decide +kernel
theorem dL_law_436 : decode cL_law 436 = .ok (.iload 5, 2) := by decide +kernel
theorem dL_law_438 : decode cL_law 438 = .ok (.iconst 1, 1) := by decide +kernel
theorem dL_law_439 : decode cL_law 439 = .ok (.iadd, 1) := by decide +kernel
theorem dL_law_440 : decode cL_law 440 = .ok (.iaload, 1) := by decide +kernel
theorem dL_law_441 : decode cL_law 441 = .ok (.aload_n 0, 1) := by decide +kernel
theorem dL_law_442 : decode cL_law 442 = .ok (.iload 5, 2) := by decide +kernel
theorem dL_law_444 : decode cL_law 444 = .ok (.iconst 2, 1) := by decide +kernel
theorem dL_law_445 : decode cL_law 445 = .ok (.iadd, 1) := by decide +kernel
theorem dL_law_446 : decode cL_law 446 = .ok (.iaload, 1) := by decide +kernel
theorem dL_law_447 : decode cL_law 447 = .ok (.aload_n 3, 1) := by decide +kernel
theorem dL_law_448 : decode cL_law 448 = .ok (.invokestatic 119, 3) := by decide +kernel
theorem dL_law_451 : decode cL_law 451 = .ok (.istore 6, 2) := by decide +kernel
theorem dL_law_453 : decode cL_law 453 = .ok (.aload_n 2, 1) := by decide +kernel
theorem dL_law_454 : decode cL_law 454 = .ok (.aload_n 0, 1) := by decide +kernel
theorem dL_law_455 : decode cL_law 455 = .ok (.iload 5, 2) := by decide +kernel
theorem dL_law_457 : decode cL_law 457 = .ok (.iconst 1, 1) := by decide +kernel
theorem dL_law_458 : decode cL_law 458 = .ok (.iadd, 1) := by decide +kernel
theorem dL_law_459 : decode cL_law 459 = .ok (.iaload, 1) := by decide +kernel
theorem dL_law_460 : decode cL_law 460 = .ok (.aload_n 0, 1) := by decide +kernel
theorem dL_law_461 : decode cL_law 461 = .ok (.iload 5, 2) := by decide +kernel
theorem dL_law_463 : decode cL_law 463 = .ok (.iconst 2, 1) := by decide +kernel
theorem dL_law_464 : decode cL_law 464 = .ok (.iadd, 1) := by decide +kernel
theorem dL_law_465 : decode cL_law 465 = .ok (.iaload, 1) := by decide +kernel
theorem dL_law_466 : decode cL_law 466 = .ok (.invokevirtual 121, 3) := by decide +kernel
theorem dL_law_469 : decode cL_law 469 = .ok (.istore 7, 2) := by decide +kernel
theorem dL_law_471 : decode cL_law 471 = .ok (.aload_n 2, 1) := by decide +kernel
theorem dL_law_472 : decode cL_law 472 = .ok (.invokevirtual 102, 3) := by decide +kernel
theorem dL_law_475 : decode cL_law 475 = .ok (.iload 6, 2) := by decide +kernel
theorem dL_law_477 : decode cL_law 477 = .ok (.if_icmp .eq 5, 3) := by decide +kernel
theorem dL_law_480 : decode cL_law 480 = .ok (.iconst 0, 1) := by decide +kernel
theorem dL_law_481 : decode cL_law 481 = .ok (.ireturn, 1) := by decide +kernel
theorem dL_law_482 : decode cL_law 482 = .ok (.iload 6, 2) := by decide +kernel
theorem dL_law_484 : decode cL_law 484 = .ok (.ifCond .ne 22, 3) := by decide +kernel
theorem dL_law_487 : decode cL_law 487 = .ok (.aload_n 3, 1) := by decide +kernel
theorem dL_law_488 : decode cL_law 488 = .ok (.iconst 0, 1) := by decide +kernel
theorem dL_law_489 : decode cL_law 489 = .ok (.laload, 1) := by decide +kernel
theorem dL_law_490 : decode cL_law 490 = .ok (.iload 7, 2) := by decide +kernel
theorem dL_law_492 : decode cL_law 492 = .ok (.ifCond .eq 7, 3) := by decide +kernel
theorem dL_law_495 : decode cL_law 495 = .ok (.lconst 1, 1) := by decide +kernel
theorem dL_law_496 : decode cL_law 496 = .ok (.goto 4, 3) := by decide +kernel
theorem dL_law_499 : decode cL_law 499 = .ok (.lconst 0, 1) := by decide +kernel
theorem dL_law_500 : decode cL_law 500 = .ok (.lcmp, 1) := by decide +kernel
theorem dL_law_501 : decode cL_law 501 = .ok (.ifCond .eq 5, 3) := by decide +kernel
theorem dL_law_504 : decode cL_law 504 = .ok (.iconst 0, 1) := by decide +kernel
theorem dL_law_505 : decode cL_law 505 = .ok (.ireturn, 1) := by decide +kernel
theorem dL_law_506 : decode cL_law 506 = .ok (.goto 1026, 3) := by decide +kernel
theorem dL_law_509 : decode cL_law 509 = .ok (.aload_n 1, 1) := by decide +kernel
theorem dL_law_510 : decode cL_law 510 = .ok (.invokevirtual 122, 3) := by decide +kernel
theorem dL_law_513 : decode cL_law 513 = .ok (.aload_n 2, 1) := by decide +kernel
theorem dL_law_514 : decode cL_law 514 = .ok (.invokevirtual 125, 3) := by decide +kernel
theorem dL_law_517 : decode cL_law 517 = .ok (.if_icmp .eq 1015, 3) := by decide +kernel
theorem dL_law_520 : decode cL_law 520 = .ok (.iconst 0, 1) := by decide +kernel
theorem dL_law_521 : decode cL_law 521 = .ok (.ireturn, 1) := by decide +kernel
theorem dL_law_522 : decode cL_law 522 = .ok (.aload_n 1, 1) := by decide +kernel
theorem dL_law_523 : decode cL_law 523 = .ok (.invokevirtual 126, 3) := by decide +kernel
theorem dL_law_526 : decode cL_law 526 = .ok (.aload_n 2, 1) := by decide +kernel
theorem dL_law_527 : decode cL_law 527 = .ok (.invokevirtual 129, 3) := by decide +kernel
theorem dL_law_530 : decode cL_law 530 = .ok (.if_icmp .eq 1002, 3) := by decide +kernel
theorem dL_law_533 : decode cL_law 533 = .ok (.iconst 0, 1) := by decide +kernel
theorem dL_law_534 : decode cL_law 534 = .ok (.ireturn, 1) := by decide +kernel
theorem dL_law_535 : decode cL_law 535 = .ok (.aload_n 1, 1) := by decide +kernel
theorem dL_law_536 : decode cL_law 536 = .ok (.aload_n 0, 1) := by decide +kernel
theorem dL_law_537 : decode cL_law 537 = .ok (.iload 5, 2) := by decide +kernel
theorem dL_law_539 : decode cL_law 539 = .ok (.iconst 1, 1) := by decide +kernel
theorem dL_law_540 : decode cL_law 540 = .ok (.iadd, 1) := by decide +kernel
theorem dL_law_541 : decode cL_law 541 = .ok (.iaload, 1) := by decide +kernel
theorem dL_law_542 : decode cL_law 542 = .ok (.aload_n 3, 1) := by decide +kernel
theorem dL_law_543 : decode cL_law 543 = .ok (.invokestatic 130, 3) := by decide +kernel
theorem dL_law_546 : decode cL_law 546 = .ok (.istore 6, 2) := by decide +kernel
theorem dL_law_548 : decode cL_law 548 = .ok (.aload_n 2, 1) := by decide +kernel
theorem dL_law_549 : decode cL_law 549 = .ok (.aload_n 0, 1) := by decide +kernel
theorem dL_law_550 : decode cL_law 550 = .ok (.iload 5, 2) := by decide +kernel
theorem dL_law_552 : decode cL_law 552 = .ok (.iconst 1, 1) := by decide +kernel
theorem dL_law_553 : decode cL_law 553 = .ok (.iadd, 1) := by decide +kernel
theorem dL_law_554 : decode cL_law 554 = .ok (.iaload, 1) := by decide +kernel
theorem dL_law_555 : decode cL_law 555 = .ok (.invokevirtual 133, 3) := by decide +kernel
theorem dL_law_558 : decode cL_law 558 = .ok (.istore 7, 2) := by decide +kernel
theorem dL_law_560 : decode cL_law 560 = .ok (.aload_n 2, 1) := by decide +kernel
theorem dL_law_561 : decode cL_law 561 = .ok (.invokevirtual 102, 3) := by decide +kernel
theorem dL_law_564 : decode cL_law 564 = .ok (.iload 6, 2) := by decide +kernel
theorem dL_law_566 : decode cL_law 566 = .ok (.if_icmp .eq 5, 3) := by decide +kernel
theorem dL_law_569 : decode cL_law 569 = .ok (.iconst 0, 1) := by decide +kernel
theorem dL_law_570 : decode cL_law 570 = .ok (.ireturn, 1) := by decide +kernel
theorem dL_law_571 : decode cL_law 571 = .ok (.iload 6, 2) := by decide +kernel
theorem dL_law_573 : decode cL_law 573 = .ok (.ifCond .ne 15, 3) := by decide +kernel
theorem dL_law_576 : decode cL_law 576 = .ok (.aload_n 3, 1) := by decide +kernel
theorem dL_law_577 : decode cL_law 577 = .ok (.iconst 0, 1) := by decide +kernel
theorem dL_law_578 : decode cL_law 578 = .ok (.laload, 1) := by decide +kernel
theorem dL_law_579 : decode cL_law 579 = .ok (.iload 7, 2) := by decide +kernel
theorem dL_law_581 : decode cL_law 581 = .ok (.i2l, 1) := by decide +kernel
theorem dL_law_582 : decode cL_law 582 = .ok (.lcmp, 1) := by decide +kernel
theorem dL_law_583 : decode cL_law 583 = .ok (.ifCond .eq 5, 3) := by decide +kernel
theorem dL_law_586 : decode cL_law 586 = .ok (.iconst 0, 1) := by decide +kernel
theorem dL_law_587 : decode cL_law 587 = .ok (.ireturn, 1) := by decide +kernel
theorem dL_law_588 : decode cL_law 588 = .ok (.goto 944, 3) := by decide +kernel
theorem dL_law_591 : decode cL_law 591 = .ok (.aload_n 1, 1) := by decide +kernel
theorem dL_law_592 : decode cL_law 592 = .ok (.aload_n 3, 1) := by decide +kernel
theorem dL_law_593 : decode cL_law 593 = .ok (.invokestatic 134, 3) := by decide +kernel
theorem dL_law_596 : decode cL_law 596 = .ok (.istore 6, 2) := by decide +kernel
theorem dL_law_598 : decode cL_law 598 = .ok (.aload_n 2, 1) := by decide +kernel
theorem dL_law_599 : decode cL_law 599 = .ok (.invokevirtual 136, 3) := by decide +kernel
theorem dL_law_602 : decode cL_law 602 = .ok (.istore 7, 2) := by decide +kernel
theorem dL_law_604 : decode cL_law 604 = .ok (.aload_n 2, 1) := by decide +kernel
theorem dL_law_605 : decode cL_law 605 = .ok (.invokevirtual 102, 3) := by decide +kernel
theorem dL_law_608 : decode cL_law 608 = .ok (.iload 6, 2) := by decide +kernel
theorem dL_law_610 : decode cL_law 610 = .ok (.if_icmp .eq 5, 3) := by decide +kernel
theorem dL_law_613 : decode cL_law 613 = .ok (.iconst 0, 1) := by decide +kernel
theorem dL_law_614 : decode cL_law 614 = .ok (.ireturn, 1) := by decide +kernel
theorem dL_law_615 : decode cL_law 615 = .ok (.iload 6, 2) := by decide +kernel
theorem dL_law_617 : decode cL_law 617 = .ok (.ifCond .ne 15, 3) := by decide +kernel
theorem dL_law_620 : decode cL_law 620 = .ok (.aload_n 3, 1) := by decide +kernel
theorem dL_law_621 : decode cL_law 621 = .ok (.iconst 0, 1) := by decide +kernel
theorem dL_law_622 : decode cL_law 622 = .ok (.laload, 1) := by decide +kernel
theorem dL_law_623 : decode cL_law 623 = .ok (.iload 7, 2) := by decide +kernel
theorem dL_law_625 : decode cL_law 625 = .ok (.i2l, 1) := by decide +kernel
theorem dL_law_626 : decode cL_law 626 = .ok (.lcmp, 1) := by decide +kernel
theorem dL_law_627 : decode cL_law 627 = .ok (.ifCond .eq 5, 3) := by decide +kernel
theorem dL_law_630 : decode cL_law 630 = .ok (.iconst 0, 1) := by decide +kernel
theorem dL_law_631 : decode cL_law 631 = .ok (.ireturn, 1) := by decide +kernel
theorem dL_law_632 : decode cL_law 632 = .ok (.goto 900, 3) := by decide +kernel
theorem dL_law_635 : decode cL_law 635 = .ok (.aload_n 1, 1) := by decide +kernel
theorem dL_law_636 : decode cL_law 636 = .ok (.aload_n 0, 1) := by decide +kernel
theorem dL_law_637 : decode cL_law 637 = .ok (.iload 5, 2) := by decide +kernel
theorem dL_law_639 : decode cL_law 639 = .ok (.iconst 1, 1) := by decide +kernel
theorem dL_law_640 : decode cL_law 640 = .ok (.iadd, 1) := by decide +kernel
theorem dL_law_641 : decode cL_law 641 = .ok (.iaload, 1) := by decide +kernel
theorem dL_law_642 : decode cL_law 642 = .ok (.aload_n 0, 1) := by decide +kernel
theorem dL_law_643 : decode cL_law 643 = .ok (.iload 5, 2) := by decide +kernel
theorem dL_law_645 : decode cL_law 645 = .ok (.iconst 2, 1) := by decide +kernel
theorem dL_law_646 : decode cL_law 646 = .ok (.iadd, 1) := by decide +kernel
theorem dL_law_647 : decode cL_law 647 = .ok (.iaload, 1) := by decide +kernel
theorem dL_law_648 : decode cL_law 648 = .ok (.aload_n 3, 1) := by decide +kernel
theorem dL_law_649 : decode cL_law 649 = .ok (.invokestatic 137, 3) := by decide +kernel
theorem dL_law_652 : decode cL_law 652 = .ok (.istore 6, 2) := by decide +kernel
theorem dL_law_654 : decode cL_law 654 = .ok (.aload_n 2, 1) := by decide +kernel
theorem dL_law_655 : decode cL_law 655 = .ok (.aload_n 0, 1) := by decide +kernel
theorem dL_law_656 : decode cL_law 656 = .ok (.iload 5, 2) := by decide +kernel
theorem dL_law_658 : decode cL_law 658 = .ok (.iconst 1, 1) := by decide +kernel
theorem dL_law_659 : decode cL_law 659 = .ok (.iadd, 1) := by decide +kernel
theorem dL_law_660 : decode cL_law 660 = .ok (.iaload, 1) := by decide +kernel
theorem dL_law_661 : decode cL_law 661 = .ok (.aload_n 0, 1) := by decide +kernel
theorem dL_law_662 : decode cL_law 662 = .ok (.iload 5, 2) := by decide +kernel
theorem dL_law_664 : decode cL_law 664 = .ok (.iconst 2, 1) := by decide +kernel
theorem dL_law_665 : decode cL_law 665 = .ok (.iadd, 1) := by decide +kernel
theorem dL_law_666 : decode cL_law 666 = .ok (.iaload, 1) := by decide +kernel
theorem dL_law_667 : decode cL_law 667 = .ok (.invokevirtual 139, 3) := by decide +kernel
theorem dL_law_670 : decode cL_law 670 = .ok (.istore 7, 2) := by decide +kernel
theorem dL_law_672 : decode cL_law 672 = .ok (.aload_n 2, 1) := by decide +kernel
theorem dL_law_673 : decode cL_law 673 = .ok (.invokevirtual 102, 3) := by decide +kernel
theorem dL_law_676 : decode cL_law 676 = .ok (.iload 6, 2) := by decide +kernel
theorem dL_law_678 : decode cL_law 678 = .ok (.if_icmp .eq 5, 3) := by decide +kernel
theorem dL_law_681 : decode cL_law 681 = .ok (.iconst 0, 1) := by decide +kernel
theorem dL_law_682 : decode cL_law 682 = .ok (.ireturn, 1) := by decide +kernel
theorem dL_law_683 : decode cL_law 683 = .ok (.iload 6, 2) := by decide +kernel
theorem dL_law_685 : decode cL_law 685 = .ok (.ifCond .ne 15, 3) := by decide +kernel
theorem dL_law_688 : decode cL_law 688 = .ok (.aload_n 3, 1) := by decide +kernel
theorem dL_law_689 : decode cL_law 689 = .ok (.iconst 0, 1) := by decide +kernel
theorem dL_law_690 : decode cL_law 690 = .ok (.laload, 1) := by decide +kernel
theorem dL_law_691 : decode cL_law 691 = .ok (.iload 7, 2) := by decide +kernel
theorem dL_law_693 : decode cL_law 693 = .ok (.i2l, 1) := by decide +kernel
theorem dL_law_694 : decode cL_law 694 = .ok (.lcmp, 1) := by decide +kernel
theorem dL_law_695 : decode cL_law 695 = .ok (.ifCond .eq 5, 3) := by decide +kernel
theorem dL_law_698 : decode cL_law 698 = .ok (.iconst 0, 1) := by decide +kernel
theorem dL_law_699 : decode cL_law 699 = .ok (.ireturn, 1) := by decide +kernel
theorem dL_law_700 : decode cL_law 700 = .ok (.goto 832, 3) := by decide +kernel
theorem dL_law_703 : decode cL_law 703 = .ok (.aload_n 1, 1) := by decide +kernel
theorem dL_law_704 : decode cL_law 704 = .ok (.aload_n 0, 1) := by decide +kernel
theorem dL_law_705 : decode cL_law 705 = .ok (.iload 5, 2) := by decide +kernel
theorem dL_law_707 : decode cL_law 707 = .ok (.iconst 1, 1) := by decide +kernel
theorem dL_law_708 : decode cL_law 708 = .ok (.iadd, 1) := by decide +kernel
theorem dL_law_709 : decode cL_law 709 = .ok (.iaload, 1) := by decide +kernel
theorem dL_law_710 : decode cL_law 710 = .ok (.aload_n 3, 1) := by decide +kernel
theorem dL_law_711 : decode cL_law 711 = .ok (.invokestatic 140, 3) := by decide +kernel
theorem dL_law_714 : decode cL_law 714 = .ok (.istore 6, 2) := by decide +kernel
theorem dL_law_716 : decode cL_law 716 = .ok (.aload_n 2, 1) := by decide +kernel
theorem dL_law_717 : decode cL_law 717 = .ok (.aload_n 0, 1) := by decide +kernel
theorem dL_law_718 : decode cL_law 718 = .ok (.iload 5, 2) := by decide +kernel
theorem dL_law_720 : decode cL_law 720 = .ok (.iconst 1, 1) := by decide +kernel
theorem dL_law_721 : decode cL_law 721 = .ok (.iadd, 1) := by decide +kernel
theorem dL_law_722 : decode cL_law 722 = .ok (.iaload, 1) := by decide +kernel
theorem dL_law_723 : decode cL_law 723 = .ok (.invokevirtual 142, 3) := by decide +kernel
theorem dL_law_726 : decode cL_law 726 = .ok (.istore 7, 2) := by decide +kernel
theorem dL_law_728 : decode cL_law 728 = .ok (.aload_n 2, 1) := by decide +kernel
theorem dL_law_729 : decode cL_law 729 = .ok (.invokevirtual 102, 3) := by decide +kernel
theorem dL_law_732 : decode cL_law 732 = .ok (.iload 6, 2) := by decide +kernel
theorem dL_law_734 : decode cL_law 734 = .ok (.if_icmp .eq 5, 3) := by decide +kernel
theorem dL_law_737 : decode cL_law 737 = .ok (.iconst 0, 1) := by decide +kernel
theorem dL_law_738 : decode cL_law 738 = .ok (.ireturn, 1) := by decide +kernel
theorem dL_law_739 : decode cL_law 739 = .ok (.iload 6, 2) := by decide +kernel
theorem dL_law_741 : decode cL_law 741 = .ok (.ifCond .ne 15, 3) := by decide +kernel
theorem dL_law_744 : decode cL_law 744 = .ok (.aload_n 3, 1) := by decide +kernel
theorem dL_law_745 : decode cL_law 745 = .ok (.iconst 0, 1) := by decide +kernel
theorem dL_law_746 : decode cL_law 746 = .ok (.laload, 1) := by decide +kernel
theorem dL_law_747 : decode cL_law 747 = .ok (.iload 7, 2) := by decide +kernel
theorem dL_law_749 : decode cL_law 749 = .ok (.i2l, 1) := by decide +kernel
theorem dL_law_750 : decode cL_law 750 = .ok (.lcmp, 1) := by decide +kernel
theorem dL_law_751 : decode cL_law 751 = .ok (.ifCond .eq 5, 3) := by decide +kernel
theorem dL_law_754 : decode cL_law 754 = .ok (.iconst 0, 1) := by decide +kernel
theorem dL_law_755 : decode cL_law 755 = .ok (.ireturn, 1) := by decide +kernel
theorem dL_law_756 : decode cL_law 756 = .ok (.goto 776, 3) := by decide +kernel
theorem dL_law_759 : decode cL_law 759 = .ok (.aload_n 1, 1) := by decide +kernel
theorem dL_law_760 : decode cL_law 760 = .ok (.aload_n 0, 1) := by decide +kernel
theorem dL_law_761 : decode cL_law 761 = .ok (.iload 5, 2) := by decide +kernel
theorem dL_law_763 : decode cL_law 763 = .ok (.iconst 1, 1) := by decide +kernel
theorem dL_law_764 : decode cL_law 764 = .ok (.iadd, 1) := by decide +kernel
theorem dL_law_765 : decode cL_law 765 = .ok (.iaload, 1) := by decide +kernel
theorem dL_law_766 : decode cL_law 766 = .ok (.aload_n 0, 1) := by decide +kernel
theorem dL_law_767 : decode cL_law 767 = .ok (.iload 5, 2) := by decide +kernel
theorem dL_law_769 : decode cL_law 769 = .ok (.iconst 2, 1) := by decide +kernel
theorem dL_law_770 : decode cL_law 770 = .ok (.iadd, 1) := by decide +kernel
theorem dL_law_771 : decode cL_law 771 = .ok (.iaload, 1) := by decide +kernel
theorem dL_law_772 : decode cL_law 772 = .ok (.aload_n 3, 1) := by decide +kernel
theorem dL_law_773 : decode cL_law 773 = .ok (.invokestatic 143, 3) := by decide +kernel
theorem dL_law_776 : decode cL_law 776 = .ok (.istore 6, 2) := by decide +kernel
theorem dL_law_778 : decode cL_law 778 = .ok (.aload_n 2, 1) := by decide +kernel
theorem dL_law_779 : decode cL_law 779 = .ok (.aload_n 0, 1) := by decide +kernel
theorem dL_law_780 : decode cL_law 780 = .ok (.iload 5, 2) := by decide +kernel
theorem dL_law_782 : decode cL_law 782 = .ok (.iconst 1, 1) := by decide +kernel
theorem dL_law_783 : decode cL_law 783 = .ok (.iadd, 1) := by decide +kernel
theorem dL_law_784 : decode cL_law 784 = .ok (.iaload, 1) := by decide +kernel
theorem dL_law_785 : decode cL_law 785 = .ok (.aload_n 0, 1) := by decide +kernel
theorem dL_law_786 : decode cL_law 786 = .ok (.iload 5, 2) := by decide +kernel
theorem dL_law_788 : decode cL_law 788 = .ok (.iconst 2, 1) := by decide +kernel
theorem dL_law_789 : decode cL_law 789 = .ok (.iadd, 1) := by decide +kernel
theorem dL_law_790 : decode cL_law 790 = .ok (.iaload, 1) := by decide +kernel
theorem dL_law_791 : decode cL_law 791 = .ok (.invokevirtual 145, 3) := by decide +kernel
theorem dL_law_794 : decode cL_law 794 = .ok (.istore 7, 2) := by decide +kernel
theorem dL_law_796 : decode cL_law 796 = .ok (.aload_n 2, 1) := by decide +kernel
theorem dL_law_797 : decode cL_law 797 = .ok (.invokevirtual 102, 3) := by decide +kernel
theorem dL_law_800 : decode cL_law 800 = .ok (.iload 6, 2) := by decide +kernel
theorem dL_law_802 : decode cL_law 802 = .ok (.if_icmp .eq 5, 3) := by decide +kernel
theorem dL_law_805 : decode cL_law 805 = .ok (.iconst 0, 1) := by decide +kernel
theorem dL_law_806 : decode cL_law 806 = .ok (.ireturn, 1) := by decide +kernel
theorem dL_law_807 : decode cL_law 807 = .ok (.iload 6, 2) := by decide +kernel
theorem dL_law_809 : decode cL_law 809 = .ok (.ifCond .ne 15, 3) := by decide +kernel
theorem dL_law_812 : decode cL_law 812 = .ok (.aload_n 3, 1) := by decide +kernel
theorem dL_law_813 : decode cL_law 813 = .ok (.iconst 0, 1) := by decide +kernel
theorem dL_law_814 : decode cL_law 814 = .ok (.laload, 1) := by decide +kernel
theorem dL_law_815 : decode cL_law 815 = .ok (.iload 7, 2) := by decide +kernel
theorem dL_law_817 : decode cL_law 817 = .ok (.i2l, 1) := by decide +kernel
theorem dL_law_818 : decode cL_law 818 = .ok (.lcmp, 1) := by decide +kernel
theorem dL_law_819 : decode cL_law 819 = .ok (.ifCond .eq 5, 3) := by decide +kernel
theorem dL_law_822 : decode cL_law 822 = .ok (.iconst 0, 1) := by decide +kernel
theorem dL_law_823 : decode cL_law 823 = .ok (.ireturn, 1) := by decide +kernel
theorem dL_law_824 : decode cL_law 824 = .ok (.goto 708, 3) := by decide +kernel
theorem dL_law_827 : decode cL_law 827 = .ok (.aload_n 1, 1) := by decide +kernel
theorem dL_law_828 : decode cL_law 828 = .ok (.aload 4, 2) := by decide +kernel
theorem dL_law_830 : decode cL_law 830 = .ok (.invokestatic 146, 3) := by decide +kernel
theorem dL_law_833 : decode cL_law 833 = .ok (.istore 6, 2) := by decide +kernel
theorem dL_law_835 : decode cL_law 835 = .ok (.aload_n 2, 1) := by decide +kernel
theorem dL_law_836 : decode cL_law 836 = .ok (.invokevirtual 149, 3) := by decide +kernel
theorem dL_law_839 : decode cL_law 839 = .ok (.dstore 7, 2) := by decide +kernel
theorem dL_law_841 : decode cL_law 841 = .ok (.aload_n 2, 1) := by decide +kernel
theorem dL_law_842 : decode cL_law 842 = .ok (.invokevirtual 102, 3) := by decide +kernel
theorem dL_law_845 : decode cL_law 845 = .ok (.iload 6, 2) := by decide +kernel
theorem dL_law_847 : decode cL_law 847 = .ok (.if_icmp .eq 5, 3) := by decide +kernel
theorem dL_law_850 : decode cL_law 850 = .ok (.iconst 0, 1) := by decide +kernel
theorem dL_law_851 : decode cL_law 851 = .ok (.ireturn, 1) := by decide +kernel
theorem dL_law_852 : decode cL_law 852 = .ok (.iload 6, 2) := by decide +kernel
theorem dL_law_854 : decode cL_law 854 = .ok (.ifCond .ne 35, 3) := by decide +kernel
theorem dL_law_857 : decode cL_law 857 = .ok (.aload 4, 2) := by decide +kernel
theorem dL_law_859 : decode cL_law 859 = .ok (.iconst 0, 1) := by decide +kernel
theorem dL_law_860 : decode cL_law 860 = .ok (.daload, 1) := by decide +kernel
theorem dL_law_861 : decode cL_law 861 = .ok (.dload 7, 2) := by decide +kernel
theorem dL_law_863 : decode cL_law 863 = .ok (.dcmp .l, 1) := by decide +kernel
theorem dL_law_864 : decode cL_law 864 = .ok (.ifCond .eq 25, 3) := by decide +kernel
theorem dL_law_867 : decode cL_law 867 = .ok (.aload 4, 2) := by decide +kernel
theorem dL_law_869 : decode cL_law 869 = .ok (.iconst 0, 1) := by decide +kernel
theorem dL_law_870 : decode cL_law 870 = .ok (.daload, 1) := by decide +kernel
theorem dL_law_871 : decode cL_law 871 = .ok (.aload 4, 2) := by decide +kernel
theorem dL_law_873 : decode cL_law 873 = .ok (.iconst 0, 1) := by decide +kernel
theorem dL_law_874 : decode cL_law 874 = .ok (.daload, 1) := by decide +kernel
theorem dL_law_875 : decode cL_law 875 = .ok (.dcmp .l, 1) := by decide +kernel
theorem dL_law_876 : decode cL_law 876 = .ok (.ifCond .eq 11, 3) := by decide +kernel
theorem dL_law_879 : decode cL_law 879 = .ok (.dload 7, 2) := by decide +kernel
theorem dL_law_881 : decode cL_law 881 = .ok (.dload 7, 2) := by decide +kernel
theorem dL_law_883 : decode cL_law 883 = .ok (.dcmp .l, 1) := by decide +kernel
theorem dL_law_884 : decode cL_law 884 = .ok (.ifCond .ne 5, 3) := by decide +kernel
theorem dL_law_887 : decode cL_law 887 = .ok (.iconst 0, 1) := by decide +kernel
theorem dL_law_888 : decode cL_law 888 = .ok (.ireturn, 1) := by decide +kernel
theorem dL_law_889 : decode cL_law 889 = .ok (.goto 643, 3) := by decide +kernel
theorem dL_law_892 : decode cL_law 892 = .ok (.aload_n 1, 1) := by decide +kernel
theorem dL_law_893 : decode cL_law 893 = .ok (.aload_n 0, 1) := by decide +kernel
theorem dL_law_894 : decode cL_law 894 = .ok (.iload 5, 2) := by decide +kernel
theorem dL_law_896 : decode cL_law 896 = .ok (.iconst 1, 1) := by decide +kernel
theorem dL_law_897 : decode cL_law 897 = .ok (.iadd, 1) := by decide +kernel
theorem dL_law_898 : decode cL_law 898 = .ok (.iaload, 1) := by decide +kernel
theorem dL_law_899 : decode cL_law 899 = .ok (.aload_n 3, 1) := by decide +kernel
theorem dL_law_900 : decode cL_law 900 = .ok (.invokestatic 150, 3) := by decide +kernel
theorem dL_law_903 : decode cL_law 903 = .ok (.istore 6, 2) := by decide +kernel
theorem dL_law_905 : decode cL_law 905 = .ok (.aload_n 2, 1) := by decide +kernel
theorem dL_law_906 : decode cL_law 906 = .ok (.aload_n 0, 1) := by decide +kernel
theorem dL_law_907 : decode cL_law 907 = .ok (.iload 5, 2) := by decide +kernel
theorem dL_law_909 : decode cL_law 909 = .ok (.iconst 1, 1) := by decide +kernel
theorem dL_law_910 : decode cL_law 910 = .ok (.iadd, 1) := by decide +kernel
theorem dL_law_911 : decode cL_law 911 = .ok (.iaload, 1) := by decide +kernel
theorem dL_law_912 : decode cL_law 912 = .ok (.invokevirtual 152, 3) := by decide +kernel
theorem dL_law_915 : decode cL_law 915 = .ok (.istore 7, 2) := by decide +kernel
theorem dL_law_917 : decode cL_law 917 = .ok (.aload_n 2, 1) := by decide +kernel
theorem dL_law_918 : decode cL_law 918 = .ok (.invokevirtual 102, 3) := by decide +kernel
theorem dL_law_921 : decode cL_law 921 = .ok (.iload 6, 2) := by decide +kernel
theorem dL_law_923 : decode cL_law 923 = .ok (.if_icmp .eq 5, 3) := by decide +kernel
theorem dL_law_926 : decode cL_law 926 = .ok (.iconst 0, 1) := by decide +kernel
theorem dL_law_927 : decode cL_law 927 = .ok (.ireturn, 1) := by decide +kernel
theorem dL_law_928 : decode cL_law 928 = .ok (.iload 6, 2) := by decide +kernel
theorem dL_law_930 : decode cL_law 930 = .ok (.ifCond .ne 15, 3) := by decide +kernel
theorem dL_law_933 : decode cL_law 933 = .ok (.aload_n 3, 1) := by decide +kernel
theorem dL_law_934 : decode cL_law 934 = .ok (.iconst 0, 1) := by decide +kernel
theorem dL_law_935 : decode cL_law 935 = .ok (.laload, 1) := by decide +kernel
theorem dL_law_936 : decode cL_law 936 = .ok (.iload 7, 2) := by decide +kernel
theorem dL_law_938 : decode cL_law 938 = .ok (.i2l, 1) := by decide +kernel
theorem dL_law_939 : decode cL_law 939 = .ok (.lcmp, 1) := by decide +kernel
theorem dL_law_940 : decode cL_law 940 = .ok (.ifCond .eq 5, 3) := by decide +kernel
theorem dL_law_943 : decode cL_law 943 = .ok (.iconst 0, 1) := by decide +kernel
theorem dL_law_944 : decode cL_law 944 = .ok (.ireturn, 1) := by decide +kernel
theorem dL_law_945 : decode cL_law 945 = .ok (.goto 587, 3) := by decide +kernel
theorem dL_law_948 : decode cL_law 948 = .ok (.aload_n 1, 1) := by decide +kernel
theorem dL_law_949 : decode cL_law 949 = .ok (.aload_n 0, 1) := by decide +kernel
theorem dL_law_950 : decode cL_law 950 = .ok (.iload 5, 2) := by decide +kernel
theorem dL_law_952 : decode cL_law 952 = .ok (.iconst 1, 1) := by decide +kernel
theorem dL_law_953 : decode cL_law 953 = .ok (.iadd, 1) := by decide +kernel
theorem dL_law_954 : decode cL_law 954 = .ok (.iaload, 1) := by decide +kernel
theorem dL_law_955 : decode cL_law 955 = .ok (.aload_n 3, 1) := by decide +kernel
theorem dL_law_956 : decode cL_law 956 = .ok (.invokestatic 153, 3) := by decide +kernel
theorem dL_law_959 : decode cL_law 959 = .ok (.istore 6, 2) := by decide +kernel
theorem dL_law_961 : decode cL_law 961 = .ok (.aload_n 2, 1) := by decide +kernel
theorem dL_law_962 : decode cL_law 962 = .ok (.aload_n 0, 1) := by decide +kernel
theorem dL_law_963 : decode cL_law 963 = .ok (.iload 5, 2) := by decide +kernel
theorem dL_law_965 : decode cL_law 965 = .ok (.iconst 1, 1) := by decide +kernel
theorem dL_law_966 : decode cL_law 966 = .ok (.iadd, 1) := by decide +kernel
theorem dL_law_967 : decode cL_law 967 = .ok (.iaload, 1) := by decide +kernel
theorem dL_law_968 : decode cL_law 968 = .ok (.invokevirtual 155, 3) := by decide +kernel
theorem dL_law_971 : decode cL_law 971 = .ok (.istore 7, 2) := by decide +kernel
theorem dL_law_973 : decode cL_law 973 = .ok (.aload_n 2, 1) := by decide +kernel
theorem dL_law_974 : decode cL_law 974 = .ok (.invokevirtual 102, 3) := by decide +kernel
theorem dL_law_977 : decode cL_law 977 = .ok (.iload 6, 2) := by decide +kernel
theorem dL_law_979 : decode cL_law 979 = .ok (.if_icmp .eq 5, 3) := by decide +kernel
theorem dL_law_982 : decode cL_law 982 = .ok (.iconst 0, 1) := by decide +kernel
theorem dL_law_983 : decode cL_law 983 = .ok (.ireturn, 1) := by decide +kernel
theorem dL_law_984 : decode cL_law 984 = .ok (.iload 6, 2) := by decide +kernel
theorem dL_law_986 : decode cL_law 986 = .ok (.ifCond .ne 15, 3) := by decide +kernel
theorem dL_law_989 : decode cL_law 989 = .ok (.aload_n 3, 1) := by decide +kernel
theorem dL_law_990 : decode cL_law 990 = .ok (.iconst 0, 1) := by decide +kernel
theorem dL_law_991 : decode cL_law 991 = .ok (.laload, 1) := by decide +kernel
theorem dL_law_992 : decode cL_law 992 = .ok (.iload 7, 2) := by decide +kernel
theorem dL_law_994 : decode cL_law 994 = .ok (.i2l, 1) := by decide +kernel
theorem dL_law_995 : decode cL_law 995 = .ok (.lcmp, 1) := by decide +kernel
theorem dL_law_996 : decode cL_law 996 = .ok (.ifCond .eq 5, 3) := by decide +kernel
theorem dL_law_999 : decode cL_law 999 = .ok (.iconst 0, 1) := by decide +kernel
theorem dL_law_1000 : decode cL_law 1000 = .ok (.ireturn, 1) := by decide +kernel
theorem dL_law_1001 : decode cL_law 1001 = .ok (.goto 531, 3) := by decide +kernel
theorem dL_law_1004 : decode cL_law 1004 = .ok (.aload_n 1, 1) := by decide +kernel
theorem dL_law_1005 : decode cL_law 1005 = .ok (.aload_n 0, 1) := by decide +kernel
theorem dL_law_1006 : decode cL_law 1006 = .ok (.iload 5, 2) := by decide +kernel
theorem dL_law_1008 : decode cL_law 1008 = .ok (.iconst 1, 1) := by decide +kernel
theorem dL_law_1009 : decode cL_law 1009 = .ok (.iadd, 1) := by decide +kernel
theorem dL_law_1010 : decode cL_law 1010 = .ok (.iaload, 1) := by decide +kernel
theorem dL_law_1011 : decode cL_law 1011 = .ok (.aload_n 3, 1) := by decide +kernel
theorem dL_law_1012 : decode cL_law 1012 = .ok (.invokestatic 156, 3) := by decide +kernel
theorem dL_law_1015 : decode cL_law 1015 = .ok (.istore 6, 2) := by decide +kernel
theorem dL_law_1017 : decode cL_law 1017 = .ok (.aload_n 2, 1) := by decide +kernel
theorem dL_law_1018 : decode cL_law 1018 = .ok (.aload_n 0, 1) := by decide +kernel
theorem dL_law_1019 : decode cL_law 1019 = .ok (.iload 5, 2) := by decide +kernel
theorem dL_law_1021 : decode cL_law 1021 = .ok (.iconst 1, 1) := by decide +kernel
theorem dL_law_1022 : decode cL_law 1022 = .ok (.iadd, 1) := by decide +kernel
theorem dL_law_1023 : decode cL_law 1023 = .ok (.iaload, 1) := by decide +kernel
theorem dL_law_1024 : decode cL_law 1024 = .ok (.invokevirtual 158, 3) := by decide +kernel
theorem dL_law_1027 : decode cL_law 1027 = .ok (.istore 7, 2) := by decide +kernel
theorem dL_law_1029 : decode cL_law 1029 = .ok (.aload_n 2, 1) := by decide +kernel
theorem dL_law_1030 : decode cL_law 1030 = .ok (.invokevirtual 102, 3) := by decide +kernel
theorem dL_law_1033 : decode cL_law 1033 = .ok (.iload 6, 2) := by decide +kernel
theorem dL_law_1035 : decode cL_law 1035 = .ok (.if_icmp .eq 5, 3) := by decide +kernel
theorem dL_law_1038 : decode cL_law 1038 = .ok (.iconst 0, 1) := by decide +kernel
theorem dL_law_1039 : decode cL_law 1039 = .ok (.ireturn, 1) := by decide +kernel
theorem dL_law_1040 : decode cL_law 1040 = .ok (.iload 6, 2) := by decide +kernel
theorem dL_law_1042 : decode cL_law 1042 = .ok (.ifCond .ne 15, 3) := by decide +kernel
theorem dL_law_1045 : decode cL_law 1045 = .ok (.aload_n 3, 1) := by decide +kernel
theorem dL_law_1046 : decode cL_law 1046 = .ok (.iconst 0, 1) := by decide +kernel
theorem dL_law_1047 : decode cL_law 1047 = .ok (.laload, 1) := by decide +kernel
theorem dL_law_1048 : decode cL_law 1048 = .ok (.iload 7, 2) := by decide +kernel
theorem dL_law_1050 : decode cL_law 1050 = .ok (.i2l, 1) := by decide +kernel
theorem dL_law_1051 : decode cL_law 1051 = .ok (.lcmp, 1) := by decide +kernel
theorem dL_law_1052 : decode cL_law 1052 = .ok (.ifCond .eq 5, 3) := by decide +kernel
theorem dL_law_1055 : decode cL_law 1055 = .ok (.iconst 0, 1) := by decide +kernel
theorem dL_law_1056 : decode cL_law 1056 = .ok (.ireturn, 1) := by decide +kernel
theorem dL_law_1057 : decode cL_law 1057 = .ok (.goto 475, 3) := by decide +kernel
theorem dL_law_1060 : decode cL_law 1060 = .ok (.aload_n 1, 1) := by decide +kernel
theorem dL_law_1061 : decode cL_law 1061 = .ok (.aload_n 3, 1) := by decide +kernel
theorem dL_law_1062 : decode cL_law 1062 = .ok (.invokestatic 159, 3) := by decide +kernel
theorem dL_law_1065 : decode cL_law 1065 = .ok (.istore 6, 2) := by decide +kernel
theorem dL_law_1067 : decode cL_law 1067 = .ok (.aload_n 2, 1) := by decide +kernel
theorem dL_law_1068 : decode cL_law 1068 = .ok (.invokevirtual 161, 3) := by decide +kernel
theorem dL_law_1071 : decode cL_law 1071 = .ok (.istore 7, 2) := by decide +kernel
theorem dL_law_1073 : decode cL_law 1073 = .ok (.aload_n 2, 1) := by decide +kernel
theorem dL_law_1074 : decode cL_law 1074 = .ok (.invokevirtual 102, 3) := by decide +kernel
theorem dL_law_1077 : decode cL_law 1077 = .ok (.iload 6, 2) := by decide +kernel
theorem dL_law_1079 : decode cL_law 1079 = .ok (.if_icmp .eq 5, 3) := by decide +kernel
theorem dL_law_1082 : decode cL_law 1082 = .ok (.iconst 0, 1) := by decide +kernel
theorem dL_law_1083 : decode cL_law 1083 = .ok (.ireturn, 1) := by decide +kernel
theorem dL_law_1084 : decode cL_law 1084 = .ok (.iload 6, 2) := by decide +kernel
theorem dL_law_1086 : decode cL_law 1086 = .ok (.ifCond .ne 15, 3) := by decide +kernel
theorem dL_law_1089 : decode cL_law 1089 = .ok (.aload_n 3, 1) := by decide +kernel
theorem dL_law_1090 : decode cL_law 1090 = .ok (.iconst 0, 1) := by decide +kernel
theorem dL_law_1091 : decode cL_law 1091 = .ok (.laload, 1) := by decide +kernel
theorem dL_law_1092 : decode cL_law 1092 = .ok (.iload 7, 2) := by decide +kernel
theorem dL_law_1094 : decode cL_law 1094 = .ok (.i2l, 1) := by decide +kernel
theorem dL_law_1095 : decode cL_law 1095 = .ok (.lcmp, 1) := by decide +kernel
theorem dL_law_1096 : decode cL_law 1096 = .ok (.ifCond .eq 5, 3) := by decide +kernel
theorem dL_law_1099 : decode cL_law 1099 = .ok (.iconst 0, 1) := by decide +kernel
theorem dL_law_1100 : decode cL_law 1100 = .ok (.ireturn, 1) := by decide +kernel
theorem dL_law_1101 : decode cL_law 1101 = .ok (.goto 431, 3) := by decide +kernel
theorem dL_law_1104 : decode cL_law 1104 = .ok (.aload_n 1, 1) := by decide +kernel
theorem dL_law_1105 : decode cL_law 1105 = .ok (.aload_n 3, 1) := by decide +kernel
theorem dL_law_1106 : decode cL_law 1106 = .ok (.invokestatic 162, 3) := by decide +kernel
theorem dL_law_1109 : decode cL_law 1109 = .ok (.istore 6, 2) := by decide +kernel
theorem dL_law_1111 : decode cL_law 1111 = .ok (.aload_n 2, 1) := by decide +kernel
theorem dL_law_1112 : decode cL_law 1112 = .ok (.invokevirtual 164, 3) := by decide +kernel
theorem dL_law_1115 : decode cL_law 1115 = .ok (.istore 7, 2) := by decide +kernel
theorem dL_law_1117 : decode cL_law 1117 = .ok (.aload_n 2, 1) := by decide +kernel
theorem dL_law_1118 : decode cL_law 1118 = .ok (.invokevirtual 102, 3) := by decide +kernel
theorem dL_law_1121 : decode cL_law 1121 = .ok (.iload 6, 2) := by decide +kernel
theorem dL_law_1123 : decode cL_law 1123 = .ok (.if_icmp .eq 5, 3) := by decide +kernel
theorem dL_law_1126 : decode cL_law 1126 = .ok (.iconst 0, 1) := by decide +kernel
theorem dL_law_1127 : decode cL_law 1127 = .ok (.ireturn, 1) := by decide +kernel
theorem dL_law_1128 : decode cL_law 1128 = .ok (.iload 6, 2) := by decide +kernel
theorem dL_law_1130 : decode cL_law 1130 = .ok (.ifCond .ne 15, 3) := by decide +kernel
theorem dL_law_1133 : decode cL_law 1133 = .ok (.aload_n 3, 1) := by decide +kernel
theorem dL_law_1134 : decode cL_law 1134 = .ok (.iconst 0, 1) := by decide +kernel
theorem dL_law_1135 : decode cL_law 1135 = .ok (.laload, 1) := by decide +kernel
theorem dL_law_1136 : decode cL_law 1136 = .ok (.iload 7, 2) := by decide +kernel
theorem dL_law_1138 : decode cL_law 1138 = .ok (.i2l, 1) := by decide +kernel
theorem dL_law_1139 : decode cL_law 1139 = .ok (.lcmp, 1) := by decide +kernel
theorem dL_law_1140 : decode cL_law 1140 = .ok (.ifCond .eq 5, 3) := by decide +kernel
theorem dL_law_1143 : decode cL_law 1143 = .ok (.iconst 0, 1) := by decide +kernel
theorem dL_law_1144 : decode cL_law 1144 = .ok (.ireturn, 1) := by decide +kernel
theorem dL_law_1145 : decode cL_law 1145 = .ok (.goto 387, 3) := by decide +kernel
theorem dL_law_1148 : decode cL_law 1148 = .ok (.aload_n 1, 1) := by decide +kernel
theorem dL_law_1149 : decode cL_law 1149 = .ok (.aload_n 3, 1) := by decide +kernel
theorem dL_law_1150 : decode cL_law 1150 = .ok (.invokestatic 165, 3) := by decide +kernel
theorem dL_law_1153 : decode cL_law 1153 = .ok (.istore 6, 2) := by decide +kernel
theorem dL_law_1155 : decode cL_law 1155 = .ok (.aload_n 2, 1) := by decide +kernel
theorem dL_law_1156 : decode cL_law 1156 = .ok (.invokevirtual 167, 3) := by decide +kernel
theorem dL_law_1159 : decode cL_law 1159 = .ok (.istore 7, 2) := by decide +kernel
theorem dL_law_1161 : decode cL_law 1161 = .ok (.aload_n 2, 1) := by decide +kernel
theorem dL_law_1162 : decode cL_law 1162 = .ok (.invokevirtual 102, 3) := by decide +kernel
theorem dL_law_1165 : decode cL_law 1165 = .ok (.iload 6, 2) := by decide +kernel
theorem dL_law_1167 : decode cL_law 1167 = .ok (.if_icmp .eq 5, 3) := by decide +kernel
theorem dL_law_1170 : decode cL_law 1170 = .ok (.iconst 0, 1) := by decide +kernel
theorem dL_law_1171 : decode cL_law 1171 = .ok (.ireturn, 1) := by decide +kernel
theorem dL_law_1172 : decode cL_law 1172 = .ok (.iload 6, 2) := by decide +kernel
theorem dL_law_1174 : decode cL_law 1174 = .ok (.ifCond .ne 15, 3) := by decide +kernel
theorem dL_law_1177 : decode cL_law 1177 = .ok (.aload_n 3, 1) := by decide +kernel
theorem dL_law_1178 : decode cL_law 1178 = .ok (.iconst 0, 1) := by decide +kernel
theorem dL_law_1179 : decode cL_law 1179 = .ok (.laload, 1) := by decide +kernel
theorem dL_law_1180 : decode cL_law 1180 = .ok (.iload 7, 2) := by decide +kernel
theorem dL_law_1182 : decode cL_law 1182 = .ok (.i2l, 1) := by decide +kernel
theorem dL_law_1183 : decode cL_law 1183 = .ok (.lcmp, 1) := by decide +kernel
theorem dL_law_1184 : decode cL_law 1184 = .ok (.ifCond .eq 5, 3) := by decide +kernel
theorem dL_law_1187 : decode cL_law 1187 = .ok (.iconst 0, 1) := by decide +kernel
theorem dL_law_1188 : decode cL_law 1188 = .ok (.ireturn, 1) := by decide +kernel
theorem dL_law_1189 : decode cL_law 1189 = .ok (.goto 343, 3) := by decide +kernel
theorem dL_law_1192 : decode cL_law 1192 = .ok (.aload_n 1, 1) := by decide +kernel
theorem dL_law_1193 : decode cL_law 1193 = .ok (.aload_n 0, 1) := by decide +kernel
theorem dL_law_1194 : decode cL_law 1194 = .ok (.iload 5, 2) := by decide +kernel
theorem dL_law_1196 : decode cL_law 1196 = .ok (.iconst 1, 1) := by decide +kernel
theorem dL_law_1197 : decode cL_law 1197 = .ok (.iadd, 1) := by decide +kernel
theorem dL_law_1198 : decode cL_law 1198 = .ok (.iaload, 1) := by decide +kernel
theorem dL_law_1199 : decode cL_law 1199 = .ok (.aload_n 3, 1) := by decide +kernel
theorem dL_law_1200 : decode cL_law 1200 = .ok (.invokestatic 168, 3) := by decide +kernel
theorem dL_law_1203 : decode cL_law 1203 = .ok (.istore 6, 2) := by decide +kernel
theorem dL_law_1205 : decode cL_law 1205 = .ok (.aload_n 2, 1) := by decide +kernel
theorem dL_law_1206 : decode cL_law 1206 = .ok (.aload_n 0, 1) := by decide +kernel
theorem dL_law_1207 : decode cL_law 1207 = .ok (.iload 5, 2) := by decide +kernel
theorem dL_law_1209 : decode cL_law 1209 = .ok (.iconst 1, 1) := by decide +kernel
theorem dL_law_1210 : decode cL_law 1210 = .ok (.iadd, 1) := by decide +kernel
theorem dL_law_1211 : decode cL_law 1211 = .ok (.iaload, 1) := by decide +kernel
theorem dL_law_1212 : decode cL_law 1212 = .ok (.invokevirtual 170, 3) := by decide +kernel
theorem dL_law_1215 : decode cL_law 1215 = .ok (.istore 7, 2) := by decide +kernel
theorem dL_law_1217 : decode cL_law 1217 = .ok (.aload_n 2, 1) := by decide +kernel
theorem dL_law_1218 : decode cL_law 1218 = .ok (.invokevirtual 102, 3) := by decide +kernel
theorem dL_law_1221 : decode cL_law 1221 = .ok (.iload 6, 2) := by decide +kernel
theorem dL_law_1223 : decode cL_law 1223 = .ok (.if_icmp .eq 5, 3) := by decide +kernel
theorem dL_law_1226 : decode cL_law 1226 = .ok (.iconst 0, 1) := by decide +kernel
theorem dL_law_1227 : decode cL_law 1227 = .ok (.ireturn, 1) := by decide +kernel
theorem dL_law_1228 : decode cL_law 1228 = .ok (.iload 6, 2) := by decide +kernel
theorem dL_law_1230 : decode cL_law 1230 = .ok (.ifCond .ne 15, 3) := by decide +kernel
theorem dL_law_1233 : decode cL_law 1233 = .ok (.aload_n 3, 1) := by decide +kernel
theorem dL_law_1234 : decode cL_law 1234 = .ok (.iconst 0, 1) := by decide +kernel
theorem dL_law_1235 : decode cL_law 1235 = .ok (.laload, 1) := by decide +kernel
theorem dL_law_1236 : decode cL_law 1236 = .ok (.iload 7, 2) := by decide +kernel
theorem dL_law_1238 : decode cL_law 1238 = .ok (.i2l, 1) := by decide +kernel
theorem dL_law_1239 : decode cL_law 1239 = .ok (.lcmp, 1) := by decide +kernel
theorem dL_law_1240 : decode cL_law 1240 = .ok (.ifCond .eq 5, 3) := by decide +kernel
theorem dL_law_1243 : decode cL_law 1243 = .ok (.iconst 0, 1) := by decide +kernel
theorem dL_law_1244 : decode cL_law 1244 = .ok (.ireturn, 1) := by decide +kernel
theorem dL_law_1245 : decode cL_law 1245 = .ok (.goto 287, 3) := by decide +kernel
theorem dL_law_1248 : decode cL_law 1248 = .ok (.aload_n 1, 1) := by decide +kernel
theorem dL_law_1249 : decode cL_law 1249 = .ok (.aload_n 0, 1) := by decide +kernel
theorem dL_law_1250 : decode cL_law 1250 = .ok (.iload 5, 2) := by decide +kernel
theorem dL_law_1252 : decode cL_law 1252 = .ok (.iconst 1, 1) := by decide +kernel
theorem dL_law_1253 : decode cL_law 1253 = .ok (.iadd, 1) := by decide +kernel
theorem dL_law_1254 : decode cL_law 1254 = .ok (.iaload, 1) := by decide +kernel
theorem dL_law_1255 : decode cL_law 1255 = .ok (.aload_n 3, 1) := by decide +kernel
theorem dL_law_1256 : decode cL_law 1256 = .ok (.invokestatic 171, 3) := by decide +kernel
theorem dL_law_1259 : decode cL_law 1259 = .ok (.istore 6, 2) := by decide +kernel
theorem dL_law_1261 : decode cL_law 1261 = .ok (.aload_n 2, 1) := by decide +kernel
theorem dL_law_1262 : decode cL_law 1262 = .ok (.aload_n 0, 1) := by decide +kernel
theorem dL_law_1263 : decode cL_law 1263 = .ok (.iload 5, 2) := by decide +kernel
theorem dL_law_1265 : decode cL_law 1265 = .ok (.iconst 1, 1) := by decide +kernel
theorem dL_law_1266 : decode cL_law 1266 = .ok (.iadd, 1) := by decide +kernel
theorem dL_law_1267 : decode cL_law 1267 = .ok (.iaload, 1) := by decide +kernel
theorem dL_law_1268 : decode cL_law 1268 = .ok (.invokevirtual 173, 3) := by decide +kernel
theorem dL_law_1271 : decode cL_law 1271 = .ok (.istore 7, 2) := by decide +kernel
theorem dL_law_1273 : decode cL_law 1273 = .ok (.aload_n 2, 1) := by decide +kernel
theorem dL_law_1274 : decode cL_law 1274 = .ok (.invokevirtual 102, 3) := by decide +kernel
theorem dL_law_1277 : decode cL_law 1277 = .ok (.iload 6, 2) := by decide +kernel
theorem dL_law_1279 : decode cL_law 1279 = .ok (.if_icmp .eq 5, 3) := by decide +kernel
theorem dL_law_1282 : decode cL_law 1282 = .ok (.iconst 0, 1) := by decide +kernel
theorem dL_law_1283 : decode cL_law 1283 = .ok (.ireturn, 1) := by decide +kernel
theorem dL_law_1284 : decode cL_law 1284 = .ok (.iload 6, 2) := by decide +kernel
theorem dL_law_1286 : decode cL_law 1286 = .ok (.ifCond .ne 22, 3) := by decide +kernel
theorem dL_law_1289 : decode cL_law 1289 = .ok (.aload_n 3, 1) := by decide +kernel
theorem dL_law_1290 : decode cL_law 1290 = .ok (.iconst 0, 1) := by decide +kernel
theorem dL_law_1291 : decode cL_law 1291 = .ok (.laload, 1) := by decide +kernel
theorem dL_law_1292 : decode cL_law 1292 = .ok (.iload 7, 2) := by decide +kernel
theorem dL_law_1294 : decode cL_law 1294 = .ok (.ifCond .eq 7, 3) := by decide +kernel
theorem dL_law_1297 : decode cL_law 1297 = .ok (.lconst 1, 1) := by decide +kernel
theorem dL_law_1298 : decode cL_law 1298 = .ok (.goto 4, 3) := by decide +kernel
theorem dL_law_1301 : decode cL_law 1301 = .ok (.lconst 0, 1) := by decide +kernel
theorem dL_law_1302 : decode cL_law 1302 = .ok (.lcmp, 1) := by decide +kernel
theorem dL_law_1303 : decode cL_law 1303 = .ok (.ifCond .eq 5, 3) := by decide +kernel
theorem dL_law_1306 : decode cL_law 1306 = .ok (.iconst 0, 1) := by decide +kernel
theorem dL_law_1307 : decode cL_law 1307 = .ok (.ireturn, 1) := by decide +kernel
theorem dL_law_1308 : decode cL_law 1308 = .ok (.goto 224, 3) := by decide +kernel
theorem dL_law_1311 : decode cL_law 1311 = .ok (.aload_n 1, 1) := by decide +kernel
theorem dL_law_1312 : decode cL_law 1312 = .ok (.aload_n 0, 1) := by decide +kernel
theorem dL_law_1313 : decode cL_law 1313 = .ok (.iload 5, 2) := by decide +kernel
theorem dL_law_1315 : decode cL_law 1315 = .ok (.iconst 1, 1) := by decide +kernel
theorem dL_law_1316 : decode cL_law 1316 = .ok (.iadd, 1) := by decide +kernel
theorem dL_law_1317 : decode cL_law 1317 = .ok (.iaload, 1) := by decide +kernel
theorem dL_law_1318 : decode cL_law 1318 = .ok (.aload_n 3, 1) := by decide +kernel
theorem dL_law_1319 : decode cL_law 1319 = .ok (.invokestatic 174, 3) := by decide +kernel
theorem dL_law_1322 : decode cL_law 1322 = .ok (.istore 6, 2) := by decide +kernel
theorem dL_law_1324 : decode cL_law 1324 = .ok (.aload_n 2, 1) := by decide +kernel
theorem dL_law_1325 : decode cL_law 1325 = .ok (.aload_n 0, 1) := by decide +kernel
theorem dL_law_1326 : decode cL_law 1326 = .ok (.iload 5, 2) := by decide +kernel
theorem dL_law_1328 : decode cL_law 1328 = .ok (.iconst 1, 1) := by decide +kernel
theorem dL_law_1329 : decode cL_law 1329 = .ok (.iadd, 1) := by decide +kernel
theorem dL_law_1330 : decode cL_law 1330 = .ok (.iaload, 1) := by decide +kernel
theorem dL_law_1331 : decode cL_law 1331 = .ok (.invokevirtual 176, 3) := by decide +kernel
theorem dL_law_1334 : decode cL_law 1334 = .ok (.istore 7, 2) := by decide +kernel
theorem dL_law_1336 : decode cL_law 1336 = .ok (.aload_n 2, 1) := by decide +kernel
theorem dL_law_1337 : decode cL_law 1337 = .ok (.invokevirtual 102, 3) := by decide +kernel
theorem dL_law_1340 : decode cL_law 1340 = .ok (.iload 6, 2) := by decide +kernel
theorem dL_law_1342 : decode cL_law 1342 = .ok (.if_icmp .eq 5, 3) := by decide +kernel
theorem dL_law_1345 : decode cL_law 1345 = .ok (.iconst 0, 1) := by decide +kernel
theorem dL_law_1346 : decode cL_law 1346 = .ok (.ireturn, 1) := by decide +kernel
theorem dL_law_1347 : decode cL_law 1347 = .ok (.iload 6, 2) := by decide +kernel
theorem dL_law_1349 : decode cL_law 1349 = .ok (.ifCond .ne 22, 3) := by decide +kernel
theorem dL_law_1352 : decode cL_law 1352 = .ok (.aload_n 3, 1) := by decide +kernel
theorem dL_law_1353 : decode cL_law 1353 = .ok (.iconst 0, 1) := by decide +kernel
theorem dL_law_1354 : decode cL_law 1354 = .ok (.laload, 1) := by decide +kernel
theorem dL_law_1355 : decode cL_law 1355 = .ok (.iload 7, 2) := by decide +kernel
theorem dL_law_1357 : decode cL_law 1357 = .ok (.ifCond .eq 7, 3) := by decide +kernel
theorem dL_law_1360 : decode cL_law 1360 = .ok (.lconst 1, 1) := by decide +kernel
theorem dL_law_1361 : decode cL_law 1361 = .ok (.goto 4, 3) := by decide +kernel
theorem dL_law_1364 : decode cL_law 1364 = .ok (.lconst 0, 1) := by decide +kernel
theorem dL_law_1365 : decode cL_law 1365 = .ok (.lcmp, 1) := by decide +kernel
theorem dL_law_1366 : decode cL_law 1366 = .ok (.ifCond .eq 5, 3) := by decide +kernel
theorem dL_law_1369 : decode cL_law 1369 = .ok (.iconst 0, 1) := by decide +kernel
theorem dL_law_1370 : decode cL_law 1370 = .ok (.ireturn, 1) := by decide +kernel
theorem dL_law_1371 : decode cL_law 1371 = .ok (.goto 161, 3) := by decide +kernel
theorem dL_law_1374 : decode cL_law 1374 = .ok (.aload_n 1, 1) := by decide +kernel
theorem dL_law_1375 : decode cL_law 1375 = .ok (.aload_n 0, 1) := by decide +kernel
theorem dL_law_1376 : decode cL_law 1376 = .ok (.iload 5, 2) := by decide +kernel
theorem dL_law_1378 : decode cL_law 1378 = .ok (.iconst 1, 1) := by decide +kernel
theorem dL_law_1379 : decode cL_law 1379 = .ok (.iadd, 1) := by decide +kernel
theorem dL_law_1380 : decode cL_law 1380 = .ok (.iaload, 1) := by decide +kernel
theorem dL_law_1381 : decode cL_law 1381 = .ok (.aload_n 3, 1) := by decide +kernel
theorem dL_law_1382 : decode cL_law 1382 = .ok (.invokestatic 177, 3) := by decide +kernel
theorem dL_law_1385 : decode cL_law 1385 = .ok (.istore 6, 2) := by decide +kernel
theorem dL_law_1387 : decode cL_law 1387 = .ok (.aload_n 2, 1) := by decide +kernel
theorem dL_law_1388 : decode cL_law 1388 = .ok (.aload_n 0, 1) := by decide +kernel
theorem dL_law_1389 : decode cL_law 1389 = .ok (.iload 5, 2) := by decide +kernel
theorem dL_law_1391 : decode cL_law 1391 = .ok (.iconst 1, 1) := by decide +kernel
theorem dL_law_1392 : decode cL_law 1392 = .ok (.iadd, 1) := by decide +kernel
theorem dL_law_1393 : decode cL_law 1393 = .ok (.iaload, 1) := by decide +kernel
theorem dL_law_1394 : decode cL_law 1394 = .ok (.invokevirtual 179, 3) := by decide +kernel
theorem dL_law_1397 : decode cL_law 1397 = .ok (.istore 7, 2) := by decide +kernel
theorem dL_law_1399 : decode cL_law 1399 = .ok (.aload_n 2, 1) := by decide +kernel
theorem dL_law_1400 : decode cL_law 1400 = .ok (.invokevirtual 102, 3) := by decide +kernel
theorem dL_law_1403 : decode cL_law 1403 = .ok (.iload 6, 2) := by decide +kernel
theorem dL_law_1405 : decode cL_law 1405 = .ok (.if_icmp .eq 5, 3) := by decide +kernel
theorem dL_law_1408 : decode cL_law 1408 = .ok (.iconst 0, 1) := by decide +kernel
theorem dL_law_1409 : decode cL_law 1409 = .ok (.ireturn, 1) := by decide +kernel
theorem dL_law_1410 : decode cL_law 1410 = .ok (.iload 6, 2) := by decide +kernel
theorem dL_law_1412 : decode cL_law 1412 = .ok (.ifCond .ne 15, 3) := by decide +kernel
theorem dL_law_1415 : decode cL_law 1415 = .ok (.aload_n 3, 1) := by decide +kernel
theorem dL_law_1416 : decode cL_law 1416 = .ok (.iconst 0, 1) := by decide +kernel
theorem dL_law_1417 : decode cL_law 1417 = .ok (.laload, 1) := by decide +kernel
theorem dL_law_1418 : decode cL_law 1418 = .ok (.iload 7, 2) := by decide +kernel
theorem dL_law_1420 : decode cL_law 1420 = .ok (.i2l, 1) := by decide +kernel
theorem dL_law_1421 : decode cL_law 1421 = .ok (.lcmp, 1) := by decide +kernel
theorem dL_law_1422 : decode cL_law 1422 = .ok (.ifCond .eq 5, 3) := by decide +kernel
theorem dL_law_1425 : decode cL_law 1425 = .ok (.iconst 0, 1) := by decide +kernel
theorem dL_law_1426 : decode cL_law 1426 = .ok (.ireturn, 1) := by decide +kernel
theorem dL_law_1427 : decode cL_law 1427 = .ok (.goto 105, 3) := by decide +kernel
theorem dL_law_1430 : decode cL_law 1430 = .ok (.aload_n 1, 1) := by decide +kernel
theorem dL_law_1431 : decode cL_law 1431 = .ok (.aload_n 3, 1) := by decide +kernel
theorem dL_law_1432 : decode cL_law 1432 = .ok (.invokestatic 180, 3) := by decide +kernel
theorem dL_law_1435 : decode cL_law 1435 = .ok (.istore 6, 2) := by decide +kernel
theorem dL_law_1437 : decode cL_law 1437 = .ok (.aload_n 2, 1) := by decide +kernel
theorem dL_law_1438 : decode cL_law 1438 = .ok (.invokevirtual 182, 3) := by decide +kernel
theorem dL_law_1441 : decode cL_law 1441 = .ok (.istore 7, 2) := by decide +kernel
theorem dL_law_1443 : decode cL_law 1443 = .ok (.aload_n 2, 1) := by decide +kernel
theorem dL_law_1444 : decode cL_law 1444 = .ok (.invokevirtual 102, 3) := by decide +kernel
theorem dL_law_1447 : decode cL_law 1447 = .ok (.iload 6, 2) := by decide +kernel
theorem dL_law_1449 : decode cL_law 1449 = .ok (.if_icmp .eq 5, 3) := by decide +kernel
theorem dL_law_1452 : decode cL_law 1452 = .ok (.iconst 0, 1) := by decide +kernel
theorem dL_law_1453 : decode cL_law 1453 = .ok (.ireturn, 1) := by decide +kernel
theorem dL_law_1454 : decode cL_law 1454 = .ok (.iload 6, 2) := by decide +kernel
theorem dL_law_1456 : decode cL_law 1456 = .ok (.ifCond .ne 15, 3) := by decide +kernel
theorem dL_law_1459 : decode cL_law 1459 = .ok (.aload_n 3, 1) := by decide +kernel
theorem dL_law_1460 : decode cL_law 1460 = .ok (.iconst 0, 1) := by decide +kernel
theorem dL_law_1461 : decode cL_law 1461 = .ok (.laload, 1) := by decide +kernel
theorem dL_law_1462 : decode cL_law 1462 = .ok (.iload 7, 2) := by decide +kernel
theorem dL_law_1464 : decode cL_law 1464 = .ok (.i2l, 1) := by decide +kernel
theorem dL_law_1465 : decode cL_law 1465 = .ok (.lcmp, 1) := by decide +kernel
theorem dL_law_1466 : decode cL_law 1466 = .ok (.ifCond .eq 5, 3) := by decide +kernel
theorem dL_law_1469 : decode cL_law 1469 = .ok (.iconst 0, 1) := by decide +kernel
theorem dL_law_1470 : decode cL_law 1470 = .ok (.ireturn, 1) := by decide +kernel
theorem dL_law_1471 : decode cL_law 1471 = .ok (.goto 61, 3) := by decide +kernel
theorem dL_law_1474 : decode cL_law 1474 = .ok (.aload_n 1, 1) := by decide +kernel
theorem dL_law_1475 : decode cL_law 1475 = .ok (.aload_n 3, 1) := by decide +kernel
theorem dL_law_1476 : decode cL_law 1476 = .ok (.invokestatic 183, 3) := by decide +kernel
theorem dL_law_1479 : decode cL_law 1479 = .ok (.istore 6, 2) := by decide +kernel
theorem dL_law_1481 : decode cL_law 1481 = .ok (.aload_n 2, 1) := by decide +kernel
theorem dL_law_1482 : decode cL_law 1482 = .ok (.invokevirtual 185, 3) := by decide +kernel
theorem dL_law_1485 : decode cL_law 1485 = .ok (.istore 7, 2) := by decide +kernel
theorem dL_law_1487 : decode cL_law 1487 = .ok (.aload_n 2, 1) := by decide +kernel
theorem dL_law_1488 : decode cL_law 1488 = .ok (.invokevirtual 102, 3) := by decide +kernel
theorem dL_law_1491 : decode cL_law 1491 = .ok (.iload 6, 2) := by decide +kernel
theorem dL_law_1493 : decode cL_law 1493 = .ok (.if_icmp .eq 5, 3) := by decide +kernel
theorem dL_law_1496 : decode cL_law 1496 = .ok (.iconst 0, 1) := by decide +kernel
theorem dL_law_1497 : decode cL_law 1497 = .ok (.ireturn, 1) := by decide +kernel
theorem dL_law_1498 : decode cL_law 1498 = .ok (.iload 6, 2) := by decide +kernel
theorem dL_law_1500 : decode cL_law 1500 = .ok (.ifCond .ne 15, 3) := by decide +kernel
theorem dL_law_1503 : decode cL_law 1503 = .ok (.aload_n 3, 1) := by decide +kernel
theorem dL_law_1504 : decode cL_law 1504 = .ok (.iconst 0, 1) := by decide +kernel
theorem dL_law_1505 : decode cL_law 1505 = .ok (.laload, 1) := by decide +kernel
theorem dL_law_1506 : decode cL_law 1506 = .ok (.iload 7, 2) := by decide +kernel
theorem dL_law_1508 : decode cL_law 1508 = .ok (.i2l, 1) := by decide +kernel
theorem dL_law_1509 : decode cL_law 1509 = .ok (.lcmp, 1) := by decide +kernel
theorem dL_law_1510 : decode cL_law 1510 = .ok (.ifCond .eq 5, 3) := by decide +kernel
theorem dL_law_1513 : decode cL_law 1513 = .ok (.iconst 0, 1) := by decide +kernel
theorem dL_law_1514 : decode cL_law 1514 = .ok (.ireturn, 1) := by decide +kernel
theorem dL_law_1515 : decode cL_law 1515 = .ok (.goto 17, 3) := by decide +kernel
theorem dL_law_1518 : decode cL_law 1518 = .ok (.aload_n 1, 1) := by decide +kernel
theorem dL_law_1519 : decode cL_law 1519 = .ok (.invokevirtual 186, 3) := by decide +kernel
theorem dL_law_1522 : decode cL_law 1522 = .ok (.aload_n 2, 1) := by decide +kernel
theorem dL_law_1523 : decode cL_law 1523 = .ok (.invokevirtual 190, 3) := by decide +kernel
theorem dL_law_1526 : decode cL_law 1526 = .ok (.lcmp, 1) := by decide +kernel
theorem dL_law_1527 : decode cL_law 1527 = .ok (.ifCond .eq 5, 3) := by decide +kernel
theorem dL_law_1530 : decode cL_law 1530 = .ok (.iconst 0, 1) := by decide +kernel
theorem dL_law_1531 : decode cL_law 1531 = .ok (.ireturn, 1) := by decide +kernel
theorem dL_law_1532 : decode cL_law 1532 = .ok (.iinc 5 4, 3) := by decide +kernel
theorem dL_law_1535 : decode cL_law 1535 = .ok (.goto (-1507), 3) := by decide +kernel
theorem dL_law_1538 : decode cL_law 1538 = .ok (.iconst 1, 1) := by decide +kernel
theorem dL_law_1539 : decode cL_law 1539 = .ok (.ireturn, 1) := by decide +kernel
abbrev vwCl : List vw_C := [(RX0, TX0, 3), (RX1, TX1, 3), (RX2, TX2, 4), (RX3, TX3, 6), (RX4, TX4, 6), (RX5, TX5, 7), (RX6, TX6, 5), (RX7, TX7, 20)]
end
section
/-! THE FRAME OF ALL WALKS: one world of numbered cells, one memory of whole numbers; every row of the kit that is used, said over it -/
abbrev Ix : Type := Nat × Nat
abbrev Mem : Type := Ix → Int → Int
def iI (z : Int) : Int32 := Int32.ofInt z
def iL (z : Int) : Int64 := Int64.ofInt z
abbrev jI (z : Int) : Value := .int (iI z)
theorem iI_add (x y : Int) : iI x + iI y = iI (x + y) := (Int32.ofInt_add x y).symm
theorem iI_sub (x y : Int) : iI x - iI y = iI (x - y) := (Int32.ofInt_sub x y).symm
theorem iI_mul (x y : Int) : iI x * iI y = iI (x * y) := (Int32.ofInt_mul x y).symm
theorem iI_neg (x : Int) : -iI x = iI (-x) := (Int32.ofInt_neg x).symm
theorem iL_add (x y : Int) : iL x + iL y = iL (x + y) := (Int64.ofInt_add x y).symm
theorem iL_mul (x y : Int) : iL x * iL y = iL (x * y) := (Int64.ofInt_mul x y).symm
def rg (z : Int) : Prop := -2147483648 ≤ z ∧ z < 2147483648
theorem iI_toInt {z : Int} (h : rg z) : (iI z).toInt = z := by
  obtain ⟨h1, h2⟩ := h
  exact Int32.toInt_ofInt_of_le (by simp; omega) (by simp; omega)
theorem iI_self (x : Int32) : iI x.toInt = x := Int32.ofInt_toInt x
theorem iI_rg (x : Int32) : rg x.toInt := ⟨by have := Int32.le_toInt x; simpa using this, by have := Int32.toInt_lt x; simpa using this⟩
theorem iI_lt {x y : Int} (hx : rg x) (hy : rg y) : iI x < iI y ↔ x < y := by rw [Int32.lt_iff_toInt_lt, iI_toInt hx, iI_toInt hy]
theorem iI_le {x y : Int} (hx : rg x) (hy : rg y) : iI x ≤ iI y ↔ x ≤ y := by rw [Int32.le_iff_toInt_le, iI_toInt hx, iI_toInt hy]
theorem iI_eq {x y : Int} (hx : rg x) (hy : rg y) : iI x = iI y ↔ x = y := by rw [← Int32.toInt_inj, iI_toInt hx, iI_toInt hy]
theorem iI_0 : (0 : Int32) = iI 0 := rfl
theorem iI_clamp {z : Int} (h0 : 0 ≤ z) (h : z < 2147483648) : (iI z).toNatClampNeg = z.toNat := by
  show (iI z).toInt.toNat = z.toNat
  rw [iI_toInt ⟨by omega, h⟩]
theorem iI_in {z : Int} {n : Nat} (h0 : 0 ≤ z) (h : z < n) (hn : n < 2147483648) : vp_in (iI z) n := by
  rw [vp_in_iff, iI_toInt ⟨by omega, by omega⟩]
  exact ⟨h0, h⟩
theorem iI_nat (n : Nat) : Int32.ofNat n = iI (n : Int) := rfl
/-- the words of the tables that any method may be handed -/
def TB : List Cond := lw_tbl.filter goodWord
def isNest : Cond → Bool
  | .fieldLinkNest .. => true
  | .methodLinkNest .. => true
  | _ => false
def NW : List Cond := lw_tbl.filter isNest
theorem TB_mem {w : Cond} (h : w ∈ lw_tbl) (hg : goodWord w = true) : w ∈ TB := List.mem_filter.mpr ⟨h, hg⟩
theorem NW_mem {w : Cond} (h : w ∈ lw_tbl) (hg : isNest w = true) : w ∈ NW := List.mem_filter.mpr ⟨h, hg⟩
theorem TB_good {w : Cond} (h : w ∈ TB) : goodWord w = true := (List.mem_filter.mp h).2
/-- the texts that exceptions carry -/
def strs : List (Nat × String) := lw_tbl.filterMap fun w => match w with
  | .stringRef "FlowNetwork" k t => some (k, t)
  | _ => none
def Sx (U : State) : Prop := ∀ q ∈ strs, ∃ sa : Nat, vk_R "FlowNetwork" q.1 q.2 sa U
def Nx (U : State) : Prop := ∀ w ∈ NW, va_Nw w U
theorem Nx.warm {s U : State} (hW : s.WarmedH U.vm) (h : Nx s) : Nx U := by
  intro w hw
  have h1 := h w hw
  have h2 : isNest w = true := (List.mem_filter.mp hw).2
  cases w <;> first | exact va_Nw.warmF hW h1 | exact va_Nw.warmM hW h1 | cases h2
theorem Nx.same {u U : State} (hv : u.vm = U.vm) (h : Nx u) : Nx U := by
  intro w hw
  have h1 := h w hw
  have h2 : isNest w = true := (List.mem_filter.mp hw).2
  cases w <;> first | exact va_Nw.same rfl hv h1 | cases h2
theorem Sx.warm {s U : State} (hW : s.WarmedH U.vm) (h : Sx s) : Sx U := fun q hq => (h q hq).elim fun sa h1 => ⟨sa, h1.warm hW⟩
theorem Sx.same {u U : State} (hv : u.vm = U.vm) (h : Sx u) : Sx U := fun q hq => (h q hq).elim fun sa h1 => ⟨sa, h1.same hv.symm⟩
abbrev tysL (cs : Nat → ClassId) : List (ClassId × FieldType) := [(cs 0, .int), (cs 1, .array .int), (cs 2, .long), (cs 3, .double)]
/-! the cells -/
abbrev arI (cs : Nat → ClassId) (σ : Mem) (i : Ix) (n : Nat) : va_E := .inl (cs 0, n, .inl (fun j => iI (σ i (j : Int))))
abbrev arQ (cs : Nat → ClassId) (n : Nat) (f : Nat → Nat) : va_E := .inl (cs 1, n, .inr (.inr (.inr (.inr (fun j => if j < n then some (f j) else none)))))
def encN (cs : Nat → ClassId) (ad : Ix → Nat) (σ : Mem) (k : Nat) : va_E := match k with
  | 0 => .inr (4, [jI (σ (0, 0) 0), jI (σ (0, 1) 0), .ref (ad (0, 2)), .ref (ad (0, 3)), .ref (ad (0, 4)), .ref (ad (0, 5))])
  | 2 => arI cs σ (0, 2) 80
  | 3 => arI cs σ (0, 3) 80
  | 4 => arI cs σ (0, 4) 24
  | _ => arQ cs 24 (fun v => ad (1, v))
def encL (cs : Nat → ClassId) (ad : Ix → Nat) (σ : Mem) (k : Nat) : va_E := match k with
  | 0 => .inr (2, [jI (σ (3, 0) 0), .ref (ad (3, 3)), .ref (ad (3, 1)), .ref (ad (3, 2))])
  | 1 => arI cs σ (3, 1) 8
  | 2 => arI cs σ (3, 2) 8
  | 3 => arQ cs 8 (fun v => ad (2, v))
  | 4 => .inr (0, [jI (σ (3, 4) 0), .ref (ad (3, 5)), .ref (ad (3, 6))])
  | 5 => arI cs σ (3, 5) 300
  | 6 => arI cs σ (3, 6) 24
  | _ => .inr (6, [.ref (ad (0, 0)), .ref (ad (6, 0)), .ref (ad (7, 0)), .ref (ad (3, 0)), .ref (ad (3, 4))])
def encM (cs : Nat → ClassId) (ad : Ix → Nat) (σ : Mem) (k : Nat) : va_E := match k with
  | 0 => .inr (7, [jI (σ (4, 1) 0), jI (σ (4, 2) 0), jI (σ (4, 3) 0), .ref (ad (4, 4)), .ref (ad (4, 5)), .ref (ad (4, 6)), jI (σ (4, 7) 0), jI (σ (4, 8) 0), jI (σ (4, 9) 0), .ref (ad (4, 10)), .ref (ad (4, 11)), .ref (ad (4, 12)), .ref (ad (4, 13)), .ref (ad (4, 14)), jI (σ (4, 15) 0), .ref (ad (4, 16)), .ref (ad (4, 17)), .ref (ad (4, 18)), .ref (ad (4, 19)), .ref (ad (4, 20))])
  | 4 => arI cs σ (4, 4) 80
  | 5 => arI cs σ (4, 5) 80
  | 6 => arI cs σ (4, 6) 80
  | 10 => arI cs σ (4, 10) 8
  | 11 => arI cs σ (4, 11) 640
  | 12 => arI cs σ (4, 12) 8
  | 13 => arI cs σ (4, 13) 8
  | 14 => arI cs σ (4, 14) 300
  | 16 => arI cs σ (4, 16) 80
  | 17 => arI cs σ (4, 17) 80
  | 18 => arI cs σ (4, 18) 24
  | 19 => arI cs σ (4, 19) 24
  | 20 => arI cs σ (4, 20) 24
  | _ => .inr (7, [])
def encO (cs : Nat → ClassId) (σ : Mem) (k : Nat) : va_E := match k with
  | 0 => .inl (cs 2, 1, .inr (.inl (fun j => iL (σ (5, 0) (j : Int)))))
  | 1 => .inl (cs 3, 1, .inr (.inr (.inr (.inl (fun j => UInt64.ofNat (σ (5, 1) (j : Int)).toNat)))))
  | _ => .inr (7, [])
def encB (cs : Nat → ClassId) (ad : Ix → Nat) (σ : Mem) (g k : Nat) : va_E := match k with
  | 0 => .inr (3, [.ref (ad (0, 0)), .ref (ad (g, 1)), .ref (ad (g, 4)), jI (σ (g, 8) 0), jI (σ (g, 9) 0), jI (σ (g, 10) 0)])
  | 1 => .inr (1, [.ref (ad (0, 0)), .ref (ad (g, 2)), .ref (ad (g, 3))])
  | 2 => arI cs σ (g, 2) 80
  | 3 => arI cs σ (g, 3) 80
  | 4 => .inr (5, [.ref (ad (0, 0)), .ref (ad (g, 1)), .ref (ad (g, 5)), .ref (ad (g, 6)), .ref (ad (g, 7)), jI (σ (g, 11) 0), jI (σ (g, 12) 0)])
  | 5 => arI cs σ (g, 5) 24
  | 6 => arI cs σ (g, 6) 24
  | 7 => arI cs σ (g, 7) 24
  | _ => .inr (7, [])
def enc (cs : Nat → ClassId) (ad : Ix → Nat) (σ : Mem) (i : Ix) : va_E := match i with
  | (0, k) => encN cs ad σ k
  | (1, v) => arI cs σ (1, v) 80
  | (2, v) => arI cs σ (2, v) 80
  | (3, k) => encL cs ad σ k
  | (4, k) => encM cs ad σ k
  | (5, k) => encO cs σ k
  | (b + 6, k) => encB cs ad σ (b + 6) k
def idsF : List Ix := [(0, 0), (0, 2), (0, 3), (0, 4), (0, 5)] ++ (List.range 24).map (fun v => (1, v)) ++ (List.range 8).map (fun v => (2, v)) ++ [(3, 0), (3, 1), (3, 2), (3, 3), (3, 4), (3, 5), (3, 6), (3, 7)] ++ [(6, 0), (6, 1), (6, 2), (6, 3), (6, 4), (6, 5), (6, 6), (6, 7)] ++ [(7, 0), (7, 1), (7, 2), (7, 3), (7, 4), (7, 5), (7, 6), (7, 7)]
def idsM : List Ix := [(4, 0), (4, 4), (4, 5), (4, 6), (4, 10), (4, 11), (4, 12), (4, 13), (4, 14), (4, 16), (4, 17), (4, 18), (4, 19), (4, 20)]
def idsO : List Ix := [(5, 0), (5, 1)]
def idsA : List Ix := idsF ++ (idsM ++ idsO)
theorem idsF_nd : idsF.Nodup := by decide +kernel
theorem idsM_nd : idsM.Nodup := by decide +kernel
theorem idsA_nd : idsA.Nodup := by decide +kernel
def mset (σ : Mem) (i : Ix) (z x : Int) : Mem := fun q j => if q = i ∧ j = z then x else σ q j
theorem mset_same {σ : Mem} {i : Ix} {z x : Int} : mset σ i z x i z = x := if_pos ⟨rfl, rfl⟩
theorem mset_id {σ : Mem} {i q : Ix} {z x : Int} (h : q ≠ i) : mset σ i z x q = σ q := funext fun _ => if_neg fun e => h e.1
theorem mset_ix {σ : Mem} {i : Ix} {z x j : Int} (h : j ≠ z) : mset σ i z x i j = σ i j := if_neg fun e => h e.2
theorem mset_at {σ : Mem} {i : Ix} {z x j : Int} : mset σ i z x i j = if j = z then x else σ i j := by
  by_cases h : j = z
  · rw [if_pos h, h, mset_same]
  · rw [if_neg h, mset_ix h]
/-- the object that holds a number -/
def owner (q : Ix) : Ix := match q with
  | (0, 0) => (0, 0)
  | (0, 1) => (0, 0)
  | (4, 1) => (4, 0)
  | (4, 2) => (4, 0)
  | (4, 3) => (4, 0)
  | (4, 7) => (4, 0)
  | (4, 8) => (4, 0)
  | (4, 9) => (4, 0)
  | (4, 15) => (4, 0)
  | (b + 6, 8) => (b + 6, 0)
  | (b + 6, 9) => (b + 6, 0)
  | (b + 6, 10) => (b + 6, 0)
  | (b + 6, 11) => (b + 6, 4)
  | (b + 6, 12) => (b + 6, 4)
  | q => q
theorem enc_reads {cs : Nat → ClassId} {ad : Ix → Nat} {σ τ : Mem} : ∀ {i : Ix}, (∀ q, owner q = i → σ q = τ q) → enc cs ad σ i = enc cs ad τ i
  | (0, k), h => by
    show encN cs ad σ k = encN cs ad τ k
    unfold encN
    split
    · rw [h (0, 0) rfl, h (0, 1) rfl]
    · rw [arI, h (0, 2) rfl]
    · rw [arI, h (0, 3) rfl]
    · rw [arI, h (0, 4) rfl]
    · rfl
  | (1, v), h => by show arI cs σ (1, v) 80 = arI cs τ (1, v) 80; rw [arI, h (1, v) rfl]
  | (2, v), h => by show arI cs σ (2, v) 80 = arI cs τ (2, v) 80; rw [arI, h (2, v) rfl]
  | (3, k), h => by
    show encL cs ad σ k = encL cs ad τ k
    unfold encL
    split
    · rw [h (3, 0) rfl]
    · rw [arI, h (3, 1) rfl]
    · rw [arI, h (3, 2) rfl]
    · rfl
    · rw [h (3, 4) rfl]
    · rw [arI, h (3, 5) rfl]
    · rw [arI, h (3, 6) rfl]
    · rfl
  | (4, k), h => by
    show encM cs ad σ k = encM cs ad τ k
    unfold encM
    split
    · rw [h (4, 1) rfl, h (4, 2) rfl, h (4, 3) rfl, h (4, 7) rfl, h (4, 8) rfl, h (4, 9) rfl, h (4, 15) rfl]
    · rw [arI, h (4, 4) rfl]
    · rw [arI, h (4, 5) rfl]
    · rw [arI, h (4, 6) rfl]
    · rw [arI, h (4, 10) rfl]
    · rw [arI, h (4, 11) rfl]
    · rw [arI, h (4, 12) rfl]
    · rw [arI, h (4, 13) rfl]
    · rw [arI, h (4, 14) rfl]
    · rw [arI, h (4, 16) rfl]
    · rw [arI, h (4, 17) rfl]
    · rw [arI, h (4, 18) rfl]
    · rw [arI, h (4, 19) rfl]
    · rw [arI, h (4, 20) rfl]
    · rfl
  | (5, k), h => by
    show encO cs σ k = encO cs τ k
    unfold encO
    split
    · rw [h (5, 0) rfl]
    · rw [h (5, 1) rfl]
    · rfl
  | (b + 6, k), h => by
    show encB cs ad σ (b + 6) k = encB cs ad τ (b + 6) k
    unfold encB
    split
    · rw [h (b + 6, 8) rfl, h (b + 6, 9) rfl, h (b + 6, 10) rfl]
    · rfl
    · rw [arI, h (b + 6, 2) rfl]
    · rw [arI, h (b + 6, 3) rfl]
    · rw [h (b + 6, 11) rfl, h (b + 6, 12) rfl]
    · rw [arI, h (b + 6, 5) rfl]
    · rw [arI, h (b + 6, 6) rfl]
    · rw [arI, h (b + 6, 7) rfl]
    · rfl

/-! the world in a heap, and one walk over it -/
def Pic (D : va_G) (cs : Nat → ClassId) (ids : List Ix) (ad : Ix → Nat) (σ : Mem) (H : Heap) : Prop := ∀ i ∈ ids, va_at D vwCl (ad i, enc cs ad σ i) H
def Apart (ids : List Ix) (ad : Ix → Nat) : Prop := ∀ i ∈ ids, ∀ j ∈ ids, ad i = ad j → i = j
def Rg (ids : List Ix) (ad : Ix → Nat) : Nat → Prop := fun q => ∃ i ∈ ids, ad i = q
def Wo (D : va_G) (cs : Nat → ClassId) (ids : List Ix) (ad : Ix → Nat) (σ : Mem) (U : State) : Prop := Pic D cs ids ad σ U.heap ∧ va_K D vwCl (tysL cs) U ∧ Nx U ∧ Sx U
theorem Wo.same {D : va_G} {cs : Nat → ClassId} {ids : List Ix} {ad : Ix → Nat} {σ : Mem} {u U : State} (hh : u.heap = U.heap) (hv : u.vm = U.vm) (h : Wo D cs ids ad σ u) : Wo D cs ids ad σ U := ⟨by rw [← hh]; exact h.1, va_K.moved (by rw [hv]; exact Vm.Alike.refl U.vm) h.2.1, h.2.2.1.same hv, h.2.2.2.same hv⟩
def Cx (p : Program) (s : State) (m : MethodId) (args : Array Value) (meth : Method) (c : Code) (cc : ByteArray) (nL : Nat) (own : String) : Prop :=
  p.tables.exec = Jvm.exec ∧ c.code = cc ∧ c.maxLocals = nL ∧ s.vm.findClass own = some m.cls ∧ (∀ w ∈ TB, w.before args s = true) ∧ meth.locks = false
def Kx (D : va_G) (cs : Nat → ClassId) (ids : List Ix) (ad : Ix → Nat) (A : Nat → Prop) (s : State) : Prop :=
  va_K D vwCl (tysL cs) s ∧ Apart ids ad ∧ (∀ i ∈ ids, A (ad i)) ∧ ids.Nodup ∧ Nx s ∧ Sx s
/-- the locals: what the list says of a place, the place holds -/
def lo_has (ls : Array Slot) (nL : Nat) (lo : List (Option Value)) : Prop := ls.size = nL ∧ lv_wf ls ∧ ∀ (i : Nat) (v : Value), lo[i]? = some (some v) → ls[i]? = some (.val v)
def lo_l (lo : List (Option Value)) : List (Nat × Value) := lo.zipIdx.filterMap fun q => q.1.map fun v => (q.2, v)
theorem lo_l_mem {lo : List (Option Value)} {i : Nat} {v : Value} : (i, v) ∈ lo_l lo ↔ lo[i]? = some (some v) := by
  unfold lo_l
  rw [List.mem_filterMap]
  constructor
  · rintro ⟨⟨o, k⟩, hm, he⟩
    cases o with
    | none => cases he
    | some w =>
      simp only [Option.map_some, Option.some.injEq, Prod.mk.injEq] at he
      obtain ⟨rfl, rfl⟩ := he
      exact List.mem_zipIdx_iff_getElem?.mp hm
  · intro h
    exact ⟨(some v, i), List.mem_zipIdx_iff_getElem?.mpr h, rfl⟩
theorem lo_lv {ls : Array Slot} {nL : Nat} {lo : List (Option Value)} (h : lo_has ls nL lo) : lv_has ls nL (lo_l lo) := ⟨h.1, h.2.1, fun q hq => h.2.2 q.1 q.2 (lo_l_mem.mp hq)⟩
def wideAt (lo : List (Option Value)) (i : Nat) : Bool := match i with
  | 0 => false
  | k + 1 => match lo[k]? with
    | some (some v) => v.category == 2
    | _ => false
theorem lo_put1 {ls : Array Slot} {nL i : Nat} {v : Value} {lo : List (Option Value)} (hw : wideAt lo i = false) (h : lv_has ls nL ((i, v) :: (lo_l lo).filter (fun q => !(q.1 == i) && !(q.1 + 1 == i && q.2.category == 2)))) : lo_has ls nL (lo.set i (some v)) := by
  refine ⟨h.1, h.2.1, fun j w hj => ?_⟩
  by_cases hji : j = i
  · subst hji
    have hl : j < lo.length := by
      have := (List.getElem?_eq_some_iff.mp hj).1
      simpa using this
    rw [List.getElem?_set_self hl] at hj
    cases hj
    exact h.2.2 (j, v) List.mem_cons_self
  · rw [List.getElem?_set_ne (Ne.symm hji)] at hj
    refine h.2.2 (j, w) (List.mem_cons_of_mem _ (List.mem_filter.mpr ⟨lo_l_mem.mpr hj, ?_⟩))
    have h1 : (j == i) = false := by simpa using hji
    simp only [h1, Bool.not_false, Bool.true_and, Bool.not_eq_true', Bool.and_eq_false_iff]
    by_cases h2 : j + 1 = i
    · right
      subst h2
      have hw : (match lo[j]? with
        | some (some v) => v.category == 2
        | _ => false) = false := hw
      rw [hj] at hw
      exact hw
    · left
      simpa using h2
theorem lo_put2 {ls : Array Slot} {nL i : Nat} {v : Value} {lo : List (Option Value)} (hw : wideAt lo i = false) (h : lv_has ls nL ((i, v) :: (lo_l lo).filter (fun q => !(q.1 == i) && (!(q.1 == i + 1) && !(q.1 + 1 == i && q.2.category == 2))))) : lo_has ls nL ((lo.set i (some v)).set (i + 1) none) := by
  refine ⟨h.1, h.2.1, fun j w hj => ?_⟩
  by_cases hj1 : j = i + 1
  · subst hj1
    have hl : i + 1 < lo.length := by
      have := (List.getElem?_eq_some_iff.mp hj).1
      simpa using this
    rw [List.getElem?_set_self (by simpa using hl)] at hj
    cases hj
  rw [List.getElem?_set_ne (Ne.symm hj1)] at hj
  by_cases hji : j = i
  · subst hji
    have hl : j < lo.length := by
      have := (List.getElem?_eq_some_iff.mp hj).1
      simpa using this
    rw [List.getElem?_set_self hl] at hj
    cases hj
    exact h.2.2 (j, v) List.mem_cons_self
  · rw [List.getElem?_set_ne (Ne.symm hji)] at hj
    refine h.2.2 (j, w) (List.mem_cons_of_mem _ (List.mem_filter.mpr ⟨lo_l_mem.mpr hj, ?_⟩))
    have h1 : (j == i) = false := by simpa using hji
    have h3 : (j == i + 1) = false := by simpa using hj1
    simp only [h1, h3, Bool.not_false, Bool.true_and, Bool.not_eq_true', Bool.and_eq_false_iff]
    by_cases h2 : j + 1 = i
    · right
      subst h2
      have hw : (match lo[j]? with
        | some (some v) => v.category == 2
        | _ => false) = false := hw
      rw [hj] at hw
      exact hw
    · left
      simpa using h2
def loLe : List (Option Value) → List (Option Value) → Prop
  | [], _ => True
  | none :: a, [] => loLe a []
  | none :: a, _ :: b => loLe a b
  | some _ :: _, [] => False
  | some v :: a, y :: b => y = some v ∧ loLe a b
theorem loLe.use : ∀ {a b : List (Option Value)}, loLe a b → ∀ (i : Nat) (v : Value), a[i]? = some (some v) → b[i]? = some (some v)
  | [], _, _, i, v, h => by simp at h
  | none :: a, [], hl, i, v, h => by
    cases i with
    | zero => cases h
    | succ i =>
      have := loLe.use (a := a) (b := []) hl i v h
      simp at this
  | none :: a, y :: b, hl, i, v, h => by
    cases i with
    | zero => cases h
    | succ i => exact loLe.use (a := a) (b := b) hl i v h
  | some w :: a, [], hl, i, v, h => hl.elim
  | some w :: a, y :: b, hl, i, v, h => by
    cases i with
    | zero =>
      obtain ⟨h1, -⟩ := hl
      rw [h1]
      exact h
    | succ i => exact loLe.use (a := a) (b := b) hl.2 i v h
theorem lo_has.weak {ls : Array Slot} {nL : Nat} {lo lo' : List (Option Value)} (h : lo_has ls nL lo) (hl : loLe lo' lo) : lo_has ls nL lo' := ⟨h.1, h.2.1, fun i v hi => h.2.2 i v (hl.use i v hi)⟩
def entryLo : List Value → Nat → List (Option Value)
  | _, 0 => []
  | [], n + 1 => none :: entryLo [] n
  | v :: vs, n + 1 => if v.category = 2 then (match n with
    | 0 => [some v]
    | k + 1 => some v :: none :: entryLo vs k) else some v :: entryLo vs n
theorem entryLo_nil : ∀ (n i : Nat) (v : Value), (entryLo [] n)[i]? = some (some v) → False
  | 0, i, v, h => by simp [entryLo] at h
  | n + 1, i, v, h => by
    cases i with
    | zero => cases h
    | succ i => exact entryLo_nil n i v h
theorem entryLo_mem : ∀ (vs : List Value) (n b i : Nat) (v : Value), (entryLo vs n)[i]? = some (some v) → (b + i, v) ∈ lv_args b vs
  | [], n, b, i, v, h => (entryLo_nil n i v h).elim
  | w :: vs, 0, b, i, v, h => by simp [entryLo] at h
  | w :: vs, n + 1, b, i, v, h => by
    unfold entryLo at h
    unfold lv_args
    by_cases hc : w.category = 2
    · rw [if_pos hc] at h ⊢
      cases n with
      | zero =>
        cases i with
        | zero => cases h; exact List.mem_cons_self
        | succ i => simp at h
      | succ k =>
        cases i with
        | zero => cases h; exact List.mem_cons_self
        | succ i =>
          cases i with
          | zero => cases h
          | succ i =>
            have := entryLo_mem vs k (b + 2) i v h
            rw [show b + (i + 1 + 1) = b + 2 + i by omega]
            exact List.mem_cons_of_mem _ this
    · rw [if_neg hc] at h ⊢
      cases i with
      | zero => cases h; exact List.mem_cons_self
      | succ i =>
        have := entryLo_mem vs n (b + 1) i v h
        rw [show b + (i + 1) = b + 1 + i by omega]
        exact List.mem_cons_of_mem _ this
theorem lo_entry (vs : List Value) {n : Nat} (h : (lg_sl vs).length ≤ n) : lo_has ((lg_sl vs ++ List.replicate (n - (lg_sl vs).length) Slot.unset).toArray) n (entryLo vs n) := by
  have h1 := lv_entry vs h
  refine ⟨h1.1, h1.2.1, fun i v hi => ?_⟩
  have := entryLo_mem vs n 0 i v hi
  rw [Nat.zero_add] at this
  exact h1.2.2 (i, v) this
def Wx (p : Program) (l : Launch) (e : Env) (R : Room) (s : State) (m : MethodId) (args : Array Value) (below : List Frame) (meth : Method) (c : Code) (D : va_G) (cs : Nat → ClassId) (ids : List Ix) (ad : Ix → Nat) (A : Nat → Prop) (H0 : Heap) (nL : Nat) (Q : State → Prop) (mc ms : Nat) (σ : Mem) (pc : Nat) (lo : List (Option Value)) (st : List Value) : Prop :=
  ∀ (H : Heap) (locs : List Loc) (ls : Array Slot), Pic D cs ids ad σ H → va_S A H0 H locs → lo_has ls nL lo → W p l e R s m args below meth c H locs mc ms Q (F0 m pc ls st)
end
section
section ZR
variable {p : Program} {l : Launch} {e : Env} {R : Room} {s : State} {m : MethodId} {args : Array Value} {below : List Frame} {meth : Method} {c : Code} {D : va_G} {cs : Nat → ClassId} {ids : List Ix} {ad : Ix → Nat} {A : Nat → Prop} {H0 : Heap} {nL : Nat} {Q : State → Prop} {mc ms : Nat} {σ : Mem} {pc : Nat} {lo : List (Option Value)} {st : List Value} {cc : ByteArray} {own : String}
theorem Wx.weak {lo' : List (Option Value)} (h : loLe lo' lo) (k : Wx p l e R s m args below meth c D cs ids ad A H0 nL Q mc ms σ pc lo' st) : Wx p l e R s m args below meth c D cs ids ad A H0 nL Q mc ms σ pc lo st := fun H locs ls hP hS hl => k H locs ls hP hS (hl.weak h)
theorem Wx.mem {τ : Mem} (h : σ = τ) (k : Wx p l e R s m args below meth c D cs ids ad A H0 nL Q mc ms τ pc lo st) : Wx p l e R s m args below meth c D cs ids ad A H0 nL Q mc ms σ pc lo st := h ▸ k
theorem Wx.widen {mc' ms' : Nat} (h1 : mc ≤ mc') (h2 : ms ≤ ms') (k : Wx p l e R s m args below meth c D cs ids ad A H0 nL Q mc' ms' σ pc lo st) : Wx p l e R s m args below meth c D cs ids ad A H0 nL Q mc ms σ pc lo st := fun H locs ls hP hS hl => W.widen h1 h2 (k H locs ls hP hS hl)
-- constants
theorem zr_iconst (X : Cx p s m args meth c cc nL own) {n : Int} (d : decode cc pc = .ok (.iconst n, 1)) (k : Wx p l e R s m args below meth c D cs ids ad A H0 nL Q mc ms σ (pc + 1) lo (jI n :: st)) : Wx p l e R s m args below meth c D cs ids ad A H0 nL Q mc ms σ pc lo st := fun H locs ls hP hS hl => lv_iconst X.1 X.2.1 d rfl (k H locs ls hP hS hl)
theorem zr_bipush (X : Cx p s m args meth c cc nL own) {n : Int} (d : decode cc pc = .ok (.bipush n, 2)) (hv : (Int8.ofInt n).toInt32 = iI n) (k : Wx p l e R s m args below meth c D cs ids ad A H0 nL Q mc ms σ (pc + 2) lo (jI n :: st)) : Wx p l e R s m args below meth c D cs ids ad A H0 nL Q mc ms σ pc lo st := fun H locs ls hP hS hl => lv_bipush X.1 X.2.1 d hv (k H locs ls hP hS hl)
theorem zr_sipush (X : Cx p s m args meth c cc nL own) {n : Int} (d : decode cc pc = .ok (.sipush n, 3)) (hv : (Int16.ofInt n).toInt32 = iI n) (k : Wx p l e R s m args below meth c D cs ids ad A H0 nL Q mc ms σ (pc + 3) lo (jI n :: st)) : Wx p l e R s m args below meth c D cs ids ad A H0 nL Q mc ms σ pc lo st := fun H locs ls hP hS hl => lv_sipush X.1 X.2.1 d hv (k H locs ls hP hS hl)
theorem zr_ldc (X : Cx p s m args meth c cc nL own) {index : Nat} {v : Int32} {n : Int} (d : decode cc pc = .ok (.ldc index, 2)) (hw : Cond.constant own index v ∈ TB) (hv : v = iI n) (k : Wx p l e R s m args below meth c D cs ids ad A H0 nL Q mc ms σ (pc + 2) lo (jI n :: st)) : Wx p l e R s m args below meth c D cs ids ad A H0 nL Q mc ms σ pc lo st := fun H locs ls hP hS hl => lv_ldc X.1 X.2.1 X.2.2.2.1 (X.2.2.2.2.1 _ hw) d (hv ▸ k H locs ls hP hS hl)
theorem zr_ldc2l (X : Cx p s m args meth c cc nL own) {index : Nat} {v : Int64} {n : Int} (d : decode cc pc = .ok (.ldc2_w index, 3)) (hw : Cond.constantLong own index v ∈ TB) (hv : v = iL n) (k : Wx p l e R s m args below meth c D cs ids ad A H0 nL Q mc ms σ (pc + 3) lo (.long (iL n) :: st)) : Wx p l e R s m args below meth c D cs ids ad A H0 nL Q mc ms σ pc lo st := fun H locs ls hP hS hl => lv_ldc2 X.1 X.2.1 X.2.2.2.1 (X.2.2.2.2.1 _ hw) d (hv ▸ k H locs ls hP hS hl)
theorem zr_ldc2d (X : Cx p s m args meth c cc nL own) {index : Nat} {v : UInt64} (d : decode cc pc = .ok (.ldc2_w index, 3)) (hw : Cond.constantDouble own index v ∈ TB) (k : Wx p l e R s m args below meth c D cs ids ad A H0 nL Q mc ms σ (pc + 3) lo (.double v :: st)) : Wx p l e R s m args below meth c D cs ids ad A H0 nL Q mc ms σ pc lo st := fun H locs ls hP hS hl => lv_ldc2d X.1 X.2.1 X.2.2.2.1 (X.2.2.2.2.1 _ hw) d (k H locs ls hP hS hl)
theorem zr_lconst (X : Cx p s m args meth c cc nL own) {n : Fin 2} (d : decode cc pc = .ok (.lconst n, 1)) (k : Wx p l e R s m args below meth c D cs ids ad A H0 nL Q mc ms σ (pc + 1) lo (.long (iL ((n : Nat) : Int)) :: st)) : Wx p l e R s m args below meth c D cs ids ad A H0 nL Q mc ms σ pc lo st := fun H locs ls hP hS hl => lv_lconst X.1 X.2.1 d rfl (k H locs ls hP hS hl)
theorem zr_dconst0 (X : Cx p s m args meth c cc nL own) (d : decode cc pc = .ok (.dconst 0, 1)) (k : Wx p l e R s m args below meth c D cs ids ad A H0 nL Q mc ms σ (pc + 1) lo (.double 0 :: st)) : Wx p l e R s m args below meth c D cs ids ad A H0 nL Q mc ms σ pc lo st := fun H locs ls hP hS hl => lv_dconst0 X.1 X.2.1 d (k H locs ls hP hS hl)
theorem zr_dconst1 (X : Cx p s m args meth c cc nL own) (d : decode cc pc = .ok (.dconst 1, 1)) (k : Wx p l e R s m args below meth c D cs ids ad A H0 nL Q mc ms σ (pc + 1) lo (.double 4607182418800017408 :: st)) : Wx p l e R s m args below meth c D cs ids ad A H0 nL Q mc ms σ pc lo st := fun H locs ls hP hS hl => lv_dconst1 X.1 X.2.1 d (k H locs ls hP hS hl)
-- locals
theorem zr_iload (X : Cx p s m args meth c cc nL own) {i : Nat} {x : Int32} (d : decode cc pc = .ok (.iload i, 2)) (h : lo[i]? = some (some (.int x))) (k : Wx p l e R s m args below meth c D cs ids ad A H0 nL Q mc ms σ (pc + 2) lo (.int x :: st)) : Wx p l e R s m args below meth c D cs ids ad A H0 nL Q mc ms σ pc lo st := fun H locs ls hP hS hl => lv_iload X.1 X.2.1 d (hl.2.2 _ _ h) (k H locs ls hP hS hl)
theorem zr_iloadn (X : Cx p s m args meth c cc nL own) {i : Fin 4} {x : Int32} (d : decode cc pc = .ok (.iload_n i, 1)) (h : lo[(i : Nat)]? = some (some (.int x))) (k : Wx p l e R s m args below meth c D cs ids ad A H0 nL Q mc ms σ (pc + 1) lo (.int x :: st)) : Wx p l e R s m args below meth c D cs ids ad A H0 nL Q mc ms σ pc lo st := fun H locs ls hP hS hl => lv_iload_n X.1 X.2.1 d rfl (hl.2.2 _ _ h) (k H locs ls hP hS hl)
theorem zr_aload (X : Cx p s m args meth c cc nL own) {i : Nat} {x : Nat} (d : decode cc pc = .ok (.aload i, 2)) (h : lo[i]? = some (some (.ref x))) (k : Wx p l e R s m args below meth c D cs ids ad A H0 nL Q mc ms σ (pc + 2) lo (.ref x :: st)) : Wx p l e R s m args below meth c D cs ids ad A H0 nL Q mc ms σ pc lo st := fun H locs ls hP hS hl => lv_aload X.1 X.2.1 d (hl.2.2 _ _ h) (k H locs ls hP hS hl)
theorem zr_aloadn (X : Cx p s m args meth c cc nL own) {i : Fin 4} {x : Nat} (d : decode cc pc = .ok (.aload_n i, 1)) (h : lo[(i : Nat)]? = some (some (.ref x))) (k : Wx p l e R s m args below meth c D cs ids ad A H0 nL Q mc ms σ (pc + 1) lo (.ref x :: st)) : Wx p l e R s m args below meth c D cs ids ad A H0 nL Q mc ms σ pc lo st := fun H locs ls hP hS hl => lv_aload_n X.1 X.2.1 d rfl (hl.2.2 _ _ h) (k H locs ls hP hS hl)
theorem zr_lload (X : Cx p s m args meth c cc nL own) {i : Nat} {x : Int64} (d : decode cc pc = .ok (.lload i, 2)) (h : lo[i]? = some (some (.long x))) (k : Wx p l e R s m args below meth c D cs ids ad A H0 nL Q mc ms σ (pc + 2) lo (.long x :: st)) : Wx p l e R s m args below meth c D cs ids ad A H0 nL Q mc ms σ pc lo st := fun H locs ls hP hS hl => lv_lload X.1 X.2.1 d (hl.2.2 _ _ h) (k H locs ls hP hS hl)
theorem zr_lloadn (X : Cx p s m args meth c cc nL own) {i : Fin 4} {x : Int64} (d : decode cc pc = .ok (.lload_n i, 1)) (h : lo[(i : Nat)]? = some (some (.long x))) (k : Wx p l e R s m args below meth c D cs ids ad A H0 nL Q mc ms σ (pc + 1) lo (.long x :: st)) : Wx p l e R s m args below meth c D cs ids ad A H0 nL Q mc ms σ pc lo st := fun H locs ls hP hS hl => lv_lload_n X.1 X.2.1 d rfl (hl.2.2 _ _ h) (k H locs ls hP hS hl)
theorem zr_dload (X : Cx p s m args meth c cc nL own) {i : Nat} {x : UInt64} (d : decode cc pc = .ok (.dload i, 2)) (h : lo[i]? = some (some (.double x))) (k : Wx p l e R s m args below meth c D cs ids ad A H0 nL Q mc ms σ (pc + 2) lo (.double x :: st)) : Wx p l e R s m args below meth c D cs ids ad A H0 nL Q mc ms σ pc lo st := fun H locs ls hP hS hl => lv_dload X.1 X.2.1 d (hl.2.2 _ _ h) (k H locs ls hP hS hl)
theorem zr_dloadn (X : Cx p s m args meth c cc nL own) {i : Fin 4} {x : UInt64} (d : decode cc pc = .ok (.dload_n i, 1)) (h : lo[(i : Nat)]? = some (some (.double x))) (k : Wx p l e R s m args below meth c D cs ids ad A H0 nL Q mc ms σ (pc + 1) lo (.double x :: st)) : Wx p l e R s m args below meth c D cs ids ad A H0 nL Q mc ms σ pc lo st := fun H locs ls hP hS hl => lv_dload_n X.1 X.2.1 d rfl (hl.2.2 _ _ h) (k H locs ls hP hS hl)
theorem zr_istore (X : Cx p s m args meth c cc nL own) {i : Nat} {x : Int32} (d : decode cc pc = .ok (.istore i, 2)) (hn : i < nL) (hw : wideAt lo i = false) (k : Wx p l e R s m args below meth c D cs ids ad A H0 nL Q mc ms σ (pc + 2) (lo.set i (some (.int x))) st) : Wx p l e R s m args below meth c D cs ids ad A H0 nL Q mc ms σ pc lo (.int x :: st) := fun H locs ls hP hS hl => lv_istore X.1 X.2.1 d (lo_lv hl) hn rfl (fun ls' h' => k H locs ls' hP hS (lo_put1 hw h'))
theorem zr_istoren (X : Cx p s m args meth c cc nL own) {i : Fin 4} {x : Int32} (d : decode cc pc = .ok (.istore_n i, 1)) (hn : (i : Nat) < nL) (hw : wideAt lo i = false) (k : Wx p l e R s m args below meth c D cs ids ad A H0 nL Q mc ms σ (pc + 1) (lo.set i (some (.int x))) st) : Wx p l e R s m args below meth c D cs ids ad A H0 nL Q mc ms σ pc lo (.int x :: st) := fun H locs ls hP hS hl => lv_istore_n X.1 X.2.1 d rfl (lo_lv hl) hn rfl (fun ls' h' => k H locs ls' hP hS (lo_put1 hw h'))
theorem zr_astore (X : Cx p s m args meth c cc nL own) {i : Nat} {x : Nat} (d : decode cc pc = .ok (.astore i, 2)) (hn : i < nL) (hw : wideAt lo i = false) (k : Wx p l e R s m args below meth c D cs ids ad A H0 nL Q mc ms σ (pc + 2) (lo.set i (some (.ref x))) st) : Wx p l e R s m args below meth c D cs ids ad A H0 nL Q mc ms σ pc lo (.ref x :: st) := fun H locs ls hP hS hl => lv_astore X.1 X.2.1 d (lo_lv hl) hn rfl (fun ls' h' => k H locs ls' hP hS (lo_put1 hw h'))
theorem zr_astoren (X : Cx p s m args meth c cc nL own) {i : Fin 4} {x : Nat} (d : decode cc pc = .ok (.astore_n i, 1)) (hn : (i : Nat) < nL) (hw : wideAt lo i = false) (k : Wx p l e R s m args below meth c D cs ids ad A H0 nL Q mc ms σ (pc + 1) (lo.set i (some (.ref x))) st) : Wx p l e R s m args below meth c D cs ids ad A H0 nL Q mc ms σ pc lo (.ref x :: st) := fun H locs ls hP hS hl => lv_astore_n X.1 X.2.1 d rfl (lo_lv hl) hn rfl (fun ls' h' => k H locs ls' hP hS (lo_put1 hw h'))
theorem zr_lstore (X : Cx p s m args meth c cc nL own) {i : Nat} {x : Int64} (d : decode cc pc = .ok (.lstore i, 2)) (hn : i + 1 < nL) (hw : wideAt lo i = false) (k : Wx p l e R s m args below meth c D cs ids ad A H0 nL Q mc ms σ (pc + 2) ((lo.set i (some (.long x))).set (i + 1) none) st) : Wx p l e R s m args below meth c D cs ids ad A H0 nL Q mc ms σ pc lo (.long x :: st) := fun H locs ls hP hS hl => lv_lstore X.1 X.2.1 d (lo_lv hl) hn rfl (fun ls' h' => k H locs ls' hP hS (lo_put2 hw h'))
theorem zr_lstoren (X : Cx p s m args meth c cc nL own) {i : Fin 4} {x : Int64} (d : decode cc pc = .ok (.lstore_n i, 1)) (hn : (i : Nat) + 1 < nL) (hw : wideAt lo i = false) (k : Wx p l e R s m args below meth c D cs ids ad A H0 nL Q mc ms σ (pc + 1) ((lo.set i (some (.long x))).set (i + 1) none) st) : Wx p l e R s m args below meth c D cs ids ad A H0 nL Q mc ms σ pc lo (.long x :: st) := fun H locs ls hP hS hl => lv_lstore_n X.1 X.2.1 d rfl (lo_lv hl) hn rfl (fun ls' h' => k H locs ls' hP hS (lo_put2 hw h'))
theorem zr_dstore (X : Cx p s m args meth c cc nL own) {i : Nat} {x : UInt64} (d : decode cc pc = .ok (.dstore i, 2)) (hn : i + 1 < nL) (hw : wideAt lo i = false) (k : Wx p l e R s m args below meth c D cs ids ad A H0 nL Q mc ms σ (pc + 2) ((lo.set i (some (.double x))).set (i + 1) none) st) : Wx p l e R s m args below meth c D cs ids ad A H0 nL Q mc ms σ pc lo (.double x :: st) := fun H locs ls hP hS hl => lv_dstore X.1 X.2.1 d (lo_lv hl) hn rfl (fun ls' h' => k H locs ls' hP hS (lo_put2 hw h'))
theorem zr_dstoren (X : Cx p s m args meth c cc nL own) {i : Fin 4} {x : UInt64} (d : decode cc pc = .ok (.dstore_n i, 1)) (hn : (i : Nat) + 1 < nL) (hw : wideAt lo i = false) (k : Wx p l e R s m args below meth c D cs ids ad A H0 nL Q mc ms σ (pc + 1) ((lo.set i (some (.double x))).set (i + 1) none) st) : Wx p l e R s m args below meth c D cs ids ad A H0 nL Q mc ms σ pc lo (.double x :: st) := fun H locs ls hP hS hl => lv_dstore_n X.1 X.2.1 d rfl (lo_lv hl) hn rfl (fun ls' h' => k H locs ls' hP hS (lo_put2 hw h'))
theorem zr_iinc (X : Cx p s m args meth c cc nL own) {i : Nat} {n x : Int} (d : decode cc pc = .ok (.iinc i n, 3)) (h : lo[i]? = some (some (jI x))) (hn : i < nL) (hw : wideAt lo i = false) (k : Wx p l e R s m args below meth c D cs ids ad A H0 nL Q mc ms σ (pc + 3) (lo.set i (some (jI (x + n)))) st) : Wx p l e R s m args below meth c D cs ids ad A H0 nL Q mc ms σ pc lo st := fun H locs ls hP hS hl => by
  obtain ⟨j, hj⟩ := List.getElem?_of_mem (lo_l_mem.mpr h)
  exact lv_iinc X.1 X.2.1 d (lo_lv hl) hj (iI_add x n) hn rfl (fun ls' h' => k H locs ls' hP hS (lo_put1 hw h'))
-- stack
theorem zr_dup (X : Cx p s m args meth c cc nL own) {v : Value} (d : decode cc pc = .ok (.dup, 1)) (hv : v.category = 1) (k : Wx p l e R s m args below meth c D cs ids ad A H0 nL Q mc ms σ (pc + 1) lo (v :: v :: st)) : Wx p l e R s m args below meth c D cs ids ad A H0 nL Q mc ms σ pc lo (v :: st) := fun H locs ls hP hS hl => lv_dup X.1 X.2.1 d hv (k H locs ls hP hS hl)
theorem zr_dup2 (X : Cx p s m args meth c cc nL own) {v w : Value} (d : decode cc pc = .ok (.dup2, 1)) (hv : v.category = 1) (hw : w.category = 1) (k : Wx p l e R s m args below meth c D cs ids ad A H0 nL Q mc ms σ (pc + 1) lo (v :: w :: v :: w :: st)) : Wx p l e R s m args below meth c D cs ids ad A H0 nL Q mc ms σ pc lo (v :: w :: st) := fun H locs ls hP hS hl => lv_dup2_11 X.1 X.2.1 d hv hw (k H locs ls hP hS hl)
theorem zr_pop (X : Cx p s m args meth c cc nL own) {v : Value} (d : decode cc pc = .ok (.pop, 1)) (hv : v.category = 1) (k : Wx p l e R s m args below meth c D cs ids ad A H0 nL Q mc ms σ (pc + 1) lo st) : Wx p l e R s m args below meth c D cs ids ad A H0 nL Q mc ms σ pc lo (v :: st) := fun H locs ls hP hS hl => lv_pop X.1 X.2.1 d hv (k H locs ls hP hS hl)
theorem zr_goto (X : Cx p s m args meth c cc nL own) {off : Int} (tgt : Nat) (d : decode cc pc = .ok (.goto off, 3)) (ht : (pc : Int) + off = (tgt : Int)) (k : Wx p l e R s m args below meth c D cs ids ad A H0 nL Q mc ms σ tgt lo st) : Wx p l e R s m args below meth c D cs ids ad A H0 nL Q mc ms σ pc lo st := fun H locs ls hP hS hl => lv_goto X.1 X.2.1 d ht (k H locs ls hP hS hl)
-- arithmetic
theorem zr_iadd (X : Cx p s m args meth c cc nL own) {x y : Int} (d : decode cc pc = .ok (.iadd, 1)) (k : Wx p l e R s m args below meth c D cs ids ad A H0 nL Q mc ms σ (pc + 1) lo (jI (x + y) :: st)) : Wx p l e R s m args below meth c D cs ids ad A H0 nL Q mc ms σ pc lo (jI y :: jI x :: st) := fun H locs ls hP hS hl => lv_iadd X.1 X.2.1 d (by rw [iI_add]; exact k H locs ls hP hS hl)
theorem zr_isub (X : Cx p s m args meth c cc nL own) {x y : Int} (d : decode cc pc = .ok (.isub, 1)) (k : Wx p l e R s m args below meth c D cs ids ad A H0 nL Q mc ms σ (pc + 1) lo (jI (x - y) :: st)) : Wx p l e R s m args below meth c D cs ids ad A H0 nL Q mc ms σ pc lo (jI y :: jI x :: st) := fun H locs ls hP hS hl => lv_isub X.1 X.2.1 d (by rw [iI_sub]; exact k H locs ls hP hS hl)
theorem zr_imul (X : Cx p s m args meth c cc nL own) {x y : Int} (d : decode cc pc = .ok (.imul, 1)) (k : Wx p l e R s m args below meth c D cs ids ad A H0 nL Q mc ms σ (pc + 1) lo (jI (x * y) :: st)) : Wx p l e R s m args below meth c D cs ids ad A H0 nL Q mc ms σ pc lo (jI y :: jI x :: st) := fun H locs ls hP hS hl => lv_imul X.1 X.2.1 d (by rw [iI_mul]; exact k H locs ls hP hS hl)
theorem zr_ineg (X : Cx p s m args meth c cc nL own) {x : Int} (d : decode cc pc = .ok (.ineg, 1)) (k : Wx p l e R s m args below meth c D cs ids ad A H0 nL Q mc ms σ (pc + 1) lo (jI (-x) :: st)) : Wx p l e R s m args below meth c D cs ids ad A H0 nL Q mc ms σ pc lo (jI x :: st) := fun H locs ls hP hS hl => lv_ineg X.1 X.2.1 d (by rw [iI_neg]; exact k H locs ls hP hS hl)
theorem zr_ladd (X : Cx p s m args meth c cc nL own) {x y : Int} (d : decode cc pc = .ok (.ladd, 1)) (k : Wx p l e R s m args below meth c D cs ids ad A H0 nL Q mc ms σ (pc + 1) lo (.long (iL (x + y)) :: st)) : Wx p l e R s m args below meth c D cs ids ad A H0 nL Q mc ms σ pc lo (.long (iL y) :: .long (iL x) :: st) := fun H locs ls hP hS hl => lv_ladd X.1 X.2.1 d (by rw [iL_add]; exact k H locs ls hP hS hl)
theorem zr_lmul (X : Cx p s m args meth c cc nL own) {x y : Int} (d : decode cc pc = .ok (.lmul, 1)) (k : Wx p l e R s m args below meth c D cs ids ad A H0 nL Q mc ms σ (pc + 1) lo (.long (iL (x * y)) :: st)) : Wx p l e R s m args below meth c D cs ids ad A H0 nL Q mc ms σ pc lo (.long (iL y) :: .long (iL x) :: st) := fun H locs ls hP hS hl => lv_lmul X.1 X.2.1 d (by rw [iL_mul]; exact k H locs ls hP hS hl)
theorem iI_long {x : Int} (h : rg x) : (iI x).toInt64 = iL x := by
  rw [← Int64.toInt_inj, Int32.toInt_toInt64, iI_toInt h]
  obtain ⟨h1, h2⟩ := h
  exact (Int64.toInt_ofInt_of_le (by simp; omega) (by simp; omega)).symm
theorem zr_i2l (X : Cx p s m args meth c cc nL own) {x : Int} (d : decode cc pc = .ok (.i2l, 1)) (h : rg x) (k : Wx p l e R s m args below meth c D cs ids ad A H0 nL Q mc ms σ (pc + 1) lo (.long (iL x) :: st)) : Wx p l e R s m args below meth c D cs ids ad A H0 nL Q mc ms σ pc lo (jI x :: st) := fun H locs ls hP hS hl => lv_i2l X.1 X.2.1 d (iI_long h) (k H locs ls hP hS hl)
-- raw bits
theorem zr_iand (X : Cx p s m args meth c cc nL own) {x y z : Int32} (d : decode cc pc = .ok (.iand, 1)) (h : x &&& y = z) (k : Wx p l e R s m args below meth c D cs ids ad A H0 nL Q mc ms σ (pc + 1) lo (.int z :: st)) : Wx p l e R s m args below meth c D cs ids ad A H0 nL Q mc ms σ pc lo (.int y :: .int x :: st) := fun H locs ls hP hS hl => lv_iand X.1 X.2.1 d (by rw [h]; exact k H locs ls hP hS hl)
theorem zr_ior (X : Cx p s m args meth c cc nL own) {x y z : Int32} (d : decode cc pc = .ok (.ior, 1)) (h : x ||| y = z) (k : Wx p l e R s m args below meth c D cs ids ad A H0 nL Q mc ms σ (pc + 1) lo (.int z :: st)) : Wx p l e R s m args below meth c D cs ids ad A H0 nL Q mc ms σ pc lo (.int y :: .int x :: st) := fun H locs ls hP hS hl => lv_ior X.1 X.2.1 d (by rw [h]; exact k H locs ls hP hS hl)
theorem zr_ixor (X : Cx p s m args meth c cc nL own) {x y z : Int32} (d : decode cc pc = .ok (.ixor, 1)) (h : x ^^^ y = z) (k : Wx p l e R s m args below meth c D cs ids ad A H0 nL Q mc ms σ (pc + 1) lo (.int z :: st)) : Wx p l e R s m args below meth c D cs ids ad A H0 nL Q mc ms σ pc lo (.int y :: .int x :: st) := fun H locs ls hP hS hl => lv_ixor X.1 X.2.1 d (by rw [h]; exact k H locs ls hP hS hl)
theorem zr_ishl (X : Cx p s m args meth c cc nL own) {x y z : Int32} (d : decode cc pc = .ok (.ishl, 1)) (h : x <<< (y &&& 31) = z) (k : Wx p l e R s m args below meth c D cs ids ad A H0 nL Q mc ms σ (pc + 1) lo (.int z :: st)) : Wx p l e R s m args below meth c D cs ids ad A H0 nL Q mc ms σ pc lo (.int y :: .int x :: st) := fun H locs ls hP hS hl => lv_ishl X.1 X.2.1 d (by rw [h]; exact k H locs ls hP hS hl)
theorem zr_ishr (X : Cx p s m args meth c cc nL own) {x y z : Int32} (d : decode cc pc = .ok (.ishr, 1)) (h : x >>> (y &&& 31) = z) (k : Wx p l e R s m args below meth c D cs ids ad A H0 nL Q mc ms σ (pc + 1) lo (.int z :: st)) : Wx p l e R s m args below meth c D cs ids ad A H0 nL Q mc ms σ pc lo (.int y :: .int x :: st) := fun H locs ls hP hS hl => lv_ishr X.1 X.2.1 d (by rw [h]; exact k H locs ls hP hS hl)
theorem zr_idiv (X : Cx p s m args meth c cc nL own) {x y z : Int32} (d : decode cc pc = .ok (.idiv, 1)) (h0 : ¬ y = 0) (h : x / y = z) (k : Wx p l e R s m args below meth c D cs ids ad A H0 nL Q mc ms σ (pc + 1) lo (.int z :: st)) : Wx p l e R s m args below meth c D cs ids ad A H0 nL Q mc ms σ pc lo (.int y :: .int x :: st) := fun H locs ls hP hS hl => lv_idiv X.1 X.2.1 d h0 (by rw [h]; exact k H locs ls hP hS hl)
theorem zr_irem (X : Cx p s m args meth c cc nL own) {x y z : Int32} (d : decode cc pc = .ok (.irem, 1)) (h0 : ¬ y = 0) (h : x - x / y * y = z) (k : Wx p l e R s m args below meth c D cs ids ad A H0 nL Q mc ms σ (pc + 1) lo (.int z :: st)) : Wx p l e R s m args below meth c D cs ids ad A H0 nL Q mc ms σ pc lo (.int y :: .int x :: st) := fun H locs ls hP hS hl => lv_irem X.1 X.2.1 d h0 (by rw [h]; exact k H locs ls hP hS hl)
-- branches
theorem zr_icmp_lt (X : Cx p s m args meth c cc nL own) {off : Int} (tgt : Nat) {x y : Int} (d : decode cc pc = .ok (.if_icmp .lt off, 3)) (ht : (pc : Int) + off = (tgt : Int)) (hx : rg x) (hy : rg y) (kt : x < y → Wx p l e R s m args below meth c D cs ids ad A H0 nL Q mc ms σ tgt lo st) (kf : ¬ x < y → Wx p l e R s m args below meth c D cs ids ad A H0 nL Q mc ms σ (pc + 3) lo st) : Wx p l e R s m args below meth c D cs ids ad A H0 nL Q mc ms σ pc lo (jI y :: jI x :: st) := fun H locs ls hP hS hl => lv_icmp_lt X.1 X.2.1 d ht (fun h => kt ((iI_lt hx hy).mp h) H locs ls hP hS hl) (fun h => kf (fun h1 => h ((iI_lt hx hy).mpr h1)) H locs ls hP hS hl)
theorem zr_icmp_ge (X : Cx p s m args meth c cc nL own) {off : Int} (tgt : Nat) {x y : Int} (d : decode cc pc = .ok (.if_icmp .ge off, 3)) (ht : (pc : Int) + off = (tgt : Int)) (hx : rg x) (hy : rg y) (kt : y ≤ x → Wx p l e R s m args below meth c D cs ids ad A H0 nL Q mc ms σ tgt lo st) (kf : ¬ y ≤ x → Wx p l e R s m args below meth c D cs ids ad A H0 nL Q mc ms σ (pc + 3) lo st) : Wx p l e R s m args below meth c D cs ids ad A H0 nL Q mc ms σ pc lo (jI y :: jI x :: st) := fun H locs ls hP hS hl => lv_icmp_ge X.1 X.2.1 d ht (fun h => kt ((iI_le hy hx).mp h) H locs ls hP hS hl) (fun h => kf (fun h1 => h ((iI_le hy hx).mpr h1)) H locs ls hP hS hl)
theorem zr_icmp_gt (X : Cx p s m args meth c cc nL own) {off : Int} (tgt : Nat) {x y : Int} (d : decode cc pc = .ok (.if_icmp .gt off, 3)) (ht : (pc : Int) + off = (tgt : Int)) (hx : rg x) (hy : rg y) (kt : y < x → Wx p l e R s m args below meth c D cs ids ad A H0 nL Q mc ms σ tgt lo st) (kf : ¬ y < x → Wx p l e R s m args below meth c D cs ids ad A H0 nL Q mc ms σ (pc + 3) lo st) : Wx p l e R s m args below meth c D cs ids ad A H0 nL Q mc ms σ pc lo (jI y :: jI x :: st) := fun H locs ls hP hS hl => lv_icmp_gt X.1 X.2.1 d ht (fun h => kt ((iI_lt hy hx).mp h) H locs ls hP hS hl) (fun h => kf (fun h1 => h ((iI_lt hy hx).mpr h1)) H locs ls hP hS hl)
theorem zr_icmp_le (X : Cx p s m args meth c cc nL own) {off : Int} (tgt : Nat) {x y : Int} (d : decode cc pc = .ok (.if_icmp .le off, 3)) (ht : (pc : Int) + off = (tgt : Int)) (hx : rg x) (hy : rg y) (kt : x ≤ y → Wx p l e R s m args below meth c D cs ids ad A H0 nL Q mc ms σ tgt lo st) (kf : ¬ x ≤ y → Wx p l e R s m args below meth c D cs ids ad A H0 nL Q mc ms σ (pc + 3) lo st) : Wx p l e R s m args below meth c D cs ids ad A H0 nL Q mc ms σ pc lo (jI y :: jI x :: st) := fun H locs ls hP hS hl => lv_icmp_le X.1 X.2.1 d ht (fun h => kt ((iI_le hx hy).mp h) H locs ls hP hS hl) (fun h => kf (fun h1 => h ((iI_le hx hy).mpr h1)) H locs ls hP hS hl)
theorem zr_icmp_eq (X : Cx p s m args meth c cc nL own) {off : Int} (tgt : Nat) {x y : Int} (d : decode cc pc = .ok (.if_icmp .eq off, 3)) (ht : (pc : Int) + off = (tgt : Int)) (hx : rg x) (hy : rg y) (kt : x = y → Wx p l e R s m args below meth c D cs ids ad A H0 nL Q mc ms σ tgt lo st) (kf : ¬ x = y → Wx p l e R s m args below meth c D cs ids ad A H0 nL Q mc ms σ (pc + 3) lo st) : Wx p l e R s m args below meth c D cs ids ad A H0 nL Q mc ms σ pc lo (jI y :: jI x :: st) := fun H locs ls hP hS hl => lv_icmp_eq X.1 X.2.1 d ht (fun h => kt ((iI_eq hx hy).mp h) H locs ls hP hS hl) (fun h => kf (fun h1 => h ((iI_eq hx hy).mpr h1)) H locs ls hP hS hl)
theorem zr_icmp_ne (X : Cx p s m args meth c cc nL own) {off : Int} (tgt : Nat) {x y : Int} (d : decode cc pc = .ok (.if_icmp .ne off, 3)) (ht : (pc : Int) + off = (tgt : Int)) (hx : rg x) (hy : rg y) (kt : ¬ x = y → Wx p l e R s m args below meth c D cs ids ad A H0 nL Q mc ms σ tgt lo st) (kf : x = y → Wx p l e R s m args below meth c D cs ids ad A H0 nL Q mc ms σ (pc + 3) lo st) : Wx p l e R s m args below meth c D cs ids ad A H0 nL Q mc ms σ pc lo (jI y :: jI x :: st) := fun H locs ls hP hS hl => lv_icmp_ne X.1 X.2.1 d ht (fun h => kt (fun h1 => h ((iI_eq hx hy).mpr h1)) H locs ls hP hS hl) (fun h => kf ((iI_eq hx hy).mp h) H locs ls hP hS hl)
theorem rg0 : rg 0 := ⟨by omega, by omega⟩
theorem zr_if_lt (X : Cx p s m args meth c cc nL own) {off : Int} (tgt : Nat) {x : Int} (d : decode cc pc = .ok (.ifCond .lt off, 3)) (ht : (pc : Int) + off = (tgt : Int)) (hx : rg x) (kt : x < 0 → Wx p l e R s m args below meth c D cs ids ad A H0 nL Q mc ms σ tgt lo st) (kf : ¬ x < 0 → Wx p l e R s m args below meth c D cs ids ad A H0 nL Q mc ms σ (pc + 3) lo st) : Wx p l e R s m args below meth c D cs ids ad A H0 nL Q mc ms σ pc lo (jI x :: st) := fun H locs ls hP hS hl => lv_if_lt X.1 X.2.1 d ht (fun h => kt ((iI_lt hx rg0).mp h) H locs ls hP hS hl) (fun h => kf (fun h1 => h ((iI_lt hx rg0).mpr h1)) H locs ls hP hS hl)
theorem zr_if_ge (X : Cx p s m args meth c cc nL own) {off : Int} (tgt : Nat) {x : Int} (d : decode cc pc = .ok (.ifCond .ge off, 3)) (ht : (pc : Int) + off = (tgt : Int)) (hx : rg x) (kt : 0 ≤ x → Wx p l e R s m args below meth c D cs ids ad A H0 nL Q mc ms σ tgt lo st) (kf : ¬ 0 ≤ x → Wx p l e R s m args below meth c D cs ids ad A H0 nL Q mc ms σ (pc + 3) lo st) : Wx p l e R s m args below meth c D cs ids ad A H0 nL Q mc ms σ pc lo (jI x :: st) := fun H locs ls hP hS hl => lv_if_ge X.1 X.2.1 d ht (fun h => kt ((iI_le rg0 hx).mp h) H locs ls hP hS hl) (fun h => kf (fun h1 => h ((iI_le rg0 hx).mpr h1)) H locs ls hP hS hl)
theorem zr_if_gt (X : Cx p s m args meth c cc nL own) {off : Int} (tgt : Nat) {x : Int} (d : decode cc pc = .ok (.ifCond .gt off, 3)) (ht : (pc : Int) + off = (tgt : Int)) (hx : rg x) (kt : 0 < x → Wx p l e R s m args below meth c D cs ids ad A H0 nL Q mc ms σ tgt lo st) (kf : ¬ 0 < x → Wx p l e R s m args below meth c D cs ids ad A H0 nL Q mc ms σ (pc + 3) lo st) : Wx p l e R s m args below meth c D cs ids ad A H0 nL Q mc ms σ pc lo (jI x :: st) := fun H locs ls hP hS hl => lv_if_gt X.1 X.2.1 d ht (fun h => kt ((iI_lt rg0 hx).mp h) H locs ls hP hS hl) (fun h => kf (fun h1 => h ((iI_lt rg0 hx).mpr h1)) H locs ls hP hS hl)
theorem zr_if_le (X : Cx p s m args meth c cc nL own) {off : Int} (tgt : Nat) {x : Int} (d : decode cc pc = .ok (.ifCond .le off, 3)) (ht : (pc : Int) + off = (tgt : Int)) (hx : rg x) (kt : x ≤ 0 → Wx p l e R s m args below meth c D cs ids ad A H0 nL Q mc ms σ tgt lo st) (kf : ¬ x ≤ 0 → Wx p l e R s m args below meth c D cs ids ad A H0 nL Q mc ms σ (pc + 3) lo st) : Wx p l e R s m args below meth c D cs ids ad A H0 nL Q mc ms σ pc lo (jI x :: st) := fun H locs ls hP hS hl => lv_if_le X.1 X.2.1 d ht (fun h => kt ((iI_le hx rg0).mp h) H locs ls hP hS hl) (fun h => kf (fun h1 => h ((iI_le hx rg0).mpr h1)) H locs ls hP hS hl)
theorem zr_if_eq (X : Cx p s m args meth c cc nL own) {off : Int} (tgt : Nat) {x : Int} (d : decode cc pc = .ok (.ifCond .eq off, 3)) (ht : (pc : Int) + off = (tgt : Int)) (hx : rg x) (kt : x = 0 → Wx p l e R s m args below meth c D cs ids ad A H0 nL Q mc ms σ tgt lo st) (kf : ¬ x = 0 → Wx p l e R s m args below meth c D cs ids ad A H0 nL Q mc ms σ (pc + 3) lo st) : Wx p l e R s m args below meth c D cs ids ad A H0 nL Q mc ms σ pc lo (jI x :: st) := fun H locs ls hP hS hl => lv_if_eq X.1 X.2.1 d ht (fun h => kt ((iI_eq hx rg0).mp h) H locs ls hP hS hl) (fun h => kf (fun h1 => h ((iI_eq hx rg0).mpr h1)) H locs ls hP hS hl)
theorem zr_if_ne (X : Cx p s m args meth c cc nL own) {off : Int} (tgt : Nat) {x : Int} (d : decode cc pc = .ok (.ifCond .ne off, 3)) (ht : (pc : Int) + off = (tgt : Int)) (hx : rg x) (kt : ¬ x = 0 → Wx p l e R s m args below meth c D cs ids ad A H0 nL Q mc ms σ tgt lo st) (kf : x = 0 → Wx p l e R s m args below meth c D cs ids ad A H0 nL Q mc ms σ (pc + 3) lo st) : Wx p l e R s m args below meth c D cs ids ad A H0 nL Q mc ms σ pc lo (jI x :: st) := fun H locs ls hP hS hl => lv_if_ne X.1 X.2.1 d ht (fun h => kt (fun h1 => h ((iI_eq hx rg0).mpr h1)) H locs ls hP hS hl) (fun h => kf ((iI_eq hx rg0).mp h) H locs ls hP hS hl)
end ZR
end
section
theorem tp_0 : Cond.selects "FlowNetwork$MaximumFlow" ⟨"FlowNetwork$MaximumFlow", "hasEnds", "()Z"⟩ ⟨"FlowNetwork$MaximumFlow", "hasEnds", "()Z"⟩ ∈ TB := TB_mem (List.mem_of_getElem? (i := 0) (by decide +kernel)) rfl
theorem tp_1 : Cond.selects "FlowNetwork$MaximumFlow" ⟨"FlowNetwork$MaximumFlow", "greatestValue", "()I"⟩ ⟨"FlowNetwork$MaximumFlow", "greatestValue", "()I"⟩ ∈ TB := TB_mem (List.mem_of_getElem? (i := 1) (by decide +kernel)) rfl
theorem tp_2 : Cond.selects "FlowNetwork$MaximumFlow" ⟨"FlowNetwork$MaximumFlow", "settle", "()V"⟩ ⟨"FlowNetwork$MaximumFlow", "settle", "()V"⟩ ∈ TB := TB_mem (List.mem_of_getElem? (i := 2) (by decide +kernel)) rfl
theorem tp_3 : Cond.selects "FlowNetwork$Router" ⟨"FlowNetwork$Router", "route", "(III)I"⟩ ⟨"FlowNetwork$Router", "route", "(III)I"⟩ ∈ TB := TB_mem (List.mem_of_getElem? (i := 3) (by decide +kernel)) rfl
theorem tp_4 : Cond.selects "FlowNetwork$Router" ⟨"FlowNetwork$Router", "setHeights", "()V"⟩ ⟨"FlowNetwork$Router", "setHeights", "()V"⟩ ∈ TB := TB_mem (List.mem_of_getElem? (i := 4) (by decide +kernel)) rfl
theorem tp_5 : Cond.selects "FlowNetwork$Router" ⟨"FlowNetwork$Router", "findBehind", "(II)I"⟩ ⟨"FlowNetwork$Router", "findBehind", "(II)I"⟩ ∈ TB := TB_mem (List.mem_of_getElem? (i := 5) (by decide +kernel)) rfl
theorem tp_6 : Cond.selects "FlowNetwork$Network" ⟨"FlowNetwork$Network", "otherEnd", "(II)I"⟩ ⟨"FlowNetwork$Network", "otherEnd", "(II)I"⟩ ∈ TB := TB_mem (List.mem_of_getElem? (i := 6) (by decide +kernel)) rfl
theorem tp_7 : Cond.selects "FlowNetwork$Flow" ⟨"FlowNetwork$Flow", "room", "(II)I"⟩ ⟨"FlowNetwork$Flow", "room", "(II)I"⟩ ∈ TB := TB_mem (List.mem_of_getElem? (i := 7) (by decide +kernel)) rfl
theorem tp_8 : Cond.selects "FlowNetwork$Router" ⟨"FlowNetwork$Router", "sweepOnce", "()Z"⟩ ⟨"FlowNetwork$Router", "sweepOnce", "()Z"⟩ ∈ TB := TB_mem (List.mem_of_getElem? (i := 8) (by decide +kernel)) rfl
theorem tp_9 : Cond.selects "FlowNetwork$Router" ⟨"FlowNetwork$Router", "isActive", "(I)Z"⟩ ⟨"FlowNetwork$Router", "isActive", "(I)Z"⟩ ∈ TB := TB_mem (List.mem_of_getElem? (i := 9) (by decide +kernel)) rfl
theorem tp_10 : Cond.selects "FlowNetwork$Router" ⟨"FlowNetwork$Router", "pushOut", "(I)V"⟩ ⟨"FlowNetwork$Router", "pushOut", "(I)V"⟩ ∈ TB := TB_mem (List.mem_of_getElem? (i := 10) (by decide +kernel)) rfl
theorem tp_11 : Cond.selects "FlowNetwork$Flow" ⟨"FlowNetwork$Flow", "send", "(III)V"⟩ ⟨"FlowNetwork$Flow", "send", "(III)V"⟩ ∈ TB := TB_mem (List.mem_of_getElem? (i := 11) (by decide +kernel)) rfl
theorem tp_12 : Cond.selects "FlowNetwork$Router" ⟨"FlowNetwork$Router", "lift", "(I)V"⟩ ⟨"FlowNetwork$Router", "lift", "(I)V"⟩ ∈ TB := TB_mem (List.mem_of_getElem? (i := 12) (by decide +kernel)) rfl
theorem tp_13 : Cond.selects "FlowNetwork$MaximumFlow" ⟨"FlowNetwork$MaximumFlow", "smallestMask", "()I"⟩ ⟨"FlowNetwork$MaximumFlow", "smallestMask", "()I"⟩ ∈ TB := TB_mem (List.mem_of_getElem? (i := 13) (by decide +kernel)) rfl
theorem tp_14 : Cond.selects "FlowNetwork$Flow" ⟨"FlowNetwork$Flow", "reachableFrom", "(I)I"⟩ ⟨"FlowNetwork$Flow", "reachableFrom", "(I)I"⟩ ∈ TB := TB_mem (List.mem_of_getElem? (i := 14) (by decide +kernel)) rfl
theorem tp_15 : Cond.selects "FlowNetwork$Flow" ⟨"FlowNetwork$Flow", "withNeighbours", "(I)I"⟩ ⟨"FlowNetwork$Flow", "withNeighbours", "(I)I"⟩ ∈ TB := TB_mem (List.mem_of_getElem? (i := 15) (by decide +kernel)) rfl
theorem tp_16 : Cond.selects "FlowNetwork$MaximumFlow" ⟨"FlowNetwork$MaximumFlow", "greatestMask", "()I"⟩ ⟨"FlowNetwork$MaximumFlow", "greatestMask", "()I"⟩ ∈ TB := TB_mem (List.mem_of_getElem? (i := 16) (by decide +kernel)) rfl
theorem tp_17 : Cond.selects "java/lang/Throwable" ⟨"java/lang/Throwable", "fillInStackTrace", "(I)Ljava/lang/Throwable;"⟩ ⟨"java/lang/Throwable", "fillInStackTrace", "(I)Ljava/lang/Throwable;"⟩ ∈ TB := TB_mem (List.mem_of_getElem? (i := 17) (by decide +kernel)) rfl
theorem tp_18 : Cond.selects "FlowNetwork$Network" ⟨"FlowNetwork$Network", "makeNode", "()I"⟩ ⟨"FlowNetwork$Network", "makeNode", "()I"⟩ ∈ TB := TB_mem (List.mem_of_getElem? (i := 18) (by decide +kernel)) rfl
theorem tp_19 : Cond.selects "FlowNetwork" ⟨"FlowNetwork", "requireNode", "(I)V"⟩ ⟨"FlowNetwork", "requireNode", "(I)V"⟩ ∈ TB := TB_mem (List.mem_of_getElem? (i := 19) (by decide +kernel)) rfl
theorem tp_20 : Cond.selects "FlowNetwork$Network" ⟨"FlowNetwork$Network", "makeArc", "(II)I"⟩ ⟨"FlowNetwork$Network", "makeArc", "(II)I"⟩ ∈ TB := TB_mem (List.mem_of_getElem? (i := 20) (by decide +kernel)) rfl
theorem tp_21 : Cond.selects "FlowNetwork$Network" ⟨"FlowNetwork$Network", "attach", "(II)V"⟩ ⟨"FlowNetwork$Network", "attach", "(II)V"⟩ ∈ TB := TB_mem (List.mem_of_getElem? (i := 21) (by decide +kernel)) rfl
theorem tp_22 : Cond.selects "FlowNetwork$MaximumFlow" ⟨"FlowNetwork$MaximumFlow", "changeCapacity", "(II)V"⟩ ⟨"FlowNetwork$MaximumFlow", "changeCapacity", "(II)V"⟩ ∈ TB := TB_mem (List.mem_of_getElem? (i := 22) (by decide +kernel)) rfl
theorem tp_23 : Cond.selects "FlowNetwork$MaximumFlow" ⟨"FlowNetwork$MaximumFlow", "moveAway", "(III)V"⟩ ⟨"FlowNetwork$MaximumFlow", "moveAway", "(III)V"⟩ ∈ TB := TB_mem (List.mem_of_getElem? (i := 23) (by decide +kernel)) rfl
theorem tp_24 : Cond.selects "FlowNetwork" ⟨"FlowNetwork", "requireArc", "(I)V"⟩ ⟨"FlowNetwork", "requireArc", "(I)V"⟩ ∈ TB := TB_mem (List.mem_of_getElem? (i := 24) (by decide +kernel)) rfl
theorem tp_25 : Cond.selects "FlowNetwork$MaximumFlow" ⟨"FlowNetwork$MaximumFlow", "chooseEnds", "(II)Z"⟩ ⟨"FlowNetwork$MaximumFlow", "chooseEnds", "(II)Z"⟩ ∈ TB := TB_mem (List.mem_of_getElem? (i := 25) (by decide +kernel)) rfl
theorem tp_26 : Cond.selects "FlowNetwork" ⟨"FlowNetwork", "requireEnds", "()V"⟩ ⟨"FlowNetwork", "requireEnds", "()V"⟩ ∈ TB := TB_mem (List.mem_of_getElem? (i := 26) (by decide +kernel)) rfl
theorem tp_27 : Cond.selects "FlowNetwork$MaximumFlow" ⟨"FlowNetwork$MaximumFlow", "copy", "(LFlowNetwork$MaximumFlow;)V"⟩ ⟨"FlowNetwork$MaximumFlow", "copy", "(LFlowNetwork$MaximumFlow;)V"⟩ ∈ TB := TB_mem (List.mem_of_getElem? (i := 27) (by decide +kernel)) rfl
theorem tp_28 : Cond.selects "FlowNetwork$Flow" ⟨"FlowNetwork$Flow", "copy", "(LFlowNetwork$Flow;)V"⟩ ⟨"FlowNetwork$Flow", "copy", "(LFlowNetwork$Flow;)V"⟩ ∈ TB := TB_mem (List.mem_of_getElem? (i := 28) (by decide +kernel)) rfl
theorem tp_29 : Cond.selects "FlowNetwork$Flow" ⟨"FlowNetwork$Flow", "capacityOut", "(I)I"⟩ ⟨"FlowNetwork$Flow", "capacityOut", "(I)I"⟩ ∈ TB := TB_mem (List.mem_of_getElem? (i := 29) (by decide +kernel)) rfl
theorem tp_30 : Cond.selects "FlowNetwork" ⟨"FlowNetwork", "movable", "(III)I"⟩ ⟨"FlowNetwork", "movable", "(III)I"⟩ ∈ TB := TB_mem (List.mem_of_getElem? (i := 30) (by decide +kernel)) rfl
theorem tp_31 : Cond.selects "FlowNetwork$Flow" ⟨"FlowNetwork$Flow", "block", "(I)V"⟩ ⟨"FlowNetwork$Flow", "block", "(I)V"⟩ ∈ TB := TB_mem (List.mem_of_getElem? (i := 31) (by decide +kernel)) rfl
theorem tp_32 : Cond.selects "FlowNetwork" ⟨"FlowNetwork", "isCut", "(I)Z"⟩ ⟨"FlowNetwork", "isCut", "(I)Z"⟩ ∈ TB := TB_mem (List.mem_of_getElem? (i := 32) (by decide +kernel)) rfl
theorem tp_33 : Cond.selects "FlowNetwork$Network" ⟨"FlowNetwork$Network", "allNodes", "()I"⟩ ⟨"FlowNetwork$Network", "allNodes", "()I"⟩ ∈ TB := TB_mem (List.mem_of_getElem? (i := 33) (by decide +kernel)) rfl
theorem tp_34 : Cond.selects "FlowNetwork$Cuts" ⟨"FlowNetwork$Cuts", "find", "(LFlowNetwork$MaximumFlow;)V"⟩ ⟨"FlowNetwork$Cuts", "find", "(LFlowNetwork$MaximumFlow;)V"⟩ ∈ TB := TB_mem (List.mem_of_getElem? (i := 34) (by decide +kernel)) rfl
theorem tp_35 : Cond.selects "FlowNetwork$Cuts" ⟨"FlowNetwork$Cuts", "nextAfter", "(III)I"⟩ ⟨"FlowNetwork$Cuts", "nextAfter", "(III)I"⟩ ∈ TB := TB_mem (List.mem_of_getElem? (i := 35) (by decide +kernel)) rfl
theorem tp_36 : Cond.selects "FlowNetwork$Cuts" ⟨"FlowNetwork$Cuts", "withReachable", "(II)I"⟩ ⟨"FlowNetwork$Cuts", "withReachable", "(II)I"⟩ ∈ TB := TB_mem (List.mem_of_getElem? (i := 36) (by decide +kernel)) rfl
theorem tp_37 : Cond.selects "FlowNetwork$Levels" ⟨"FlowNetwork$Levels", "store", "(LFlowNetwork$MaximumFlow;)V"⟩ ⟨"FlowNetwork$Levels", "store", "(LFlowNetwork$MaximumFlow;)V"⟩ ∈ TB := TB_mem (List.mem_of_getElem? (i := 37) (by decide +kernel)) rfl
theorem tp_38 : Cond.selects "FlowNetworkModel" ⟨"FlowNetworkModel", "fail", "(I)I"⟩ ⟨"FlowNetworkModel", "fail", "(I)I"⟩ ∈ TB := TB_mem (List.mem_of_getElem? (i := 38) (by decide +kernel)) rfl
theorem tp_39 : Cond.selects "FlowNetworkModel" ⟨"FlowNetworkModel", "isNode", "(I)Z"⟩ ⟨"FlowNetworkModel", "isNode", "(I)Z"⟩ ∈ TB := TB_mem (List.mem_of_getElem? (i := 39) (by decide +kernel)) rfl
theorem tp_40 : Cond.selects "FlowNetworkModel" ⟨"FlowNetworkModel", "isArc", "(I)Z"⟩ ⟨"FlowNetworkModel", "isArc", "(I)Z"⟩ ∈ TB := TB_mem (List.mem_of_getElem? (i := 40) (by decide +kernel)) rfl
theorem tp_41 : Cond.selects "FlowNetworkModel" ⟨"FlowNetworkModel", "maximumNow", "()I"⟩ ⟨"FlowNetworkModel", "maximumNow", "()I"⟩ ∈ TB := TB_mem (List.mem_of_getElem? (i := 41) (by decide +kernel)) rfl
theorem tp_42 : Cond.selects "FlowNetworkModel" ⟨"FlowNetworkModel", "empty", "()V"⟩ ⟨"FlowNetworkModel", "empty", "()V"⟩ ∈ TB := TB_mem (List.mem_of_getElem? (i := 42) (by decide +kernel)) rfl
theorem tp_43 : Cond.selects "FlowNetworkModel" ⟨"FlowNetworkModel", "fill", "(III)I"⟩ ⟨"FlowNetworkModel", "fill", "(III)I"⟩ ∈ TB := TB_mem (List.mem_of_getElem? (i := 43) (by decide +kernel)) rfl
theorem tp_44 : Cond.selects "FlowNetworkModel" ⟨"FlowNetworkModel", "reach", "(II)Z"⟩ ⟨"FlowNetworkModel", "reach", "(II)Z"⟩ ∈ TB := TB_mem (List.mem_of_getElem? (i := 44) (by decide +kernel)) rfl
theorem tp_45 : Cond.selects "FlowNetworkModel" ⟨"FlowNetworkModel", "before", "(I)I"⟩ ⟨"FlowNetworkModel", "before", "(I)I"⟩ ∈ TB := TB_mem (List.mem_of_getElem? (i := 45) (by decide +kernel)) rfl
theorem tp_46 : Cond.selects "FlowNetworkModel" ⟨"FlowNetworkModel", "look", "(I)I"⟩ ⟨"FlowNetworkModel", "look", "(I)I"⟩ ∈ TB := TB_mem (List.mem_of_getElem? (i := 46) (by decide +kernel)) rfl
theorem tp_47 : Cond.selects "FlowNetworkModel" ⟨"FlowNetworkModel", "maximumIf", "(II)I"⟩ ⟨"FlowNetworkModel", "maximumIf", "(II)I"⟩ ∈ TB := TB_mem (List.mem_of_getElem? (i := 47) (by decide +kernel)) rfl
theorem tp_48 : Cond.selects "FlowNetworkModel" ⟨"FlowNetworkModel", "isIn", "(II)Z"⟩ ⟨"FlowNetworkModel", "isIn", "(II)Z"⟩ ∈ TB := TB_mem (List.mem_of_getElem? (i := 48) (by decide +kernel)) rfl
theorem tp_49 : Cond.selects "FlowNetworkModel" ⟨"FlowNetworkModel", "capacityOf", "(I)I"⟩ ⟨"FlowNetworkModel", "capacityOf", "(I)I"⟩ ∈ TB := TB_mem (List.mem_of_getElem? (i := 49) (by decide +kernel)) rfl
theorem tp_50 : Cond.selects "FlowNetworkModel" ⟨"FlowNetworkModel", "smallest", "()I"⟩ ⟨"FlowNetworkModel", "smallest", "()I"⟩ ∈ TB := TB_mem (List.mem_of_getElem? (i := 50) (by decide +kernel)) rfl
theorem tp_51 : Cond.selects "FlowNetworkModel" ⟨"FlowNetworkModel", "findReached", "()V"⟩ ⟨"FlowNetworkModel", "findReached", "()V"⟩ ∈ TB := TB_mem (List.mem_of_getElem? (i := 51) (by decide +kernel)) rfl
theorem tp_52 : Cond.selects "FlowNetworkModel" ⟨"FlowNetworkModel", "greatest", "()I"⟩ ⟨"FlowNetworkModel", "greatest", "()I"⟩ ∈ TB := TB_mem (List.mem_of_getElem? (i := 52) (by decide +kernel)) rfl
theorem tp_53 : Cond.selects "FlowNetworkModel" ⟨"FlowNetworkModel", "closed", "(II)I"⟩ ⟨"FlowNetworkModel", "closed", "(II)I"⟩ ∈ TB := TB_mem (List.mem_of_getElem? (i := 53) (by decide +kernel)) rfl
theorem tp_54 : Cond.selects "FlowNetworkModel" ⟨"FlowNetworkModel", "cutBehind", "(I)I"⟩ ⟨"FlowNetworkModel", "cutBehind", "(I)I"⟩ ∈ TB := TB_mem (List.mem_of_getElem? (i := 54) (by decide +kernel)) rfl
theorem tw_0 : (Jvm.Cond.initialized "FlowNetworkLaw") ∈ TB := TB_mem (List.mem_of_getElem? (i := 55) (by decide +kernel)) rfl
theorem tw_1 : (Jvm.Cond.initialized "FlowNetwork") ∈ TB := TB_mem (List.mem_of_getElem? (i := 56) (by decide +kernel)) rfl
theorem tw_2 : (Jvm.Cond.initialized "FlowNetwork$Network") ∈ TB := TB_mem (List.mem_of_getElem? (i := 57) (by decide +kernel)) rfl
theorem tw_3 : (Jvm.Cond.initialized "FlowNetwork$MaximumFlow") ∈ TB := TB_mem (List.mem_of_getElem? (i := 58) (by decide +kernel)) rfl
theorem tw_4 : (Jvm.Cond.initialized "FlowNetwork$Flow") ∈ TB := TB_mem (List.mem_of_getElem? (i := 59) (by decide +kernel)) rfl
theorem tw_5 : (Jvm.Cond.initialized "FlowNetwork$Router") ∈ TB := TB_mem (List.mem_of_getElem? (i := 60) (by decide +kernel)) rfl
theorem tw_6 : (Jvm.Cond.initialized "FlowNetwork$Levels") ∈ TB := TB_mem (List.mem_of_getElem? (i := 61) (by decide +kernel)) rfl
theorem tw_7 : (Jvm.Cond.initialized "FlowNetwork$Cuts") ∈ TB := TB_mem (List.mem_of_getElem? (i := 62) (by decide +kernel)) rfl
theorem tw_8 : (Jvm.Cond.initialized "FlowNetworkModel") ∈ TB := TB_mem (List.mem_of_getElem? (i := 63) (by decide +kernel)) rfl
theorem tw_9 : (Jvm.Cond.initialized "java/lang/Throwable") ∈ TB := TB_mem (List.mem_of_getElem? (i := 64) (by decide +kernel)) rfl
theorem tw_10 : (Jvm.Cond.initialized "java/lang/Exception") ∈ TB := TB_mem (List.mem_of_getElem? (i := 65) (by decide +kernel)) rfl
theorem tw_11 : (Jvm.Cond.initialized "java/lang/RuntimeException") ∈ TB := TB_mem (List.mem_of_getElem? (i := 66) (by decide +kernel)) rfl
theorem tw_12 : (Jvm.Cond.initialized "java/lang/IllegalStateException") ∈ TB := TB_mem (List.mem_of_getElem? (i := 67) (by decide +kernel)) rfl
theorem tw_13 : (Jvm.Cond.initialized "java/lang/IndexOutOfBoundsException") ∈ TB := TB_mem (List.mem_of_getElem? (i := 68) (by decide +kernel)) rfl
theorem tw_14 : (Jvm.Cond.initialized "java/lang/IllegalArgumentException") ∈ TB := TB_mem (List.mem_of_getElem? (i := 69) (by decide +kernel)) rfl
theorem tw_15 : (Jvm.Cond.initialized "java/util/Arrays") ∈ TB := TB_mem (List.mem_of_getElem? (i := 70) (by decide +kernel)) rfl
theorem tw_16 : (Jvm.Cond.initialized "java/lang/Math") ∈ TB := TB_mem (List.mem_of_getElem? (i := 71) (by decide +kernel)) rfl
theorem tw_17 : (Jvm.Cond.initialized "java/lang/StrictMath") ∈ TB := TB_mem (List.mem_of_getElem? (i := 72) (by decide +kernel)) rfl
theorem tw_18 : (Jvm.Cond.initialized "java/lang/Number") ∈ TB := TB_mem (List.mem_of_getElem? (i := 73) (by decide +kernel)) rfl
theorem tw_19 : (Jvm.Cond.initialized "java/lang/Double") ∈ TB := TB_mem (List.mem_of_getElem? (i := 74) (by decide +kernel)) rfl
theorem tw_20 : (Jvm.Cond.initialized "java/lang/System") ∈ TB := TB_mem (List.mem_of_getElem? (i := 75) (by decide +kernel)) rfl
theorem tw_21 : (Jvm.Cond.classLink "FlowNetworkLaw" (8 : Nat) "FlowNetwork") ∈ TB := TB_mem (List.mem_of_getElem? (i := 76) (by decide +kernel)) rfl
theorem tw_22 : (Jvm.Cond.instantiable "FlowNetwork" (5 : Nat)) ∈ TB := TB_mem (List.mem_of_getElem? (i := 77) (by decide +kernel)) rfl
theorem tw_23 : (Jvm.Cond.methodLink "FlowNetworkLaw" (92 : Nat) ({ cls := "FlowNetwork", name := "<init>", desc := "()V" } : Jvm.MethodName)) ∈ TB := TB_mem (List.mem_of_getElem? (i := 78) (by decide +kernel)) rfl
theorem tw_24 : (Jvm.Cond.instanceMethod ({ cls := "FlowNetwork", name := "<init>", desc := "()V" } : Jvm.MethodName)) ∈ TB := TB_mem (List.mem_of_getElem? (i := 79) (by decide +kernel)) rfl
theorem tw_25 : (Jvm.Cond.code ({ cls := "FlowNetwork", name := "<init>", desc := "()V" } : Jvm.MethodName) prog_1_method_1_code (2 : Nat) (Option.none : Option Jvm.ClassFile.FieldType)) ∈ TB := TB_mem (List.mem_of_getElem? (i := 80) (by decide +kernel)) rfl
theorem tw_26 : (Jvm.Cond.methodLink "FlowNetwork" (1 : Nat) ({ cls := "java/lang/Object", name := "<init>", desc := "()V" } : Jvm.MethodName)) ∈ TB := TB_mem (List.mem_of_getElem? (i := 81) (by decide +kernel)) rfl
theorem tw_27 : (Jvm.Cond.instanceMethod ({ cls := "java/lang/Object", name := "<init>", desc := "()V" } : Jvm.MethodName)) ∈ TB := TB_mem (List.mem_of_getElem? (i := 82) (by decide +kernel)) rfl
theorem tw_28 : (Jvm.Cond.code ({ cls := "java/lang/Object", name := "<init>", desc := "()V" } : Jvm.MethodName) object_method_1_code (1 : Nat) (Option.none : Option Jvm.ClassFile.FieldType)) ∈ TB := TB_mem (List.mem_of_getElem? (i := 83) (by decide +kernel)) rfl
theorem tw_29 : (Jvm.Cond.classLink "FlowNetwork" (7 : Nat) "FlowNetwork$Network") ∈ TB := TB_mem (List.mem_of_getElem? (i := 84) (by decide +kernel)) rfl
theorem tw_30 : (Jvm.Cond.instantiable "FlowNetwork$Network" (6 : Nat)) ∈ TB := TB_mem (List.mem_of_getElem? (i := 85) (by decide +kernel)) rfl
theorem tn_31 : (Jvm.Cond.methodLinkNest "FlowNetwork" (9 : Nat) ({ cls := "FlowNetwork$Network", name := "<init>", desc := "()V" } : Jvm.MethodName) "FlowNetwork") ∈ NW := NW_mem (List.mem_of_getElem? (i := 86) (by decide +kernel)) rfl
theorem tw_32 : (Jvm.Cond.instanceMethod ({ cls := "FlowNetwork$Network", name := "<init>", desc := "()V" } : Jvm.MethodName)) ∈ TB := TB_mem (List.mem_of_getElem? (i := 87) (by decide +kernel)) rfl
theorem tw_33 : (Jvm.Cond.code ({ cls := "FlowNetwork$Network", name := "<init>", desc := "()V" } : Jvm.MethodName) prog_6_method_1_code (1 : Nat) (Option.none : Option Jvm.ClassFile.FieldType)) ∈ TB := TB_mem (List.mem_of_getElem? (i := 88) (by decide +kernel)) rfl
theorem tw_34 : (Jvm.Cond.methodLink "FlowNetwork$Network" (3 : Nat) ({ cls := "java/lang/Object", name := "<init>", desc := "()V" } : Jvm.MethodName)) ∈ TB := TB_mem (List.mem_of_getElem? (i := 89) (by decide +kernel)) rfl
theorem tw_35 : (Jvm.Cond.classLink "FlowNetwork$Network" (21 : Nat) "[[I") ∈ TB := TB_mem (List.mem_of_getElem? (i := 90) (by decide +kernel)) rfl
theorem tw_37 : (Jvm.Cond.fieldLink "FlowNetwork$Network" (26 : Nat) "FlowNetwork$Network" "nodes" "I") ∈ TB := TB_mem (List.mem_of_getElem? (i := 92) (by decide +kernel)) rfl
theorem tn_38 : (Jvm.Cond.fieldLinkNest "FlowNetwork" (42 : Nat) "FlowNetwork$Network" "nodes" "I" "FlowNetwork") ∈ NW := NW_mem (List.mem_of_getElem? (i := 93) (by decide +kernel)) rfl
theorem tn_39 : (Jvm.Cond.fieldLinkNest "FlowNetwork$Cuts" (24 : Nat) "FlowNetwork$Network" "nodes" "I" "FlowNetwork") ∈ NW := NW_mem (List.mem_of_getElem? (i := 94) (by decide +kernel)) rfl
theorem tn_40 : (Jvm.Cond.fieldLinkNest "FlowNetwork$Router" (50 : Nat) "FlowNetwork$Network" "nodes" "I" "FlowNetwork") ∈ NW := NW_mem (List.mem_of_getElem? (i := 95) (by decide +kernel)) rfl
theorem tn_41 : (Jvm.Cond.fieldLinkNest "FlowNetwork$Flow" (33 : Nat) "FlowNetwork$Network" "nodes" "I" "FlowNetwork") ∈ NW := NW_mem (List.mem_of_getElem? (i := 96) (by decide +kernel)) rfl
theorem tn_42 : (Jvm.Cond.fieldLinkNest "FlowNetwork$MaximumFlow" (88 : Nat) "FlowNetwork$Network" "nodes" "I" "FlowNetwork") ∈ NW := NW_mem (List.mem_of_getElem? (i := 97) (by decide +kernel)) rfl
theorem tw_43 : (Jvm.Cond.fieldLink "FlowNetwork$Network" (30 : Nat) "FlowNetwork$Network" "arcs" "I") ∈ TB := TB_mem (List.mem_of_getElem? (i := 98) (by decide +kernel)) rfl
theorem tn_44 : (Jvm.Cond.fieldLinkNest "FlowNetwork" (68 : Nat) "FlowNetwork$Network" "arcs" "I" "FlowNetwork") ∈ NW := NW_mem (List.mem_of_getElem? (i := 99) (by decide +kernel)) rfl
theorem tn_45 : (Jvm.Cond.fieldLinkNest "FlowNetwork$Flow" (41 : Nat) "FlowNetwork$Network" "arcs" "I" "FlowNetwork") ∈ NW := NW_mem (List.mem_of_getElem? (i := 100) (by decide +kernel)) rfl
theorem tn_46 : (Jvm.Cond.fieldLinkNest "FlowNetwork$MaximumFlow" (81 : Nat) "FlowNetwork$Network" "arcs" "I" "FlowNetwork") ∈ NW := NW_mem (List.mem_of_getElem? (i := 101) (by decide +kernel)) rfl
theorem tw_47 : (Jvm.Cond.fieldLink "FlowNetwork$Network" (9 : Nat) "FlowNetwork$Network" "tail" "[I") ∈ TB := TB_mem (List.mem_of_getElem? (i := 102) (by decide +kernel)) rfl
theorem tn_48 : (Jvm.Cond.fieldLinkNest "FlowNetwork$Flow" (28 : Nat) "FlowNetwork$Network" "tail" "[I" "FlowNetwork") ∈ NW := NW_mem (List.mem_of_getElem? (i := 103) (by decide +kernel)) rfl
theorem tn_49 : (Jvm.Cond.fieldLinkNest "FlowNetwork" (101 : Nat) "FlowNetwork$Network" "tail" "[I" "FlowNetwork") ∈ NW := NW_mem (List.mem_of_getElem? (i := 104) (by decide +kernel)) rfl
theorem tn_50 : (Jvm.Cond.fieldLinkNest "FlowNetwork$MaximumFlow" (61 : Nat) "FlowNetwork$Network" "tail" "[I" "FlowNetwork") ∈ NW := NW_mem (List.mem_of_getElem? (i := 105) (by decide +kernel)) rfl
theorem tw_51 : (Jvm.Cond.fieldLink "FlowNetwork$Network" (15 : Nat) "FlowNetwork$Network" "head" "[I") ∈ TB := TB_mem (List.mem_of_getElem? (i := 106) (by decide +kernel)) rfl
theorem tn_52 : (Jvm.Cond.fieldLinkNest "FlowNetwork$MaximumFlow" (66 : Nat) "FlowNetwork$Network" "head" "[I" "FlowNetwork") ∈ NW := NW_mem (List.mem_of_getElem? (i := 107) (by decide +kernel)) rfl
theorem tn_53 : (Jvm.Cond.fieldLinkNest "FlowNetwork$Flow" (44 : Nat) "FlowNetwork$Network" "head" "[I" "FlowNetwork") ∈ NW := NW_mem (List.mem_of_getElem? (i := 108) (by decide +kernel)) rfl
theorem tn_54 : (Jvm.Cond.fieldLinkNest "FlowNetwork" (118 : Nat) "FlowNetwork$Network" "head" "[I" "FlowNetwork") ∈ NW := NW_mem (List.mem_of_getElem? (i := 109) (by decide +kernel)) rfl
theorem tw_55 : (Jvm.Cond.fieldLink "FlowNetwork$Network" (18 : Nat) "FlowNetwork$Network" "degree" "[I") ∈ TB := TB_mem (List.mem_of_getElem? (i := 110) (by decide +kernel)) rfl
theorem tn_56 : (Jvm.Cond.fieldLinkNest "FlowNetwork$Router" (59 : Nat) "FlowNetwork$Network" "degree" "[I" "FlowNetwork") ∈ NW := NW_mem (List.mem_of_getElem? (i := 111) (by decide +kernel)) rfl
theorem tw_57 : (Jvm.Cond.fieldLink "FlowNetwork$Network" (23 : Nat) "FlowNetwork$Network" "arcsAt" "[[I") ∈ TB := TB_mem (List.mem_of_getElem? (i := 112) (by decide +kernel)) rfl
theorem tn_58 : (Jvm.Cond.fieldLinkNest "FlowNetwork$Router" (62 : Nat) "FlowNetwork$Network" "arcsAt" "[[I" "FlowNetwork") ∈ NW := NW_mem (List.mem_of_getElem? (i := 113) (by decide +kernel)) rfl
theorem tw_59 : (Jvm.Cond.lays "FlowNetwork$Network" "FlowNetwork$Network" "nodes" "I") ∈ TB := TB_mem (List.mem_of_getElem? (i := 114) (by decide +kernel)) rfl
theorem tw_60 : (Jvm.Cond.soleField "FlowNetwork$Network" "nodes") ∈ TB := TB_mem (List.mem_of_getElem? (i := 115) (by decide +kernel)) rfl
theorem tw_61 : (Jvm.Cond.lays "FlowNetwork$Network" "FlowNetwork$Network" "arcs" "I") ∈ TB := TB_mem (List.mem_of_getElem? (i := 116) (by decide +kernel)) rfl
theorem tw_62 : (Jvm.Cond.soleField "FlowNetwork$Network" "arcs") ∈ TB := TB_mem (List.mem_of_getElem? (i := 117) (by decide +kernel)) rfl
theorem tw_63 : (Jvm.Cond.laysFinal "FlowNetwork$Network" "FlowNetwork$Network" "tail" "[I") ∈ TB := TB_mem (List.mem_of_getElem? (i := 118) (by decide +kernel)) rfl
theorem tw_64 : (Jvm.Cond.soleField "FlowNetwork$Network" "tail") ∈ TB := TB_mem (List.mem_of_getElem? (i := 119) (by decide +kernel)) rfl
theorem tw_65 : (Jvm.Cond.laysFinal "FlowNetwork$Network" "FlowNetwork$Network" "head" "[I") ∈ TB := TB_mem (List.mem_of_getElem? (i := 120) (by decide +kernel)) rfl
theorem tw_66 : (Jvm.Cond.soleField "FlowNetwork$Network" "head") ∈ TB := TB_mem (List.mem_of_getElem? (i := 121) (by decide +kernel)) rfl
theorem tw_67 : (Jvm.Cond.laysFinal "FlowNetwork$Network" "FlowNetwork$Network" "degree" "[I") ∈ TB := TB_mem (List.mem_of_getElem? (i := 122) (by decide +kernel)) rfl
theorem tw_68 : (Jvm.Cond.soleField "FlowNetwork$Network" "degree") ∈ TB := TB_mem (List.mem_of_getElem? (i := 123) (by decide +kernel)) rfl
theorem tw_69 : (Jvm.Cond.laysFinal "FlowNetwork$Network" "FlowNetwork$Network" "arcsAt" "[[I") ∈ TB := TB_mem (List.mem_of_getElem? (i := 124) (by decide +kernel)) rfl
theorem tw_70 : (Jvm.Cond.soleField "FlowNetwork$Network" "arcsAt") ∈ TB := TB_mem (List.mem_of_getElem? (i := 125) (by decide +kernel)) rfl
theorem tw_71 : (Jvm.Cond.superclass "FlowNetwork$Network" "java/lang/Object") ∈ TB := TB_mem (List.mem_of_getElem? (i := 126) (by decide +kernel)) rfl
theorem tw_72 : (Jvm.Cond.arrayClass Jvm.ClassFile.FieldType.int) ∈ TB := TB_mem (List.mem_of_getElem? (i := 127) (by decide +kernel)) rfl
theorem tw_73 : (Jvm.Cond.classLink "FlowNetwork" (16 : Nat) "FlowNetwork$MaximumFlow") ∈ TB := TB_mem (List.mem_of_getElem? (i := 128) (by decide +kernel)) rfl
theorem tw_74 : (Jvm.Cond.instantiable "FlowNetwork$MaximumFlow" (6 : Nat)) ∈ TB := TB_mem (List.mem_of_getElem? (i := 129) (by decide +kernel)) rfl
theorem tn_75 : (Jvm.Cond.methodLinkNest "FlowNetwork" (18 : Nat) ({ cls := "FlowNetwork$MaximumFlow", name := "<init>", desc := "(LFlowNetwork$Network;)V" } : Jvm.MethodName) "FlowNetwork") ∈ NW := NW_mem (List.mem_of_getElem? (i := 130) (by decide +kernel)) rfl
theorem tw_76 : (Jvm.Cond.instanceMethod ({ cls := "FlowNetwork$MaximumFlow", name := "<init>", desc := "(LFlowNetwork$Network;)V" } : Jvm.MethodName)) ∈ TB := TB_mem (List.mem_of_getElem? (i := 131) (by decide +kernel)) rfl
theorem tw_77 : (Jvm.Cond.code ({ cls := "FlowNetwork$MaximumFlow", name := "<init>", desc := "(LFlowNetwork$Network;)V" } : Jvm.MethodName) prog_5_method_1_code (3 : Nat) (Option.none : Option Jvm.ClassFile.FieldType)) ∈ TB := TB_mem (List.mem_of_getElem? (i := 132) (by decide +kernel)) rfl
theorem tw_78 : (Jvm.Cond.methodLink "FlowNetwork$MaximumFlow" (3 : Nat) ({ cls := "java/lang/Object", name := "<init>", desc := "()V" } : Jvm.MethodName)) ∈ TB := TB_mem (List.mem_of_getElem? (i := 133) (by decide +kernel)) rfl
theorem tw_79 : (Jvm.Cond.classLink "FlowNetwork$MaximumFlow" (18 : Nat) "FlowNetwork$Flow") ∈ TB := TB_mem (List.mem_of_getElem? (i := 134) (by decide +kernel)) rfl
theorem tw_80 : (Jvm.Cond.instantiable "FlowNetwork$Flow" (3 : Nat)) ∈ TB := TB_mem (List.mem_of_getElem? (i := 135) (by decide +kernel)) rfl
theorem tn_81 : (Jvm.Cond.methodLinkNest "FlowNetwork$MaximumFlow" (20 : Nat) ({ cls := "FlowNetwork$Flow", name := "<init>", desc := "(LFlowNetwork$Network;)V" } : Jvm.MethodName) "FlowNetwork") ∈ NW := NW_mem (List.mem_of_getElem? (i := 136) (by decide +kernel)) rfl
theorem tw_82 : (Jvm.Cond.instanceMethod ({ cls := "FlowNetwork$Flow", name := "<init>", desc := "(LFlowNetwork$Network;)V" } : Jvm.MethodName)) ∈ TB := TB_mem (List.mem_of_getElem? (i := 137) (by decide +kernel)) rfl
theorem tw_83 : (Jvm.Cond.code ({ cls := "FlowNetwork$Flow", name := "<init>", desc := "(LFlowNetwork$Network;)V" } : Jvm.MethodName) prog_3_method_1_code (2 : Nat) (Option.none : Option Jvm.ClassFile.FieldType)) ∈ TB := TB_mem (List.mem_of_getElem? (i := 138) (by decide +kernel)) rfl
theorem tw_84 : (Jvm.Cond.methodLink "FlowNetwork$Flow" (3 : Nat) ({ cls := "java/lang/Object", name := "<init>", desc := "()V" } : Jvm.MethodName)) ∈ TB := TB_mem (List.mem_of_getElem? (i := 139) (by decide +kernel)) rfl
theorem tw_85 : (Jvm.Cond.fieldLink "FlowNetwork$Flow" (18 : Nat) "FlowNetwork$Flow" "network" "LFlowNetwork$Network;") ∈ TB := TB_mem (List.mem_of_getElem? (i := 140) (by decide +kernel)) rfl
theorem tw_86 : (Jvm.Cond.fieldLink "FlowNetwork$Flow" (9 : Nat) "FlowNetwork$Flow" "capacity" "[I") ∈ TB := TB_mem (List.mem_of_getElem? (i := 141) (by decide +kernel)) rfl
theorem tn_87 : (Jvm.Cond.fieldLinkNest "FlowNetwork$Levels" (29 : Nat) "FlowNetwork$Flow" "capacity" "[I" "FlowNetwork") ∈ NW := NW_mem (List.mem_of_getElem? (i := 142) (by decide +kernel)) rfl
theorem tn_88 : (Jvm.Cond.fieldLinkNest "FlowNetwork" (87 : Nat) "FlowNetwork$Flow" "capacity" "[I" "FlowNetwork") ∈ NW := NW_mem (List.mem_of_getElem? (i := 143) (by decide +kernel)) rfl
theorem tn_89 : (Jvm.Cond.fieldLinkNest "FlowNetwork$MaximumFlow" (58 : Nat) "FlowNetwork$Flow" "capacity" "[I" "FlowNetwork") ∈ NW := NW_mem (List.mem_of_getElem? (i := 144) (by decide +kernel)) rfl
theorem tw_90 : (Jvm.Cond.fieldLink "FlowNetwork$Flow" (15 : Nat) "FlowNetwork$Flow" "amount" "[I") ∈ TB := TB_mem (List.mem_of_getElem? (i := 145) (by decide +kernel)) rfl
theorem tn_91 : (Jvm.Cond.fieldLinkNest "FlowNetwork$MaximumFlow" (48 : Nat) "FlowNetwork$Flow" "amount" "[I" "FlowNetwork") ∈ NW := NW_mem (List.mem_of_getElem? (i := 146) (by decide +kernel)) rfl
theorem tn_92 : (Jvm.Cond.fieldLinkNest "FlowNetwork" (131 : Nat) "FlowNetwork$Flow" "amount" "[I" "FlowNetwork") ∈ NW := NW_mem (List.mem_of_getElem? (i := 147) (by decide +kernel)) rfl
theorem tw_93 : (Jvm.Cond.laysFinal "FlowNetwork$Flow" "FlowNetwork$Flow" "network" "LFlowNetwork$Network;") ∈ TB := TB_mem (List.mem_of_getElem? (i := 148) (by decide +kernel)) rfl
theorem tw_94 : (Jvm.Cond.soleField "FlowNetwork$Flow" "network") ∈ TB := TB_mem (List.mem_of_getElem? (i := 149) (by decide +kernel)) rfl
theorem tw_95 : (Jvm.Cond.laysFinal "FlowNetwork$Flow" "FlowNetwork$Flow" "capacity" "[I") ∈ TB := TB_mem (List.mem_of_getElem? (i := 150) (by decide +kernel)) rfl
theorem tw_96 : (Jvm.Cond.soleField "FlowNetwork$Flow" "capacity") ∈ TB := TB_mem (List.mem_of_getElem? (i := 151) (by decide +kernel)) rfl
theorem tw_97 : (Jvm.Cond.laysFinal "FlowNetwork$Flow" "FlowNetwork$Flow" "amount" "[I") ∈ TB := TB_mem (List.mem_of_getElem? (i := 152) (by decide +kernel)) rfl
theorem tw_98 : (Jvm.Cond.soleField "FlowNetwork$Flow" "amount") ∈ TB := TB_mem (List.mem_of_getElem? (i := 153) (by decide +kernel)) rfl
theorem tw_99 : (Jvm.Cond.superclass "FlowNetwork$Flow" "java/lang/Object") ∈ TB := TB_mem (List.mem_of_getElem? (i := 154) (by decide +kernel)) rfl
theorem tw_100 : (Jvm.Cond.classLink "FlowNetwork$MaximumFlow" (31 : Nat) "FlowNetwork$Router") ∈ TB := TB_mem (List.mem_of_getElem? (i := 155) (by decide +kernel)) rfl
theorem tw_101 : (Jvm.Cond.instantiable "FlowNetwork$Router" (7 : Nat)) ∈ TB := TB_mem (List.mem_of_getElem? (i := 156) (by decide +kernel)) rfl
theorem tn_102 : (Jvm.Cond.methodLinkNest "FlowNetwork$MaximumFlow" (33 : Nat) ({ cls := "FlowNetwork$Router", name := "<init>", desc := "(LFlowNetwork$Network;LFlowNetwork$Flow;)V" } : Jvm.MethodName) "FlowNetwork") ∈ NW := NW_mem (List.mem_of_getElem? (i := 157) (by decide +kernel)) rfl
theorem tw_103 : (Jvm.Cond.instanceMethod ({ cls := "FlowNetwork$Router", name := "<init>", desc := "(LFlowNetwork$Network;LFlowNetwork$Flow;)V" } : Jvm.MethodName)) ∈ TB := TB_mem (List.mem_of_getElem? (i := 158) (by decide +kernel)) rfl
theorem tw_104 : (Jvm.Cond.code ({ cls := "FlowNetwork$Router", name := "<init>", desc := "(LFlowNetwork$Network;LFlowNetwork$Flow;)V" } : Jvm.MethodName) prog_7_method_1_code (3 : Nat) (Option.none : Option Jvm.ClassFile.FieldType)) ∈ TB := TB_mem (List.mem_of_getElem? (i := 159) (by decide +kernel)) rfl
theorem tw_105 : (Jvm.Cond.methodLink "FlowNetwork$Router" (3 : Nat) ({ cls := "java/lang/Object", name := "<init>", desc := "()V" } : Jvm.MethodName)) ∈ TB := TB_mem (List.mem_of_getElem? (i := 160) (by decide +kernel)) rfl
theorem tw_106 : (Jvm.Cond.fieldLink "FlowNetwork$Router" (21 : Nat) "FlowNetwork$Router" "network" "LFlowNetwork$Network;") ∈ TB := TB_mem (List.mem_of_getElem? (i := 161) (by decide +kernel)) rfl
theorem tw_107 : (Jvm.Cond.fieldLink "FlowNetwork$Router" (25 : Nat) "FlowNetwork$Router" "flow" "LFlowNetwork$Flow;") ∈ TB := TB_mem (List.mem_of_getElem? (i := 162) (by decide +kernel)) rfl
theorem tw_108 : (Jvm.Cond.fieldLink "FlowNetwork$Router" (9 : Nat) "FlowNetwork$Router" "excess" "[I") ∈ TB := TB_mem (List.mem_of_getElem? (i := 163) (by decide +kernel)) rfl
theorem tw_109 : (Jvm.Cond.fieldLink "FlowNetwork$Router" (15 : Nat) "FlowNetwork$Router" "height" "[I") ∈ TB := TB_mem (List.mem_of_getElem? (i := 164) (by decide +kernel)) rfl
theorem tw_110 : (Jvm.Cond.fieldLink "FlowNetwork$Router" (18 : Nat) "FlowNetwork$Router" "queue" "[I") ∈ TB := TB_mem (List.mem_of_getElem? (i := 165) (by decide +kernel)) rfl
theorem tw_111 : (Jvm.Cond.fieldLink "FlowNetwork$Router" (29 : Nat) "FlowNetwork$Router" "start" "I") ∈ TB := TB_mem (List.mem_of_getElem? (i := 166) (by decide +kernel)) rfl
theorem tw_112 : (Jvm.Cond.fieldLink "FlowNetwork$Router" (33 : Nat) "FlowNetwork$Router" "goal" "I") ∈ TB := TB_mem (List.mem_of_getElem? (i := 167) (by decide +kernel)) rfl
theorem tw_113 : (Jvm.Cond.laysFinal "FlowNetwork$Router" "FlowNetwork$Router" "network" "LFlowNetwork$Network;") ∈ TB := TB_mem (List.mem_of_getElem? (i := 168) (by decide +kernel)) rfl
theorem tw_114 : (Jvm.Cond.soleField "FlowNetwork$Router" "network") ∈ TB := TB_mem (List.mem_of_getElem? (i := 169) (by decide +kernel)) rfl
theorem tw_115 : (Jvm.Cond.laysFinal "FlowNetwork$Router" "FlowNetwork$Router" "flow" "LFlowNetwork$Flow;") ∈ TB := TB_mem (List.mem_of_getElem? (i := 170) (by decide +kernel)) rfl
theorem tw_116 : (Jvm.Cond.soleField "FlowNetwork$Router" "flow") ∈ TB := TB_mem (List.mem_of_getElem? (i := 171) (by decide +kernel)) rfl
theorem tw_117 : (Jvm.Cond.laysFinal "FlowNetwork$Router" "FlowNetwork$Router" "excess" "[I") ∈ TB := TB_mem (List.mem_of_getElem? (i := 172) (by decide +kernel)) rfl
theorem tw_118 : (Jvm.Cond.soleField "FlowNetwork$Router" "excess") ∈ TB := TB_mem (List.mem_of_getElem? (i := 173) (by decide +kernel)) rfl
theorem tw_119 : (Jvm.Cond.laysFinal "FlowNetwork$Router" "FlowNetwork$Router" "height" "[I") ∈ TB := TB_mem (List.mem_of_getElem? (i := 174) (by decide +kernel)) rfl
theorem tw_120 : (Jvm.Cond.soleField "FlowNetwork$Router" "height") ∈ TB := TB_mem (List.mem_of_getElem? (i := 175) (by decide +kernel)) rfl
theorem tw_121 : (Jvm.Cond.laysFinal "FlowNetwork$Router" "FlowNetwork$Router" "queue" "[I") ∈ TB := TB_mem (List.mem_of_getElem? (i := 176) (by decide +kernel)) rfl
theorem tw_122 : (Jvm.Cond.soleField "FlowNetwork$Router" "queue") ∈ TB := TB_mem (List.mem_of_getElem? (i := 177) (by decide +kernel)) rfl
theorem tw_123 : (Jvm.Cond.lays "FlowNetwork$Router" "FlowNetwork$Router" "start" "I") ∈ TB := TB_mem (List.mem_of_getElem? (i := 178) (by decide +kernel)) rfl
theorem tw_124 : (Jvm.Cond.soleField "FlowNetwork$Router" "start") ∈ TB := TB_mem (List.mem_of_getElem? (i := 179) (by decide +kernel)) rfl
theorem tw_125 : (Jvm.Cond.lays "FlowNetwork$Router" "FlowNetwork$Router" "goal" "I") ∈ TB := TB_mem (List.mem_of_getElem? (i := 180) (by decide +kernel)) rfl
theorem tw_126 : (Jvm.Cond.soleField "FlowNetwork$Router" "goal") ∈ TB := TB_mem (List.mem_of_getElem? (i := 181) (by decide +kernel)) rfl
theorem tw_127 : (Jvm.Cond.superclass "FlowNetwork$Router" "java/lang/Object") ∈ TB := TB_mem (List.mem_of_getElem? (i := 182) (by decide +kernel)) rfl
theorem tw_128 : (Jvm.Cond.fieldLink "FlowNetwork$MaximumFlow" (23 : Nat) "FlowNetwork$MaximumFlow" "network" "LFlowNetwork$Network;") ∈ TB := TB_mem (List.mem_of_getElem? (i := 183) (by decide +kernel)) rfl
theorem tn_129 : (Jvm.Cond.fieldLinkNest "FlowNetwork$Cuts" (18 : Nat) "FlowNetwork$MaximumFlow" "network" "LFlowNetwork$Network;" "FlowNetwork") ∈ NW := NW_mem (List.mem_of_getElem? (i := 184) (by decide +kernel)) rfl
theorem tw_130 : (Jvm.Cond.fieldLink "FlowNetwork$MaximumFlow" (27 : Nat) "FlowNetwork$MaximumFlow" "flow" "LFlowNetwork$Flow;") ∈ TB := TB_mem (List.mem_of_getElem? (i := 185) (by decide +kernel)) rfl
theorem tn_131 : (Jvm.Cond.fieldLinkNest "FlowNetwork$Levels" (23 : Nat) "FlowNetwork$MaximumFlow" "flow" "LFlowNetwork$Flow;" "FlowNetwork") ∈ NW := NW_mem (List.mem_of_getElem? (i := 186) (by decide +kernel)) rfl
theorem tn_132 : (Jvm.Cond.fieldLinkNest "FlowNetwork$Cuts" (30 : Nat) "FlowNetwork$MaximumFlow" "flow" "LFlowNetwork$Flow;" "FlowNetwork") ∈ NW := NW_mem (List.mem_of_getElem? (i := 187) (by decide +kernel)) rfl
theorem tn_133 : (Jvm.Cond.fieldLinkNest "FlowNetwork" (83 : Nat) "FlowNetwork$MaximumFlow" "flow" "LFlowNetwork$Flow;" "FlowNetwork") ∈ NW := NW_mem (List.mem_of_getElem? (i := 188) (by decide +kernel)) rfl
theorem tw_134 : (Jvm.Cond.fieldLink "FlowNetwork$MaximumFlow" (36 : Nat) "FlowNetwork$MaximumFlow" "router" "LFlowNetwork$Router;") ∈ TB := TB_mem (List.mem_of_getElem? (i := 189) (by decide +kernel)) rfl
theorem tn_135 : (Jvm.Cond.fieldLinkNest "FlowNetwork" (224 : Nat) "FlowNetwork$MaximumFlow" "router" "LFlowNetwork$Router;" "FlowNetwork") ∈ NW := NW_mem (List.mem_of_getElem? (i := 190) (by decide +kernel)) rfl
theorem tw_136 : (Jvm.Cond.fieldLink "FlowNetwork$MaximumFlow" (9 : Nat) "FlowNetwork$MaximumFlow" "source" "I") ∈ TB := TB_mem (List.mem_of_getElem? (i := 191) (by decide +kernel)) rfl
theorem tn_137 : (Jvm.Cond.fieldLinkNest "FlowNetwork$Levels" (43 : Nat) "FlowNetwork$MaximumFlow" "source" "I" "FlowNetwork") ∈ NW := NW_mem (List.mem_of_getElem? (i := 192) (by decide +kernel)) rfl
theorem tn_138 : (Jvm.Cond.fieldLinkNest "FlowNetwork$Cuts" (43 : Nat) "FlowNetwork$MaximumFlow" "source" "I" "FlowNetwork") ∈ NW := NW_mem (List.mem_of_getElem? (i := 193) (by decide +kernel)) rfl
theorem tn_139 : (Jvm.Cond.fieldLinkNest "FlowNetwork" (121 : Nat) "FlowNetwork$MaximumFlow" "source" "I" "FlowNetwork") ∈ NW := NW_mem (List.mem_of_getElem? (i := 194) (by decide +kernel)) rfl
theorem tw_140 : (Jvm.Cond.fieldLink "FlowNetwork$MaximumFlow" (15 : Nat) "FlowNetwork$MaximumFlow" "sink" "I") ∈ TB := TB_mem (List.mem_of_getElem? (i := 195) (by decide +kernel)) rfl
theorem tn_141 : (Jvm.Cond.fieldLinkNest "FlowNetwork$Levels" (45 : Nat) "FlowNetwork$MaximumFlow" "sink" "I" "FlowNetwork") ∈ NW := NW_mem (List.mem_of_getElem? (i := 196) (by decide +kernel)) rfl
theorem tn_142 : (Jvm.Cond.fieldLinkNest "FlowNetwork$Cuts" (46 : Nat) "FlowNetwork$MaximumFlow" "sink" "I" "FlowNetwork") ∈ NW := NW_mem (List.mem_of_getElem? (i := 197) (by decide +kernel)) rfl
theorem tn_143 : (Jvm.Cond.fieldLinkNest "FlowNetwork" (176 : Nat) "FlowNetwork$MaximumFlow" "sink" "I" "FlowNetwork") ∈ NW := NW_mem (List.mem_of_getElem? (i := 198) (by decide +kernel)) rfl
theorem tw_144 : (Jvm.Cond.fieldLink "FlowNetwork$MaximumFlow" (44 : Nat) "FlowNetwork$MaximumFlow" "settled" "Z") ∈ TB := TB_mem (List.mem_of_getElem? (i := 199) (by decide +kernel)) rfl
theorem tw_145 : (Jvm.Cond.laysFinal "FlowNetwork$MaximumFlow" "FlowNetwork$MaximumFlow" "network" "LFlowNetwork$Network;") ∈ TB := TB_mem (List.mem_of_getElem? (i := 200) (by decide +kernel)) rfl
theorem tw_146 : (Jvm.Cond.soleField "FlowNetwork$MaximumFlow" "network") ∈ TB := TB_mem (List.mem_of_getElem? (i := 201) (by decide +kernel)) rfl
theorem tw_147 : (Jvm.Cond.laysFinal "FlowNetwork$MaximumFlow" "FlowNetwork$MaximumFlow" "flow" "LFlowNetwork$Flow;") ∈ TB := TB_mem (List.mem_of_getElem? (i := 202) (by decide +kernel)) rfl
theorem tw_148 : (Jvm.Cond.soleField "FlowNetwork$MaximumFlow" "flow") ∈ TB := TB_mem (List.mem_of_getElem? (i := 203) (by decide +kernel)) rfl
theorem tw_149 : (Jvm.Cond.laysFinal "FlowNetwork$MaximumFlow" "FlowNetwork$MaximumFlow" "router" "LFlowNetwork$Router;") ∈ TB := TB_mem (List.mem_of_getElem? (i := 204) (by decide +kernel)) rfl
theorem tw_150 : (Jvm.Cond.soleField "FlowNetwork$MaximumFlow" "router") ∈ TB := TB_mem (List.mem_of_getElem? (i := 205) (by decide +kernel)) rfl
theorem tw_151 : (Jvm.Cond.lays "FlowNetwork$MaximumFlow" "FlowNetwork$MaximumFlow" "source" "I") ∈ TB := TB_mem (List.mem_of_getElem? (i := 206) (by decide +kernel)) rfl
theorem tw_152 : (Jvm.Cond.soleField "FlowNetwork$MaximumFlow" "source") ∈ TB := TB_mem (List.mem_of_getElem? (i := 207) (by decide +kernel)) rfl
theorem tw_153 : (Jvm.Cond.lays "FlowNetwork$MaximumFlow" "FlowNetwork$MaximumFlow" "sink" "I") ∈ TB := TB_mem (List.mem_of_getElem? (i := 208) (by decide +kernel)) rfl
theorem tw_154 : (Jvm.Cond.soleField "FlowNetwork$MaximumFlow" "sink") ∈ TB := TB_mem (List.mem_of_getElem? (i := 209) (by decide +kernel)) rfl
theorem tw_155 : (Jvm.Cond.lays "FlowNetwork$MaximumFlow" "FlowNetwork$MaximumFlow" "settled" "Z") ∈ TB := TB_mem (List.mem_of_getElem? (i := 210) (by decide +kernel)) rfl
theorem tw_156 : (Jvm.Cond.soleField "FlowNetwork$MaximumFlow" "settled") ∈ TB := TB_mem (List.mem_of_getElem? (i := 211) (by decide +kernel)) rfl
theorem tw_157 : (Jvm.Cond.superclass "FlowNetwork$MaximumFlow" "java/lang/Object") ∈ TB := TB_mem (List.mem_of_getElem? (i := 212) (by decide +kernel)) rfl
theorem tw_158 : (Jvm.Cond.classLink "FlowNetwork" (28 : Nat) "FlowNetwork$Levels") ∈ TB := TB_mem (List.mem_of_getElem? (i := 213) (by decide +kernel)) rfl
theorem tw_159 : (Jvm.Cond.instantiable "FlowNetwork$Levels" (4 : Nat)) ∈ TB := TB_mem (List.mem_of_getElem? (i := 214) (by decide +kernel)) rfl
theorem tn_160 : (Jvm.Cond.methodLinkNest "FlowNetwork" (30 : Nat) ({ cls := "FlowNetwork$Levels", name := "<init>", desc := "()V" } : Jvm.MethodName) "FlowNetwork") ∈ NW := NW_mem (List.mem_of_getElem? (i := 215) (by decide +kernel)) rfl
theorem tw_161 : (Jvm.Cond.instanceMethod ({ cls := "FlowNetwork$Levels", name := "<init>", desc := "()V" } : Jvm.MethodName)) ∈ TB := TB_mem (List.mem_of_getElem? (i := 216) (by decide +kernel)) rfl
theorem tw_162 : (Jvm.Cond.code ({ cls := "FlowNetwork$Levels", name := "<init>", desc := "()V" } : Jvm.MethodName) prog_4_method_1_code (1 : Nat) (Option.none : Option Jvm.ClassFile.FieldType)) ∈ TB := TB_mem (List.mem_of_getElem? (i := 217) (by decide +kernel)) rfl
theorem tw_163 : (Jvm.Cond.methodLink "FlowNetwork$Levels" (3 : Nat) ({ cls := "java/lang/Object", name := "<init>", desc := "()V" } : Jvm.MethodName)) ∈ TB := TB_mem (List.mem_of_getElem? (i := 218) (by decide +kernel)) rfl
theorem tw_164 : (Jvm.Cond.classLink "FlowNetwork$Levels" (9 : Nat) "[[I") ∈ TB := TB_mem (List.mem_of_getElem? (i := 219) (by decide +kernel)) rfl
theorem tw_165 : (Jvm.Cond.fieldLink "FlowNetwork$Levels" (33 : Nat) "FlowNetwork$Levels" "count" "I") ∈ TB := TB_mem (List.mem_of_getElem? (i := 220) (by decide +kernel)) rfl
theorem tn_166 : (Jvm.Cond.fieldLinkNest "FlowNetwork" (180 : Nat) "FlowNetwork$Levels" "count" "I" "FlowNetwork") ∈ NW := NW_mem (List.mem_of_getElem? (i := 221) (by decide +kernel)) rfl
theorem tw_167 : (Jvm.Cond.fieldLink "FlowNetwork$Levels" (11 : Nat) "FlowNetwork$Levels" "capacity" "[[I") ∈ TB := TB_mem (List.mem_of_getElem? (i := 222) (by decide +kernel)) rfl
theorem tn_168 : (Jvm.Cond.fieldLinkNest "FlowNetwork" (192 : Nat) "FlowNetwork$Levels" "capacity" "[[I" "FlowNetwork") ∈ NW := NW_mem (List.mem_of_getElem? (i := 223) (by decide +kernel)) rfl
theorem tw_169 : (Jvm.Cond.fieldLink "FlowNetwork$Levels" (16 : Nat) "FlowNetwork$Levels" "source" "[I") ∈ TB := TB_mem (List.mem_of_getElem? (i := 224) (by decide +kernel)) rfl
theorem tn_170 : (Jvm.Cond.fieldLinkNest "FlowNetwork" (188 : Nat) "FlowNetwork$Levels" "source" "[I" "FlowNetwork") ∈ NW := NW_mem (List.mem_of_getElem? (i := 225) (by decide +kernel)) rfl
theorem tw_171 : (Jvm.Cond.fieldLink "FlowNetwork$Levels" (20 : Nat) "FlowNetwork$Levels" "sink" "[I") ∈ TB := TB_mem (List.mem_of_getElem? (i := 226) (by decide +kernel)) rfl
theorem tn_172 : (Jvm.Cond.fieldLinkNest "FlowNetwork" (190 : Nat) "FlowNetwork$Levels" "sink" "[I" "FlowNetwork") ∈ NW := NW_mem (List.mem_of_getElem? (i := 227) (by decide +kernel)) rfl
theorem tw_173 : (Jvm.Cond.lays "FlowNetwork$Levels" "FlowNetwork$Levels" "count" "I") ∈ TB := TB_mem (List.mem_of_getElem? (i := 228) (by decide +kernel)) rfl
theorem tw_174 : (Jvm.Cond.soleField "FlowNetwork$Levels" "count") ∈ TB := TB_mem (List.mem_of_getElem? (i := 229) (by decide +kernel)) rfl
theorem tw_175 : (Jvm.Cond.laysFinal "FlowNetwork$Levels" "FlowNetwork$Levels" "capacity" "[[I") ∈ TB := TB_mem (List.mem_of_getElem? (i := 230) (by decide +kernel)) rfl
theorem tw_176 : (Jvm.Cond.soleField "FlowNetwork$Levels" "capacity") ∈ TB := TB_mem (List.mem_of_getElem? (i := 231) (by decide +kernel)) rfl
theorem tw_177 : (Jvm.Cond.laysFinal "FlowNetwork$Levels" "FlowNetwork$Levels" "source" "[I") ∈ TB := TB_mem (List.mem_of_getElem? (i := 232) (by decide +kernel)) rfl
theorem tw_178 : (Jvm.Cond.soleField "FlowNetwork$Levels" "source") ∈ TB := TB_mem (List.mem_of_getElem? (i := 233) (by decide +kernel)) rfl
theorem tw_179 : (Jvm.Cond.laysFinal "FlowNetwork$Levels" "FlowNetwork$Levels" "sink" "[I") ∈ TB := TB_mem (List.mem_of_getElem? (i := 234) (by decide +kernel)) rfl
theorem tw_180 : (Jvm.Cond.soleField "FlowNetwork$Levels" "sink") ∈ TB := TB_mem (List.mem_of_getElem? (i := 235) (by decide +kernel)) rfl
theorem tw_181 : (Jvm.Cond.superclass "FlowNetwork$Levels" "java/lang/Object") ∈ TB := TB_mem (List.mem_of_getElem? (i := 236) (by decide +kernel)) rfl
theorem tw_182 : (Jvm.Cond.classLink "FlowNetwork" (35 : Nat) "FlowNetwork$Cuts") ∈ TB := TB_mem (List.mem_of_getElem? (i := 237) (by decide +kernel)) rfl
theorem tw_183 : (Jvm.Cond.instantiable "FlowNetwork$Cuts" (3 : Nat)) ∈ TB := TB_mem (List.mem_of_getElem? (i := 238) (by decide +kernel)) rfl
theorem tn_184 : (Jvm.Cond.methodLinkNest "FlowNetwork" (37 : Nat) ({ cls := "FlowNetwork$Cuts", name := "<init>", desc := "()V" } : Jvm.MethodName) "FlowNetwork") ∈ NW := NW_mem (List.mem_of_getElem? (i := 239) (by decide +kernel)) rfl
theorem tw_185 : (Jvm.Cond.instanceMethod ({ cls := "FlowNetwork$Cuts", name := "<init>", desc := "()V" } : Jvm.MethodName)) ∈ TB := TB_mem (List.mem_of_getElem? (i := 240) (by decide +kernel)) rfl
theorem tw_186 : (Jvm.Cond.code ({ cls := "FlowNetwork$Cuts", name := "<init>", desc := "()V" } : Jvm.MethodName) prog_2_method_1_code (1 : Nat) (Option.none : Option Jvm.ClassFile.FieldType)) ∈ TB := TB_mem (List.mem_of_getElem? (i := 241) (by decide +kernel)) rfl
theorem tw_187 : (Jvm.Cond.methodLink "FlowNetwork$Cuts" (3 : Nat) ({ cls := "java/lang/Object", name := "<init>", desc := "()V" } : Jvm.MethodName)) ∈ TB := TB_mem (List.mem_of_getElem? (i := 242) (by decide +kernel)) rfl
theorem tw_188 : (Jvm.Cond.fieldLink "FlowNetwork$Cuts" (40 : Nat) "FlowNetwork$Cuts" "count" "I") ∈ TB := TB_mem (List.mem_of_getElem? (i := 243) (by decide +kernel)) rfl
theorem tn_189 : (Jvm.Cond.fieldLinkNest "FlowNetwork" (159 : Nat) "FlowNetwork$Cuts" "count" "I" "FlowNetwork") ∈ NW := NW_mem (List.mem_of_getElem? (i := 244) (by decide +kernel)) rfl
theorem tw_190 : (Jvm.Cond.fieldLink "FlowNetwork$Cuts" (9 : Nat) "FlowNetwork$Cuts" "masks" "[I") ∈ TB := TB_mem (List.mem_of_getElem? (i := 245) (by decide +kernel)) rfl
theorem tn_191 : (Jvm.Cond.fieldLinkNest "FlowNetwork" (167 : Nat) "FlowNetwork$Cuts" "masks" "[I" "FlowNetwork") ∈ NW := NW_mem (List.mem_of_getElem? (i := 246) (by decide +kernel)) rfl
theorem tw_192 : (Jvm.Cond.fieldLink "FlowNetwork$Cuts" (15 : Nat) "FlowNetwork$Cuts" "reachable" "[I") ∈ TB := TB_mem (List.mem_of_getElem? (i := 247) (by decide +kernel)) rfl
theorem tw_193 : (Jvm.Cond.lays "FlowNetwork$Cuts" "FlowNetwork$Cuts" "count" "I") ∈ TB := TB_mem (List.mem_of_getElem? (i := 248) (by decide +kernel)) rfl
theorem tw_194 : (Jvm.Cond.soleField "FlowNetwork$Cuts" "count") ∈ TB := TB_mem (List.mem_of_getElem? (i := 249) (by decide +kernel)) rfl
theorem tw_195 : (Jvm.Cond.laysFinal "FlowNetwork$Cuts" "FlowNetwork$Cuts" "masks" "[I") ∈ TB := TB_mem (List.mem_of_getElem? (i := 250) (by decide +kernel)) rfl
theorem tw_196 : (Jvm.Cond.soleField "FlowNetwork$Cuts" "masks") ∈ TB := TB_mem (List.mem_of_getElem? (i := 251) (by decide +kernel)) rfl
theorem tw_197 : (Jvm.Cond.laysFinal "FlowNetwork$Cuts" "FlowNetwork$Cuts" "reachable" "[I") ∈ TB := TB_mem (List.mem_of_getElem? (i := 252) (by decide +kernel)) rfl
theorem tw_198 : (Jvm.Cond.soleField "FlowNetwork$Cuts" "reachable") ∈ TB := TB_mem (List.mem_of_getElem? (i := 253) (by decide +kernel)) rfl
theorem tw_199 : (Jvm.Cond.superclass "FlowNetwork$Cuts" "java/lang/Object") ∈ TB := TB_mem (List.mem_of_getElem? (i := 254) (by decide +kernel)) rfl
theorem tw_200 : (Jvm.Cond.fieldLink "FlowNetwork" (10 : Nat) "FlowNetwork" "network" "LFlowNetwork$Network;") ∈ TB := TB_mem (List.mem_of_getElem? (i := 255) (by decide +kernel)) rfl
theorem tw_201 : (Jvm.Cond.fieldLink "FlowNetwork" (21 : Nat) "FlowNetwork" "current" "LFlowNetwork$MaximumFlow;") ∈ TB := TB_mem (List.mem_of_getElem? (i := 256) (by decide +kernel)) rfl
theorem tw_202 : (Jvm.Cond.fieldLink "FlowNetwork" (25 : Nat) "FlowNetwork" "trial" "LFlowNetwork$MaximumFlow;") ∈ TB := TB_mem (List.mem_of_getElem? (i := 257) (by decide +kernel)) rfl
theorem tw_203 : (Jvm.Cond.fieldLink "FlowNetwork" (31 : Nat) "FlowNetwork" "levels" "LFlowNetwork$Levels;") ∈ TB := TB_mem (List.mem_of_getElem? (i := 258) (by decide +kernel)) rfl
theorem tw_204 : (Jvm.Cond.fieldLink "FlowNetwork" (38 : Nat) "FlowNetwork" "cuts" "LFlowNetwork$Cuts;") ∈ TB := TB_mem (List.mem_of_getElem? (i := 259) (by decide +kernel)) rfl
theorem tw_205 : (Jvm.Cond.laysFinal "FlowNetwork" "FlowNetwork" "network" "LFlowNetwork$Network;") ∈ TB := TB_mem (List.mem_of_getElem? (i := 260) (by decide +kernel)) rfl
theorem tw_206 : (Jvm.Cond.soleField "FlowNetwork" "network") ∈ TB := TB_mem (List.mem_of_getElem? (i := 261) (by decide +kernel)) rfl
theorem tw_207 : (Jvm.Cond.laysFinal "FlowNetwork" "FlowNetwork" "current" "LFlowNetwork$MaximumFlow;") ∈ TB := TB_mem (List.mem_of_getElem? (i := 262) (by decide +kernel)) rfl
theorem tw_208 : (Jvm.Cond.soleField "FlowNetwork" "current") ∈ TB := TB_mem (List.mem_of_getElem? (i := 263) (by decide +kernel)) rfl
theorem tw_209 : (Jvm.Cond.laysFinal "FlowNetwork" "FlowNetwork" "trial" "LFlowNetwork$MaximumFlow;") ∈ TB := TB_mem (List.mem_of_getElem? (i := 264) (by decide +kernel)) rfl
theorem tw_210 : (Jvm.Cond.soleField "FlowNetwork" "trial") ∈ TB := TB_mem (List.mem_of_getElem? (i := 265) (by decide +kernel)) rfl
theorem tw_211 : (Jvm.Cond.laysFinal "FlowNetwork" "FlowNetwork" "levels" "LFlowNetwork$Levels;") ∈ TB := TB_mem (List.mem_of_getElem? (i := 266) (by decide +kernel)) rfl
theorem tw_212 : (Jvm.Cond.soleField "FlowNetwork" "levels") ∈ TB := TB_mem (List.mem_of_getElem? (i := 267) (by decide +kernel)) rfl
theorem tw_213 : (Jvm.Cond.laysFinal "FlowNetwork" "FlowNetwork" "cuts" "LFlowNetwork$Cuts;") ∈ TB := TB_mem (List.mem_of_getElem? (i := 268) (by decide +kernel)) rfl
theorem tw_214 : (Jvm.Cond.soleField "FlowNetwork" "cuts") ∈ TB := TB_mem (List.mem_of_getElem? (i := 269) (by decide +kernel)) rfl
theorem tw_215 : (Jvm.Cond.superclass "FlowNetwork" "java/lang/Object") ∈ TB := TB_mem (List.mem_of_getElem? (i := 270) (by decide +kernel)) rfl
theorem tw_216 : (Jvm.Cond.methodLink "FlowNetworkLaw" (122 : Nat) ({ cls := "FlowNetwork", name := "nodeCount", desc := "()I" } : Jvm.MethodName)) ∈ TB := TB_mem (List.mem_of_getElem? (i := 271) (by decide +kernel)) rfl
theorem tw_217 : (Jvm.Cond.instanceMethod ({ cls := "FlowNetwork", name := "nodeCount", desc := "()I" } : Jvm.MethodName)) ∈ TB := TB_mem (List.mem_of_getElem? (i := 272) (by decide +kernel)) rfl
theorem tw_218 : (Jvm.Cond.selects "FlowNetwork" ({ cls := "FlowNetwork", name := "nodeCount", desc := "()I" } : Jvm.MethodName) ({ cls := "FlowNetwork", name := "nodeCount", desc := "()I" } : Jvm.MethodName)) ∈ TB := TB_mem (List.mem_of_getElem? (i := 273) (by decide +kernel)) rfl
theorem tw_219 : (Jvm.Cond.code ({ cls := "FlowNetwork", name := "nodeCount", desc := "()I" } : Jvm.MethodName) prog_1_method_7_code (1 : Nat) (Option.some Jvm.ClassFile.FieldType.int)) ∈ TB := TB_mem (List.mem_of_getElem? (i := 274) (by decide +kernel)) rfl
theorem tw_220 : (Jvm.Cond.methodLink "FlowNetworkLaw" (126 : Nat) ({ cls := "FlowNetwork", name := "arcCount", desc := "()I" } : Jvm.MethodName)) ∈ TB := TB_mem (List.mem_of_getElem? (i := 275) (by decide +kernel)) rfl
theorem tw_221 : (Jvm.Cond.instanceMethod ({ cls := "FlowNetwork", name := "arcCount", desc := "()I" } : Jvm.MethodName)) ∈ TB := TB_mem (List.mem_of_getElem? (i := 276) (by decide +kernel)) rfl
theorem tw_222 : (Jvm.Cond.selects "FlowNetwork" ({ cls := "FlowNetwork", name := "arcCount", desc := "()I" } : Jvm.MethodName) ({ cls := "FlowNetwork", name := "arcCount", desc := "()I" } : Jvm.MethodName)) ∈ TB := TB_mem (List.mem_of_getElem? (i := 277) (by decide +kernel)) rfl
theorem tw_223 : (Jvm.Cond.code ({ cls := "FlowNetwork", name := "arcCount", desc := "()I" } : Jvm.MethodName) prog_1_method_8_code (1 : Nat) (Option.some Jvm.ClassFile.FieldType.int)) ∈ TB := TB_mem (List.mem_of_getElem? (i := 278) (by decide +kernel)) rfl
theorem tw_224 : (Jvm.Cond.methodLink "FlowNetworkLaw" (186 : Nat) ({ cls := "FlowNetwork", name := "digest", desc := "()J" } : Jvm.MethodName)) ∈ TB := TB_mem (List.mem_of_getElem? (i := 279) (by decide +kernel)) rfl
theorem tw_225 : (Jvm.Cond.instanceMethod ({ cls := "FlowNetwork", name := "digest", desc := "()J" } : Jvm.MethodName)) ∈ TB := TB_mem (List.mem_of_getElem? (i := 280) (by decide +kernel)) rfl
theorem tw_226 : (Jvm.Cond.selects "FlowNetwork" ({ cls := "FlowNetwork", name := "digest", desc := "()J" } : Jvm.MethodName) ({ cls := "FlowNetwork", name := "digest", desc := "()J" } : Jvm.MethodName)) ∈ TB := TB_mem (List.mem_of_getElem? (i := 281) (by decide +kernel)) rfl
theorem tw_227 : (Jvm.Cond.code ({ cls := "FlowNetwork", name := "digest", desc := "()J" } : Jvm.MethodName) prog_1_method_27_code (4 : Nat) (Option.some Jvm.ClassFile.FieldType.long)) ∈ TB := TB_mem (List.mem_of_getElem? (i := 282) (by decide +kernel)) rfl
theorem tw_228 : (Jvm.Cond.constantLong "FlowNetwork" (195 : Nat) (37 : Int64)) ∈ TB := TB_mem (List.mem_of_getElem? (i := 283) (by decide +kernel)) rfl
theorem tw_229 : (Jvm.Cond.constantLong "FlowNetwork" (197 : Nat) (31 : Int64)) ∈ TB := TB_mem (List.mem_of_getElem? (i := 284) (by decide +kernel)) rfl
theorem tn_230 : (Jvm.Cond.methodLinkNest "FlowNetwork" (199 : Nat) ({ cls := "FlowNetwork$MaximumFlow", name := "hasEnds", desc := "()Z" } : Jvm.MethodName) "FlowNetwork") ∈ NW := NW_mem (List.mem_of_getElem? (i := 285) (by decide +kernel)) rfl
theorem tw_232 : (Jvm.Cond.instanceMethod ({ cls := "FlowNetwork$MaximumFlow", name := "hasEnds", desc := "()Z" } : Jvm.MethodName)) ∈ TB := TB_mem (List.mem_of_getElem? (i := 287) (by decide +kernel)) rfl
theorem tw_233 : (Jvm.Cond.code ({ cls := "FlowNetwork$MaximumFlow", name := "hasEnds", desc := "()Z" } : Jvm.MethodName) prog_5_method_2_code (1 : Nat) (Option.some Jvm.ClassFile.FieldType.boolean)) ∈ TB := TB_mem (List.mem_of_getElem? (i := 288) (by decide +kernel)) rfl
theorem tn_234 : (Jvm.Cond.methodLinkNest "FlowNetwork" (111 : Nat) ({ cls := "FlowNetwork$MaximumFlow", name := "greatestValue", desc := "()I" } : Jvm.MethodName) "FlowNetwork") ∈ NW := NW_mem (List.mem_of_getElem? (i := 289) (by decide +kernel)) rfl
theorem tw_236 : (Jvm.Cond.instanceMethod ({ cls := "FlowNetwork$MaximumFlow", name := "greatestValue", desc := "()I" } : Jvm.MethodName)) ∈ TB := TB_mem (List.mem_of_getElem? (i := 291) (by decide +kernel)) rfl
theorem tw_237 : (Jvm.Cond.code ({ cls := "FlowNetwork$MaximumFlow", name := "greatestValue", desc := "()I" } : Jvm.MethodName) prog_5_method_8_code (3 : Nat) (Option.some Jvm.ClassFile.FieldType.int)) ∈ TB := TB_mem (List.mem_of_getElem? (i := 292) (by decide +kernel)) rfl
theorem tw_238 : (Jvm.Cond.methodLink "FlowNetwork$MaximumFlow" (78 : Nat) ({ cls := "FlowNetwork$MaximumFlow", name := "settle", desc := "()V" } : Jvm.MethodName)) ∈ TB := TB_mem (List.mem_of_getElem? (i := 293) (by decide +kernel)) rfl
theorem tw_240 : (Jvm.Cond.instanceMethod ({ cls := "FlowNetwork$MaximumFlow", name := "settle", desc := "()V" } : Jvm.MethodName)) ∈ TB := TB_mem (List.mem_of_getElem? (i := 295) (by decide +kernel)) rfl
theorem tw_241 : (Jvm.Cond.code ({ cls := "FlowNetwork$MaximumFlow", name := "settle", desc := "()V" } : Jvm.MethodName) prog_5_method_7_code (1 : Nat) (Option.none : Option Jvm.ClassFile.FieldType)) ∈ TB := TB_mem (List.mem_of_getElem? (i := 296) (by decide +kernel)) rfl
theorem tw_242 : (Jvm.Cond.constant "FlowNetwork$MaximumFlow" (77 : Nat) (100000000 : Int32)) ∈ TB := TB_mem (List.mem_of_getElem? (i := 297) (by decide +kernel)) rfl
theorem tn_243 : (Jvm.Cond.methodLinkNest "FlowNetwork$MaximumFlow" (73 : Nat) ({ cls := "FlowNetwork$Router", name := "route", desc := "(III)I" } : Jvm.MethodName) "FlowNetwork") ∈ NW := NW_mem (List.mem_of_getElem? (i := 298) (by decide +kernel)) rfl
theorem tw_245 : (Jvm.Cond.instanceMethod ({ cls := "FlowNetwork$Router", name := "route", desc := "(III)I" } : Jvm.MethodName)) ∈ TB := TB_mem (List.mem_of_getElem? (i := 300) (by decide +kernel)) rfl
theorem tw_246 : (Jvm.Cond.code ({ cls := "FlowNetwork$Router", name := "route", desc := "(III)I" } : Jvm.MethodName) prog_7_method_2_code (6 : Nat) (Option.some Jvm.ClassFile.FieldType.int)) ∈ TB := TB_mem (List.mem_of_getElem? (i := 301) (by decide +kernel)) rfl
theorem tw_247 : (Jvm.Cond.methodLink "FlowNetwork$Router" (36 : Nat) ({ cls := "FlowNetwork$Router", name := "setHeights", desc := "()V" } : Jvm.MethodName)) ∈ TB := TB_mem (List.mem_of_getElem? (i := 302) (by decide +kernel)) rfl
theorem tw_249 : (Jvm.Cond.instanceMethod ({ cls := "FlowNetwork$Router", name := "setHeights", desc := "()V" } : Jvm.MethodName)) ∈ TB := TB_mem (List.mem_of_getElem? (i := 304) (by decide +kernel)) rfl
theorem tw_250 : (Jvm.Cond.code ({ cls := "FlowNetwork$Router", name := "setHeights", desc := "()V" } : Jvm.MethodName) prog_7_method_3_code (3 : Nat) (Option.none : Option Jvm.ClassFile.FieldType)) ∈ TB := TB_mem (List.mem_of_getElem? (i := 305) (by decide +kernel)) rfl
theorem tw_251 : (Jvm.Cond.methodLink "FlowNetwork$Router" (39 : Nat) ({ cls := "java/util/Arrays", name := "fill", desc := "([II)V" } : Jvm.MethodName)) ∈ TB := TB_mem (List.mem_of_getElem? (i := 306) (by decide +kernel)) rfl
theorem tw_252 : (Jvm.Cond.static ({ cls := "java/util/Arrays", name := "fill", desc := "([II)V" } : Jvm.MethodName)) ∈ TB := TB_mem (List.mem_of_getElem? (i := 307) (by decide +kernel)) rfl
theorem tw_253 : (Jvm.Cond.code ({ cls := "java/util/Arrays", name := "fill", desc := "([II)V" } : Jvm.MethodName) prog_22_method_103_code (4 : Nat) (Option.none : Option Jvm.ClassFile.FieldType)) ∈ TB := TB_mem (List.mem_of_getElem? (i := 308) (by decide +kernel)) rfl
theorem tw_254 : (Jvm.Cond.methodLink "FlowNetwork$Router" (55 : Nat) ({ cls := "FlowNetwork$Router", name := "findBehind", desc := "(II)I" } : Jvm.MethodName)) ∈ TB := TB_mem (List.mem_of_getElem? (i := 309) (by decide +kernel)) rfl
theorem tw_256 : (Jvm.Cond.instanceMethod ({ cls := "FlowNetwork$Router", name := "findBehind", desc := "(II)I" } : Jvm.MethodName)) ∈ TB := TB_mem (List.mem_of_getElem? (i := 311) (by decide +kernel)) rfl
theorem tw_257 : (Jvm.Cond.code ({ cls := "FlowNetwork$Router", name := "findBehind", desc := "(II)I" } : Jvm.MethodName) prog_7_method_4_code (8 : Nat) (Option.some Jvm.ClassFile.FieldType.int)) ∈ TB := TB_mem (List.mem_of_getElem? (i := 312) (by decide +kernel)) rfl
theorem tn_258 : (Jvm.Cond.methodLinkNest "FlowNetwork$Router" (66 : Nat) ({ cls := "FlowNetwork$Network", name := "otherEnd", desc := "(II)I" } : Jvm.MethodName) "FlowNetwork") ∈ NW := NW_mem (List.mem_of_getElem? (i := 313) (by decide +kernel)) rfl
theorem tw_260 : (Jvm.Cond.instanceMethod ({ cls := "FlowNetwork$Network", name := "otherEnd", desc := "(II)I" } : Jvm.MethodName)) ∈ TB := TB_mem (List.mem_of_getElem? (i := 315) (by decide +kernel)) rfl
theorem tw_261 : (Jvm.Cond.code ({ cls := "FlowNetwork$Network", name := "otherEnd", desc := "(II)I" } : Jvm.MethodName) prog_6_method_5_code (3 : Nat) (Option.some Jvm.ClassFile.FieldType.int)) ∈ TB := TB_mem (List.mem_of_getElem? (i := 316) (by decide +kernel)) rfl
theorem tn_262 : (Jvm.Cond.methodLinkNest "FlowNetwork$Router" (69 : Nat) ({ cls := "FlowNetwork$Flow", name := "room", desc := "(II)I" } : Jvm.MethodName) "FlowNetwork") ∈ NW := NW_mem (List.mem_of_getElem? (i := 317) (by decide +kernel)) rfl
theorem tw_264 : (Jvm.Cond.instanceMethod ({ cls := "FlowNetwork$Flow", name := "room", desc := "(II)I" } : Jvm.MethodName)) ∈ TB := TB_mem (List.mem_of_getElem? (i := 319) (by decide +kernel)) rfl
theorem tw_265 : (Jvm.Cond.code ({ cls := "FlowNetwork$Flow", name := "room", desc := "(II)I" } : Jvm.MethodName) prog_3_method_4_code (3 : Nat) (Option.some Jvm.ClassFile.FieldType.int)) ∈ TB := TB_mem (List.mem_of_getElem? (i := 320) (by decide +kernel)) rfl
theorem tw_266 : (Jvm.Cond.constant "FlowNetwork$Router" (45 : Nat) (1000000 : Int32)) ∈ TB := TB_mem (List.mem_of_getElem? (i := 321) (by decide +kernel)) rfl
theorem tw_267 : (Jvm.Cond.methodLink "FlowNetwork$Router" (46 : Nat) ({ cls := "FlowNetwork$Router", name := "sweepOnce", desc := "()Z" } : Jvm.MethodName)) ∈ TB := TB_mem (List.mem_of_getElem? (i := 322) (by decide +kernel)) rfl
theorem tw_269 : (Jvm.Cond.instanceMethod ({ cls := "FlowNetwork$Router", name := "sweepOnce", desc := "()Z" } : Jvm.MethodName)) ∈ TB := TB_mem (List.mem_of_getElem? (i := 324) (by decide +kernel)) rfl
theorem tw_270 : (Jvm.Cond.code ({ cls := "FlowNetwork$Router", name := "sweepOnce", desc := "()Z" } : Jvm.MethodName) prog_7_method_5_code (3 : Nat) (Option.some Jvm.ClassFile.FieldType.boolean)) ∈ TB := TB_mem (List.mem_of_getElem? (i := 325) (by decide +kernel)) rfl
theorem tw_271 : (Jvm.Cond.methodLink "FlowNetwork$Router" (74 : Nat) ({ cls := "FlowNetwork$Router", name := "isActive", desc := "(I)Z" } : Jvm.MethodName)) ∈ TB := TB_mem (List.mem_of_getElem? (i := 326) (by decide +kernel)) rfl
theorem tw_273 : (Jvm.Cond.instanceMethod ({ cls := "FlowNetwork$Router", name := "isActive", desc := "(I)Z" } : Jvm.MethodName)) ∈ TB := TB_mem (List.mem_of_getElem? (i := 328) (by decide +kernel)) rfl
theorem tw_274 : (Jvm.Cond.code ({ cls := "FlowNetwork$Router", name := "isActive", desc := "(I)Z" } : Jvm.MethodName) prog_7_method_6_code (2 : Nat) (Option.some Jvm.ClassFile.FieldType.boolean)) ∈ TB := TB_mem (List.mem_of_getElem? (i := 329) (by decide +kernel)) rfl
theorem tw_275 : (Jvm.Cond.methodLink "FlowNetwork$Router" (78 : Nat) ({ cls := "FlowNetwork$Router", name := "pushOut", desc := "(I)V" } : Jvm.MethodName)) ∈ TB := TB_mem (List.mem_of_getElem? (i := 330) (by decide +kernel)) rfl
theorem tw_277 : (Jvm.Cond.instanceMethod ({ cls := "FlowNetwork$Router", name := "pushOut", desc := "(I)V" } : Jvm.MethodName)) ∈ TB := TB_mem (List.mem_of_getElem? (i := 332) (by decide +kernel)) rfl
theorem tw_278 : (Jvm.Cond.code ({ cls := "FlowNetwork$Router", name := "pushOut", desc := "(I)V" } : Jvm.MethodName) prog_7_method_7_code (6 : Nat) (Option.none : Option Jvm.ClassFile.FieldType)) ∈ TB := TB_mem (List.mem_of_getElem? (i := 333) (by decide +kernel)) rfl
theorem tw_279 : (Jvm.Cond.methodLink "FlowNetwork$Router" (85 : Nat) ({ cls := "java/lang/Math", name := "min", desc := "(II)I" } : Jvm.MethodName)) ∈ TB := TB_mem (List.mem_of_getElem? (i := 334) (by decide +kernel)) rfl
theorem tw_280 : (Jvm.Cond.static ({ cls := "java/lang/Math", name := "min", desc := "(II)I" } : Jvm.MethodName)) ∈ TB := TB_mem (List.mem_of_getElem? (i := 335) (by decide +kernel)) rfl
theorem tw_281 : (Jvm.Cond.code ({ cls := "java/lang/Math", name := "min", desc := "(II)I" } : Jvm.MethodName) prog_15_method_69_code (2 : Nat) (Option.some Jvm.ClassFile.FieldType.int)) ∈ TB := TB_mem (List.mem_of_getElem? (i := 336) (by decide +kernel)) rfl
theorem tn_282 : (Jvm.Cond.methodLinkNest "FlowNetwork$Router" (90 : Nat) ({ cls := "FlowNetwork$Flow", name := "send", desc := "(III)V" } : Jvm.MethodName) "FlowNetwork") ∈ NW := NW_mem (List.mem_of_getElem? (i := 337) (by decide +kernel)) rfl
theorem tw_284 : (Jvm.Cond.instanceMethod ({ cls := "FlowNetwork$Flow", name := "send", desc := "(III)V" } : Jvm.MethodName)) ∈ TB := TB_mem (List.mem_of_getElem? (i := 339) (by decide +kernel)) rfl
theorem tw_285 : (Jvm.Cond.code ({ cls := "FlowNetwork$Flow", name := "send", desc := "(III)V" } : Jvm.MethodName) prog_3_method_5_code (4 : Nat) (Option.none : Option Jvm.ClassFile.FieldType)) ∈ TB := TB_mem (List.mem_of_getElem? (i := 340) (by decide +kernel)) rfl
theorem tw_286 : (Jvm.Cond.methodLink "FlowNetwork$Router" (82 : Nat) ({ cls := "FlowNetwork$Router", name := "lift", desc := "(I)V" } : Jvm.MethodName)) ∈ TB := TB_mem (List.mem_of_getElem? (i := 341) (by decide +kernel)) rfl
theorem tw_288 : (Jvm.Cond.instanceMethod ({ cls := "FlowNetwork$Router", name := "lift", desc := "(I)V" } : Jvm.MethodName)) ∈ TB := TB_mem (List.mem_of_getElem? (i := 343) (by decide +kernel)) rfl
theorem tw_289 : (Jvm.Cond.code ({ cls := "FlowNetwork$Router", name := "lift", desc := "(I)V" } : Jvm.MethodName) prog_7_method_8_code (5 : Nat) (Option.none : Option Jvm.ClassFile.FieldType)) ∈ TB := TB_mem (List.mem_of_getElem? (i := 344) (by decide +kernel)) rfl
theorem tn_290 : (Jvm.Cond.methodLinkNest "FlowNetwork" (150 : Nat) ({ cls := "FlowNetwork$MaximumFlow", name := "smallestMask", desc := "()I" } : Jvm.MethodName) "FlowNetwork") ∈ NW := NW_mem (List.mem_of_getElem? (i := 345) (by decide +kernel)) rfl
theorem tw_292 : (Jvm.Cond.instanceMethod ({ cls := "FlowNetwork$MaximumFlow", name := "smallestMask", desc := "()I" } : Jvm.MethodName)) ∈ TB := TB_mem (List.mem_of_getElem? (i := 347) (by decide +kernel)) rfl
theorem tw_293 : (Jvm.Cond.code ({ cls := "FlowNetwork$MaximumFlow", name := "smallestMask", desc := "()I" } : Jvm.MethodName) prog_5_method_9_code (1 : Nat) (Option.some Jvm.ClassFile.FieldType.int)) ∈ TB := TB_mem (List.mem_of_getElem? (i := 348) (by decide +kernel)) rfl
theorem tn_294 : (Jvm.Cond.methodLinkNest "FlowNetwork$MaximumFlow" (84 : Nat) ({ cls := "FlowNetwork$Flow", name := "reachableFrom", desc := "(I)I" } : Jvm.MethodName) "FlowNetwork") ∈ NW := NW_mem (List.mem_of_getElem? (i := 349) (by decide +kernel)) rfl
theorem tw_296 : (Jvm.Cond.instanceMethod ({ cls := "FlowNetwork$Flow", name := "reachableFrom", desc := "(I)I" } : Jvm.MethodName)) ∈ TB := TB_mem (List.mem_of_getElem? (i := 351) (by decide +kernel)) rfl
theorem tw_297 : (Jvm.Cond.code ({ cls := "FlowNetwork$Flow", name := "reachableFrom", desc := "(I)I" } : Jvm.MethodName) prog_3_method_6_code (5 : Nat) (Option.some Jvm.ClassFile.FieldType.int)) ∈ TB := TB_mem (List.mem_of_getElem? (i := 352) (by decide +kernel)) rfl
theorem tw_298 : (Jvm.Cond.methodLink "FlowNetwork$Flow" (37 : Nat) ({ cls := "FlowNetwork$Flow", name := "withNeighbours", desc := "(I)I" } : Jvm.MethodName)) ∈ TB := TB_mem (List.mem_of_getElem? (i := 353) (by decide +kernel)) rfl
theorem tw_300 : (Jvm.Cond.instanceMethod ({ cls := "FlowNetwork$Flow", name := "withNeighbours", desc := "(I)I" } : Jvm.MethodName)) ∈ TB := TB_mem (List.mem_of_getElem? (i := 355) (by decide +kernel)) rfl
theorem tw_301 : (Jvm.Cond.code ({ cls := "FlowNetwork$Flow", name := "withNeighbours", desc := "(I)I" } : Jvm.MethodName) prog_3_method_7_code (6 : Nat) (Option.some Jvm.ClassFile.FieldType.int)) ∈ TB := TB_mem (List.mem_of_getElem? (i := 356) (by decide +kernel)) rfl
theorem tn_302 : (Jvm.Cond.methodLinkNest "FlowNetwork$Flow" (47 : Nat) ({ cls := "FlowNetwork", name := "contains", desc := "(II)Z" } : Jvm.MethodName) "FlowNetwork") ∈ NW := NW_mem (List.mem_of_getElem? (i := 357) (by decide +kernel)) rfl
theorem tw_303 : (Jvm.Cond.static ({ cls := "FlowNetwork", name := "contains", desc := "(II)Z" } : Jvm.MethodName)) ∈ TB := TB_mem (List.mem_of_getElem? (i := 358) (by decide +kernel)) rfl
theorem tw_304 : (Jvm.Cond.code ({ cls := "FlowNetwork", name := "contains", desc := "(II)Z" } : Jvm.MethodName) prog_1_method_37_code (2 : Nat) (Option.some Jvm.ClassFile.FieldType.boolean)) ∈ TB := TB_mem (List.mem_of_getElem? (i := 359) (by decide +kernel)) rfl
theorem tw_305 : (Jvm.Cond.methodLink "FlowNetwork$Flow" (51 : Nat) ({ cls := "FlowNetwork$Flow", name := "room", desc := "(II)I" } : Jvm.MethodName)) ∈ TB := TB_mem (List.mem_of_getElem? (i := 360) (by decide +kernel)) rfl
theorem tn_306 : (Jvm.Cond.methodLinkNest "FlowNetwork" (153 : Nat) ({ cls := "FlowNetwork$MaximumFlow", name := "greatestMask", desc := "()I" } : Jvm.MethodName) "FlowNetwork") ∈ NW := NW_mem (List.mem_of_getElem? (i := 361) (by decide +kernel)) rfl
theorem tw_308 : (Jvm.Cond.instanceMethod ({ cls := "FlowNetwork$MaximumFlow", name := "greatestMask", desc := "()I" } : Jvm.MethodName)) ∈ TB := TB_mem (List.mem_of_getElem? (i := 363) (by decide +kernel)) rfl
theorem tw_309 : (Jvm.Cond.code ({ cls := "FlowNetwork$MaximumFlow", name := "greatestMask", desc := "()I" } : Jvm.MethodName) prog_5_method_10_code (3 : Nat) (Option.some Jvm.ClassFile.FieldType.int)) ∈ TB := TB_mem (List.mem_of_getElem? (i := 364) (by decide +kernel)) rfl
theorem tn_310 : (Jvm.Cond.methodLinkNest "FlowNetwork$MaximumFlow" (91 : Nat) ({ cls := "FlowNetwork", name := "contains", desc := "(II)Z" } : Jvm.MethodName) "FlowNetwork") ∈ NW := NW_mem (List.mem_of_getElem? (i := 365) (by decide +kernel)) rfl
theorem tw_311 : (Jvm.Cond.methodLink "FlowNetworkLaw" (96 : Nat) ({ cls := "FlowNetworkLaw", name := "addNode", desc := "(LFlowNetwork;[J)I" } : Jvm.MethodName)) ∈ TB := TB_mem (List.mem_of_getElem? (i := 366) (by decide +kernel)) rfl
theorem tw_312 : (Jvm.Cond.static ({ cls := "FlowNetworkLaw", name := "addNode", desc := "(LFlowNetwork;[J)I" } : Jvm.MethodName)) ∈ TB := TB_mem (List.mem_of_getElem? (i := 367) (by decide +kernel)) rfl
theorem tw_313 : (Jvm.Cond.codeWith ({ cls := "FlowNetworkLaw", name := "addNode", desc := "(LFlowNetwork;[J)I" } : Jvm.MethodName) method_3_code (3 : Nat) (Option.some Jvm.ClassFile.FieldType.int) [((0 : Nat), (8 : Nat), (11 : Nat), (13 : Nat))]) ∈ TB := TB_mem (List.mem_of_getElem? (i := 368) (by decide +kernel)) rfl
theorem tw_314 : (Jvm.Cond.classLink "FlowNetworkLaw" (13 : Nat) "java/lang/IllegalStateException") ∈ TB := TB_mem (List.mem_of_getElem? (i := 369) (by decide +kernel)) rfl
theorem tw_315 : (Jvm.Cond.methodLink "FlowNetworkLaw" (7 : Nat) ({ cls := "FlowNetwork", name := "addNode", desc := "()I" } : Jvm.MethodName)) ∈ TB := TB_mem (List.mem_of_getElem? (i := 370) (by decide +kernel)) rfl
theorem tw_316 : (Jvm.Cond.instanceMethod ({ cls := "FlowNetwork", name := "addNode", desc := "()I" } : Jvm.MethodName)) ∈ TB := TB_mem (List.mem_of_getElem? (i := 371) (by decide +kernel)) rfl
theorem tw_317 : (Jvm.Cond.selects "FlowNetwork" ({ cls := "FlowNetwork", name := "addNode", desc := "()I" } : Jvm.MethodName) ({ cls := "FlowNetwork", name := "addNode", desc := "()I" } : Jvm.MethodName)) ∈ TB := TB_mem (List.mem_of_getElem? (i := 372) (by decide +kernel)) rfl
theorem tw_318 : (Jvm.Cond.code ({ cls := "FlowNetwork", name := "addNode", desc := "()I" } : Jvm.MethodName) prog_1_method_2_code (1 : Nat) (Option.some Jvm.ClassFile.FieldType.int)) ∈ TB := TB_mem (List.mem_of_getElem? (i := 373) (by decide +kernel)) rfl
theorem tw_319 : (Jvm.Cond.classLink "FlowNetwork" (46 : Nat) "java/lang/IllegalStateException") ∈ TB := TB_mem (List.mem_of_getElem? (i := 374) (by decide +kernel)) rfl
theorem tw_320 : (Jvm.Cond.instantiable "java/lang/IllegalStateException" (6 : Nat)) ∈ TB := TB_mem (List.mem_of_getElem? (i := 375) (by decide +kernel)) rfl
theorem tw_328 : (Jvm.Cond.selects "java/lang/IllegalStateException" ({ cls := "java/lang/Throwable", name := "fillInStackTrace", desc := "(I)Ljava/lang/Throwable;" } : Jvm.MethodName) ({ cls := "java/lang/Throwable", name := "fillInStackTrace", desc := "(I)Ljava/lang/Throwable;" } : Jvm.MethodName)) ∈ TB := TB_mem (List.mem_of_getElem? (i := 383) (by decide +kernel)) rfl
theorem tw_329 : (Jvm.Cond.selects "java/lang/IllegalStateException" ({ cls := "java/lang/Throwable", name := "fillInStackTrace", desc := "()Ljava/lang/Throwable;" } : Jvm.MethodName) ({ cls := "java/lang/Throwable", name := "fillInStackTrace", desc := "()Ljava/lang/Throwable;" } : Jvm.MethodName)) ∈ TB := TB_mem (List.mem_of_getElem? (i := 384) (by decide +kernel)) rfl
theorem tw_330 : (Jvm.Cond.lays "java/lang/IllegalStateException" "java/lang/Throwable" "cause" "Ljava/lang/Throwable;") ∈ TB := TB_mem (List.mem_of_getElem? (i := 385) (by decide +kernel)) rfl
theorem tw_331 : (Jvm.Cond.lays "java/lang/Throwable" "java/lang/Throwable" "cause" "Ljava/lang/Throwable;") ∈ TB := TB_mem (List.mem_of_getElem? (i := 386) (by decide +kernel)) rfl
theorem tw_332 : (Jvm.Cond.lays "java/lang/IllegalStateException" "java/lang/Throwable" "stackTrace" "[Ljava/lang/StackTraceElement;") ∈ TB := TB_mem (List.mem_of_getElem? (i := 387) (by decide +kernel)) rfl
theorem tw_333 : (Jvm.Cond.lays "java/lang/Throwable" "java/lang/Throwable" "stackTrace" "[Ljava/lang/StackTraceElement;") ∈ TB := TB_mem (List.mem_of_getElem? (i := 388) (by decide +kernel)) rfl
theorem tw_334 : (Jvm.Cond.lays "java/lang/IllegalStateException" "java/lang/Throwable" "suppressedExceptions" "Ljava/util/List;") ∈ TB := TB_mem (List.mem_of_getElem? (i := 389) (by decide +kernel)) rfl
theorem tw_335 : (Jvm.Cond.lays "java/lang/Throwable" "java/lang/Throwable" "suppressedExceptions" "Ljava/util/List;") ∈ TB := TB_mem (List.mem_of_getElem? (i := 390) (by decide +kernel)) rfl
theorem tw_336 : (Jvm.Cond.lays "java/lang/IllegalStateException" "java/lang/Throwable" "detailMessage" "Ljava/lang/String;") ∈ TB := TB_mem (List.mem_of_getElem? (i := 391) (by decide +kernel)) rfl
theorem tw_337 : (Jvm.Cond.lays "java/lang/Throwable" "java/lang/Throwable" "detailMessage" "Ljava/lang/String;") ∈ TB := TB_mem (List.mem_of_getElem? (i := 392) (by decide +kernel)) rfl
theorem tw_338 : (Jvm.Cond.lays "java/lang/IllegalStateException" "java/lang/Throwable" "backtrace" "Ljava/lang/Object;") ∈ TB := TB_mem (List.mem_of_getElem? (i := 393) (by decide +kernel)) rfl
theorem tw_339 : (Jvm.Cond.lays "java/lang/Throwable" "java/lang/Throwable" "backtrace" "Ljava/lang/Object;") ∈ TB := TB_mem (List.mem_of_getElem? (i := 394) (by decide +kernel)) rfl
theorem tw_340 : (Jvm.Cond.fieldLink "java/lang/Throwable" (198 : Nat) "java/lang/Throwable" "backtrace" "Ljava/lang/Object;") ∈ TB := TB_mem (List.mem_of_getElem? (i := 395) (by decide +kernel)) rfl
theorem tw_341 : (Jvm.Cond.superclass "java/lang/Throwable" "java/lang/Object") ∈ TB := TB_mem (List.mem_of_getElem? (i := 396) (by decide +kernel)) rfl
theorem tw_342 : (Jvm.Cond.instanceMethod ({ cls := "java/lang/Throwable", name := "<init>", desc := "()V" } : Jvm.MethodName)) ∈ TB := TB_mem (List.mem_of_getElem? (i := 397) (by decide +kernel)) rfl
theorem tw_343 : (Jvm.Cond.code ({ cls := "java/lang/Throwable", name := "<init>", desc := "()V" } : Jvm.MethodName) prog_21_method_1_code (1 : Nat) (Option.none : Option Jvm.ClassFile.FieldType)) ∈ TB := TB_mem (List.mem_of_getElem? (i := 398) (by decide +kernel)) rfl
theorem tw_344 : (Jvm.Cond.methodLink "java/lang/Throwable" (1 : Nat) ({ cls := "java/lang/Object", name := "<init>", desc := "()V" } : Jvm.MethodName)) ∈ TB := TB_mem (List.mem_of_getElem? (i := 399) (by decide +kernel)) rfl
theorem tw_345 : (Jvm.Cond.fieldLink "java/lang/Throwable" (13 : Nat) "java/lang/Throwable" "UNASSIGNED_STACK" "[Ljava/lang/StackTraceElement;") ∈ TB := TB_mem (List.mem_of_getElem? (i := 400) (by decide +kernel)) rfl
theorem tw_347 : (Jvm.Cond.fieldLink "java/lang/Throwable" (20 : Nat) "java/lang/Throwable" "SUPPRESSED_SENTINEL" "Ljava/util/List;") ∈ TB := TB_mem (List.mem_of_getElem? (i := 402) (by decide +kernel)) rfl
theorem tw_349 : (Jvm.Cond.methodLink "java/lang/Throwable" (27 : Nat) ({ cls := "java/lang/Throwable", name := "fillInStackTrace", desc := "()Ljava/lang/Throwable;" } : Jvm.MethodName)) ∈ TB := TB_mem (List.mem_of_getElem? (i := 404) (by decide +kernel)) rfl
theorem tw_350 : (Jvm.Cond.instanceMethod ({ cls := "java/lang/Throwable", name := "fillInStackTrace", desc := "()Ljava/lang/Throwable;" } : Jvm.MethodName)) ∈ TB := TB_mem (List.mem_of_getElem? (i := 405) (by decide +kernel)) rfl
theorem tw_351 : (Jvm.Cond.sameMethod "java/lang/Throwable" "java/lang/Throwable" "fillInStackTrace" "()Ljava/lang/Throwable;") ∈ TB := TB_mem (List.mem_of_getElem? (i := 406) (by decide +kernel)) rfl
theorem tw_352 : (Jvm.Cond.selects "java/lang/IllegalArgumentException" ({ cls := "java/lang/Throwable", name := "fillInStackTrace", desc := "()Ljava/lang/Throwable;" } : Jvm.MethodName) ({ cls := "java/lang/Throwable", name := "fillInStackTrace", desc := "()Ljava/lang/Throwable;" } : Jvm.MethodName)) ∈ TB := TB_mem (List.mem_of_getElem? (i := 407) (by decide +kernel)) rfl
theorem tw_353 : (Jvm.Cond.selects "java/lang/IndexOutOfBoundsException" ({ cls := "java/lang/Throwable", name := "fillInStackTrace", desc := "()Ljava/lang/Throwable;" } : Jvm.MethodName) ({ cls := "java/lang/Throwable", name := "fillInStackTrace", desc := "()Ljava/lang/Throwable;" } : Jvm.MethodName)) ∈ TB := TB_mem (List.mem_of_getElem? (i := 408) (by decide +kernel)) rfl
theorem tw_355 : (Jvm.Cond.methodLink "java/lang/Throwable" (202 : Nat) ({ cls := "java/lang/Throwable", name := "fillInStackTrace", desc := "(I)Ljava/lang/Throwable;" } : Jvm.MethodName)) ∈ TB := TB_mem (List.mem_of_getElem? (i := 410) (by decide +kernel)) rfl
theorem tw_357 : (Jvm.Cond.instanceMethod ({ cls := "java/lang/Throwable", name := "fillInStackTrace", desc := "(I)Ljava/lang/Throwable;" } : Jvm.MethodName)) ∈ TB := TB_mem (List.mem_of_getElem? (i := 412) (by decide +kernel)) rfl
theorem tw_358 : (Jvm.Cond.instantiable "java/lang/Throwable" (6 : Nat)) ∈ TB := TB_mem (List.mem_of_getElem? (i := 413) (by decide +kernel)) rfl
theorem tw_359 : (Jvm.Cond.native ({ cls := "java/lang/Throwable", name := "fillInStackTrace", desc := "(I)Ljava/lang/Throwable;" } : Jvm.MethodName)) ∈ TB := TB_mem (List.mem_of_getElem? (i := 414) (by decide +kernel)) rfl
theorem tw_361 : (Jvm.Cond.methodLink "FlowNetwork" (50 : Nat) ({ cls := "java/lang/IllegalStateException", name := "<init>", desc := "(Ljava/lang/String;)V" } : Jvm.MethodName)) ∈ TB := TB_mem (List.mem_of_getElem? (i := 416) (by decide +kernel)) rfl
theorem tw_362 : (Jvm.Cond.instanceMethod ({ cls := "java/lang/IllegalStateException", name := "<init>", desc := "(Ljava/lang/String;)V" } : Jvm.MethodName)) ∈ TB := TB_mem (List.mem_of_getElem? (i := 417) (by decide +kernel)) rfl
theorem tw_363 : (Jvm.Cond.code ({ cls := "java/lang/IllegalStateException", name := "<init>", desc := "(Ljava/lang/String;)V" } : Jvm.MethodName) prog_13_method_2_code (2 : Nat) (Option.none : Option Jvm.ClassFile.FieldType)) ∈ TB := TB_mem (List.mem_of_getElem? (i := 418) (by decide +kernel)) rfl
theorem tw_364 : (Jvm.Cond.methodLink "java/lang/IllegalStateException" (7 : Nat) ({ cls := "java/lang/RuntimeException", name := "<init>", desc := "(Ljava/lang/String;)V" } : Jvm.MethodName)) ∈ TB := TB_mem (List.mem_of_getElem? (i := 419) (by decide +kernel)) rfl
theorem tw_365 : (Jvm.Cond.instanceMethod ({ cls := "java/lang/RuntimeException", name := "<init>", desc := "(Ljava/lang/String;)V" } : Jvm.MethodName)) ∈ TB := TB_mem (List.mem_of_getElem? (i := 420) (by decide +kernel)) rfl
theorem tw_366 : (Jvm.Cond.code ({ cls := "java/lang/RuntimeException", name := "<init>", desc := "(Ljava/lang/String;)V" } : Jvm.MethodName) prog_17_method_2_code (2 : Nat) (Option.none : Option Jvm.ClassFile.FieldType)) ∈ TB := TB_mem (List.mem_of_getElem? (i := 421) (by decide +kernel)) rfl
theorem tw_367 : (Jvm.Cond.methodLink "java/lang/RuntimeException" (7 : Nat) ({ cls := "java/lang/Exception", name := "<init>", desc := "(Ljava/lang/String;)V" } : Jvm.MethodName)) ∈ TB := TB_mem (List.mem_of_getElem? (i := 422) (by decide +kernel)) rfl
theorem tw_368 : (Jvm.Cond.instanceMethod ({ cls := "java/lang/Exception", name := "<init>", desc := "(Ljava/lang/String;)V" } : Jvm.MethodName)) ∈ TB := TB_mem (List.mem_of_getElem? (i := 423) (by decide +kernel)) rfl
theorem tw_369 : (Jvm.Cond.code ({ cls := "java/lang/Exception", name := "<init>", desc := "(Ljava/lang/String;)V" } : Jvm.MethodName) prog_11_method_2_code (2 : Nat) (Option.none : Option Jvm.ClassFile.FieldType)) ∈ TB := TB_mem (List.mem_of_getElem? (i := 424) (by decide +kernel)) rfl
theorem tw_370 : (Jvm.Cond.methodLink "java/lang/Exception" (7 : Nat) ({ cls := "java/lang/Throwable", name := "<init>", desc := "(Ljava/lang/String;)V" } : Jvm.MethodName)) ∈ TB := TB_mem (List.mem_of_getElem? (i := 425) (by decide +kernel)) rfl
theorem tw_371 : (Jvm.Cond.instanceMethod ({ cls := "java/lang/Throwable", name := "<init>", desc := "(Ljava/lang/String;)V" } : Jvm.MethodName)) ∈ TB := TB_mem (List.mem_of_getElem? (i := 426) (by decide +kernel)) rfl
theorem tw_372 : (Jvm.Cond.code ({ cls := "java/lang/Throwable", name := "<init>", desc := "(Ljava/lang/String;)V" } : Jvm.MethodName) prog_21_method_2_code (2 : Nat) (Option.none : Option Jvm.ClassFile.FieldType)) ∈ TB := TB_mem (List.mem_of_getElem? (i := 427) (by decide +kernel)) rfl
theorem tw_373 : (Jvm.Cond.fieldLink "java/lang/Throwable" (198 : Nat) "java/lang/Throwable" "backtrace" "Ljava/lang/Object;") ∈ TB := TB_mem (List.mem_of_getElem? (i := 428) (by decide +kernel)) rfl
theorem tw_374 : (Jvm.Cond.fieldLink "java/lang/Throwable" (31 : Nat) "java/lang/Throwable" "detailMessage" "Ljava/lang/String;") ∈ TB := TB_mem (List.mem_of_getElem? (i := 429) (by decide +kernel)) rfl
theorem tw_375 : (Jvm.Cond.fieldLink "java/lang/Throwable" (7 : Nat) "java/lang/Throwable" "cause" "Ljava/lang/Throwable;") ∈ TB := TB_mem (List.mem_of_getElem? (i := 430) (by decide +kernel)) rfl
theorem tw_376 : (Jvm.Cond.fieldLink "java/lang/Throwable" (17 : Nat) "java/lang/Throwable" "stackTrace" "[Ljava/lang/StackTraceElement;") ∈ TB := TB_mem (List.mem_of_getElem? (i := 431) (by decide +kernel)) rfl
theorem tw_377 : (Jvm.Cond.fieldLink "java/lang/Throwable" (24 : Nat) "java/lang/Throwable" "suppressedExceptions" "Ljava/util/List;") ∈ TB := TB_mem (List.mem_of_getElem? (i := 432) (by decide +kernel)) rfl
theorem tw_378 : (Jvm.Cond.soleField "java/lang/Throwable" "backtrace") ∈ TB := TB_mem (List.mem_of_getElem? (i := 433) (by decide +kernel)) rfl
theorem tw_379 : (Jvm.Cond.soleField "java/lang/Throwable" "detailMessage") ∈ TB := TB_mem (List.mem_of_getElem? (i := 434) (by decide +kernel)) rfl
theorem tw_380 : (Jvm.Cond.soleField "java/lang/Throwable" "cause") ∈ TB := TB_mem (List.mem_of_getElem? (i := 435) (by decide +kernel)) rfl
theorem tw_381 : (Jvm.Cond.soleField "java/lang/Throwable" "stackTrace") ∈ TB := TB_mem (List.mem_of_getElem? (i := 436) (by decide +kernel)) rfl
theorem tw_382 : (Jvm.Cond.lays "java/lang/IllegalStateException" "java/lang/Throwable" "depth" "I") ∈ TB := TB_mem (List.mem_of_getElem? (i := 437) (by decide +kernel)) rfl
theorem tw_383 : (Jvm.Cond.soleField "java/lang/Throwable" "depth") ∈ TB := TB_mem (List.mem_of_getElem? (i := 438) (by decide +kernel)) rfl
theorem tw_384 : (Jvm.Cond.soleField "java/lang/Throwable" "suppressedExceptions") ∈ TB := TB_mem (List.mem_of_getElem? (i := 439) (by decide +kernel)) rfl
theorem tw_385 : (Jvm.Cond.superclass "java/lang/IllegalStateException" "java/lang/RuntimeException") ∈ TB := TB_mem (List.mem_of_getElem? (i := 440) (by decide +kernel)) rfl
theorem tw_386 : (Jvm.Cond.arrayClass Jvm.ClassFile.FieldType.byte) ∈ TB := TB_mem (List.mem_of_getElem? (i := 441) (by decide +kernel)) rfl
theorem tn_387 : (Jvm.Cond.methodLinkNest "FlowNetwork" (53 : Nat) ({ cls := "FlowNetwork$Network", name := "makeNode", desc := "()I" } : Jvm.MethodName) "FlowNetwork") ∈ NW := NW_mem (List.mem_of_getElem? (i := 442) (by decide +kernel)) rfl
theorem tw_389 : (Jvm.Cond.instanceMethod ({ cls := "FlowNetwork$Network", name := "makeNode", desc := "()I" } : Jvm.MethodName)) ∈ TB := TB_mem (List.mem_of_getElem? (i := 444) (by decide +kernel)) rfl
theorem tw_390 : (Jvm.Cond.code ({ cls := "FlowNetwork$Network", name := "makeNode", desc := "()I" } : Jvm.MethodName) prog_6_method_2_code (1 : Nat) (Option.some Jvm.ClassFile.FieldType.int)) ∈ TB := TB_mem (List.mem_of_getElem? (i := 445) (by decide +kernel)) rfl
theorem tw_391 : (Jvm.Cond.methodLink "FlowNetworkLaw" (105 : Nat) ({ cls := "FlowNetworkLaw", name := "addArc", desc := "(LFlowNetwork;III[J)I" } : Jvm.MethodName)) ∈ TB := TB_mem (List.mem_of_getElem? (i := 446) (by decide +kernel)) rfl
theorem tw_392 : (Jvm.Cond.static ({ cls := "FlowNetworkLaw", name := "addArc", desc := "(LFlowNetwork;III[J)I" } : Jvm.MethodName)) ∈ TB := TB_mem (List.mem_of_getElem? (i := 447) (by decide +kernel)) rfl
theorem tw_393 : (Jvm.Cond.codeWith ({ cls := "FlowNetworkLaw", name := "addArc", desc := "(LFlowNetwork;III[J)I" } : Jvm.MethodName) method_4_code (6 : Nat) (Option.some Jvm.ClassFile.FieldType.int) [((0 : Nat), (12 : Nat), (15 : Nat), (19 : Nat)), ((0 : Nat), (12 : Nat), (19 : Nat), (21 : Nat)), ((0 : Nat), (12 : Nat), (23 : Nat), (13 : Nat))]) ∈ TB := TB_mem (List.mem_of_getElem? (i := 448) (by decide +kernel)) rfl
theorem tw_394 : (Jvm.Cond.classLink "FlowNetworkLaw" (19 : Nat) "java/lang/IndexOutOfBoundsException") ∈ TB := TB_mem (List.mem_of_getElem? (i := 449) (by decide +kernel)) rfl
theorem tw_395 : (Jvm.Cond.classLink "FlowNetworkLaw" (21 : Nat) "java/lang/IllegalArgumentException") ∈ TB := TB_mem (List.mem_of_getElem? (i := 450) (by decide +kernel)) rfl
theorem tw_396 : (Jvm.Cond.methodLink "FlowNetworkLaw" (15 : Nat) ({ cls := "FlowNetwork", name := "addArc", desc := "(III)I" } : Jvm.MethodName)) ∈ TB := TB_mem (List.mem_of_getElem? (i := 451) (by decide +kernel)) rfl
theorem tw_397 : (Jvm.Cond.instanceMethod ({ cls := "FlowNetwork", name := "addArc", desc := "(III)I" } : Jvm.MethodName)) ∈ TB := TB_mem (List.mem_of_getElem? (i := 452) (by decide +kernel)) rfl
theorem tw_398 : (Jvm.Cond.selects "FlowNetwork" ({ cls := "FlowNetwork", name := "addArc", desc := "(III)I" } : Jvm.MethodName) ({ cls := "FlowNetwork", name := "addArc", desc := "(III)I" } : Jvm.MethodName)) ∈ TB := TB_mem (List.mem_of_getElem? (i := 453) (by decide +kernel)) rfl
theorem tw_399 : (Jvm.Cond.code ({ cls := "FlowNetwork", name := "addArc", desc := "(III)I" } : Jvm.MethodName) prog_1_method_3_code (5 : Nat) (Option.some Jvm.ClassFile.FieldType.int)) ∈ TB := TB_mem (List.mem_of_getElem? (i := 454) (by decide +kernel)) rfl
theorem tw_400 : (Jvm.Cond.methodLink "FlowNetwork" (57 : Nat) ({ cls := "FlowNetwork", name := "requireNode", desc := "(I)V" } : Jvm.MethodName)) ∈ TB := TB_mem (List.mem_of_getElem? (i := 455) (by decide +kernel)) rfl
theorem tw_402 : (Jvm.Cond.instanceMethod ({ cls := "FlowNetwork", name := "requireNode", desc := "(I)V" } : Jvm.MethodName)) ∈ TB := TB_mem (List.mem_of_getElem? (i := 457) (by decide +kernel)) rfl
theorem tw_403 : (Jvm.Cond.code ({ cls := "FlowNetwork", name := "requireNode", desc := "(I)V" } : Jvm.MethodName) prog_1_method_29_code (2 : Nat) (Option.none : Option Jvm.ClassFile.FieldType)) ∈ TB := TB_mem (List.mem_of_getElem? (i := 458) (by decide +kernel)) rfl
theorem tw_404 : (Jvm.Cond.classLink "FlowNetwork" (162 : Nat) "java/lang/IndexOutOfBoundsException") ∈ TB := TB_mem (List.mem_of_getElem? (i := 459) (by decide +kernel)) rfl
theorem tw_405 : (Jvm.Cond.instantiable "java/lang/IndexOutOfBoundsException" (6 : Nat)) ∈ TB := TB_mem (List.mem_of_getElem? (i := 460) (by decide +kernel)) rfl
theorem tw_407 : (Jvm.Cond.selects "java/lang/IndexOutOfBoundsException" ({ cls := "java/lang/Throwable", name := "fillInStackTrace", desc := "(I)Ljava/lang/Throwable;" } : Jvm.MethodName) ({ cls := "java/lang/Throwable", name := "fillInStackTrace", desc := "(I)Ljava/lang/Throwable;" } : Jvm.MethodName)) ∈ TB := TB_mem (List.mem_of_getElem? (i := 462) (by decide +kernel)) rfl
theorem tw_408 : (Jvm.Cond.lays "java/lang/IndexOutOfBoundsException" "java/lang/Throwable" "cause" "Ljava/lang/Throwable;") ∈ TB := TB_mem (List.mem_of_getElem? (i := 463) (by decide +kernel)) rfl
theorem tw_409 : (Jvm.Cond.lays "java/lang/IndexOutOfBoundsException" "java/lang/Throwable" "stackTrace" "[Ljava/lang/StackTraceElement;") ∈ TB := TB_mem (List.mem_of_getElem? (i := 464) (by decide +kernel)) rfl
theorem tw_410 : (Jvm.Cond.lays "java/lang/IndexOutOfBoundsException" "java/lang/Throwable" "suppressedExceptions" "Ljava/util/List;") ∈ TB := TB_mem (List.mem_of_getElem? (i := 465) (by decide +kernel)) rfl
theorem tw_411 : (Jvm.Cond.lays "java/lang/IndexOutOfBoundsException" "java/lang/Throwable" "detailMessage" "Ljava/lang/String;") ∈ TB := TB_mem (List.mem_of_getElem? (i := 466) (by decide +kernel)) rfl
theorem tw_412 : (Jvm.Cond.lays "java/lang/IndexOutOfBoundsException" "java/lang/Throwable" "backtrace" "Ljava/lang/Object;") ∈ TB := TB_mem (List.mem_of_getElem? (i := 467) (by decide +kernel)) rfl
theorem tw_414 : (Jvm.Cond.methodLink "FlowNetwork" (166 : Nat) ({ cls := "java/lang/IndexOutOfBoundsException", name := "<init>", desc := "(Ljava/lang/String;)V" } : Jvm.MethodName)) ∈ TB := TB_mem (List.mem_of_getElem? (i := 469) (by decide +kernel)) rfl
theorem tw_415 : (Jvm.Cond.instanceMethod ({ cls := "java/lang/IndexOutOfBoundsException", name := "<init>", desc := "(Ljava/lang/String;)V" } : Jvm.MethodName)) ∈ TB := TB_mem (List.mem_of_getElem? (i := 470) (by decide +kernel)) rfl
theorem tw_416 : (Jvm.Cond.code ({ cls := "java/lang/IndexOutOfBoundsException", name := "<init>", desc := "(Ljava/lang/String;)V" } : Jvm.MethodName) prog_14_method_2_code (2 : Nat) (Option.none : Option Jvm.ClassFile.FieldType)) ∈ TB := TB_mem (List.mem_of_getElem? (i := 471) (by decide +kernel)) rfl
theorem tw_417 : (Jvm.Cond.methodLink "java/lang/IndexOutOfBoundsException" (7 : Nat) ({ cls := "java/lang/RuntimeException", name := "<init>", desc := "(Ljava/lang/String;)V" } : Jvm.MethodName)) ∈ TB := TB_mem (List.mem_of_getElem? (i := 472) (by decide +kernel)) rfl
theorem tw_418 : (Jvm.Cond.lays "java/lang/IndexOutOfBoundsException" "java/lang/Throwable" "depth" "I") ∈ TB := TB_mem (List.mem_of_getElem? (i := 473) (by decide +kernel)) rfl
theorem tw_419 : (Jvm.Cond.superclass "java/lang/IndexOutOfBoundsException" "java/lang/RuntimeException") ∈ TB := TB_mem (List.mem_of_getElem? (i := 474) (by decide +kernel)) rfl
theorem tw_420 : (Jvm.Cond.methodLink "FlowNetwork" (61 : Nat) ({ cls := "FlowNetwork", name := "requireDifferent", desc := "(II)V" } : Jvm.MethodName)) ∈ TB := TB_mem (List.mem_of_getElem? (i := 475) (by decide +kernel)) rfl
theorem tw_421 : (Jvm.Cond.static ({ cls := "FlowNetwork", name := "requireDifferent", desc := "(II)V" } : Jvm.MethodName)) ∈ TB := TB_mem (List.mem_of_getElem? (i := 476) (by decide +kernel)) rfl
theorem tw_422 : (Jvm.Cond.code ({ cls := "FlowNetwork", name := "requireDifferent", desc := "(II)V" } : Jvm.MethodName) prog_1_method_31_code (2 : Nat) (Option.none : Option Jvm.ClassFile.FieldType)) ∈ TB := TB_mem (List.mem_of_getElem? (i := 477) (by decide +kernel)) rfl
theorem tw_423 : (Jvm.Cond.classLink "FlowNetwork" (145 : Nat) "java/lang/IllegalArgumentException") ∈ TB := TB_mem (List.mem_of_getElem? (i := 478) (by decide +kernel)) rfl
theorem tw_424 : (Jvm.Cond.instantiable "java/lang/IllegalArgumentException" (6 : Nat)) ∈ TB := TB_mem (List.mem_of_getElem? (i := 479) (by decide +kernel)) rfl
theorem tw_426 : (Jvm.Cond.selects "java/lang/IllegalArgumentException" ({ cls := "java/lang/Throwable", name := "fillInStackTrace", desc := "(I)Ljava/lang/Throwable;" } : Jvm.MethodName) ({ cls := "java/lang/Throwable", name := "fillInStackTrace", desc := "(I)Ljava/lang/Throwable;" } : Jvm.MethodName)) ∈ TB := TB_mem (List.mem_of_getElem? (i := 481) (by decide +kernel)) rfl
theorem tw_427 : (Jvm.Cond.lays "java/lang/IllegalArgumentException" "java/lang/Throwable" "cause" "Ljava/lang/Throwable;") ∈ TB := TB_mem (List.mem_of_getElem? (i := 482) (by decide +kernel)) rfl
theorem tw_428 : (Jvm.Cond.lays "java/lang/IllegalArgumentException" "java/lang/Throwable" "stackTrace" "[Ljava/lang/StackTraceElement;") ∈ TB := TB_mem (List.mem_of_getElem? (i := 483) (by decide +kernel)) rfl
theorem tw_429 : (Jvm.Cond.lays "java/lang/IllegalArgumentException" "java/lang/Throwable" "suppressedExceptions" "Ljava/util/List;") ∈ TB := TB_mem (List.mem_of_getElem? (i := 484) (by decide +kernel)) rfl
theorem tw_430 : (Jvm.Cond.lays "java/lang/IllegalArgumentException" "java/lang/Throwable" "detailMessage" "Ljava/lang/String;") ∈ TB := TB_mem (List.mem_of_getElem? (i := 485) (by decide +kernel)) rfl
theorem tw_431 : (Jvm.Cond.lays "java/lang/IllegalArgumentException" "java/lang/Throwable" "backtrace" "Ljava/lang/Object;") ∈ TB := TB_mem (List.mem_of_getElem? (i := 486) (by decide +kernel)) rfl
theorem tw_433 : (Jvm.Cond.methodLink "FlowNetwork" (149 : Nat) ({ cls := "java/lang/IllegalArgumentException", name := "<init>", desc := "(Ljava/lang/String;)V" } : Jvm.MethodName)) ∈ TB := TB_mem (List.mem_of_getElem? (i := 488) (by decide +kernel)) rfl
theorem tw_434 : (Jvm.Cond.instanceMethod ({ cls := "java/lang/IllegalArgumentException", name := "<init>", desc := "(Ljava/lang/String;)V" } : Jvm.MethodName)) ∈ TB := TB_mem (List.mem_of_getElem? (i := 489) (by decide +kernel)) rfl
theorem tw_435 : (Jvm.Cond.code ({ cls := "java/lang/IllegalArgumentException", name := "<init>", desc := "(Ljava/lang/String;)V" } : Jvm.MethodName) prog_12_method_2_code (2 : Nat) (Option.none : Option Jvm.ClassFile.FieldType)) ∈ TB := TB_mem (List.mem_of_getElem? (i := 490) (by decide +kernel)) rfl
theorem tw_436 : (Jvm.Cond.methodLink "java/lang/IllegalArgumentException" (7 : Nat) ({ cls := "java/lang/RuntimeException", name := "<init>", desc := "(Ljava/lang/String;)V" } : Jvm.MethodName)) ∈ TB := TB_mem (List.mem_of_getElem? (i := 491) (by decide +kernel)) rfl
theorem tw_437 : (Jvm.Cond.lays "java/lang/IllegalArgumentException" "java/lang/Throwable" "depth" "I") ∈ TB := TB_mem (List.mem_of_getElem? (i := 492) (by decide +kernel)) rfl
theorem tw_438 : (Jvm.Cond.superclass "java/lang/IllegalArgumentException" "java/lang/RuntimeException") ∈ TB := TB_mem (List.mem_of_getElem? (i := 493) (by decide +kernel)) rfl
theorem tw_439 : (Jvm.Cond.methodLink "FlowNetwork" (65 : Nat) ({ cls := "FlowNetwork", name := "requireCapacity", desc := "(I)V" } : Jvm.MethodName)) ∈ TB := TB_mem (List.mem_of_getElem? (i := 494) (by decide +kernel)) rfl
theorem tw_440 : (Jvm.Cond.static ({ cls := "FlowNetwork", name := "requireCapacity", desc := "(I)V" } : Jvm.MethodName)) ∈ TB := TB_mem (List.mem_of_getElem? (i := 495) (by decide +kernel)) rfl
theorem tw_441 : (Jvm.Cond.code ({ cls := "FlowNetwork", name := "requireCapacity", desc := "(I)V" } : Jvm.MethodName) prog_1_method_32_code (1 : Nat) (Option.none : Option Jvm.ClassFile.FieldType)) ∈ TB := TB_mem (List.mem_of_getElem? (i := 496) (by decide +kernel)) rfl
theorem tw_442 : (Jvm.Cond.constant "FlowNetwork" (211 : Nat) (1000000 : Int32)) ∈ TB := TB_mem (List.mem_of_getElem? (i := 497) (by decide +kernel)) rfl
theorem tn_445 : (Jvm.Cond.methodLinkNest "FlowNetwork" (73 : Nat) ({ cls := "FlowNetwork$Network", name := "makeArc", desc := "(II)I" } : Jvm.MethodName) "FlowNetwork") ∈ NW := NW_mem (List.mem_of_getElem? (i := 500) (by decide +kernel)) rfl
theorem tw_447 : (Jvm.Cond.instanceMethod ({ cls := "FlowNetwork$Network", name := "makeArc", desc := "(II)I" } : Jvm.MethodName)) ∈ TB := TB_mem (List.mem_of_getElem? (i := 502) (by decide +kernel)) rfl
theorem tw_448 : (Jvm.Cond.code ({ cls := "FlowNetwork$Network", name := "makeArc", desc := "(II)I" } : Jvm.MethodName) prog_6_method_3_code (4 : Nat) (Option.some Jvm.ClassFile.FieldType.int)) ∈ TB := TB_mem (List.mem_of_getElem? (i := 503) (by decide +kernel)) rfl
theorem tw_449 : (Jvm.Cond.methodLink "FlowNetwork$Network" (33 : Nat) ({ cls := "FlowNetwork$Network", name := "attach", desc := "(II)V" } : Jvm.MethodName)) ∈ TB := TB_mem (List.mem_of_getElem? (i := 504) (by decide +kernel)) rfl
theorem tw_451 : (Jvm.Cond.instanceMethod ({ cls := "FlowNetwork$Network", name := "attach", desc := "(II)V" } : Jvm.MethodName)) ∈ TB := TB_mem (List.mem_of_getElem? (i := 506) (by decide +kernel)) rfl
theorem tw_452 : (Jvm.Cond.code ({ cls := "FlowNetwork$Network", name := "attach", desc := "(II)V" } : Jvm.MethodName) prog_6_method_4_code (3 : Nat) (Option.none : Option Jvm.ClassFile.FieldType)) ∈ TB := TB_mem (List.mem_of_getElem? (i := 507) (by decide +kernel)) rfl
theorem tn_453 : (Jvm.Cond.methodLinkNest "FlowNetwork" (77 : Nat) ({ cls := "FlowNetwork$MaximumFlow", name := "changeCapacity", desc := "(II)V" } : Jvm.MethodName) "FlowNetwork") ∈ NW := NW_mem (List.mem_of_getElem? (i := 508) (by decide +kernel)) rfl
theorem tw_455 : (Jvm.Cond.instanceMethod ({ cls := "FlowNetwork$MaximumFlow", name := "changeCapacity", desc := "(II)V" } : Jvm.MethodName)) ∈ TB := TB_mem (List.mem_of_getElem? (i := 510) (by decide +kernel)) rfl
theorem tw_456 : (Jvm.Cond.code ({ cls := "FlowNetwork$MaximumFlow", name := "changeCapacity", desc := "(II)V" } : Jvm.MethodName) prog_5_method_5_code (4 : Nat) (Option.none : Option Jvm.ClassFile.FieldType)) ∈ TB := TB_mem (List.mem_of_getElem? (i := 511) (by decide +kernel)) rfl
theorem tw_457 : (Jvm.Cond.methodLink "FlowNetwork$MaximumFlow" (69 : Nat) ({ cls := "FlowNetwork$MaximumFlow", name := "moveAway", desc := "(III)V" } : Jvm.MethodName)) ∈ TB := TB_mem (List.mem_of_getElem? (i := 512) (by decide +kernel)) rfl
theorem tw_459 : (Jvm.Cond.instanceMethod ({ cls := "FlowNetwork$MaximumFlow", name := "moveAway", desc := "(III)V" } : Jvm.MethodName)) ∈ TB := TB_mem (List.mem_of_getElem? (i := 514) (by decide +kernel)) rfl
theorem tw_460 : (Jvm.Cond.code ({ cls := "FlowNetwork$MaximumFlow", name := "moveAway", desc := "(III)V" } : Jvm.MethodName) prog_5_method_6_code (5 : Nat) (Option.none : Option Jvm.ClassFile.FieldType)) ∈ TB := TB_mem (List.mem_of_getElem? (i := 515) (by decide +kernel)) rfl
theorem tw_461 : (Jvm.Cond.methodLink "FlowNetworkLaw" (109 : Nat) ({ cls := "FlowNetworkLaw", name := "setCapacity", desc := "(LFlowNetwork;II[J)I" } : Jvm.MethodName)) ∈ TB := TB_mem (List.mem_of_getElem? (i := 516) (by decide +kernel)) rfl
theorem tw_462 : (Jvm.Cond.static ({ cls := "FlowNetworkLaw", name := "setCapacity", desc := "(LFlowNetwork;II[J)I" } : Jvm.MethodName)) ∈ TB := TB_mem (List.mem_of_getElem? (i := 517) (by decide +kernel)) rfl
theorem tw_463 : (Jvm.Cond.codeWith ({ cls := "FlowNetworkLaw", name := "setCapacity", desc := "(LFlowNetwork;II[J)I" } : Jvm.MethodName) method_5_code (5 : Nat) (Option.some Jvm.ClassFile.FieldType.int) [((0 : Nat), (10 : Nat), (13 : Nat), (19 : Nat)), ((0 : Nat), (10 : Nat), (17 : Nat), (21 : Nat))]) ∈ TB := TB_mem (List.mem_of_getElem? (i := 518) (by decide +kernel)) rfl
theorem tw_464 : (Jvm.Cond.methodLink "FlowNetworkLaw" (23 : Nat) ({ cls := "FlowNetwork", name := "setCapacity", desc := "(II)I" } : Jvm.MethodName)) ∈ TB := TB_mem (List.mem_of_getElem? (i := 519) (by decide +kernel)) rfl
theorem tw_465 : (Jvm.Cond.instanceMethod ({ cls := "FlowNetwork", name := "setCapacity", desc := "(II)I" } : Jvm.MethodName)) ∈ TB := TB_mem (List.mem_of_getElem? (i := 520) (by decide +kernel)) rfl
theorem tw_466 : (Jvm.Cond.selects "FlowNetwork" ({ cls := "FlowNetwork", name := "setCapacity", desc := "(II)I" } : Jvm.MethodName) ({ cls := "FlowNetwork", name := "setCapacity", desc := "(II)I" } : Jvm.MethodName)) ∈ TB := TB_mem (List.mem_of_getElem? (i := 521) (by decide +kernel)) rfl
theorem tw_467 : (Jvm.Cond.code ({ cls := "FlowNetwork", name := "setCapacity", desc := "(II)I" } : Jvm.MethodName) prog_1_method_4_code (4 : Nat) (Option.some Jvm.ClassFile.FieldType.int)) ∈ TB := TB_mem (List.mem_of_getElem? (i := 522) (by decide +kernel)) rfl
theorem tw_468 : (Jvm.Cond.methodLink "FlowNetwork" (80 : Nat) ({ cls := "FlowNetwork", name := "requireArc", desc := "(I)V" } : Jvm.MethodName)) ∈ TB := TB_mem (List.mem_of_getElem? (i := 523) (by decide +kernel)) rfl
theorem tw_470 : (Jvm.Cond.instanceMethod ({ cls := "FlowNetwork", name := "requireArc", desc := "(I)V" } : Jvm.MethodName)) ∈ TB := TB_mem (List.mem_of_getElem? (i := 525) (by decide +kernel)) rfl
theorem tw_471 : (Jvm.Cond.code ({ cls := "FlowNetwork", name := "requireArc", desc := "(I)V" } : Jvm.MethodName) prog_1_method_30_code (2 : Nat) (Option.none : Option Jvm.ClassFile.FieldType)) ∈ TB := TB_mem (List.mem_of_getElem? (i := 526) (by decide +kernel)) rfl
theorem tw_473 : (Jvm.Cond.methodLink "FlowNetworkLaw" (115 : Nat) ({ cls := "FlowNetworkLaw", name := "scale", desc := "(LFlowNetwork;ID[J)I" } : Jvm.MethodName)) ∈ TB := TB_mem (List.mem_of_getElem? (i := 528) (by decide +kernel)) rfl
theorem tw_474 : (Jvm.Cond.static ({ cls := "FlowNetworkLaw", name := "scale", desc := "(LFlowNetwork;ID[J)I" } : Jvm.MethodName)) ∈ TB := TB_mem (List.mem_of_getElem? (i := 529) (by decide +kernel)) rfl
theorem tw_475 : (Jvm.Cond.codeWith ({ cls := "FlowNetworkLaw", name := "scale", desc := "(LFlowNetwork;ID[J)I" } : Jvm.MethodName) method_6_code (6 : Nat) (Option.some Jvm.ClassFile.FieldType.int) [((0 : Nat), (11 : Nat), (14 : Nat), (19 : Nat)), ((0 : Nat), (11 : Nat), (18 : Nat), (21 : Nat))]) ∈ TB := TB_mem (List.mem_of_getElem? (i := 530) (by decide +kernel)) rfl
theorem tw_476 : (Jvm.Cond.methodLink "FlowNetworkLaw" (27 : Nat) ({ cls := "FlowNetwork", name := "scale", desc := "(ID)I" } : Jvm.MethodName)) ∈ TB := TB_mem (List.mem_of_getElem? (i := 531) (by decide +kernel)) rfl
theorem tw_477 : (Jvm.Cond.instanceMethod ({ cls := "FlowNetwork", name := "scale", desc := "(ID)I" } : Jvm.MethodName)) ∈ TB := TB_mem (List.mem_of_getElem? (i := 532) (by decide +kernel)) rfl
theorem tw_478 : (Jvm.Cond.selects "FlowNetwork" ({ cls := "FlowNetwork", name := "scale", desc := "(ID)I" } : Jvm.MethodName) ({ cls := "FlowNetwork", name := "scale", desc := "(ID)I" } : Jvm.MethodName)) ∈ TB := TB_mem (List.mem_of_getElem? (i := 533) (by decide +kernel)) rfl
theorem tw_479 : (Jvm.Cond.code ({ cls := "FlowNetwork", name := "scale", desc := "(ID)I" } : Jvm.MethodName) prog_1_method_5_code (8 : Nat) (Option.some Jvm.ClassFile.FieldType.int)) ∈ TB := TB_mem (List.mem_of_getElem? (i := 534) (by decide +kernel)) rfl
theorem tw_480 : (Jvm.Cond.methodLink "FlowNetwork" (93 : Nat) ({ cls := "FlowNetwork", name := "requireFraction", desc := "(D)V" } : Jvm.MethodName)) ∈ TB := TB_mem (List.mem_of_getElem? (i := 535) (by decide +kernel)) rfl
theorem tw_481 : (Jvm.Cond.static ({ cls := "FlowNetwork", name := "requireFraction", desc := "(D)V" } : Jvm.MethodName)) ∈ TB := TB_mem (List.mem_of_getElem? (i := 536) (by decide +kernel)) rfl
theorem tw_482 : (Jvm.Cond.code ({ cls := "FlowNetwork", name := "requireFraction", desc := "(D)V" } : Jvm.MethodName) prog_1_method_33_code (3 : Nat) (Option.none : Option Jvm.ClassFile.FieldType)) ∈ TB := TB_mem (List.mem_of_getElem? (i := 537) (by decide +kernel)) rfl
theorem tw_483 : (Jvm.Cond.constantDouble "FlowNetwork" (214 : Nat) (4652007308841189376 : UInt64)) ∈ TB := TB_mem (List.mem_of_getElem? (i := 538) (by decide +kernel)) rfl
theorem tw_485 : (Jvm.Cond.methodLink "FlowNetwork" (97 : Nat) ({ cls := "FlowNetwork", name := "scaled", desc := "(ID)I" } : Jvm.MethodName)) ∈ TB := TB_mem (List.mem_of_getElem? (i := 540) (by decide +kernel)) rfl
theorem tw_486 : (Jvm.Cond.static ({ cls := "FlowNetwork", name := "scaled", desc := "(ID)I" } : Jvm.MethodName)) ∈ TB := TB_mem (List.mem_of_getElem? (i := 541) (by decide +kernel)) rfl
theorem tw_487 : (Jvm.Cond.code ({ cls := "FlowNetwork", name := "scaled", desc := "(ID)I" } : Jvm.MethodName) prog_1_method_36_code (9 : Nat) (Option.some Jvm.ClassFile.FieldType.int)) ∈ TB := TB_mem (List.mem_of_getElem? (i := 542) (by decide +kernel)) rfl
theorem tw_488 : (Jvm.Cond.constantDouble "FlowNetwork" (236 : Nat) (4602678819172646912 : UInt64)) ∈ TB := TB_mem (List.mem_of_getElem? (i := 543) (by decide +kernel)) rfl
theorem tw_489 : (Jvm.Cond.methodLink "FlowNetwork" (238 : Nat) ({ cls := "java/lang/Math", name := "min", desc := "(II)I" } : Jvm.MethodName)) ∈ TB := TB_mem (List.mem_of_getElem? (i := 544) (by decide +kernel)) rfl
theorem tw_490 : (Jvm.Cond.methodLink "FlowNetworkLaw" (119 : Nat) ({ cls := "FlowNetworkLaw", name := "setEnds", desc := "(LFlowNetwork;II[J)I" } : Jvm.MethodName)) ∈ TB := TB_mem (List.mem_of_getElem? (i := 545) (by decide +kernel)) rfl
theorem tw_491 : (Jvm.Cond.static ({ cls := "FlowNetworkLaw", name := "setEnds", desc := "(LFlowNetwork;II[J)I" } : Jvm.MethodName)) ∈ TB := TB_mem (List.mem_of_getElem? (i := 546) (by decide +kernel)) rfl
theorem tw_492 : (Jvm.Cond.codeWith ({ cls := "FlowNetworkLaw", name := "setEnds", desc := "(LFlowNetwork;II[J)I" } : Jvm.MethodName) method_7_code (5 : Nat) (Option.some Jvm.ClassFile.FieldType.int) [((0 : Nat), (17 : Nat), (20 : Nat), (19 : Nat)), ((0 : Nat), (17 : Nat), (24 : Nat), (21 : Nat))]) ∈ TB := TB_mem (List.mem_of_getElem? (i := 547) (by decide +kernel)) rfl
theorem tw_493 : (Jvm.Cond.methodLink "FlowNetworkLaw" (31 : Nat) ({ cls := "FlowNetwork", name := "setEnds", desc := "(II)Z" } : Jvm.MethodName)) ∈ TB := TB_mem (List.mem_of_getElem? (i := 548) (by decide +kernel)) rfl
theorem tw_494 : (Jvm.Cond.instanceMethod ({ cls := "FlowNetwork", name := "setEnds", desc := "(II)Z" } : Jvm.MethodName)) ∈ TB := TB_mem (List.mem_of_getElem? (i := 549) (by decide +kernel)) rfl
theorem tw_495 : (Jvm.Cond.selects "FlowNetwork" ({ cls := "FlowNetwork", name := "setEnds", desc := "(II)Z" } : Jvm.MethodName) ({ cls := "FlowNetwork", name := "setEnds", desc := "(II)Z" } : Jvm.MethodName)) ∈ TB := TB_mem (List.mem_of_getElem? (i := 550) (by decide +kernel)) rfl
theorem tw_496 : (Jvm.Cond.code ({ cls := "FlowNetwork", name := "setEnds", desc := "(II)Z" } : Jvm.MethodName) prog_1_method_6_code (3 : Nat) (Option.some Jvm.ClassFile.FieldType.boolean)) ∈ TB := TB_mem (List.mem_of_getElem? (i := 551) (by decide +kernel)) rfl
theorem tn_497 : (Jvm.Cond.methodLinkNest "FlowNetwork" (104 : Nat) ({ cls := "FlowNetwork$MaximumFlow", name := "chooseEnds", desc := "(II)Z" } : Jvm.MethodName) "FlowNetwork") ∈ NW := NW_mem (List.mem_of_getElem? (i := 552) (by decide +kernel)) rfl
theorem tw_499 : (Jvm.Cond.instanceMethod ({ cls := "FlowNetwork$MaximumFlow", name := "chooseEnds", desc := "(II)Z" } : Jvm.MethodName)) ∈ TB := TB_mem (List.mem_of_getElem? (i := 554) (by decide +kernel)) rfl
theorem tw_500 : (Jvm.Cond.code ({ cls := "FlowNetwork$MaximumFlow", name := "chooseEnds", desc := "(II)Z" } : Jvm.MethodName) prog_5_method_4_code (3 : Nat) (Option.some Jvm.ClassFile.FieldType.boolean)) ∈ TB := TB_mem (List.mem_of_getElem? (i := 555) (by decide +kernel)) rfl
theorem tw_501 : (Jvm.Cond.methodLink "FlowNetwork$MaximumFlow" (52 : Nat) ({ cls := "java/util/Arrays", name := "fill", desc := "([II)V" } : Jvm.MethodName)) ∈ TB := TB_mem (List.mem_of_getElem? (i := 556) (by decide +kernel)) rfl
theorem tw_502 : (Jvm.Cond.methodLink "FlowNetworkLaw" (130 : Nat) ({ cls := "FlowNetworkLaw", name := "capacity", desc := "(LFlowNetwork;I[J)I" } : Jvm.MethodName)) ∈ TB := TB_mem (List.mem_of_getElem? (i := 557) (by decide +kernel)) rfl
theorem tw_503 : (Jvm.Cond.static ({ cls := "FlowNetworkLaw", name := "capacity", desc := "(LFlowNetwork;I[J)I" } : Jvm.MethodName)) ∈ TB := TB_mem (List.mem_of_getElem? (i := 558) (by decide +kernel)) rfl
theorem tw_504 : (Jvm.Cond.codeWith ({ cls := "FlowNetworkLaw", name := "capacity", desc := "(LFlowNetwork;I[J)I" } : Jvm.MethodName) method_8_code (4 : Nat) (Option.some Jvm.ClassFile.FieldType.int) [((0 : Nat), (9 : Nat), (12 : Nat), (19 : Nat))]) ∈ TB := TB_mem (List.mem_of_getElem? (i := 559) (by decide +kernel)) rfl
theorem tw_505 : (Jvm.Cond.methodLink "FlowNetworkLaw" (35 : Nat) ({ cls := "FlowNetwork", name := "capacity", desc := "(I)I" } : Jvm.MethodName)) ∈ TB := TB_mem (List.mem_of_getElem? (i := 560) (by decide +kernel)) rfl
theorem tw_506 : (Jvm.Cond.instanceMethod ({ cls := "FlowNetwork", name := "capacity", desc := "(I)I" } : Jvm.MethodName)) ∈ TB := TB_mem (List.mem_of_getElem? (i := 561) (by decide +kernel)) rfl
theorem tw_507 : (Jvm.Cond.selects "FlowNetwork" ({ cls := "FlowNetwork", name := "capacity", desc := "(I)I" } : Jvm.MethodName) ({ cls := "FlowNetwork", name := "capacity", desc := "(I)I" } : Jvm.MethodName)) ∈ TB := TB_mem (List.mem_of_getElem? (i := 562) (by decide +kernel)) rfl
theorem tw_508 : (Jvm.Cond.code ({ cls := "FlowNetwork", name := "capacity", desc := "(I)I" } : Jvm.MethodName) prog_1_method_9_code (2 : Nat) (Option.some Jvm.ClassFile.FieldType.int)) ∈ TB := TB_mem (List.mem_of_getElem? (i := 563) (by decide +kernel)) rfl
theorem tw_509 : (Jvm.Cond.methodLink "FlowNetworkLaw" (134 : Nat) ({ cls := "FlowNetworkLaw", name := "maximum", desc := "(LFlowNetwork;[J)I" } : Jvm.MethodName)) ∈ TB := TB_mem (List.mem_of_getElem? (i := 564) (by decide +kernel)) rfl
theorem tw_510 : (Jvm.Cond.static ({ cls := "FlowNetworkLaw", name := "maximum", desc := "(LFlowNetwork;[J)I" } : Jvm.MethodName)) ∈ TB := TB_mem (List.mem_of_getElem? (i := 565) (by decide +kernel)) rfl
theorem tw_511 : (Jvm.Cond.codeWith ({ cls := "FlowNetworkLaw", name := "maximum", desc := "(LFlowNetwork;[J)I" } : Jvm.MethodName) method_9_code (3 : Nat) (Option.some Jvm.ClassFile.FieldType.int) [((0 : Nat), (8 : Nat), (11 : Nat), (13 : Nat))]) ∈ TB := TB_mem (List.mem_of_getElem? (i := 566) (by decide +kernel)) rfl
theorem tw_512 : (Jvm.Cond.methodLink "FlowNetworkLaw" (39 : Nat) ({ cls := "FlowNetwork", name := "maximum", desc := "()I" } : Jvm.MethodName)) ∈ TB := TB_mem (List.mem_of_getElem? (i := 567) (by decide +kernel)) rfl
theorem tw_513 : (Jvm.Cond.instanceMethod ({ cls := "FlowNetwork", name := "maximum", desc := "()I" } : Jvm.MethodName)) ∈ TB := TB_mem (List.mem_of_getElem? (i := 568) (by decide +kernel)) rfl
theorem tw_514 : (Jvm.Cond.selects "FlowNetwork" ({ cls := "FlowNetwork", name := "maximum", desc := "()I" } : Jvm.MethodName) ({ cls := "FlowNetwork", name := "maximum", desc := "()I" } : Jvm.MethodName)) ∈ TB := TB_mem (List.mem_of_getElem? (i := 569) (by decide +kernel)) rfl
theorem tw_515 : (Jvm.Cond.code ({ cls := "FlowNetwork", name := "maximum", desc := "()I" } : Jvm.MethodName) prog_1_method_10_code (1 : Nat) (Option.some Jvm.ClassFile.FieldType.int)) ∈ TB := TB_mem (List.mem_of_getElem? (i := 570) (by decide +kernel)) rfl
theorem tw_516 : (Jvm.Cond.methodLink "FlowNetwork" (108 : Nat) ({ cls := "FlowNetwork", name := "requireEnds", desc := "()V" } : Jvm.MethodName)) ∈ TB := TB_mem (List.mem_of_getElem? (i := 571) (by decide +kernel)) rfl
theorem tw_518 : (Jvm.Cond.instanceMethod ({ cls := "FlowNetwork", name := "requireEnds", desc := "()V" } : Jvm.MethodName)) ∈ TB := TB_mem (List.mem_of_getElem? (i := 573) (by decide +kernel)) rfl
theorem tw_519 : (Jvm.Cond.code ({ cls := "FlowNetwork", name := "requireEnds", desc := "()V" } : Jvm.MethodName) prog_1_method_28_code (1 : Nat) (Option.none : Option Jvm.ClassFile.FieldType)) ∈ TB := TB_mem (List.mem_of_getElem? (i := 574) (by decide +kernel)) rfl
theorem tw_521 : (Jvm.Cond.methodLink "FlowNetworkLaw" (137 : Nat) ({ cls := "FlowNetworkLaw", name := "maximumWith", desc := "(LFlowNetwork;II[J)I" } : Jvm.MethodName)) ∈ TB := TB_mem (List.mem_of_getElem? (i := 576) (by decide +kernel)) rfl
theorem tw_522 : (Jvm.Cond.static ({ cls := "FlowNetworkLaw", name := "maximumWith", desc := "(LFlowNetwork;II[J)I" } : Jvm.MethodName)) ∈ TB := TB_mem (List.mem_of_getElem? (i := 577) (by decide +kernel)) rfl
theorem tw_523 : (Jvm.Cond.codeWith ({ cls := "FlowNetworkLaw", name := "maximumWith", desc := "(LFlowNetwork;II[J)I" } : Jvm.MethodName) method_10_code (5 : Nat) (Option.some Jvm.ClassFile.FieldType.int) [((0 : Nat), (10 : Nat), (13 : Nat), (13 : Nat)), ((0 : Nat), (10 : Nat), (17 : Nat), (19 : Nat)), ((0 : Nat), (10 : Nat), (21 : Nat), (21 : Nat))]) ∈ TB := TB_mem (List.mem_of_getElem? (i := 578) (by decide +kernel)) rfl
theorem tw_524 : (Jvm.Cond.methodLink "FlowNetworkLaw" (42 : Nat) ({ cls := "FlowNetwork", name := "maximumWith", desc := "(II)I" } : Jvm.MethodName)) ∈ TB := TB_mem (List.mem_of_getElem? (i := 579) (by decide +kernel)) rfl
theorem tw_525 : (Jvm.Cond.instanceMethod ({ cls := "FlowNetwork", name := "maximumWith", desc := "(II)I" } : Jvm.MethodName)) ∈ TB := TB_mem (List.mem_of_getElem? (i := 580) (by decide +kernel)) rfl
theorem tw_526 : (Jvm.Cond.selects "FlowNetwork" ({ cls := "FlowNetwork", name := "maximumWith", desc := "(II)I" } : Jvm.MethodName) ({ cls := "FlowNetwork", name := "maximumWith", desc := "(II)I" } : Jvm.MethodName)) ∈ TB := TB_mem (List.mem_of_getElem? (i := 581) (by decide +kernel)) rfl
theorem tw_527 : (Jvm.Cond.code ({ cls := "FlowNetwork", name := "maximumWith", desc := "(II)I" } : Jvm.MethodName) prog_1_method_11_code (3 : Nat) (Option.some Jvm.ClassFile.FieldType.int)) ∈ TB := TB_mem (List.mem_of_getElem? (i := 582) (by decide +kernel)) rfl
theorem tn_528 : (Jvm.Cond.methodLinkNest "FlowNetwork" (114 : Nat) ({ cls := "FlowNetwork$MaximumFlow", name := "copy", desc := "(LFlowNetwork$MaximumFlow;)V" } : Jvm.MethodName) "FlowNetwork") ∈ NW := NW_mem (List.mem_of_getElem? (i := 583) (by decide +kernel)) rfl
theorem tw_530 : (Jvm.Cond.instanceMethod ({ cls := "FlowNetwork$MaximumFlow", name := "copy", desc := "(LFlowNetwork$MaximumFlow;)V" } : Jvm.MethodName)) ∈ TB := TB_mem (List.mem_of_getElem? (i := 585) (by decide +kernel)) rfl
theorem tw_531 : (Jvm.Cond.code ({ cls := "FlowNetwork$MaximumFlow", name := "copy", desc := "(LFlowNetwork$MaximumFlow;)V" } : Jvm.MethodName) prog_5_method_3_code (2 : Nat) (Option.none : Option Jvm.ClassFile.FieldType)) ∈ TB := TB_mem (List.mem_of_getElem? (i := 586) (by decide +kernel)) rfl
theorem tn_532 : (Jvm.Cond.methodLinkNest "FlowNetwork$MaximumFlow" (40 : Nat) ({ cls := "FlowNetwork$Flow", name := "copy", desc := "(LFlowNetwork$Flow;)V" } : Jvm.MethodName) "FlowNetwork") ∈ NW := NW_mem (List.mem_of_getElem? (i := 587) (by decide +kernel)) rfl
theorem tw_534 : (Jvm.Cond.instanceMethod ({ cls := "FlowNetwork$Flow", name := "copy", desc := "(LFlowNetwork$Flow;)V" } : Jvm.MethodName)) ∈ TB := TB_mem (List.mem_of_getElem? (i := 589) (by decide +kernel)) rfl
theorem tw_535 : (Jvm.Cond.code ({ cls := "FlowNetwork$Flow", name := "copy", desc := "(LFlowNetwork$Flow;)V" } : Jvm.MethodName) prog_3_method_2_code (2 : Nat) (Option.none : Option Jvm.ClassFile.FieldType)) ∈ TB := TB_mem (List.mem_of_getElem? (i := 590) (by decide +kernel)) rfl
theorem tw_536 : (Jvm.Cond.methodLink "FlowNetwork$Flow" (22 : Nat) ({ cls := "java/lang/System", name := "arraycopy", desc := "(Ljava/lang/Object;ILjava/lang/Object;II)V" } : Jvm.MethodName)) ∈ TB := TB_mem (List.mem_of_getElem? (i := 591) (by decide +kernel)) rfl
theorem tw_537 : (Jvm.Cond.static ({ cls := "java/lang/System", name := "arraycopy", desc := "(Ljava/lang/Object;ILjava/lang/Object;II)V" } : Jvm.MethodName)) ∈ TB := TB_mem (List.mem_of_getElem? (i := 592) (by decide +kernel)) rfl
theorem tw_538 : (Jvm.Cond.native ({ cls := "java/lang/System", name := "arraycopy", desc := "(Ljava/lang/Object;ILjava/lang/Object;II)V" } : Jvm.MethodName)) ∈ TB := TB_mem (List.mem_of_getElem? (i := 593) (by decide +kernel)) rfl
theorem tw_539 : (Jvm.Cond.methodLink "FlowNetworkLaw" (140 : Nat) ({ cls := "FlowNetworkLaw", name := "maximumWithout", desc := "(LFlowNetwork;I[J)I" } : Jvm.MethodName)) ∈ TB := TB_mem (List.mem_of_getElem? (i := 594) (by decide +kernel)) rfl
theorem tw_540 : (Jvm.Cond.static ({ cls := "FlowNetworkLaw", name := "maximumWithout", desc := "(LFlowNetwork;I[J)I" } : Jvm.MethodName)) ∈ TB := TB_mem (List.mem_of_getElem? (i := 595) (by decide +kernel)) rfl
theorem tw_541 : (Jvm.Cond.codeWith ({ cls := "FlowNetworkLaw", name := "maximumWithout", desc := "(LFlowNetwork;I[J)I" } : Jvm.MethodName) method_11_code (4 : Nat) (Option.some Jvm.ClassFile.FieldType.int) [((0 : Nat), (9 : Nat), (12 : Nat), (13 : Nat)), ((0 : Nat), (9 : Nat), (15 : Nat), (19 : Nat))]) ∈ TB := TB_mem (List.mem_of_getElem? (i := 596) (by decide +kernel)) rfl
theorem tw_542 : (Jvm.Cond.methodLink "FlowNetworkLaw" (45 : Nat) ({ cls := "FlowNetwork", name := "maximumWithout", desc := "(I)I" } : Jvm.MethodName)) ∈ TB := TB_mem (List.mem_of_getElem? (i := 597) (by decide +kernel)) rfl
theorem tw_543 : (Jvm.Cond.instanceMethod ({ cls := "FlowNetwork", name := "maximumWithout", desc := "(I)I" } : Jvm.MethodName)) ∈ TB := TB_mem (List.mem_of_getElem? (i := 598) (by decide +kernel)) rfl
theorem tw_544 : (Jvm.Cond.selects "FlowNetwork" ({ cls := "FlowNetwork", name := "maximumWithout", desc := "(I)I" } : Jvm.MethodName) ({ cls := "FlowNetwork", name := "maximumWithout", desc := "(I)I" } : Jvm.MethodName)) ∈ TB := TB_mem (List.mem_of_getElem? (i := 599) (by decide +kernel)) rfl
theorem tw_545 : (Jvm.Cond.code ({ cls := "FlowNetwork", name := "maximumWithout", desc := "(I)I" } : Jvm.MethodName) prog_1_method_12_code (3 : Nat) (Option.some Jvm.ClassFile.FieldType.int)) ∈ TB := TB_mem (List.mem_of_getElem? (i := 600) (by decide +kernel)) rfl
theorem tw_546 : (Jvm.Cond.methodLink "FlowNetworkLaw" (143 : Nat) ({ cls := "FlowNetworkLaw", name := "maximumBetween", desc := "(LFlowNetwork;II[J)I" } : Jvm.MethodName)) ∈ TB := TB_mem (List.mem_of_getElem? (i := 601) (by decide +kernel)) rfl
theorem tw_547 : (Jvm.Cond.static ({ cls := "FlowNetworkLaw", name := "maximumBetween", desc := "(LFlowNetwork;II[J)I" } : Jvm.MethodName)) ∈ TB := TB_mem (List.mem_of_getElem? (i := 602) (by decide +kernel)) rfl
theorem tw_548 : (Jvm.Cond.codeWith ({ cls := "FlowNetworkLaw", name := "maximumBetween", desc := "(LFlowNetwork;II[J)I" } : Jvm.MethodName) method_12_code (5 : Nat) (Option.some Jvm.ClassFile.FieldType.int) [((0 : Nat), (10 : Nat), (13 : Nat), (19 : Nat)), ((0 : Nat), (10 : Nat), (17 : Nat), (21 : Nat))]) ∈ TB := TB_mem (List.mem_of_getElem? (i := 603) (by decide +kernel)) rfl
theorem tw_549 : (Jvm.Cond.methodLink "FlowNetworkLaw" (48 : Nat) ({ cls := "FlowNetwork", name := "maximumBetween", desc := "(II)I" } : Jvm.MethodName)) ∈ TB := TB_mem (List.mem_of_getElem? (i := 604) (by decide +kernel)) rfl
theorem tw_550 : (Jvm.Cond.instanceMethod ({ cls := "FlowNetwork", name := "maximumBetween", desc := "(II)I" } : Jvm.MethodName)) ∈ TB := TB_mem (List.mem_of_getElem? (i := 605) (by decide +kernel)) rfl
theorem tw_551 : (Jvm.Cond.selects "FlowNetwork" ({ cls := "FlowNetwork", name := "maximumBetween", desc := "(II)I" } : Jvm.MethodName) ({ cls := "FlowNetwork", name := "maximumBetween", desc := "(II)I" } : Jvm.MethodName)) ∈ TB := TB_mem (List.mem_of_getElem? (i := 606) (by decide +kernel)) rfl
theorem tw_552 : (Jvm.Cond.code ({ cls := "FlowNetwork", name := "maximumBetween", desc := "(II)I" } : Jvm.MethodName) prog_1_method_13_code (3 : Nat) (Option.some Jvm.ClassFile.FieldType.int)) ∈ TB := TB_mem (List.mem_of_getElem? (i := 607) (by decide +kernel)) rfl
theorem tw_553 : (Jvm.Cond.methodLink "FlowNetworkLaw" (146 : Nat) ({ cls := "FlowNetworkLaw", name := "utilization", desc := "(LFlowNetwork;[D)I" } : Jvm.MethodName)) ∈ TB := TB_mem (List.mem_of_getElem? (i := 608) (by decide +kernel)) rfl
theorem tw_554 : (Jvm.Cond.static ({ cls := "FlowNetworkLaw", name := "utilization", desc := "(LFlowNetwork;[D)I" } : Jvm.MethodName)) ∈ TB := TB_mem (List.mem_of_getElem? (i := 609) (by decide +kernel)) rfl
theorem tw_555 : (Jvm.Cond.codeWith ({ cls := "FlowNetworkLaw", name := "utilization", desc := "(LFlowNetwork;[D)I" } : Jvm.MethodName) method_13_code (3 : Nat) (Option.some Jvm.ClassFile.FieldType.int) [((0 : Nat), (7 : Nat), (10 : Nat), (13 : Nat))]) ∈ TB := TB_mem (List.mem_of_getElem? (i := 610) (by decide +kernel)) rfl
theorem tw_556 : (Jvm.Cond.methodLink "FlowNetworkLaw" (51 : Nat) ({ cls := "FlowNetwork", name := "utilization", desc := "()D" } : Jvm.MethodName)) ∈ TB := TB_mem (List.mem_of_getElem? (i := 611) (by decide +kernel)) rfl
theorem tw_557 : (Jvm.Cond.instanceMethod ({ cls := "FlowNetwork", name := "utilization", desc := "()D" } : Jvm.MethodName)) ∈ TB := TB_mem (List.mem_of_getElem? (i := 612) (by decide +kernel)) rfl
theorem tw_558 : (Jvm.Cond.selects "FlowNetwork" ({ cls := "FlowNetwork", name := "utilization", desc := "()D" } : Jvm.MethodName) ({ cls := "FlowNetwork", name := "utilization", desc := "()D" } : Jvm.MethodName)) ∈ TB := TB_mem (List.mem_of_getElem? (i := 613) (by decide +kernel)) rfl
theorem tw_559 : (Jvm.Cond.code ({ cls := "FlowNetwork", name := "utilization", desc := "()D" } : Jvm.MethodName) prog_1_method_14_code (2 : Nat) (Option.some Jvm.ClassFile.FieldType.double)) ∈ TB := TB_mem (List.mem_of_getElem? (i := 614) (by decide +kernel)) rfl
theorem tn_560 : (Jvm.Cond.methodLinkNest "FlowNetwork" (124 : Nat) ({ cls := "FlowNetwork$Flow", name := "capacityOut", desc := "(I)I" } : Jvm.MethodName) "FlowNetwork") ∈ NW := NW_mem (List.mem_of_getElem? (i := 615) (by decide +kernel)) rfl
theorem tw_562 : (Jvm.Cond.instanceMethod ({ cls := "FlowNetwork$Flow", name := "capacityOut", desc := "(I)I" } : Jvm.MethodName)) ∈ TB := TB_mem (List.mem_of_getElem? (i := 617) (by decide +kernel)) rfl
theorem tw_563 : (Jvm.Cond.code ({ cls := "FlowNetwork$Flow", name := "capacityOut", desc := "(I)I" } : Jvm.MethodName) prog_3_method_8_code (4 : Nat) (Option.some Jvm.ClassFile.FieldType.int)) ∈ TB := TB_mem (List.mem_of_getElem? (i := 618) (by decide +kernel)) rfl
theorem tw_564 : (Jvm.Cond.methodLink "FlowNetworkLaw" (150 : Nat) ({ cls := "FlowNetworkLaw", name := "leastFlow", desc := "(LFlowNetwork;I[J)I" } : Jvm.MethodName)) ∈ TB := TB_mem (List.mem_of_getElem? (i := 619) (by decide +kernel)) rfl
theorem tw_565 : (Jvm.Cond.static ({ cls := "FlowNetworkLaw", name := "leastFlow", desc := "(LFlowNetwork;I[J)I" } : Jvm.MethodName)) ∈ TB := TB_mem (List.mem_of_getElem? (i := 620) (by decide +kernel)) rfl
theorem tw_566 : (Jvm.Cond.codeWith ({ cls := "FlowNetworkLaw", name := "leastFlow", desc := "(LFlowNetwork;I[J)I" } : Jvm.MethodName) method_14_code (4 : Nat) (Option.some Jvm.ClassFile.FieldType.int) [((0 : Nat), (9 : Nat), (12 : Nat), (13 : Nat)), ((0 : Nat), (9 : Nat), (15 : Nat), (19 : Nat))]) ∈ TB := TB_mem (List.mem_of_getElem? (i := 621) (by decide +kernel)) rfl
theorem tw_567 : (Jvm.Cond.methodLink "FlowNetworkLaw" (55 : Nat) ({ cls := "FlowNetwork", name := "leastFlow", desc := "(I)I" } : Jvm.MethodName)) ∈ TB := TB_mem (List.mem_of_getElem? (i := 622) (by decide +kernel)) rfl
theorem tw_568 : (Jvm.Cond.instanceMethod ({ cls := "FlowNetwork", name := "leastFlow", desc := "(I)I" } : Jvm.MethodName)) ∈ TB := TB_mem (List.mem_of_getElem? (i := 623) (by decide +kernel)) rfl
theorem tw_569 : (Jvm.Cond.selects "FlowNetwork" ({ cls := "FlowNetwork", name := "leastFlow", desc := "(I)I" } : Jvm.MethodName) ({ cls := "FlowNetwork", name := "leastFlow", desc := "(I)I" } : Jvm.MethodName)) ∈ TB := TB_mem (List.mem_of_getElem? (i := 624) (by decide +kernel)) rfl
theorem tw_570 : (Jvm.Cond.code ({ cls := "FlowNetwork", name := "leastFlow", desc := "(I)I" } : Jvm.MethodName) prog_1_method_15_code (4 : Nat) (Option.some Jvm.ClassFile.FieldType.int)) ∈ TB := TB_mem (List.mem_of_getElem? (i := 625) (by decide +kernel)) rfl
theorem tn_571 : (Jvm.Cond.methodLinkNest "FlowNetwork" (128 : Nat) ({ cls := "FlowNetwork$MaximumFlow", name := "settle", desc := "()V" } : Jvm.MethodName) "FlowNetwork") ∈ NW := NW_mem (List.mem_of_getElem? (i := 626) (by decide +kernel)) rfl
theorem tw_572 : (Jvm.Cond.methodLink "FlowNetwork" (134 : Nat) ({ cls := "FlowNetwork", name := "movable", desc := "(III)I" } : Jvm.MethodName)) ∈ TB := TB_mem (List.mem_of_getElem? (i := 627) (by decide +kernel)) rfl
theorem tw_574 : (Jvm.Cond.instanceMethod ({ cls := "FlowNetwork", name := "movable", desc := "(III)I" } : Jvm.MethodName)) ∈ TB := TB_mem (List.mem_of_getElem? (i := 629) (by decide +kernel)) rfl
theorem tw_575 : (Jvm.Cond.code ({ cls := "FlowNetwork", name := "movable", desc := "(III)I" } : Jvm.MethodName) prog_1_method_35_code (4 : Nat) (Option.some Jvm.ClassFile.FieldType.int)) ∈ TB := TB_mem (List.mem_of_getElem? (i := 630) (by decide +kernel)) rfl
theorem tn_576 : (Jvm.Cond.methodLinkNest "FlowNetwork" (221 : Nat) ({ cls := "FlowNetwork$Flow", name := "block", desc := "(I)V" } : Jvm.MethodName) "FlowNetwork") ∈ NW := NW_mem (List.mem_of_getElem? (i := 631) (by decide +kernel)) rfl
theorem tw_578 : (Jvm.Cond.instanceMethod ({ cls := "FlowNetwork$Flow", name := "block", desc := "(I)V" } : Jvm.MethodName)) ∈ TB := TB_mem (List.mem_of_getElem? (i := 633) (by decide +kernel)) rfl
theorem tw_579 : (Jvm.Cond.code ({ cls := "FlowNetwork$Flow", name := "block", desc := "(I)V" } : Jvm.MethodName) prog_3_method_3_code (2 : Nat) (Option.none : Option Jvm.ClassFile.FieldType)) ∈ TB := TB_mem (List.mem_of_getElem? (i := 634) (by decide +kernel)) rfl
theorem tn_580 : (Jvm.Cond.methodLinkNest "FlowNetwork" (228 : Nat) ({ cls := "FlowNetwork$Network", name := "otherEnd", desc := "(II)I" } : Jvm.MethodName) "FlowNetwork") ∈ NW := NW_mem (List.mem_of_getElem? (i := 635) (by decide +kernel)) rfl
theorem tn_581 : (Jvm.Cond.methodLinkNest "FlowNetwork" (231 : Nat) ({ cls := "FlowNetwork$Router", name := "route", desc := "(III)I" } : Jvm.MethodName) "FlowNetwork") ∈ NW := NW_mem (List.mem_of_getElem? (i := 636) (by decide +kernel)) rfl
theorem tw_582 : (Jvm.Cond.methodLink "FlowNetworkLaw" (153 : Nat) ({ cls := "FlowNetworkLaw", name := "greatestFlow", desc := "(LFlowNetwork;I[J)I" } : Jvm.MethodName)) ∈ TB := TB_mem (List.mem_of_getElem? (i := 637) (by decide +kernel)) rfl
theorem tw_583 : (Jvm.Cond.static ({ cls := "FlowNetworkLaw", name := "greatestFlow", desc := "(LFlowNetwork;I[J)I" } : Jvm.MethodName)) ∈ TB := TB_mem (List.mem_of_getElem? (i := 638) (by decide +kernel)) rfl
theorem tw_584 : (Jvm.Cond.codeWith ({ cls := "FlowNetworkLaw", name := "greatestFlow", desc := "(LFlowNetwork;I[J)I" } : Jvm.MethodName) method_15_code (4 : Nat) (Option.some Jvm.ClassFile.FieldType.int) [((0 : Nat), (9 : Nat), (12 : Nat), (13 : Nat)), ((0 : Nat), (9 : Nat), (15 : Nat), (19 : Nat))]) ∈ TB := TB_mem (List.mem_of_getElem? (i := 639) (by decide +kernel)) rfl
theorem tw_585 : (Jvm.Cond.methodLink "FlowNetworkLaw" (58 : Nat) ({ cls := "FlowNetwork", name := "greatestFlow", desc := "(I)I" } : Jvm.MethodName)) ∈ TB := TB_mem (List.mem_of_getElem? (i := 640) (by decide +kernel)) rfl
theorem tw_586 : (Jvm.Cond.instanceMethod ({ cls := "FlowNetwork", name := "greatestFlow", desc := "(I)I" } : Jvm.MethodName)) ∈ TB := TB_mem (List.mem_of_getElem? (i := 641) (by decide +kernel)) rfl
theorem tw_587 : (Jvm.Cond.selects "FlowNetwork" ({ cls := "FlowNetwork", name := "greatestFlow", desc := "(I)I" } : Jvm.MethodName) ({ cls := "FlowNetwork", name := "greatestFlow", desc := "(I)I" } : Jvm.MethodName)) ∈ TB := TB_mem (List.mem_of_getElem? (i := 642) (by decide +kernel)) rfl
theorem tw_588 : (Jvm.Cond.code ({ cls := "FlowNetwork", name := "greatestFlow", desc := "(I)I" } : Jvm.MethodName) prog_1_method_16_code (4 : Nat) (Option.some Jvm.ClassFile.FieldType.int)) ∈ TB := TB_mem (List.mem_of_getElem? (i := 643) (by decide +kernel)) rfl
theorem tn_589 : (Jvm.Cond.methodLinkNest "FlowNetwork" (138 : Nat) ({ cls := "FlowNetwork$Flow", name := "room", desc := "(II)I" } : Jvm.MethodName) "FlowNetwork") ∈ NW := NW_mem (List.mem_of_getElem? (i := 644) (by decide +kernel)) rfl
theorem tw_590 : (Jvm.Cond.methodLink "FlowNetworkLaw" (156 : Nat) ({ cls := "FlowNetworkLaw", name := "cutCapacity", desc := "(LFlowNetwork;I[J)I" } : Jvm.MethodName)) ∈ TB := TB_mem (List.mem_of_getElem? (i := 645) (by decide +kernel)) rfl
theorem tw_591 : (Jvm.Cond.static ({ cls := "FlowNetworkLaw", name := "cutCapacity", desc := "(LFlowNetwork;I[J)I" } : Jvm.MethodName)) ∈ TB := TB_mem (List.mem_of_getElem? (i := 646) (by decide +kernel)) rfl
theorem tw_592 : (Jvm.Cond.codeWith ({ cls := "FlowNetworkLaw", name := "cutCapacity", desc := "(LFlowNetwork;I[J)I" } : Jvm.MethodName) method_16_code (4 : Nat) (Option.some Jvm.ClassFile.FieldType.int) [((0 : Nat), (9 : Nat), (12 : Nat), (13 : Nat)), ((0 : Nat), (9 : Nat), (15 : Nat), (21 : Nat))]) ∈ TB := TB_mem (List.mem_of_getElem? (i := 647) (by decide +kernel)) rfl
theorem tw_593 : (Jvm.Cond.methodLink "FlowNetworkLaw" (61 : Nat) ({ cls := "FlowNetwork", name := "cutCapacity", desc := "(I)I" } : Jvm.MethodName)) ∈ TB := TB_mem (List.mem_of_getElem? (i := 648) (by decide +kernel)) rfl
theorem tw_594 : (Jvm.Cond.instanceMethod ({ cls := "FlowNetwork", name := "cutCapacity", desc := "(I)I" } : Jvm.MethodName)) ∈ TB := TB_mem (List.mem_of_getElem? (i := 649) (by decide +kernel)) rfl
theorem tw_595 : (Jvm.Cond.selects "FlowNetwork" ({ cls := "FlowNetwork", name := "cutCapacity", desc := "(I)I" } : Jvm.MethodName) ({ cls := "FlowNetwork", name := "cutCapacity", desc := "(I)I" } : Jvm.MethodName)) ∈ TB := TB_mem (List.mem_of_getElem? (i := 650) (by decide +kernel)) rfl
theorem tw_596 : (Jvm.Cond.code ({ cls := "FlowNetwork", name := "cutCapacity", desc := "(I)I" } : Jvm.MethodName) prog_1_method_17_code (2 : Nat) (Option.some Jvm.ClassFile.FieldType.int)) ∈ TB := TB_mem (List.mem_of_getElem? (i := 651) (by decide +kernel)) rfl
theorem tw_597 : (Jvm.Cond.methodLink "FlowNetwork" (141 : Nat) ({ cls := "FlowNetwork", name := "isCut", desc := "(I)Z" } : Jvm.MethodName)) ∈ TB := TB_mem (List.mem_of_getElem? (i := 652) (by decide +kernel)) rfl
theorem tw_599 : (Jvm.Cond.instanceMethod ({ cls := "FlowNetwork", name := "isCut", desc := "(I)Z" } : Jvm.MethodName)) ∈ TB := TB_mem (List.mem_of_getElem? (i := 654) (by decide +kernel)) rfl
theorem tw_600 : (Jvm.Cond.code ({ cls := "FlowNetwork", name := "isCut", desc := "(I)Z" } : Jvm.MethodName) prog_1_method_34_code (2 : Nat) (Option.some Jvm.ClassFile.FieldType.boolean)) ∈ TB := TB_mem (List.mem_of_getElem? (i := 655) (by decide +kernel)) rfl
theorem tn_601 : (Jvm.Cond.methodLinkNest "FlowNetwork" (218 : Nat) ({ cls := "FlowNetwork$Network", name := "allNodes", desc := "()I" } : Jvm.MethodName) "FlowNetwork") ∈ NW := NW_mem (List.mem_of_getElem? (i := 656) (by decide +kernel)) rfl
theorem tw_603 : (Jvm.Cond.instanceMethod ({ cls := "FlowNetwork$Network", name := "allNodes", desc := "()I" } : Jvm.MethodName)) ∈ TB := TB_mem (List.mem_of_getElem? (i := 658) (by decide +kernel)) rfl
theorem tw_604 : (Jvm.Cond.code ({ cls := "FlowNetwork$Network", name := "allNodes", desc := "()I" } : Jvm.MethodName) prog_6_method_6_code (1 : Nat) (Option.some Jvm.ClassFile.FieldType.int)) ∈ TB := TB_mem (List.mem_of_getElem? (i := 659) (by decide +kernel)) rfl
theorem tw_605 : (Jvm.Cond.methodLink "FlowNetwork" (173 : Nat) ({ cls := "FlowNetwork", name := "contains", desc := "(II)Z" } : Jvm.MethodName)) ∈ TB := TB_mem (List.mem_of_getElem? (i := 660) (by decide +kernel)) rfl
theorem tw_607 : (Jvm.Cond.methodLink "FlowNetworkLaw" (159 : Nat) ({ cls := "FlowNetworkLaw", name := "smallestCut", desc := "(LFlowNetwork;[J)I" } : Jvm.MethodName)) ∈ TB := TB_mem (List.mem_of_getElem? (i := 662) (by decide +kernel)) rfl
theorem tw_608 : (Jvm.Cond.static ({ cls := "FlowNetworkLaw", name := "smallestCut", desc := "(LFlowNetwork;[J)I" } : Jvm.MethodName)) ∈ TB := TB_mem (List.mem_of_getElem? (i := 663) (by decide +kernel)) rfl
theorem tw_609 : (Jvm.Cond.codeWith ({ cls := "FlowNetworkLaw", name := "smallestCut", desc := "(LFlowNetwork;[J)I" } : Jvm.MethodName) method_17_code (3 : Nat) (Option.some Jvm.ClassFile.FieldType.int) [((0 : Nat), (8 : Nat), (11 : Nat), (13 : Nat))]) ∈ TB := TB_mem (List.mem_of_getElem? (i := 664) (by decide +kernel)) rfl
theorem tw_610 : (Jvm.Cond.methodLink "FlowNetworkLaw" (64 : Nat) ({ cls := "FlowNetwork", name := "smallestCut", desc := "()I" } : Jvm.MethodName)) ∈ TB := TB_mem (List.mem_of_getElem? (i := 665) (by decide +kernel)) rfl
theorem tw_611 : (Jvm.Cond.instanceMethod ({ cls := "FlowNetwork", name := "smallestCut", desc := "()I" } : Jvm.MethodName)) ∈ TB := TB_mem (List.mem_of_getElem? (i := 666) (by decide +kernel)) rfl
theorem tw_612 : (Jvm.Cond.selects "FlowNetwork" ({ cls := "FlowNetwork", name := "smallestCut", desc := "()I" } : Jvm.MethodName) ({ cls := "FlowNetwork", name := "smallestCut", desc := "()I" } : Jvm.MethodName)) ∈ TB := TB_mem (List.mem_of_getElem? (i := 667) (by decide +kernel)) rfl
theorem tw_613 : (Jvm.Cond.code ({ cls := "FlowNetwork", name := "smallestCut", desc := "()I" } : Jvm.MethodName) prog_1_method_18_code (1 : Nat) (Option.some Jvm.ClassFile.FieldType.int)) ∈ TB := TB_mem (List.mem_of_getElem? (i := 668) (by decide +kernel)) rfl
theorem tw_614 : (Jvm.Cond.methodLink "FlowNetworkLaw" (162 : Nat) ({ cls := "FlowNetworkLaw", name := "greatestCut", desc := "(LFlowNetwork;[J)I" } : Jvm.MethodName)) ∈ TB := TB_mem (List.mem_of_getElem? (i := 669) (by decide +kernel)) rfl
theorem tw_615 : (Jvm.Cond.static ({ cls := "FlowNetworkLaw", name := "greatestCut", desc := "(LFlowNetwork;[J)I" } : Jvm.MethodName)) ∈ TB := TB_mem (List.mem_of_getElem? (i := 670) (by decide +kernel)) rfl
theorem tw_616 : (Jvm.Cond.codeWith ({ cls := "FlowNetworkLaw", name := "greatestCut", desc := "(LFlowNetwork;[J)I" } : Jvm.MethodName) method_18_code (3 : Nat) (Option.some Jvm.ClassFile.FieldType.int) [((0 : Nat), (8 : Nat), (11 : Nat), (13 : Nat))]) ∈ TB := TB_mem (List.mem_of_getElem? (i := 671) (by decide +kernel)) rfl
theorem tw_617 : (Jvm.Cond.methodLink "FlowNetworkLaw" (67 : Nat) ({ cls := "FlowNetwork", name := "greatestCut", desc := "()I" } : Jvm.MethodName)) ∈ TB := TB_mem (List.mem_of_getElem? (i := 672) (by decide +kernel)) rfl
theorem tw_618 : (Jvm.Cond.instanceMethod ({ cls := "FlowNetwork", name := "greatestCut", desc := "()I" } : Jvm.MethodName)) ∈ TB := TB_mem (List.mem_of_getElem? (i := 673) (by decide +kernel)) rfl
theorem tw_619 : (Jvm.Cond.selects "FlowNetwork" ({ cls := "FlowNetwork", name := "greatestCut", desc := "()I" } : Jvm.MethodName) ({ cls := "FlowNetwork", name := "greatestCut", desc := "()I" } : Jvm.MethodName)) ∈ TB := TB_mem (List.mem_of_getElem? (i := 674) (by decide +kernel)) rfl
theorem tw_620 : (Jvm.Cond.code ({ cls := "FlowNetwork", name := "greatestCut", desc := "()I" } : Jvm.MethodName) prog_1_method_19_code (1 : Nat) (Option.some Jvm.ClassFile.FieldType.int)) ∈ TB := TB_mem (List.mem_of_getElem? (i := 675) (by decide +kernel)) rfl
theorem tw_621 : (Jvm.Cond.methodLink "FlowNetworkLaw" (165 : Nat) ({ cls := "FlowNetworkLaw", name := "findCuts", desc := "(LFlowNetwork;[J)I" } : Jvm.MethodName)) ∈ TB := TB_mem (List.mem_of_getElem? (i := 676) (by decide +kernel)) rfl
theorem tw_622 : (Jvm.Cond.static ({ cls := "FlowNetworkLaw", name := "findCuts", desc := "(LFlowNetwork;[J)I" } : Jvm.MethodName)) ∈ TB := TB_mem (List.mem_of_getElem? (i := 677) (by decide +kernel)) rfl
theorem tw_623 : (Jvm.Cond.codeWith ({ cls := "FlowNetworkLaw", name := "findCuts", desc := "(LFlowNetwork;[J)I" } : Jvm.MethodName) method_19_code (3 : Nat) (Option.some Jvm.ClassFile.FieldType.int) [((0 : Nat), (8 : Nat), (11 : Nat), (13 : Nat))]) ∈ TB := TB_mem (List.mem_of_getElem? (i := 678) (by decide +kernel)) rfl
theorem tw_624 : (Jvm.Cond.methodLink "FlowNetworkLaw" (70 : Nat) ({ cls := "FlowNetwork", name := "findCuts", desc := "()I" } : Jvm.MethodName)) ∈ TB := TB_mem (List.mem_of_getElem? (i := 679) (by decide +kernel)) rfl
theorem tw_625 : (Jvm.Cond.instanceMethod ({ cls := "FlowNetwork", name := "findCuts", desc := "()I" } : Jvm.MethodName)) ∈ TB := TB_mem (List.mem_of_getElem? (i := 680) (by decide +kernel)) rfl
theorem tw_626 : (Jvm.Cond.selects "FlowNetwork" ({ cls := "FlowNetwork", name := "findCuts", desc := "()I" } : Jvm.MethodName) ({ cls := "FlowNetwork", name := "findCuts", desc := "()I" } : Jvm.MethodName)) ∈ TB := TB_mem (List.mem_of_getElem? (i := 681) (by decide +kernel)) rfl
theorem tw_627 : (Jvm.Cond.code ({ cls := "FlowNetwork", name := "findCuts", desc := "()I" } : Jvm.MethodName) prog_1_method_20_code (1 : Nat) (Option.some Jvm.ClassFile.FieldType.int)) ∈ TB := TB_mem (List.mem_of_getElem? (i := 682) (by decide +kernel)) rfl
theorem tn_628 : (Jvm.Cond.methodLinkNest "FlowNetwork" (156 : Nat) ({ cls := "FlowNetwork$Cuts", name := "find", desc := "(LFlowNetwork$MaximumFlow;)V" } : Jvm.MethodName) "FlowNetwork") ∈ NW := NW_mem (List.mem_of_getElem? (i := 683) (by decide +kernel)) rfl
theorem tw_630 : (Jvm.Cond.instanceMethod ({ cls := "FlowNetwork$Cuts", name := "find", desc := "(LFlowNetwork$MaximumFlow;)V" } : Jvm.MethodName)) ∈ TB := TB_mem (List.mem_of_getElem? (i := 685) (by decide +kernel)) rfl
theorem tw_631 : (Jvm.Cond.code ({ cls := "FlowNetwork$Cuts", name := "find", desc := "(LFlowNetwork$MaximumFlow;)V" } : Jvm.MethodName) prog_2_method_2_code (4 : Nat) (Option.none : Option Jvm.ClassFile.FieldType)) ∈ TB := TB_mem (List.mem_of_getElem? (i := 686) (by decide +kernel)) rfl
theorem tn_632 : (Jvm.Cond.methodLinkNest "FlowNetwork$Cuts" (34 : Nat) ({ cls := "FlowNetwork$Flow", name := "reachableFrom", desc := "(I)I" } : Jvm.MethodName) "FlowNetwork") ∈ NW := NW_mem (List.mem_of_getElem? (i := 687) (by decide +kernel)) rfl
theorem tw_633 : (Jvm.Cond.methodLink "FlowNetwork$Cuts" (49 : Nat) ({ cls := "FlowNetwork$Cuts", name := "nextAfter", desc := "(III)I" } : Jvm.MethodName)) ∈ TB := TB_mem (List.mem_of_getElem? (i := 688) (by decide +kernel)) rfl
theorem tw_635 : (Jvm.Cond.instanceMethod ({ cls := "FlowNetwork$Cuts", name := "nextAfter", desc := "(III)I" } : Jvm.MethodName)) ∈ TB := TB_mem (List.mem_of_getElem? (i := 690) (by decide +kernel)) rfl
theorem tw_636 : (Jvm.Cond.code ({ cls := "FlowNetwork$Cuts", name := "nextAfter", desc := "(III)I" } : Jvm.MethodName) prog_2_method_3_code (9 : Nat) (Option.some Jvm.ClassFile.FieldType.int)) ∈ TB := TB_mem (List.mem_of_getElem? (i := 691) (by decide +kernel)) rfl
theorem tw_637 : (Jvm.Cond.methodLink "FlowNetwork$Cuts" (53 : Nat) ({ cls := "FlowNetwork$Cuts", name := "withReachable", desc := "(II)I" } : Jvm.MethodName)) ∈ TB := TB_mem (List.mem_of_getElem? (i := 692) (by decide +kernel)) rfl
theorem tw_639 : (Jvm.Cond.instanceMethod ({ cls := "FlowNetwork$Cuts", name := "withReachable", desc := "(II)I" } : Jvm.MethodName)) ∈ TB := TB_mem (List.mem_of_getElem? (i := 694) (by decide +kernel)) rfl
theorem tw_640 : (Jvm.Cond.code ({ cls := "FlowNetwork$Cuts", name := "withReachable", desc := "(II)I" } : Jvm.MethodName) prog_2_method_4_code (5 : Nat) (Option.some Jvm.ClassFile.FieldType.int)) ∈ TB := TB_mem (List.mem_of_getElem? (i := 695) (by decide +kernel)) rfl
theorem tn_641 : (Jvm.Cond.methodLinkNest "FlowNetwork$Cuts" (57 : Nat) ({ cls := "FlowNetwork", name := "contains", desc := "(II)Z" } : Jvm.MethodName) "FlowNetwork") ∈ NW := NW_mem (List.mem_of_getElem? (i := 696) (by decide +kernel)) rfl
theorem tw_642 : (Jvm.Cond.methodLink "FlowNetworkLaw" (168 : Nat) ({ cls := "FlowNetworkLaw", name := "cut", desc := "(LFlowNetwork;I[J)I" } : Jvm.MethodName)) ∈ TB := TB_mem (List.mem_of_getElem? (i := 697) (by decide +kernel)) rfl
theorem tw_643 : (Jvm.Cond.static ({ cls := "FlowNetworkLaw", name := "cut", desc := "(LFlowNetwork;I[J)I" } : Jvm.MethodName)) ∈ TB := TB_mem (List.mem_of_getElem? (i := 698) (by decide +kernel)) rfl
theorem tw_644 : (Jvm.Cond.codeWith ({ cls := "FlowNetworkLaw", name := "cut", desc := "(LFlowNetwork;I[J)I" } : Jvm.MethodName) method_20_code (4 : Nat) (Option.some Jvm.ClassFile.FieldType.int) [((0 : Nat), (9 : Nat), (12 : Nat), (19 : Nat))]) ∈ TB := TB_mem (List.mem_of_getElem? (i := 699) (by decide +kernel)) rfl
theorem tw_645 : (Jvm.Cond.methodLink "FlowNetworkLaw" (73 : Nat) ({ cls := "FlowNetwork", name := "cut", desc := "(I)I" } : Jvm.MethodName)) ∈ TB := TB_mem (List.mem_of_getElem? (i := 700) (by decide +kernel)) rfl
theorem tw_646 : (Jvm.Cond.instanceMethod ({ cls := "FlowNetwork", name := "cut", desc := "(I)I" } : Jvm.MethodName)) ∈ TB := TB_mem (List.mem_of_getElem? (i := 701) (by decide +kernel)) rfl
theorem tw_647 : (Jvm.Cond.selects "FlowNetwork" ({ cls := "FlowNetwork", name := "cut", desc := "(I)I" } : Jvm.MethodName) ({ cls := "FlowNetwork", name := "cut", desc := "(I)I" } : Jvm.MethodName)) ∈ TB := TB_mem (List.mem_of_getElem? (i := 702) (by decide +kernel)) rfl
theorem tw_648 : (Jvm.Cond.code ({ cls := "FlowNetwork", name := "cut", desc := "(I)I" } : Jvm.MethodName) prog_1_method_21_code (2 : Nat) (Option.some Jvm.ClassFile.FieldType.int)) ∈ TB := TB_mem (List.mem_of_getElem? (i := 703) (by decide +kernel)) rfl
theorem tw_650 : (Jvm.Cond.methodLink "FlowNetworkLaw" (171 : Nat) ({ cls := "FlowNetworkLaw", name := "isBottleneck", desc := "(LFlowNetwork;I[J)I" } : Jvm.MethodName)) ∈ TB := TB_mem (List.mem_of_getElem? (i := 705) (by decide +kernel)) rfl
theorem tw_651 : (Jvm.Cond.static ({ cls := "FlowNetworkLaw", name := "isBottleneck", desc := "(LFlowNetwork;I[J)I" } : Jvm.MethodName)) ∈ TB := TB_mem (List.mem_of_getElem? (i := 706) (by decide +kernel)) rfl
theorem tw_652 : (Jvm.Cond.codeWith ({ cls := "FlowNetworkLaw", name := "isBottleneck", desc := "(LFlowNetwork;I[J)I" } : Jvm.MethodName) method_21_code (4 : Nat) (Option.some Jvm.ClassFile.FieldType.int) [((0 : Nat), (16 : Nat), (19 : Nat), (13 : Nat)), ((0 : Nat), (16 : Nat), (22 : Nat), (19 : Nat))]) ∈ TB := TB_mem (List.mem_of_getElem? (i := 707) (by decide +kernel)) rfl
theorem tw_653 : (Jvm.Cond.methodLink "FlowNetworkLaw" (76 : Nat) ({ cls := "FlowNetwork", name := "isBottleneck", desc := "(I)Z" } : Jvm.MethodName)) ∈ TB := TB_mem (List.mem_of_getElem? (i := 708) (by decide +kernel)) rfl
theorem tw_654 : (Jvm.Cond.instanceMethod ({ cls := "FlowNetwork", name := "isBottleneck", desc := "(I)Z" } : Jvm.MethodName)) ∈ TB := TB_mem (List.mem_of_getElem? (i := 709) (by decide +kernel)) rfl
theorem tw_655 : (Jvm.Cond.selects "FlowNetwork" ({ cls := "FlowNetwork", name := "isBottleneck", desc := "(I)Z" } : Jvm.MethodName) ({ cls := "FlowNetwork", name := "isBottleneck", desc := "(I)Z" } : Jvm.MethodName)) ∈ TB := TB_mem (List.mem_of_getElem? (i := 710) (by decide +kernel)) rfl
theorem tw_656 : (Jvm.Cond.code ({ cls := "FlowNetwork", name := "isBottleneck", desc := "(I)Z" } : Jvm.MethodName) prog_1_method_22_code (3 : Nat) (Option.some Jvm.ClassFile.FieldType.boolean)) ∈ TB := TB_mem (List.mem_of_getElem? (i := 711) (by decide +kernel)) rfl
theorem tn_657 : (Jvm.Cond.methodLinkNest "FlowNetwork" (170 : Nat) ({ cls := "FlowNetwork$Flow", name := "reachableFrom", desc := "(I)I" } : Jvm.MethodName) "FlowNetwork") ∈ NW := NW_mem (List.mem_of_getElem? (i := 712) (by decide +kernel)) rfl
theorem tw_658 : (Jvm.Cond.methodLink "FlowNetworkLaw" (174 : Nat) ({ cls := "FlowNetworkLaw", name := "isLimiting", desc := "(LFlowNetwork;I[J)I" } : Jvm.MethodName)) ∈ TB := TB_mem (List.mem_of_getElem? (i := 713) (by decide +kernel)) rfl
theorem tw_659 : (Jvm.Cond.static ({ cls := "FlowNetworkLaw", name := "isLimiting", desc := "(LFlowNetwork;I[J)I" } : Jvm.MethodName)) ∈ TB := TB_mem (List.mem_of_getElem? (i := 714) (by decide +kernel)) rfl
theorem tw_660 : (Jvm.Cond.codeWith ({ cls := "FlowNetworkLaw", name := "isLimiting", desc := "(LFlowNetwork;I[J)I" } : Jvm.MethodName) method_22_code (4 : Nat) (Option.some Jvm.ClassFile.FieldType.int) [((0 : Nat), (16 : Nat), (19 : Nat), (13 : Nat)), ((0 : Nat), (16 : Nat), (22 : Nat), (19 : Nat))]) ∈ TB := TB_mem (List.mem_of_getElem? (i := 715) (by decide +kernel)) rfl
theorem tw_661 : (Jvm.Cond.methodLink "FlowNetworkLaw" (80 : Nat) ({ cls := "FlowNetwork", name := "isLimiting", desc := "(I)Z" } : Jvm.MethodName)) ∈ TB := TB_mem (List.mem_of_getElem? (i := 716) (by decide +kernel)) rfl
theorem tw_662 : (Jvm.Cond.instanceMethod ({ cls := "FlowNetwork", name := "isLimiting", desc := "(I)Z" } : Jvm.MethodName)) ∈ TB := TB_mem (List.mem_of_getElem? (i := 717) (by decide +kernel)) rfl
theorem tw_663 : (Jvm.Cond.selects "FlowNetwork" ({ cls := "FlowNetwork", name := "isLimiting", desc := "(I)Z" } : Jvm.MethodName) ({ cls := "FlowNetwork", name := "isLimiting", desc := "(I)Z" } : Jvm.MethodName)) ∈ TB := TB_mem (List.mem_of_getElem? (i := 718) (by decide +kernel)) rfl
theorem tw_664 : (Jvm.Cond.code ({ cls := "FlowNetwork", name := "isLimiting", desc := "(I)Z" } : Jvm.MethodName) prog_1_method_23_code (2 : Nat) (Option.some Jvm.ClassFile.FieldType.boolean)) ∈ TB := TB_mem (List.mem_of_getElem? (i := 719) (by decide +kernel)) rfl
theorem tw_665 : (Jvm.Cond.methodLink "FlowNetworkLaw" (177 : Nat) ({ cls := "FlowNetworkLaw", name := "headroom", desc := "(LFlowNetwork;I[J)I" } : Jvm.MethodName)) ∈ TB := TB_mem (List.mem_of_getElem? (i := 720) (by decide +kernel)) rfl
theorem tw_666 : (Jvm.Cond.static ({ cls := "FlowNetworkLaw", name := "headroom", desc := "(LFlowNetwork;I[J)I" } : Jvm.MethodName)) ∈ TB := TB_mem (List.mem_of_getElem? (i := 721) (by decide +kernel)) rfl
theorem tw_667 : (Jvm.Cond.codeWith ({ cls := "FlowNetworkLaw", name := "headroom", desc := "(LFlowNetwork;I[J)I" } : Jvm.MethodName) method_23_code (4 : Nat) (Option.some Jvm.ClassFile.FieldType.int) [((0 : Nat), (9 : Nat), (12 : Nat), (13 : Nat)), ((0 : Nat), (9 : Nat), (15 : Nat), (19 : Nat))]) ∈ TB := TB_mem (List.mem_of_getElem? (i := 722) (by decide +kernel)) rfl
theorem tw_668 : (Jvm.Cond.methodLink "FlowNetworkLaw" (83 : Nat) ({ cls := "FlowNetwork", name := "headroom", desc := "(I)I" } : Jvm.MethodName)) ∈ TB := TB_mem (List.mem_of_getElem? (i := 723) (by decide +kernel)) rfl
theorem tw_669 : (Jvm.Cond.instanceMethod ({ cls := "FlowNetwork", name := "headroom", desc := "(I)I" } : Jvm.MethodName)) ∈ TB := TB_mem (List.mem_of_getElem? (i := 724) (by decide +kernel)) rfl
theorem tw_670 : (Jvm.Cond.selects "FlowNetwork" ({ cls := "FlowNetwork", name := "headroom", desc := "(I)I" } : Jvm.MethodName) ({ cls := "FlowNetwork", name := "headroom", desc := "(I)I" } : Jvm.MethodName)) ∈ TB := TB_mem (List.mem_of_getElem? (i := 725) (by decide +kernel)) rfl
theorem tw_671 : (Jvm.Cond.code ({ cls := "FlowNetwork", name := "headroom", desc := "(I)I" } : Jvm.MethodName) prog_1_method_24_code (2 : Nat) (Option.some Jvm.ClassFile.FieldType.int)) ∈ TB := TB_mem (List.mem_of_getElem? (i := 726) (by decide +kernel)) rfl
theorem tw_672 : (Jvm.Cond.constant "FlowNetwork" (179 : Nat) (100000000 : Int32)) ∈ TB := TB_mem (List.mem_of_getElem? (i := 727) (by decide +kernel)) rfl
theorem tw_673 : (Jvm.Cond.methodLink "FlowNetworkLaw" (180 : Nat) ({ cls := "FlowNetworkLaw", name := "push", desc := "(LFlowNetwork;[J)I" } : Jvm.MethodName)) ∈ TB := TB_mem (List.mem_of_getElem? (i := 728) (by decide +kernel)) rfl
theorem tw_674 : (Jvm.Cond.static ({ cls := "FlowNetworkLaw", name := "push", desc := "(LFlowNetwork;[J)I" } : Jvm.MethodName)) ∈ TB := TB_mem (List.mem_of_getElem? (i := 729) (by decide +kernel)) rfl
theorem tw_675 : (Jvm.Cond.codeWith ({ cls := "FlowNetworkLaw", name := "push", desc := "(LFlowNetwork;[J)I" } : Jvm.MethodName) method_24_code (3 : Nat) (Option.some Jvm.ClassFile.FieldType.int) [((0 : Nat), (8 : Nat), (11 : Nat), (13 : Nat))]) ∈ TB := TB_mem (List.mem_of_getElem? (i := 730) (by decide +kernel)) rfl
theorem tw_676 : (Jvm.Cond.methodLink "FlowNetworkLaw" (86 : Nat) ({ cls := "FlowNetwork", name := "push", desc := "()I" } : Jvm.MethodName)) ∈ TB := TB_mem (List.mem_of_getElem? (i := 731) (by decide +kernel)) rfl
theorem tw_677 : (Jvm.Cond.instanceMethod ({ cls := "FlowNetwork", name := "push", desc := "()I" } : Jvm.MethodName)) ∈ TB := TB_mem (List.mem_of_getElem? (i := 732) (by decide +kernel)) rfl
theorem tw_678 : (Jvm.Cond.selects "FlowNetwork" ({ cls := "FlowNetwork", name := "push", desc := "()I" } : Jvm.MethodName) ({ cls := "FlowNetwork", name := "push", desc := "()I" } : Jvm.MethodName)) ∈ TB := TB_mem (List.mem_of_getElem? (i := 733) (by decide +kernel)) rfl
theorem tw_679 : (Jvm.Cond.code ({ cls := "FlowNetwork", name := "push", desc := "()I" } : Jvm.MethodName) prog_1_method_25_code (1 : Nat) (Option.some Jvm.ClassFile.FieldType.int)) ∈ TB := TB_mem (List.mem_of_getElem? (i := 734) (by decide +kernel)) rfl
theorem tn_681 : (Jvm.Cond.methodLinkNest "FlowNetwork" (183 : Nat) ({ cls := "FlowNetwork$Levels", name := "store", desc := "(LFlowNetwork$MaximumFlow;)V" } : Jvm.MethodName) "FlowNetwork") ∈ NW := NW_mem (List.mem_of_getElem? (i := 736) (by decide +kernel)) rfl
theorem tw_683 : (Jvm.Cond.instanceMethod ({ cls := "FlowNetwork$Levels", name := "store", desc := "(LFlowNetwork$MaximumFlow;)V" } : Jvm.MethodName)) ∈ TB := TB_mem (List.mem_of_getElem? (i := 738) (by decide +kernel)) rfl
theorem tw_684 : (Jvm.Cond.code ({ cls := "FlowNetwork$Levels", name := "store", desc := "(LFlowNetwork$MaximumFlow;)V" } : Jvm.MethodName) prog_4_method_2_code (2 : Nat) (Option.none : Option Jvm.ClassFile.FieldType)) ∈ TB := TB_mem (List.mem_of_getElem? (i := 739) (by decide +kernel)) rfl
theorem tw_685 : (Jvm.Cond.methodLink "FlowNetwork$Levels" (37 : Nat) ({ cls := "java/lang/System", name := "arraycopy", desc := "(Ljava/lang/Object;ILjava/lang/Object;II)V" } : Jvm.MethodName)) ∈ TB := TB_mem (List.mem_of_getElem? (i := 740) (by decide +kernel)) rfl
theorem tw_686 : (Jvm.Cond.methodLink "FlowNetworkLaw" (183 : Nat) ({ cls := "FlowNetworkLaw", name := "pop", desc := "(LFlowNetwork;[J)I" } : Jvm.MethodName)) ∈ TB := TB_mem (List.mem_of_getElem? (i := 741) (by decide +kernel)) rfl
theorem tw_687 : (Jvm.Cond.static ({ cls := "FlowNetworkLaw", name := "pop", desc := "(LFlowNetwork;[J)I" } : Jvm.MethodName)) ∈ TB := TB_mem (List.mem_of_getElem? (i := 742) (by decide +kernel)) rfl
theorem tw_688 : (Jvm.Cond.codeWith ({ cls := "FlowNetworkLaw", name := "pop", desc := "(LFlowNetwork;[J)I" } : Jvm.MethodName) method_25_code (3 : Nat) (Option.some Jvm.ClassFile.FieldType.int) [((0 : Nat), (8 : Nat), (11 : Nat), (13 : Nat))]) ∈ TB := TB_mem (List.mem_of_getElem? (i := 743) (by decide +kernel)) rfl
theorem tw_689 : (Jvm.Cond.methodLink "FlowNetworkLaw" (89 : Nat) ({ cls := "FlowNetwork", name := "pop", desc := "()I" } : Jvm.MethodName)) ∈ TB := TB_mem (List.mem_of_getElem? (i := 744) (by decide +kernel)) rfl
theorem tw_690 : (Jvm.Cond.instanceMethod ({ cls := "FlowNetwork", name := "pop", desc := "()I" } : Jvm.MethodName)) ∈ TB := TB_mem (List.mem_of_getElem? (i := 745) (by decide +kernel)) rfl
theorem tw_691 : (Jvm.Cond.selects "FlowNetwork" ({ cls := "FlowNetwork", name := "pop", desc := "()I" } : Jvm.MethodName) ({ cls := "FlowNetwork", name := "pop", desc := "()I" } : Jvm.MethodName)) ∈ TB := TB_mem (List.mem_of_getElem? (i := 746) (by decide +kernel)) rfl
theorem tw_692 : (Jvm.Cond.code ({ cls := "FlowNetwork", name := "pop", desc := "()I" } : Jvm.MethodName) prog_1_method_26_code (3 : Nat) (Option.some Jvm.ClassFile.FieldType.int)) ∈ TB := TB_mem (List.mem_of_getElem? (i := 747) (by decide +kernel)) rfl
theorem tw_694 : (Jvm.Cond.classLink "FlowNetworkLaw" (93 : Nat) "FlowNetworkModel") ∈ TB := TB_mem (List.mem_of_getElem? (i := 749) (by decide +kernel)) rfl
theorem tw_695 : (Jvm.Cond.instantiable "FlowNetworkModel" (20 : Nat)) ∈ TB := TB_mem (List.mem_of_getElem? (i := 750) (by decide +kernel)) rfl
theorem tw_696 : (Jvm.Cond.methodLink "FlowNetworkLaw" (95 : Nat) ({ cls := "FlowNetworkModel", name := "<init>", desc := "()V" } : Jvm.MethodName)) ∈ TB := TB_mem (List.mem_of_getElem? (i := 751) (by decide +kernel)) rfl
theorem tw_697 : (Jvm.Cond.instanceMethod ({ cls := "FlowNetworkModel", name := "<init>", desc := "()V" } : Jvm.MethodName)) ∈ TB := TB_mem (List.mem_of_getElem? (i := 752) (by decide +kernel)) rfl
theorem tw_698 : (Jvm.Cond.code ({ cls := "FlowNetworkModel", name := "<init>", desc := "()V" } : Jvm.MethodName) prog_9_method_1_code (1 : Nat) (Option.none : Option Jvm.ClassFile.FieldType)) ∈ TB := TB_mem (List.mem_of_getElem? (i := 753) (by decide +kernel)) rfl
theorem tw_699 : (Jvm.Cond.methodLink "FlowNetworkModel" (1 : Nat) ({ cls := "java/lang/Object", name := "<init>", desc := "()V" } : Jvm.MethodName)) ∈ TB := TB_mem (List.mem_of_getElem? (i := 754) (by decide +kernel)) rfl
theorem tw_700 : (Jvm.Cond.fieldLink "FlowNetworkModel" (56 : Nat) "FlowNetworkModel" "thrown" "I") ∈ TB := TB_mem (List.mem_of_getElem? (i := 755) (by decide +kernel)) rfl
theorem tw_701 : (Jvm.Cond.fieldLink "FlowNetworkModel" (59 : Nat) "FlowNetworkModel" "nodes" "I") ∈ TB := TB_mem (List.mem_of_getElem? (i := 756) (by decide +kernel)) rfl
theorem tw_702 : (Jvm.Cond.fieldLink "FlowNetworkModel" (62 : Nat) "FlowNetworkModel" "arcs" "I") ∈ TB := TB_mem (List.mem_of_getElem? (i := 757) (by decide +kernel)) rfl
theorem tw_703 : (Jvm.Cond.fieldLink "FlowNetworkModel" (9 : Nat) "FlowNetworkModel" "tails" "[I") ∈ TB := TB_mem (List.mem_of_getElem? (i := 758) (by decide +kernel)) rfl
theorem tw_704 : (Jvm.Cond.fieldLink "FlowNetworkModel" (13 : Nat) "FlowNetworkModel" "heads" "[I") ∈ TB := TB_mem (List.mem_of_getElem? (i := 759) (by decide +kernel)) rfl
theorem tw_705 : (Jvm.Cond.fieldLink "FlowNetworkModel" (16 : Nat) "FlowNetworkModel" "capacities" "[I") ∈ TB := TB_mem (List.mem_of_getElem? (i := 760) (by decide +kernel)) rfl
theorem tw_706 : (Jvm.Cond.fieldLink "FlowNetworkModel" (19 : Nat) "FlowNetworkModel" "source" "I") ∈ TB := TB_mem (List.mem_of_getElem? (i := 761) (by decide +kernel)) rfl
theorem tw_707 : (Jvm.Cond.fieldLink "FlowNetworkModel" (23 : Nat) "FlowNetworkModel" "sink" "I") ∈ TB := TB_mem (List.mem_of_getElem? (i := 762) (by decide +kernel)) rfl
theorem tw_708 : (Jvm.Cond.fieldLink "FlowNetworkModel" (146 : Nat) "FlowNetworkModel" "levels" "I") ∈ TB := TB_mem (List.mem_of_getElem? (i := 763) (by decide +kernel)) rfl
theorem tw_709 : (Jvm.Cond.fieldLink "FlowNetworkModel" (26 : Nat) "FlowNetworkModel" "levelArcs" "[I") ∈ TB := TB_mem (List.mem_of_getElem? (i := 764) (by decide +kernel)) rfl
theorem tw_710 : (Jvm.Cond.fieldLink "FlowNetworkModel" (29 : Nat) "FlowNetworkModel" "levelCapacities" "[I") ∈ TB := TB_mem (List.mem_of_getElem? (i := 765) (by decide +kernel)) rfl
theorem tw_711 : (Jvm.Cond.fieldLink "FlowNetworkModel" (32 : Nat) "FlowNetworkModel" "levelSources" "[I") ∈ TB := TB_mem (List.mem_of_getElem? (i := 766) (by decide +kernel)) rfl
theorem tw_712 : (Jvm.Cond.fieldLink "FlowNetworkModel" (35 : Nat) "FlowNetworkModel" "levelSinks" "[I") ∈ TB := TB_mem (List.mem_of_getElem? (i := 767) (by decide +kernel)) rfl
theorem tw_713 : (Jvm.Cond.fieldLink "FlowNetworkModel" (38 : Nat) "FlowNetworkModel" "cuts" "[I") ∈ TB := TB_mem (List.mem_of_getElem? (i := 768) (by decide +kernel)) rfl
theorem tw_714 : (Jvm.Cond.fieldLink "FlowNetworkModel" (140 : Nat) "FlowNetworkModel" "cutMany" "I") ∈ TB := TB_mem (List.mem_of_getElem? (i := 769) (by decide +kernel)) rfl
theorem tw_715 : (Jvm.Cond.fieldLink "FlowNetworkModel" (41 : Nat) "FlowNetworkModel" "there" "[I") ∈ TB := TB_mem (List.mem_of_getElem? (i := 770) (by decide +kernel)) rfl
theorem tw_716 : (Jvm.Cond.fieldLink "FlowNetworkModel" (44 : Nat) "FlowNetworkModel" "back" "[I") ∈ TB := TB_mem (List.mem_of_getElem? (i := 771) (by decide +kernel)) rfl
theorem tw_717 : (Jvm.Cond.fieldLink "FlowNetworkModel" (47 : Nat) "FlowNetworkModel" "cameBy" "[I") ∈ TB := TB_mem (List.mem_of_getElem? (i := 772) (by decide +kernel)) rfl
theorem tw_718 : (Jvm.Cond.fieldLink "FlowNetworkModel" (50 : Nat) "FlowNetworkModel" "row" "[I") ∈ TB := TB_mem (List.mem_of_getElem? (i := 773) (by decide +kernel)) rfl
theorem tw_719 : (Jvm.Cond.fieldLink "FlowNetworkModel" (53 : Nat) "FlowNetworkModel" "reached" "[I") ∈ TB := TB_mem (List.mem_of_getElem? (i := 774) (by decide +kernel)) rfl
theorem tw_720 : (Jvm.Cond.lays "FlowNetworkModel" "FlowNetworkModel" "thrown" "I") ∈ TB := TB_mem (List.mem_of_getElem? (i := 775) (by decide +kernel)) rfl
theorem tw_721 : (Jvm.Cond.soleField "FlowNetworkModel" "thrown") ∈ TB := TB_mem (List.mem_of_getElem? (i := 776) (by decide +kernel)) rfl
theorem tw_722 : (Jvm.Cond.lays "FlowNetworkModel" "FlowNetworkModel" "nodes" "I") ∈ TB := TB_mem (List.mem_of_getElem? (i := 777) (by decide +kernel)) rfl
theorem tw_723 : (Jvm.Cond.soleField "FlowNetworkModel" "nodes") ∈ TB := TB_mem (List.mem_of_getElem? (i := 778) (by decide +kernel)) rfl
theorem tw_724 : (Jvm.Cond.lays "FlowNetworkModel" "FlowNetworkModel" "arcs" "I") ∈ TB := TB_mem (List.mem_of_getElem? (i := 779) (by decide +kernel)) rfl
theorem tw_725 : (Jvm.Cond.soleField "FlowNetworkModel" "arcs") ∈ TB := TB_mem (List.mem_of_getElem? (i := 780) (by decide +kernel)) rfl
theorem tw_726 : (Jvm.Cond.laysFinal "FlowNetworkModel" "FlowNetworkModel" "tails" "[I") ∈ TB := TB_mem (List.mem_of_getElem? (i := 781) (by decide +kernel)) rfl
theorem tw_727 : (Jvm.Cond.soleField "FlowNetworkModel" "tails") ∈ TB := TB_mem (List.mem_of_getElem? (i := 782) (by decide +kernel)) rfl
theorem tw_728 : (Jvm.Cond.laysFinal "FlowNetworkModel" "FlowNetworkModel" "heads" "[I") ∈ TB := TB_mem (List.mem_of_getElem? (i := 783) (by decide +kernel)) rfl
theorem tw_729 : (Jvm.Cond.soleField "FlowNetworkModel" "heads") ∈ TB := TB_mem (List.mem_of_getElem? (i := 784) (by decide +kernel)) rfl
theorem tw_730 : (Jvm.Cond.laysFinal "FlowNetworkModel" "FlowNetworkModel" "capacities" "[I") ∈ TB := TB_mem (List.mem_of_getElem? (i := 785) (by decide +kernel)) rfl
theorem tw_731 : (Jvm.Cond.soleField "FlowNetworkModel" "capacities") ∈ TB := TB_mem (List.mem_of_getElem? (i := 786) (by decide +kernel)) rfl
theorem tw_732 : (Jvm.Cond.lays "FlowNetworkModel" "FlowNetworkModel" "source" "I") ∈ TB := TB_mem (List.mem_of_getElem? (i := 787) (by decide +kernel)) rfl
theorem tw_733 : (Jvm.Cond.soleField "FlowNetworkModel" "source") ∈ TB := TB_mem (List.mem_of_getElem? (i := 788) (by decide +kernel)) rfl
theorem tw_734 : (Jvm.Cond.lays "FlowNetworkModel" "FlowNetworkModel" "sink" "I") ∈ TB := TB_mem (List.mem_of_getElem? (i := 789) (by decide +kernel)) rfl
theorem tw_735 : (Jvm.Cond.soleField "FlowNetworkModel" "sink") ∈ TB := TB_mem (List.mem_of_getElem? (i := 790) (by decide +kernel)) rfl
theorem tw_736 : (Jvm.Cond.lays "FlowNetworkModel" "FlowNetworkModel" "levels" "I") ∈ TB := TB_mem (List.mem_of_getElem? (i := 791) (by decide +kernel)) rfl
theorem tw_737 : (Jvm.Cond.soleField "FlowNetworkModel" "levels") ∈ TB := TB_mem (List.mem_of_getElem? (i := 792) (by decide +kernel)) rfl
theorem tw_738 : (Jvm.Cond.laysFinal "FlowNetworkModel" "FlowNetworkModel" "levelArcs" "[I") ∈ TB := TB_mem (List.mem_of_getElem? (i := 793) (by decide +kernel)) rfl
theorem tw_739 : (Jvm.Cond.soleField "FlowNetworkModel" "levelArcs") ∈ TB := TB_mem (List.mem_of_getElem? (i := 794) (by decide +kernel)) rfl
theorem tw_740 : (Jvm.Cond.laysFinal "FlowNetworkModel" "FlowNetworkModel" "levelCapacities" "[I") ∈ TB := TB_mem (List.mem_of_getElem? (i := 795) (by decide +kernel)) rfl
theorem tw_741 : (Jvm.Cond.soleField "FlowNetworkModel" "levelCapacities") ∈ TB := TB_mem (List.mem_of_getElem? (i := 796) (by decide +kernel)) rfl
theorem tw_742 : (Jvm.Cond.laysFinal "FlowNetworkModel" "FlowNetworkModel" "levelSources" "[I") ∈ TB := TB_mem (List.mem_of_getElem? (i := 797) (by decide +kernel)) rfl
theorem tw_743 : (Jvm.Cond.soleField "FlowNetworkModel" "levelSources") ∈ TB := TB_mem (List.mem_of_getElem? (i := 798) (by decide +kernel)) rfl
theorem tw_744 : (Jvm.Cond.laysFinal "FlowNetworkModel" "FlowNetworkModel" "levelSinks" "[I") ∈ TB := TB_mem (List.mem_of_getElem? (i := 799) (by decide +kernel)) rfl
theorem tw_745 : (Jvm.Cond.soleField "FlowNetworkModel" "levelSinks") ∈ TB := TB_mem (List.mem_of_getElem? (i := 800) (by decide +kernel)) rfl
theorem tw_746 : (Jvm.Cond.laysFinal "FlowNetworkModel" "FlowNetworkModel" "cuts" "[I") ∈ TB := TB_mem (List.mem_of_getElem? (i := 801) (by decide +kernel)) rfl
theorem tw_747 : (Jvm.Cond.soleField "FlowNetworkModel" "cuts") ∈ TB := TB_mem (List.mem_of_getElem? (i := 802) (by decide +kernel)) rfl
theorem tw_748 : (Jvm.Cond.lays "FlowNetworkModel" "FlowNetworkModel" "cutMany" "I") ∈ TB := TB_mem (List.mem_of_getElem? (i := 803) (by decide +kernel)) rfl
theorem tw_749 : (Jvm.Cond.soleField "FlowNetworkModel" "cutMany") ∈ TB := TB_mem (List.mem_of_getElem? (i := 804) (by decide +kernel)) rfl
theorem tw_750 : (Jvm.Cond.laysFinal "FlowNetworkModel" "FlowNetworkModel" "there" "[I") ∈ TB := TB_mem (List.mem_of_getElem? (i := 805) (by decide +kernel)) rfl
theorem tw_751 : (Jvm.Cond.soleField "FlowNetworkModel" "there") ∈ TB := TB_mem (List.mem_of_getElem? (i := 806) (by decide +kernel)) rfl
theorem tw_752 : (Jvm.Cond.laysFinal "FlowNetworkModel" "FlowNetworkModel" "back" "[I") ∈ TB := TB_mem (List.mem_of_getElem? (i := 807) (by decide +kernel)) rfl
theorem tw_753 : (Jvm.Cond.soleField "FlowNetworkModel" "back") ∈ TB := TB_mem (List.mem_of_getElem? (i := 808) (by decide +kernel)) rfl
theorem tw_754 : (Jvm.Cond.laysFinal "FlowNetworkModel" "FlowNetworkModel" "cameBy" "[I") ∈ TB := TB_mem (List.mem_of_getElem? (i := 809) (by decide +kernel)) rfl
theorem tw_755 : (Jvm.Cond.soleField "FlowNetworkModel" "cameBy") ∈ TB := TB_mem (List.mem_of_getElem? (i := 810) (by decide +kernel)) rfl
theorem tw_756 : (Jvm.Cond.laysFinal "FlowNetworkModel" "FlowNetworkModel" "row" "[I") ∈ TB := TB_mem (List.mem_of_getElem? (i := 811) (by decide +kernel)) rfl
theorem tw_757 : (Jvm.Cond.soleField "FlowNetworkModel" "row") ∈ TB := TB_mem (List.mem_of_getElem? (i := 812) (by decide +kernel)) rfl
theorem tw_758 : (Jvm.Cond.laysFinal "FlowNetworkModel" "FlowNetworkModel" "reached" "[I") ∈ TB := TB_mem (List.mem_of_getElem? (i := 813) (by decide +kernel)) rfl
theorem tw_759 : (Jvm.Cond.soleField "FlowNetworkModel" "reached") ∈ TB := TB_mem (List.mem_of_getElem? (i := 814) (by decide +kernel)) rfl
theorem tw_760 : (Jvm.Cond.superclass "FlowNetworkModel" "java/lang/Object") ∈ TB := TB_mem (List.mem_of_getElem? (i := 815) (by decide +kernel)) rfl
theorem tw_761 : (Jvm.Cond.methodLink "FlowNetworkLaw" (102 : Nat) ({ cls := "FlowNetworkModel", name := "thrown", desc := "()I" } : Jvm.MethodName)) ∈ TB := TB_mem (List.mem_of_getElem? (i := 816) (by decide +kernel)) rfl
theorem tw_762 : (Jvm.Cond.instanceMethod ({ cls := "FlowNetworkModel", name := "thrown", desc := "()I" } : Jvm.MethodName)) ∈ TB := TB_mem (List.mem_of_getElem? (i := 817) (by decide +kernel)) rfl
theorem tw_763 : (Jvm.Cond.selects "FlowNetworkModel" ({ cls := "FlowNetworkModel", name := "thrown", desc := "()I" } : Jvm.MethodName) ({ cls := "FlowNetworkModel", name := "thrown", desc := "()I" } : Jvm.MethodName)) ∈ TB := TB_mem (List.mem_of_getElem? (i := 818) (by decide +kernel)) rfl
theorem tw_764 : (Jvm.Cond.code ({ cls := "FlowNetworkModel", name := "thrown", desc := "()I" } : Jvm.MethodName) prog_9_method_2_code (1 : Nat) (Option.some Jvm.ClassFile.FieldType.int)) ∈ TB := TB_mem (List.mem_of_getElem? (i := 819) (by decide +kernel)) rfl
theorem tw_765 : (Jvm.Cond.methodLink "FlowNetworkLaw" (101 : Nat) ({ cls := "FlowNetworkModel", name := "addNode", desc := "()I" } : Jvm.MethodName)) ∈ TB := TB_mem (List.mem_of_getElem? (i := 820) (by decide +kernel)) rfl
theorem tw_766 : (Jvm.Cond.instanceMethod ({ cls := "FlowNetworkModel", name := "addNode", desc := "()I" } : Jvm.MethodName)) ∈ TB := TB_mem (List.mem_of_getElem? (i := 821) (by decide +kernel)) rfl
theorem tw_767 : (Jvm.Cond.selects "FlowNetworkModel" ({ cls := "FlowNetworkModel", name := "addNode", desc := "()I" } : Jvm.MethodName) ({ cls := "FlowNetworkModel", name := "addNode", desc := "()I" } : Jvm.MethodName)) ∈ TB := TB_mem (List.mem_of_getElem? (i := 822) (by decide +kernel)) rfl
theorem tw_768 : (Jvm.Cond.code ({ cls := "FlowNetworkModel", name := "addNode", desc := "()I" } : Jvm.MethodName) prog_9_method_7_code (1 : Nat) (Option.some Jvm.ClassFile.FieldType.int)) ∈ TB := TB_mem (List.mem_of_getElem? (i := 823) (by decide +kernel)) rfl
theorem tw_769 : (Jvm.Cond.methodLink "FlowNetworkModel" (66 : Nat) ({ cls := "FlowNetworkModel", name := "fail", desc := "(I)I" } : Jvm.MethodName)) ∈ TB := TB_mem (List.mem_of_getElem? (i := 824) (by decide +kernel)) rfl
theorem tw_771 : (Jvm.Cond.instanceMethod ({ cls := "FlowNetworkModel", name := "fail", desc := "(I)I" } : Jvm.MethodName)) ∈ TB := TB_mem (List.mem_of_getElem? (i := 826) (by decide +kernel)) rfl
theorem tw_772 : (Jvm.Cond.code ({ cls := "FlowNetworkModel", name := "fail", desc := "(I)I" } : Jvm.MethodName) prog_9_method_3_code (2 : Nat) (Option.some Jvm.ClassFile.FieldType.int)) ∈ TB := TB_mem (List.mem_of_getElem? (i := 827) (by decide +kernel)) rfl
theorem tw_773 : (Jvm.Cond.methodLink "FlowNetworkLaw" (108 : Nat) ({ cls := "FlowNetworkModel", name := "addArc", desc := "(III)I" } : Jvm.MethodName)) ∈ TB := TB_mem (List.mem_of_getElem? (i := 828) (by decide +kernel)) rfl
theorem tw_774 : (Jvm.Cond.instanceMethod ({ cls := "FlowNetworkModel", name := "addArc", desc := "(III)I" } : Jvm.MethodName)) ∈ TB := TB_mem (List.mem_of_getElem? (i := 829) (by decide +kernel)) rfl
theorem tw_775 : (Jvm.Cond.selects "FlowNetworkModel" ({ cls := "FlowNetworkModel", name := "addArc", desc := "(III)I" } : Jvm.MethodName) ({ cls := "FlowNetworkModel", name := "addArc", desc := "(III)I" } : Jvm.MethodName)) ∈ TB := TB_mem (List.mem_of_getElem? (i := 830) (by decide +kernel)) rfl
theorem tw_776 : (Jvm.Cond.code ({ cls := "FlowNetworkModel", name := "addArc", desc := "(III)I" } : Jvm.MethodName) prog_9_method_8_code (4 : Nat) (Option.some Jvm.ClassFile.FieldType.int)) ∈ TB := TB_mem (List.mem_of_getElem? (i := 831) (by decide +kernel)) rfl
theorem tw_777 : (Jvm.Cond.methodLink "FlowNetworkModel" (70 : Nat) ({ cls := "FlowNetworkModel", name := "isNode", desc := "(I)Z" } : Jvm.MethodName)) ∈ TB := TB_mem (List.mem_of_getElem? (i := 832) (by decide +kernel)) rfl
theorem tw_779 : (Jvm.Cond.instanceMethod ({ cls := "FlowNetworkModel", name := "isNode", desc := "(I)Z" } : Jvm.MethodName)) ∈ TB := TB_mem (List.mem_of_getElem? (i := 834) (by decide +kernel)) rfl
theorem tw_780 : (Jvm.Cond.code ({ cls := "FlowNetworkModel", name := "isNode", desc := "(I)Z" } : Jvm.MethodName) prog_9_method_4_code (2 : Nat) (Option.some Jvm.ClassFile.FieldType.boolean)) ∈ TB := TB_mem (List.mem_of_getElem? (i := 835) (by decide +kernel)) rfl
theorem tw_781 : (Jvm.Cond.methodLink "FlowNetworkModel" (74 : Nat) ({ cls := "FlowNetworkModel", name := "isCapacity", desc := "(I)Z" } : Jvm.MethodName)) ∈ TB := TB_mem (List.mem_of_getElem? (i := 836) (by decide +kernel)) rfl
theorem tw_782 : (Jvm.Cond.static ({ cls := "FlowNetworkModel", name := "isCapacity", desc := "(I)Z" } : Jvm.MethodName)) ∈ TB := TB_mem (List.mem_of_getElem? (i := 837) (by decide +kernel)) rfl
theorem tw_783 : (Jvm.Cond.code ({ cls := "FlowNetworkModel", name := "isCapacity", desc := "(I)Z" } : Jvm.MethodName) prog_9_method_6_code (1 : Nat) (Option.some Jvm.ClassFile.FieldType.boolean)) ∈ TB := TB_mem (List.mem_of_getElem? (i := 838) (by decide +kernel)) rfl
theorem tw_784 : (Jvm.Cond.constant "FlowNetworkModel" (65 : Nat) (1000000 : Int32)) ∈ TB := TB_mem (List.mem_of_getElem? (i := 839) (by decide +kernel)) rfl
theorem tw_785 : (Jvm.Cond.methodLink "FlowNetworkLaw" (112 : Nat) ({ cls := "FlowNetworkModel", name := "setCapacity", desc := "(II)I" } : Jvm.MethodName)) ∈ TB := TB_mem (List.mem_of_getElem? (i := 840) (by decide +kernel)) rfl
theorem tw_786 : (Jvm.Cond.instanceMethod ({ cls := "FlowNetworkModel", name := "setCapacity", desc := "(II)I" } : Jvm.MethodName)) ∈ TB := TB_mem (List.mem_of_getElem? (i := 841) (by decide +kernel)) rfl
theorem tw_787 : (Jvm.Cond.selects "FlowNetworkModel" ({ cls := "FlowNetworkModel", name := "setCapacity", desc := "(II)I" } : Jvm.MethodName) ({ cls := "FlowNetworkModel", name := "setCapacity", desc := "(II)I" } : Jvm.MethodName)) ∈ TB := TB_mem (List.mem_of_getElem? (i := 842) (by decide +kernel)) rfl
theorem tw_788 : (Jvm.Cond.code ({ cls := "FlowNetworkModel", name := "setCapacity", desc := "(II)I" } : Jvm.MethodName) prog_9_method_9_code (4 : Nat) (Option.some Jvm.ClassFile.FieldType.int)) ∈ TB := TB_mem (List.mem_of_getElem? (i := 843) (by decide +kernel)) rfl
theorem tw_789 : (Jvm.Cond.methodLink "FlowNetworkModel" (77 : Nat) ({ cls := "FlowNetworkModel", name := "isArc", desc := "(I)Z" } : Jvm.MethodName)) ∈ TB := TB_mem (List.mem_of_getElem? (i := 844) (by decide +kernel)) rfl
theorem tw_791 : (Jvm.Cond.instanceMethod ({ cls := "FlowNetworkModel", name := "isArc", desc := "(I)Z" } : Jvm.MethodName)) ∈ TB := TB_mem (List.mem_of_getElem? (i := 846) (by decide +kernel)) rfl
theorem tw_792 : (Jvm.Cond.code ({ cls := "FlowNetworkModel", name := "isArc", desc := "(I)Z" } : Jvm.MethodName) prog_9_method_5_code (2 : Nat) (Option.some Jvm.ClassFile.FieldType.boolean)) ∈ TB := TB_mem (List.mem_of_getElem? (i := 847) (by decide +kernel)) rfl
theorem tw_793 : (Jvm.Cond.methodLink "FlowNetworkLaw" (118 : Nat) ({ cls := "FlowNetworkModel", name := "scale", desc := "(ID)I" } : Jvm.MethodName)) ∈ TB := TB_mem (List.mem_of_getElem? (i := 848) (by decide +kernel)) rfl
theorem tw_794 : (Jvm.Cond.instanceMethod ({ cls := "FlowNetworkModel", name := "scale", desc := "(ID)I" } : Jvm.MethodName)) ∈ TB := TB_mem (List.mem_of_getElem? (i := 849) (by decide +kernel)) rfl
theorem tw_795 : (Jvm.Cond.selects "FlowNetworkModel" ({ cls := "FlowNetworkModel", name := "scale", desc := "(ID)I" } : Jvm.MethodName) ({ cls := "FlowNetworkModel", name := "scale", desc := "(ID)I" } : Jvm.MethodName)) ∈ TB := TB_mem (List.mem_of_getElem? (i := 850) (by decide +kernel)) rfl
theorem tw_796 : (Jvm.Cond.code ({ cls := "FlowNetworkModel", name := "scale", desc := "(ID)I" } : Jvm.MethodName) prog_9_method_10_code (7 : Nat) (Option.some Jvm.ClassFile.FieldType.int)) ∈ TB := TB_mem (List.mem_of_getElem? (i := 851) (by decide +kernel)) rfl
theorem tw_797 : (Jvm.Cond.constantDouble "FlowNetworkModel" (80 : Nat) (4652007308841189376 : UInt64)) ∈ TB := TB_mem (List.mem_of_getElem? (i := 852) (by decide +kernel)) rfl
theorem tw_798 : (Jvm.Cond.methodLink "FlowNetworkModel" (82 : Nat) ({ cls := "java/lang/Math", name := "rint", desc := "(D)D" } : Jvm.MethodName)) ∈ TB := TB_mem (List.mem_of_getElem? (i := 853) (by decide +kernel)) rfl
theorem tw_799 : (Jvm.Cond.static ({ cls := "java/lang/Math", name := "rint", desc := "(D)D" } : Jvm.MethodName)) ∈ TB := TB_mem (List.mem_of_getElem? (i := 854) (by decide +kernel)) rfl
theorem tw_800 : (Jvm.Cond.code ({ cls := "java/lang/Math", name := "rint", desc := "(D)D" } : Jvm.MethodName) prog_15_method_18_code (2 : Nat) (Option.some Jvm.ClassFile.FieldType.double)) ∈ TB := TB_mem (List.mem_of_getElem? (i := 855) (by decide +kernel)) rfl
theorem tw_801 : (Jvm.Cond.methodLink "java/lang/Math" (59 : Nat) ({ cls := "java/lang/StrictMath", name := "rint", desc := "(D)D" } : Jvm.MethodName)) ∈ TB := TB_mem (List.mem_of_getElem? (i := 856) (by decide +kernel)) rfl
theorem tw_802 : (Jvm.Cond.static ({ cls := "java/lang/StrictMath", name := "rint", desc := "(D)D" } : Jvm.MethodName)) ∈ TB := TB_mem (List.mem_of_getElem? (i := 857) (by decide +kernel)) rfl
theorem tw_803 : (Jvm.Cond.code ({ cls := "java/lang/StrictMath", name := "rint", desc := "(D)D" } : Jvm.MethodName) prog_18_method_19_code (6 : Nat) (Option.some Jvm.ClassFile.FieldType.double)) ∈ TB := TB_mem (List.mem_of_getElem? (i := 858) (by decide +kernel)) rfl
theorem tw_804 : (Jvm.Cond.constantDouble "java/lang/StrictMath" (93 : Nat) (4841369599423283200 : UInt64)) ∈ TB := TB_mem (List.mem_of_getElem? (i := 859) (by decide +kernel)) rfl
theorem tw_805 : (Jvm.Cond.methodLink "java/lang/StrictMath" (95 : Nat) ({ cls := "java/lang/Math", name := "copySign", desc := "(DD)D" } : Jvm.MethodName)) ∈ TB := TB_mem (List.mem_of_getElem? (i := 860) (by decide +kernel)) rfl
theorem tw_806 : (Jvm.Cond.static ({ cls := "java/lang/Math", name := "copySign", desc := "(DD)D" } : Jvm.MethodName)) ∈ TB := TB_mem (List.mem_of_getElem? (i := 861) (by decide +kernel)) rfl
theorem tw_807 : (Jvm.Cond.code ({ cls := "java/lang/Math", name := "copySign", desc := "(DD)D" } : Jvm.MethodName) prog_15_method_89_code (4 : Nat) (Option.some Jvm.ClassFile.FieldType.double)) ∈ TB := TB_mem (List.mem_of_getElem? (i := 862) (by decide +kernel)) rfl
theorem tw_808 : (Jvm.Cond.methodLink "java/lang/Math" (79 : Nat) ({ cls := "java/lang/Double", name := "doubleToRawLongBits", desc := "(D)J" } : Jvm.MethodName)) ∈ TB := TB_mem (List.mem_of_getElem? (i := 863) (by decide +kernel)) rfl
theorem tw_809 : (Jvm.Cond.static ({ cls := "java/lang/Double", name := "doubleToRawLongBits", desc := "(D)J" } : Jvm.MethodName)) ∈ TB := TB_mem (List.mem_of_getElem? (i := 864) (by decide +kernel)) rfl
theorem tw_810 : (Jvm.Cond.native ({ cls := "java/lang/Double", name := "doubleToRawLongBits", desc := "(D)J" } : Jvm.MethodName)) ∈ TB := TB_mem (List.mem_of_getElem? (i := 865) (by decide +kernel)) rfl
theorem tw_811 : (Jvm.Cond.constantLong "java/lang/Math" (128 : Nat) (-9223372036854775808 : Int64)) ∈ TB := TB_mem (List.mem_of_getElem? (i := 866) (by decide +kernel)) rfl
theorem tw_812 : (Jvm.Cond.constantLong "java/lang/Math" (135 : Nat) (9223372036854775807 : Int64)) ∈ TB := TB_mem (List.mem_of_getElem? (i := 867) (by decide +kernel)) rfl
theorem tw_813 : (Jvm.Cond.methodLink "java/lang/Math" (166 : Nat) ({ cls := "java/lang/Double", name := "longBitsToDouble", desc := "(J)D" } : Jvm.MethodName)) ∈ TB := TB_mem (List.mem_of_getElem? (i := 868) (by decide +kernel)) rfl
theorem tw_814 : (Jvm.Cond.static ({ cls := "java/lang/Double", name := "longBitsToDouble", desc := "(J)D" } : Jvm.MethodName)) ∈ TB := TB_mem (List.mem_of_getElem? (i := 869) (by decide +kernel)) rfl
theorem tw_815 : (Jvm.Cond.native ({ cls := "java/lang/Double", name := "longBitsToDouble", desc := "(J)D" } : Jvm.MethodName)) ∈ TB := TB_mem (List.mem_of_getElem? (i := 870) (by decide +kernel)) rfl
theorem tw_816 : (Jvm.Cond.methodLink "java/lang/StrictMath" (98 : Nat) ({ cls := "java/lang/Math", name := "abs", desc := "(D)D" } : Jvm.MethodName)) ∈ TB := TB_mem (List.mem_of_getElem? (i := 871) (by decide +kernel)) rfl
theorem tw_817 : (Jvm.Cond.static ({ cls := "java/lang/Math", name := "abs", desc := "(D)D" } : Jvm.MethodName)) ∈ TB := TB_mem (List.mem_of_getElem? (i := 872) (by decide +kernel)) rfl
theorem tw_818 : (Jvm.Cond.code ({ cls := "java/lang/Math", name := "abs", desc := "(D)D" } : Jvm.MethodName) prog_15_method_64_code (2 : Nat) (Option.some Jvm.ClassFile.FieldType.double)) ∈ TB := TB_mem (List.mem_of_getElem? (i := 873) (by decide +kernel)) rfl
theorem tw_819 : (Jvm.Cond.constantDouble "FlowNetworkModel" (88 : Nat) (4696837146684686336 : UInt64)) ∈ TB := TB_mem (List.mem_of_getElem? (i := 874) (by decide +kernel)) rfl
theorem tw_820 : (Jvm.Cond.methodLink "FlowNetworkModel" (90 : Nat) ({ cls := "java/lang/Math", name := "min", desc := "(DD)D" } : Jvm.MethodName)) ∈ TB := TB_mem (List.mem_of_getElem? (i := 875) (by decide +kernel)) rfl
theorem tw_821 : (Jvm.Cond.static ({ cls := "java/lang/Math", name := "min", desc := "(DD)D" } : Jvm.MethodName)) ∈ TB := TB_mem (List.mem_of_getElem? (i := 876) (by decide +kernel)) rfl
theorem tw_822 : (Jvm.Cond.code ({ cls := "java/lang/Math", name := "min", desc := "(DD)D" } : Jvm.MethodName) prog_15_method_72_code (4 : Nat) (Option.some Jvm.ClassFile.FieldType.double)) ∈ TB := TB_mem (List.mem_of_getElem? (i := 877) (by decide +kernel)) rfl
theorem tw_823 : (Jvm.Cond.fieldLink "java/lang/Math" (174 : Nat) "java/lang/Math" "negativeZeroDoubleBits" "J") ∈ TB := TB_mem (List.mem_of_getElem? (i := 878) (by decide +kernel)) rfl
theorem tw_825 : (Jvm.Cond.methodLink "FlowNetworkLaw" (121 : Nat) ({ cls := "FlowNetworkModel", name := "setEnds", desc := "(II)Z" } : Jvm.MethodName)) ∈ TB := TB_mem (List.mem_of_getElem? (i := 880) (by decide +kernel)) rfl
theorem tw_826 : (Jvm.Cond.instanceMethod ({ cls := "FlowNetworkModel", name := "setEnds", desc := "(II)Z" } : Jvm.MethodName)) ∈ TB := TB_mem (List.mem_of_getElem? (i := 881) (by decide +kernel)) rfl
theorem tw_827 : (Jvm.Cond.selects "FlowNetworkModel" ({ cls := "FlowNetworkModel", name := "setEnds", desc := "(II)Z" } : Jvm.MethodName) ({ cls := "FlowNetworkModel", name := "setEnds", desc := "(II)Z" } : Jvm.MethodName)) ∈ TB := TB_mem (List.mem_of_getElem? (i := 882) (by decide +kernel)) rfl
theorem tw_828 : (Jvm.Cond.code ({ cls := "FlowNetworkModel", name := "setEnds", desc := "(II)Z" } : Jvm.MethodName) prog_9_method_11_code (4 : Nat) (Option.some Jvm.ClassFile.FieldType.boolean)) ∈ TB := TB_mem (List.mem_of_getElem? (i := 883) (by decide +kernel)) rfl
theorem tw_829 : (Jvm.Cond.methodLink "FlowNetworkLaw" (125 : Nat) ({ cls := "FlowNetworkModel", name := "nodeCount", desc := "()I" } : Jvm.MethodName)) ∈ TB := TB_mem (List.mem_of_getElem? (i := 884) (by decide +kernel)) rfl
theorem tw_830 : (Jvm.Cond.instanceMethod ({ cls := "FlowNetworkModel", name := "nodeCount", desc := "()I" } : Jvm.MethodName)) ∈ TB := TB_mem (List.mem_of_getElem? (i := 885) (by decide +kernel)) rfl
theorem tw_831 : (Jvm.Cond.selects "FlowNetworkModel" ({ cls := "FlowNetworkModel", name := "nodeCount", desc := "()I" } : Jvm.MethodName) ({ cls := "FlowNetworkModel", name := "nodeCount", desc := "()I" } : Jvm.MethodName)) ∈ TB := TB_mem (List.mem_of_getElem? (i := 886) (by decide +kernel)) rfl
theorem tw_832 : (Jvm.Cond.code ({ cls := "FlowNetworkModel", name := "nodeCount", desc := "()I" } : Jvm.MethodName) prog_9_method_12_code (1 : Nat) (Option.some Jvm.ClassFile.FieldType.int)) ∈ TB := TB_mem (List.mem_of_getElem? (i := 887) (by decide +kernel)) rfl
theorem tw_833 : (Jvm.Cond.methodLink "FlowNetworkLaw" (129 : Nat) ({ cls := "FlowNetworkModel", name := "arcCount", desc := "()I" } : Jvm.MethodName)) ∈ TB := TB_mem (List.mem_of_getElem? (i := 888) (by decide +kernel)) rfl
theorem tw_834 : (Jvm.Cond.instanceMethod ({ cls := "FlowNetworkModel", name := "arcCount", desc := "()I" } : Jvm.MethodName)) ∈ TB := TB_mem (List.mem_of_getElem? (i := 889) (by decide +kernel)) rfl
theorem tw_835 : (Jvm.Cond.selects "FlowNetworkModel" ({ cls := "FlowNetworkModel", name := "arcCount", desc := "()I" } : Jvm.MethodName) ({ cls := "FlowNetworkModel", name := "arcCount", desc := "()I" } : Jvm.MethodName)) ∈ TB := TB_mem (List.mem_of_getElem? (i := 890) (by decide +kernel)) rfl
theorem tw_836 : (Jvm.Cond.code ({ cls := "FlowNetworkModel", name := "arcCount", desc := "()I" } : Jvm.MethodName) prog_9_method_13_code (1 : Nat) (Option.some Jvm.ClassFile.FieldType.int)) ∈ TB := TB_mem (List.mem_of_getElem? (i := 891) (by decide +kernel)) rfl
theorem tw_837 : (Jvm.Cond.methodLink "FlowNetworkLaw" (133 : Nat) ({ cls := "FlowNetworkModel", name := "capacity", desc := "(I)I" } : Jvm.MethodName)) ∈ TB := TB_mem (List.mem_of_getElem? (i := 892) (by decide +kernel)) rfl
theorem tw_838 : (Jvm.Cond.instanceMethod ({ cls := "FlowNetworkModel", name := "capacity", desc := "(I)I" } : Jvm.MethodName)) ∈ TB := TB_mem (List.mem_of_getElem? (i := 893) (by decide +kernel)) rfl
theorem tw_839 : (Jvm.Cond.selects "FlowNetworkModel" ({ cls := "FlowNetworkModel", name := "capacity", desc := "(I)I" } : Jvm.MethodName) ({ cls := "FlowNetworkModel", name := "capacity", desc := "(I)I" } : Jvm.MethodName)) ∈ TB := TB_mem (List.mem_of_getElem? (i := 894) (by decide +kernel)) rfl
theorem tw_840 : (Jvm.Cond.code ({ cls := "FlowNetworkModel", name := "capacity", desc := "(I)I" } : Jvm.MethodName) prog_9_method_14_code (2 : Nat) (Option.some Jvm.ClassFile.FieldType.int)) ∈ TB := TB_mem (List.mem_of_getElem? (i := 895) (by decide +kernel)) rfl
theorem tw_841 : (Jvm.Cond.methodLink "FlowNetworkLaw" (136 : Nat) ({ cls := "FlowNetworkModel", name := "maximum", desc := "()I" } : Jvm.MethodName)) ∈ TB := TB_mem (List.mem_of_getElem? (i := 896) (by decide +kernel)) rfl
theorem tw_842 : (Jvm.Cond.instanceMethod ({ cls := "FlowNetworkModel", name := "maximum", desc := "()I" } : Jvm.MethodName)) ∈ TB := TB_mem (List.mem_of_getElem? (i := 897) (by decide +kernel)) rfl
theorem tw_843 : (Jvm.Cond.selects "FlowNetworkModel" ({ cls := "FlowNetworkModel", name := "maximum", desc := "()I" } : Jvm.MethodName) ({ cls := "FlowNetworkModel", name := "maximum", desc := "()I" } : Jvm.MethodName)) ∈ TB := TB_mem (List.mem_of_getElem? (i := 898) (by decide +kernel)) rfl
theorem tw_844 : (Jvm.Cond.code ({ cls := "FlowNetworkModel", name := "maximum", desc := "()I" } : Jvm.MethodName) prog_9_method_22_code (1 : Nat) (Option.some Jvm.ClassFile.FieldType.int)) ∈ TB := TB_mem (List.mem_of_getElem? (i := 899) (by decide +kernel)) rfl
theorem tw_845 : (Jvm.Cond.methodLink "FlowNetworkModel" (112 : Nat) ({ cls := "FlowNetworkModel", name := "maximumNow", desc := "()I" } : Jvm.MethodName)) ∈ TB := TB_mem (List.mem_of_getElem? (i := 900) (by decide +kernel)) rfl
theorem tw_847 : (Jvm.Cond.instanceMethod ({ cls := "FlowNetworkModel", name := "maximumNow", desc := "()I" } : Jvm.MethodName)) ∈ TB := TB_mem (List.mem_of_getElem? (i := 902) (by decide +kernel)) rfl
theorem tw_848 : (Jvm.Cond.code ({ cls := "FlowNetworkModel", name := "maximumNow", desc := "()I" } : Jvm.MethodName) prog_9_method_19_code (1 : Nat) (Option.some Jvm.ClassFile.FieldType.int)) ∈ TB := TB_mem (List.mem_of_getElem? (i := 903) (by decide +kernel)) rfl
theorem tw_849 : (Jvm.Cond.methodLink "FlowNetworkModel" (104 : Nat) ({ cls := "FlowNetworkModel", name := "empty", desc := "()V" } : Jvm.MethodName)) ∈ TB := TB_mem (List.mem_of_getElem? (i := 904) (by decide +kernel)) rfl
theorem tw_851 : (Jvm.Cond.instanceMethod ({ cls := "FlowNetworkModel", name := "empty", desc := "()V" } : Jvm.MethodName)) ∈ TB := TB_mem (List.mem_of_getElem? (i := 906) (by decide +kernel)) rfl
theorem tw_852 : (Jvm.Cond.code ({ cls := "FlowNetworkModel", name := "empty", desc := "()V" } : Jvm.MethodName) prog_9_method_15_code (2 : Nat) (Option.none : Option Jvm.ClassFile.FieldType)) ∈ TB := TB_mem (List.mem_of_getElem? (i := 907) (by decide +kernel)) rfl
theorem tw_853 : (Jvm.Cond.constant "FlowNetworkModel" (107 : Nat) (200000000 : Int32)) ∈ TB := TB_mem (List.mem_of_getElem? (i := 908) (by decide +kernel)) rfl
theorem tw_854 : (Jvm.Cond.methodLink "FlowNetworkModel" (108 : Nat) ({ cls := "FlowNetworkModel", name := "fill", desc := "(III)I" } : Jvm.MethodName)) ∈ TB := TB_mem (List.mem_of_getElem? (i := 909) (by decide +kernel)) rfl
theorem tw_856 : (Jvm.Cond.instanceMethod ({ cls := "FlowNetworkModel", name := "fill", desc := "(III)I" } : Jvm.MethodName)) ∈ TB := TB_mem (List.mem_of_getElem? (i := 911) (by decide +kernel)) rfl
theorem tw_857 : (Jvm.Cond.code ({ cls := "FlowNetworkModel", name := "fill", desc := "(III)I" } : Jvm.MethodName) prog_9_method_18_code (8 : Nat) (Option.some Jvm.ClassFile.FieldType.int)) ∈ TB := TB_mem (List.mem_of_getElem? (i := 912) (by decide +kernel)) rfl
theorem tw_858 : (Jvm.Cond.methodLink "FlowNetworkModel" (94 : Nat) ({ cls := "FlowNetworkModel", name := "reach", desc := "(II)Z" } : Jvm.MethodName)) ∈ TB := TB_mem (List.mem_of_getElem? (i := 913) (by decide +kernel)) rfl
theorem tw_860 : (Jvm.Cond.instanceMethod ({ cls := "FlowNetworkModel", name := "reach", desc := "(II)Z" } : Jvm.MethodName)) ∈ TB := TB_mem (List.mem_of_getElem? (i := 915) (by decide +kernel)) rfl
theorem tw_861 : (Jvm.Cond.code ({ cls := "FlowNetworkModel", name := "reach", desc := "(II)Z" } : Jvm.MethodName) prog_9_method_16_code (8 : Nat) (Option.some Jvm.ClassFile.FieldType.boolean)) ∈ TB := TB_mem (List.mem_of_getElem? (i := 916) (by decide +kernel)) rfl
theorem tw_862 : (Jvm.Cond.methodLink "FlowNetworkModel" (98 : Nat) ({ cls := "java/lang/Math", name := "min", desc := "(II)I" } : Jvm.MethodName)) ∈ TB := TB_mem (List.mem_of_getElem? (i := 917) (by decide +kernel)) rfl
theorem tw_863 : (Jvm.Cond.methodLink "FlowNetworkModel" (101 : Nat) ({ cls := "FlowNetworkModel", name := "before", desc := "(I)I" } : Jvm.MethodName)) ∈ TB := TB_mem (List.mem_of_getElem? (i := 918) (by decide +kernel)) rfl
theorem tw_865 : (Jvm.Cond.instanceMethod ({ cls := "FlowNetworkModel", name := "before", desc := "(I)I" } : Jvm.MethodName)) ∈ TB := TB_mem (List.mem_of_getElem? (i := 920) (by decide +kernel)) rfl
theorem tw_866 : (Jvm.Cond.code ({ cls := "FlowNetworkModel", name := "before", desc := "(I)I" } : Jvm.MethodName) prog_9_method_17_code (2 : Nat) (Option.some Jvm.ClassFile.FieldType.int)) ∈ TB := TB_mem (List.mem_of_getElem? (i := 921) (by decide +kernel)) rfl
theorem tw_867 : (Jvm.Cond.methodLink "FlowNetworkLaw" (139 : Nat) ({ cls := "FlowNetworkModel", name := "maximumWith", desc := "(II)I" } : Jvm.MethodName)) ∈ TB := TB_mem (List.mem_of_getElem? (i := 922) (by decide +kernel)) rfl
theorem tw_868 : (Jvm.Cond.instanceMethod ({ cls := "FlowNetworkModel", name := "maximumWith", desc := "(II)I" } : Jvm.MethodName)) ∈ TB := TB_mem (List.mem_of_getElem? (i := 923) (by decide +kernel)) rfl
theorem tw_869 : (Jvm.Cond.selects "FlowNetworkModel" ({ cls := "FlowNetworkModel", name := "maximumWith", desc := "(II)I" } : Jvm.MethodName) ({ cls := "FlowNetworkModel", name := "maximumWith", desc := "(II)I" } : Jvm.MethodName)) ∈ TB := TB_mem (List.mem_of_getElem? (i := 924) (by decide +kernel)) rfl
theorem tw_870 : (Jvm.Cond.code ({ cls := "FlowNetworkModel", name := "maximumWith", desc := "(II)I" } : Jvm.MethodName) prog_9_method_23_code (3 : Nat) (Option.some Jvm.ClassFile.FieldType.int)) ∈ TB := TB_mem (List.mem_of_getElem? (i := 925) (by decide +kernel)) rfl
theorem tw_871 : (Jvm.Cond.methodLink "FlowNetworkModel" (116 : Nat) ({ cls := "FlowNetworkModel", name := "look", desc := "(I)I" } : Jvm.MethodName)) ∈ TB := TB_mem (List.mem_of_getElem? (i := 926) (by decide +kernel)) rfl
theorem tw_873 : (Jvm.Cond.instanceMethod ({ cls := "FlowNetworkModel", name := "look", desc := "(I)I" } : Jvm.MethodName)) ∈ TB := TB_mem (List.mem_of_getElem? (i := 928) (by decide +kernel)) rfl
theorem tw_874 : (Jvm.Cond.code ({ cls := "FlowNetworkModel", name := "look", desc := "(I)I" } : Jvm.MethodName) prog_9_method_21_code (2 : Nat) (Option.some Jvm.ClassFile.FieldType.int)) ∈ TB := TB_mem (List.mem_of_getElem? (i := 929) (by decide +kernel)) rfl
theorem tw_875 : (Jvm.Cond.methodLink "FlowNetworkModel" (119 : Nat) ({ cls := "FlowNetworkModel", name := "maximumIf", desc := "(II)I" } : Jvm.MethodName)) ∈ TB := TB_mem (List.mem_of_getElem? (i := 930) (by decide +kernel)) rfl
theorem tw_877 : (Jvm.Cond.instanceMethod ({ cls := "FlowNetworkModel", name := "maximumIf", desc := "(II)I" } : Jvm.MethodName)) ∈ TB := TB_mem (List.mem_of_getElem? (i := 932) (by decide +kernel)) rfl
theorem tw_878 : (Jvm.Cond.code ({ cls := "FlowNetworkModel", name := "maximumIf", desc := "(II)I" } : Jvm.MethodName) prog_9_method_20_code (5 : Nat) (Option.some Jvm.ClassFile.FieldType.int)) ∈ TB := TB_mem (List.mem_of_getElem? (i := 933) (by decide +kernel)) rfl
theorem tw_879 : (Jvm.Cond.methodLink "FlowNetworkLaw" (142 : Nat) ({ cls := "FlowNetworkModel", name := "maximumWithout", desc := "(I)I" } : Jvm.MethodName)) ∈ TB := TB_mem (List.mem_of_getElem? (i := 934) (by decide +kernel)) rfl
theorem tw_880 : (Jvm.Cond.instanceMethod ({ cls := "FlowNetworkModel", name := "maximumWithout", desc := "(I)I" } : Jvm.MethodName)) ∈ TB := TB_mem (List.mem_of_getElem? (i := 935) (by decide +kernel)) rfl
theorem tw_881 : (Jvm.Cond.selects "FlowNetworkModel" ({ cls := "FlowNetworkModel", name := "maximumWithout", desc := "(I)I" } : Jvm.MethodName) ({ cls := "FlowNetworkModel", name := "maximumWithout", desc := "(I)I" } : Jvm.MethodName)) ∈ TB := TB_mem (List.mem_of_getElem? (i := 936) (by decide +kernel)) rfl
theorem tw_882 : (Jvm.Cond.code ({ cls := "FlowNetworkModel", name := "maximumWithout", desc := "(I)I" } : Jvm.MethodName) prog_9_method_24_code (3 : Nat) (Option.some Jvm.ClassFile.FieldType.int)) ∈ TB := TB_mem (List.mem_of_getElem? (i := 937) (by decide +kernel)) rfl
theorem tw_883 : (Jvm.Cond.methodLink "FlowNetworkLaw" (145 : Nat) ({ cls := "FlowNetworkModel", name := "maximumBetween", desc := "(II)I" } : Jvm.MethodName)) ∈ TB := TB_mem (List.mem_of_getElem? (i := 938) (by decide +kernel)) rfl
theorem tw_884 : (Jvm.Cond.instanceMethod ({ cls := "FlowNetworkModel", name := "maximumBetween", desc := "(II)I" } : Jvm.MethodName)) ∈ TB := TB_mem (List.mem_of_getElem? (i := 939) (by decide +kernel)) rfl
theorem tw_885 : (Jvm.Cond.selects "FlowNetworkModel" ({ cls := "FlowNetworkModel", name := "maximumBetween", desc := "(II)I" } : Jvm.MethodName) ({ cls := "FlowNetworkModel", name := "maximumBetween", desc := "(II)I" } : Jvm.MethodName)) ∈ TB := TB_mem (List.mem_of_getElem? (i := 940) (by decide +kernel)) rfl
theorem tw_886 : (Jvm.Cond.code ({ cls := "FlowNetworkModel", name := "maximumBetween", desc := "(II)I" } : Jvm.MethodName) prog_9_method_25_code (3 : Nat) (Option.some Jvm.ClassFile.FieldType.int)) ∈ TB := TB_mem (List.mem_of_getElem? (i := 941) (by decide +kernel)) rfl
theorem tw_887 : (Jvm.Cond.methodLink "FlowNetworkLaw" (149 : Nat) ({ cls := "FlowNetworkModel", name := "utilization", desc := "()D" } : Jvm.MethodName)) ∈ TB := TB_mem (List.mem_of_getElem? (i := 942) (by decide +kernel)) rfl
theorem tw_888 : (Jvm.Cond.instanceMethod ({ cls := "FlowNetworkModel", name := "utilization", desc := "()D" } : Jvm.MethodName)) ∈ TB := TB_mem (List.mem_of_getElem? (i := 943) (by decide +kernel)) rfl
theorem tw_889 : (Jvm.Cond.selects "FlowNetworkModel" ({ cls := "FlowNetworkModel", name := "utilization", desc := "()D" } : Jvm.MethodName) ({ cls := "FlowNetworkModel", name := "utilization", desc := "()D" } : Jvm.MethodName)) ∈ TB := TB_mem (List.mem_of_getElem? (i := 944) (by decide +kernel)) rfl
theorem tw_890 : (Jvm.Cond.code ({ cls := "FlowNetworkModel", name := "utilization", desc := "()D" } : Jvm.MethodName) prog_9_method_26_code (3 : Nat) (Option.some Jvm.ClassFile.FieldType.double)) ∈ TB := TB_mem (List.mem_of_getElem? (i := 945) (by decide +kernel)) rfl
theorem tw_891 : (Jvm.Cond.methodLink "FlowNetworkLaw" (152 : Nat) ({ cls := "FlowNetworkModel", name := "leastFlow", desc := "(I)I" } : Jvm.MethodName)) ∈ TB := TB_mem (List.mem_of_getElem? (i := 946) (by decide +kernel)) rfl
theorem tw_892 : (Jvm.Cond.instanceMethod ({ cls := "FlowNetworkModel", name := "leastFlow", desc := "(I)I" } : Jvm.MethodName)) ∈ TB := TB_mem (List.mem_of_getElem? (i := 947) (by decide +kernel)) rfl
theorem tw_893 : (Jvm.Cond.selects "FlowNetworkModel" ({ cls := "FlowNetworkModel", name := "leastFlow", desc := "(I)I" } : Jvm.MethodName) ({ cls := "FlowNetworkModel", name := "leastFlow", desc := "(I)I" } : Jvm.MethodName)) ∈ TB := TB_mem (List.mem_of_getElem? (i := 948) (by decide +kernel)) rfl
theorem tw_894 : (Jvm.Cond.code ({ cls := "FlowNetworkModel", name := "leastFlow", desc := "(I)I" } : Jvm.MethodName) prog_9_method_27_code (2 : Nat) (Option.some Jvm.ClassFile.FieldType.int)) ∈ TB := TB_mem (List.mem_of_getElem? (i := 949) (by decide +kernel)) rfl
theorem tw_895 : (Jvm.Cond.methodLink "FlowNetworkLaw" (155 : Nat) ({ cls := "FlowNetworkModel", name := "greatestFlow", desc := "(I)I" } : Jvm.MethodName)) ∈ TB := TB_mem (List.mem_of_getElem? (i := 950) (by decide +kernel)) rfl
theorem tw_896 : (Jvm.Cond.instanceMethod ({ cls := "FlowNetworkModel", name := "greatestFlow", desc := "(I)I" } : Jvm.MethodName)) ∈ TB := TB_mem (List.mem_of_getElem? (i := 951) (by decide +kernel)) rfl
theorem tw_897 : (Jvm.Cond.selects "FlowNetworkModel" ({ cls := "FlowNetworkModel", name := "greatestFlow", desc := "(I)I" } : Jvm.MethodName) ({ cls := "FlowNetworkModel", name := "greatestFlow", desc := "(I)I" } : Jvm.MethodName)) ∈ TB := TB_mem (List.mem_of_getElem? (i := 952) (by decide +kernel)) rfl
theorem tw_898 : (Jvm.Cond.code ({ cls := "FlowNetworkModel", name := "greatestFlow", desc := "(I)I" } : Jvm.MethodName) prog_9_method_28_code (5 : Nat) (Option.some Jvm.ClassFile.FieldType.int)) ∈ TB := TB_mem (List.mem_of_getElem? (i := 953) (by decide +kernel)) rfl
theorem tw_899 : (Jvm.Cond.methodLink "FlowNetworkLaw" (158 : Nat) ({ cls := "FlowNetworkModel", name := "cutCapacity", desc := "(I)I" } : Jvm.MethodName)) ∈ TB := TB_mem (List.mem_of_getElem? (i := 954) (by decide +kernel)) rfl
theorem tw_900 : (Jvm.Cond.instanceMethod ({ cls := "FlowNetworkModel", name := "cutCapacity", desc := "(I)I" } : Jvm.MethodName)) ∈ TB := TB_mem (List.mem_of_getElem? (i := 955) (by decide +kernel)) rfl
theorem tw_901 : (Jvm.Cond.selects "FlowNetworkModel" ({ cls := "FlowNetworkModel", name := "cutCapacity", desc := "(I)I" } : Jvm.MethodName) ({ cls := "FlowNetworkModel", name := "cutCapacity", desc := "(I)I" } : Jvm.MethodName)) ∈ TB := TB_mem (List.mem_of_getElem? (i := 956) (by decide +kernel)) rfl
theorem tw_902 : (Jvm.Cond.code ({ cls := "FlowNetworkModel", name := "cutCapacity", desc := "(I)I" } : Jvm.MethodName) prog_9_method_31_code (2 : Nat) (Option.some Jvm.ClassFile.FieldType.int)) ∈ TB := TB_mem (List.mem_of_getElem? (i := 957) (by decide +kernel)) rfl
theorem tw_903 : (Jvm.Cond.methodLink "FlowNetworkModel" (122 : Nat) ({ cls := "FlowNetworkModel", name := "isIn", desc := "(II)Z" } : Jvm.MethodName)) ∈ TB := TB_mem (List.mem_of_getElem? (i := 958) (by decide +kernel)) rfl
theorem tw_905 : (Jvm.Cond.instanceMethod ({ cls := "FlowNetworkModel", name := "isIn", desc := "(II)Z" } : Jvm.MethodName)) ∈ TB := TB_mem (List.mem_of_getElem? (i := 960) (by decide +kernel)) rfl
theorem tw_906 : (Jvm.Cond.code ({ cls := "FlowNetworkModel", name := "isIn", desc := "(II)Z" } : Jvm.MethodName) prog_9_method_29_code (3 : Nat) (Option.some Jvm.ClassFile.FieldType.boolean)) ∈ TB := TB_mem (List.mem_of_getElem? (i := 961) (by decide +kernel)) rfl
theorem tw_907 : (Jvm.Cond.methodLink "FlowNetworkModel" (125 : Nat) ({ cls := "FlowNetworkModel", name := "capacityOf", desc := "(I)I" } : Jvm.MethodName)) ∈ TB := TB_mem (List.mem_of_getElem? (i := 962) (by decide +kernel)) rfl
theorem tw_909 : (Jvm.Cond.instanceMethod ({ cls := "FlowNetworkModel", name := "capacityOf", desc := "(I)I" } : Jvm.MethodName)) ∈ TB := TB_mem (List.mem_of_getElem? (i := 964) (by decide +kernel)) rfl
theorem tw_910 : (Jvm.Cond.code ({ cls := "FlowNetworkModel", name := "capacityOf", desc := "(I)I" } : Jvm.MethodName) prog_9_method_30_code (4 : Nat) (Option.some Jvm.ClassFile.FieldType.int)) ∈ TB := TB_mem (List.mem_of_getElem? (i := 965) (by decide +kernel)) rfl
theorem tw_911 : (Jvm.Cond.methodLink "FlowNetworkLaw" (161 : Nat) ({ cls := "FlowNetworkModel", name := "smallestCut", desc := "()I" } : Jvm.MethodName)) ∈ TB := TB_mem (List.mem_of_getElem? (i := 966) (by decide +kernel)) rfl
theorem tw_912 : (Jvm.Cond.instanceMethod ({ cls := "FlowNetworkModel", name := "smallestCut", desc := "()I" } : Jvm.MethodName)) ∈ TB := TB_mem (List.mem_of_getElem? (i := 967) (by decide +kernel)) rfl
theorem tw_913 : (Jvm.Cond.selects "FlowNetworkModel" ({ cls := "FlowNetworkModel", name := "smallestCut", desc := "()I" } : Jvm.MethodName) ({ cls := "FlowNetworkModel", name := "smallestCut", desc := "()I" } : Jvm.MethodName)) ∈ TB := TB_mem (List.mem_of_getElem? (i := 968) (by decide +kernel)) rfl
theorem tw_914 : (Jvm.Cond.code ({ cls := "FlowNetworkModel", name := "smallestCut", desc := "()I" } : Jvm.MethodName) prog_9_method_35_code (1 : Nat) (Option.some Jvm.ClassFile.FieldType.int)) ∈ TB := TB_mem (List.mem_of_getElem? (i := 969) (by decide +kernel)) rfl
theorem tw_915 : (Jvm.Cond.methodLink "FlowNetworkModel" (131 : Nat) ({ cls := "FlowNetworkModel", name := "smallest", desc := "()I" } : Jvm.MethodName)) ∈ TB := TB_mem (List.mem_of_getElem? (i := 970) (by decide +kernel)) rfl
theorem tw_917 : (Jvm.Cond.instanceMethod ({ cls := "FlowNetworkModel", name := "smallest", desc := "()I" } : Jvm.MethodName)) ∈ TB := TB_mem (List.mem_of_getElem? (i := 972) (by decide +kernel)) rfl
theorem tw_918 : (Jvm.Cond.code ({ cls := "FlowNetworkModel", name := "smallest", desc := "()I" } : Jvm.MethodName) prog_9_method_33_code (1 : Nat) (Option.some Jvm.ClassFile.FieldType.int)) ∈ TB := TB_mem (List.mem_of_getElem? (i := 973) (by decide +kernel)) rfl
theorem tw_919 : (Jvm.Cond.methodLink "FlowNetworkModel" (128 : Nat) ({ cls := "FlowNetworkModel", name := "findReached", desc := "()V" } : Jvm.MethodName)) ∈ TB := TB_mem (List.mem_of_getElem? (i := 974) (by decide +kernel)) rfl
theorem tw_921 : (Jvm.Cond.instanceMethod ({ cls := "FlowNetworkModel", name := "findReached", desc := "()V" } : Jvm.MethodName)) ∈ TB := TB_mem (List.mem_of_getElem? (i := 976) (by decide +kernel)) rfl
theorem tw_922 : (Jvm.Cond.code ({ cls := "FlowNetworkModel", name := "findReached", desc := "()V" } : Jvm.MethodName) prog_9_method_32_code (4 : Nat) (Option.none : Option Jvm.ClassFile.FieldType)) ∈ TB := TB_mem (List.mem_of_getElem? (i := 977) (by decide +kernel)) rfl
theorem tw_923 : (Jvm.Cond.methodLink "FlowNetworkLaw" (164 : Nat) ({ cls := "FlowNetworkModel", name := "greatestCut", desc := "()I" } : Jvm.MethodName)) ∈ TB := TB_mem (List.mem_of_getElem? (i := 978) (by decide +kernel)) rfl
theorem tw_924 : (Jvm.Cond.instanceMethod ({ cls := "FlowNetworkModel", name := "greatestCut", desc := "()I" } : Jvm.MethodName)) ∈ TB := TB_mem (List.mem_of_getElem? (i := 979) (by decide +kernel)) rfl
theorem tw_925 : (Jvm.Cond.selects "FlowNetworkModel" ({ cls := "FlowNetworkModel", name := "greatestCut", desc := "()I" } : Jvm.MethodName) ({ cls := "FlowNetworkModel", name := "greatestCut", desc := "()I" } : Jvm.MethodName)) ∈ TB := TB_mem (List.mem_of_getElem? (i := 980) (by decide +kernel)) rfl
theorem tw_926 : (Jvm.Cond.code ({ cls := "FlowNetworkModel", name := "greatestCut", desc := "()I" } : Jvm.MethodName) prog_9_method_36_code (1 : Nat) (Option.some Jvm.ClassFile.FieldType.int)) ∈ TB := TB_mem (List.mem_of_getElem? (i := 981) (by decide +kernel)) rfl
theorem tw_927 : (Jvm.Cond.methodLink "FlowNetworkModel" (134 : Nat) ({ cls := "FlowNetworkModel", name := "greatest", desc := "()I" } : Jvm.MethodName)) ∈ TB := TB_mem (List.mem_of_getElem? (i := 982) (by decide +kernel)) rfl
theorem tw_929 : (Jvm.Cond.instanceMethod ({ cls := "FlowNetworkModel", name := "greatest", desc := "()I" } : Jvm.MethodName)) ∈ TB := TB_mem (List.mem_of_getElem? (i := 984) (by decide +kernel)) rfl
theorem tw_930 : (Jvm.Cond.code ({ cls := "FlowNetworkModel", name := "greatest", desc := "()I" } : Jvm.MethodName) prog_9_method_34_code (3 : Nat) (Option.some Jvm.ClassFile.FieldType.int)) ∈ TB := TB_mem (List.mem_of_getElem? (i := 985) (by decide +kernel)) rfl
theorem tw_931 : (Jvm.Cond.methodLink "FlowNetworkLaw" (167 : Nat) ({ cls := "FlowNetworkModel", name := "findCuts", desc := "()I" } : Jvm.MethodName)) ∈ TB := TB_mem (List.mem_of_getElem? (i := 986) (by decide +kernel)) rfl
theorem tw_932 : (Jvm.Cond.instanceMethod ({ cls := "FlowNetworkModel", name := "findCuts", desc := "()I" } : Jvm.MethodName)) ∈ TB := TB_mem (List.mem_of_getElem? (i := 987) (by decide +kernel)) rfl
theorem tw_933 : (Jvm.Cond.selects "FlowNetworkModel" ({ cls := "FlowNetworkModel", name := "findCuts", desc := "()I" } : Jvm.MethodName) ({ cls := "FlowNetworkModel", name := "findCuts", desc := "()I" } : Jvm.MethodName)) ∈ TB := TB_mem (List.mem_of_getElem? (i := 988) (by decide +kernel)) rfl
theorem tw_934 : (Jvm.Cond.code ({ cls := "FlowNetworkModel", name := "findCuts", desc := "()I" } : Jvm.MethodName) prog_9_method_39_code (2 : Nat) (Option.some Jvm.ClassFile.FieldType.int)) ∈ TB := TB_mem (List.mem_of_getElem? (i := 989) (by decide +kernel)) rfl
theorem tw_935 : (Jvm.Cond.methodLink "FlowNetworkModel" (137 : Nat) ({ cls := "FlowNetworkModel", name := "closed", desc := "(II)I" } : Jvm.MethodName)) ∈ TB := TB_mem (List.mem_of_getElem? (i := 990) (by decide +kernel)) rfl
theorem tw_937 : (Jvm.Cond.instanceMethod ({ cls := "FlowNetworkModel", name := "closed", desc := "(II)I" } : Jvm.MethodName)) ∈ TB := TB_mem (List.mem_of_getElem? (i := 992) (by decide +kernel)) rfl
theorem tw_938 : (Jvm.Cond.code ({ cls := "FlowNetworkModel", name := "closed", desc := "(II)I" } : Jvm.MethodName) prog_9_method_37_code (5 : Nat) (Option.some Jvm.ClassFile.FieldType.int)) ∈ TB := TB_mem (List.mem_of_getElem? (i := 993) (by decide +kernel)) rfl
theorem tw_939 : (Jvm.Cond.methodLink "FlowNetworkModel" (143 : Nat) ({ cls := "FlowNetworkModel", name := "cutBehind", desc := "(I)I" } : Jvm.MethodName)) ∈ TB := TB_mem (List.mem_of_getElem? (i := 994) (by decide +kernel)) rfl
theorem tw_941 : (Jvm.Cond.instanceMethod ({ cls := "FlowNetworkModel", name := "cutBehind", desc := "(I)I" } : Jvm.MethodName)) ∈ TB := TB_mem (List.mem_of_getElem? (i := 996) (by decide +kernel)) rfl
theorem tw_942 : (Jvm.Cond.code ({ cls := "FlowNetworkModel", name := "cutBehind", desc := "(I)I" } : Jvm.MethodName) prog_9_method_38_code (5 : Nat) (Option.some Jvm.ClassFile.FieldType.int)) ∈ TB := TB_mem (List.mem_of_getElem? (i := 997) (by decide +kernel)) rfl
theorem tw_943 : (Jvm.Cond.methodLink "FlowNetworkLaw" (170 : Nat) ({ cls := "FlowNetworkModel", name := "cut", desc := "(I)I" } : Jvm.MethodName)) ∈ TB := TB_mem (List.mem_of_getElem? (i := 998) (by decide +kernel)) rfl
theorem tw_944 : (Jvm.Cond.instanceMethod ({ cls := "FlowNetworkModel", name := "cut", desc := "(I)I" } : Jvm.MethodName)) ∈ TB := TB_mem (List.mem_of_getElem? (i := 999) (by decide +kernel)) rfl
theorem tw_945 : (Jvm.Cond.selects "FlowNetworkModel" ({ cls := "FlowNetworkModel", name := "cut", desc := "(I)I" } : Jvm.MethodName) ({ cls := "FlowNetworkModel", name := "cut", desc := "(I)I" } : Jvm.MethodName)) ∈ TB := TB_mem (List.mem_of_getElem? (i := 1000) (by decide +kernel)) rfl
theorem tw_946 : (Jvm.Cond.code ({ cls := "FlowNetworkModel", name := "cut", desc := "(I)I" } : Jvm.MethodName) prog_9_method_40_code (2 : Nat) (Option.some Jvm.ClassFile.FieldType.int)) ∈ TB := TB_mem (List.mem_of_getElem? (i := 1001) (by decide +kernel)) rfl
theorem tw_947 : (Jvm.Cond.methodLink "FlowNetworkLaw" (173 : Nat) ({ cls := "FlowNetworkModel", name := "isBottleneck", desc := "(I)Z" } : Jvm.MethodName)) ∈ TB := TB_mem (List.mem_of_getElem? (i := 1002) (by decide +kernel)) rfl
theorem tw_948 : (Jvm.Cond.instanceMethod ({ cls := "FlowNetworkModel", name := "isBottleneck", desc := "(I)Z" } : Jvm.MethodName)) ∈ TB := TB_mem (List.mem_of_getElem? (i := 1003) (by decide +kernel)) rfl
theorem tw_949 : (Jvm.Cond.selects "FlowNetworkModel" ({ cls := "FlowNetworkModel", name := "isBottleneck", desc := "(I)Z" } : Jvm.MethodName) ({ cls := "FlowNetworkModel", name := "isBottleneck", desc := "(I)Z" } : Jvm.MethodName)) ∈ TB := TB_mem (List.mem_of_getElem? (i := 1004) (by decide +kernel)) rfl
theorem tw_950 : (Jvm.Cond.code ({ cls := "FlowNetworkModel", name := "isBottleneck", desc := "(I)Z" } : Jvm.MethodName) prog_9_method_41_code (2 : Nat) (Option.some Jvm.ClassFile.FieldType.boolean)) ∈ TB := TB_mem (List.mem_of_getElem? (i := 1005) (by decide +kernel)) rfl
theorem tw_951 : (Jvm.Cond.methodLink "FlowNetworkLaw" (176 : Nat) ({ cls := "FlowNetworkModel", name := "isLimiting", desc := "(I)Z" } : Jvm.MethodName)) ∈ TB := TB_mem (List.mem_of_getElem? (i := 1006) (by decide +kernel)) rfl
theorem tw_952 : (Jvm.Cond.instanceMethod ({ cls := "FlowNetworkModel", name := "isLimiting", desc := "(I)Z" } : Jvm.MethodName)) ∈ TB := TB_mem (List.mem_of_getElem? (i := 1007) (by decide +kernel)) rfl
theorem tw_953 : (Jvm.Cond.selects "FlowNetworkModel" ({ cls := "FlowNetworkModel", name := "isLimiting", desc := "(I)Z" } : Jvm.MethodName) ({ cls := "FlowNetworkModel", name := "isLimiting", desc := "(I)Z" } : Jvm.MethodName)) ∈ TB := TB_mem (List.mem_of_getElem? (i := 1008) (by decide +kernel)) rfl
theorem tw_954 : (Jvm.Cond.code ({ cls := "FlowNetworkModel", name := "isLimiting", desc := "(I)Z" } : Jvm.MethodName) prog_9_method_42_code (2 : Nat) (Option.some Jvm.ClassFile.FieldType.boolean)) ∈ TB := TB_mem (List.mem_of_getElem? (i := 1009) (by decide +kernel)) rfl
theorem tw_955 : (Jvm.Cond.methodLink "FlowNetworkLaw" (179 : Nat) ({ cls := "FlowNetworkModel", name := "headroom", desc := "(I)I" } : Jvm.MethodName)) ∈ TB := TB_mem (List.mem_of_getElem? (i := 1010) (by decide +kernel)) rfl
theorem tw_956 : (Jvm.Cond.instanceMethod ({ cls := "FlowNetworkModel", name := "headroom", desc := "(I)I" } : Jvm.MethodName)) ∈ TB := TB_mem (List.mem_of_getElem? (i := 1011) (by decide +kernel)) rfl
theorem tw_957 : (Jvm.Cond.selects "FlowNetworkModel" ({ cls := "FlowNetworkModel", name := "headroom", desc := "(I)I" } : Jvm.MethodName) ({ cls := "FlowNetworkModel", name := "headroom", desc := "(I)I" } : Jvm.MethodName)) ∈ TB := TB_mem (List.mem_of_getElem? (i := 1012) (by decide +kernel)) rfl
theorem tw_958 : (Jvm.Cond.code ({ cls := "FlowNetworkModel", name := "headroom", desc := "(I)I" } : Jvm.MethodName) prog_9_method_43_code (2 : Nat) (Option.some Jvm.ClassFile.FieldType.int)) ∈ TB := TB_mem (List.mem_of_getElem? (i := 1013) (by decide +kernel)) rfl
theorem tw_959 : (Jvm.Cond.methodLink "FlowNetworkLaw" (182 : Nat) ({ cls := "FlowNetworkModel", name := "push", desc := "()I" } : Jvm.MethodName)) ∈ TB := TB_mem (List.mem_of_getElem? (i := 1014) (by decide +kernel)) rfl
theorem tw_960 : (Jvm.Cond.instanceMethod ({ cls := "FlowNetworkModel", name := "push", desc := "()I" } : Jvm.MethodName)) ∈ TB := TB_mem (List.mem_of_getElem? (i := 1015) (by decide +kernel)) rfl
theorem tw_961 : (Jvm.Cond.selects "FlowNetworkModel" ({ cls := "FlowNetworkModel", name := "push", desc := "()I" } : Jvm.MethodName) ({ cls := "FlowNetworkModel", name := "push", desc := "()I" } : Jvm.MethodName)) ∈ TB := TB_mem (List.mem_of_getElem? (i := 1016) (by decide +kernel)) rfl
theorem tw_962 : (Jvm.Cond.code ({ cls := "FlowNetworkModel", name := "push", desc := "()I" } : Jvm.MethodName) prog_9_method_44_code (2 : Nat) (Option.some Jvm.ClassFile.FieldType.int)) ∈ TB := TB_mem (List.mem_of_getElem? (i := 1017) (by decide +kernel)) rfl
theorem tw_963 : (Jvm.Cond.methodLink "FlowNetworkLaw" (185 : Nat) ({ cls := "FlowNetworkModel", name := "pop", desc := "()I" } : Jvm.MethodName)) ∈ TB := TB_mem (List.mem_of_getElem? (i := 1018) (by decide +kernel)) rfl
theorem tw_964 : (Jvm.Cond.instanceMethod ({ cls := "FlowNetworkModel", name := "pop", desc := "()I" } : Jvm.MethodName)) ∈ TB := TB_mem (List.mem_of_getElem? (i := 1019) (by decide +kernel)) rfl
theorem tw_965 : (Jvm.Cond.selects "FlowNetworkModel" ({ cls := "FlowNetworkModel", name := "pop", desc := "()I" } : Jvm.MethodName) ({ cls := "FlowNetworkModel", name := "pop", desc := "()I" } : Jvm.MethodName)) ∈ TB := TB_mem (List.mem_of_getElem? (i := 1020) (by decide +kernel)) rfl
theorem tw_966 : (Jvm.Cond.code ({ cls := "FlowNetworkModel", name := "pop", desc := "()I" } : Jvm.MethodName) prog_9_method_45_code (2 : Nat) (Option.some Jvm.ClassFile.FieldType.int)) ∈ TB := TB_mem (List.mem_of_getElem? (i := 1021) (by decide +kernel)) rfl
theorem tw_967 : (Jvm.Cond.methodLink "FlowNetworkLaw" (190 : Nat) ({ cls := "FlowNetworkModel", name := "digest", desc := "()J" } : Jvm.MethodName)) ∈ TB := TB_mem (List.mem_of_getElem? (i := 1022) (by decide +kernel)) rfl
theorem tw_968 : (Jvm.Cond.instanceMethod ({ cls := "FlowNetworkModel", name := "digest", desc := "()J" } : Jvm.MethodName)) ∈ TB := TB_mem (List.mem_of_getElem? (i := 1023) (by decide +kernel)) rfl
theorem tw_969 : (Jvm.Cond.selects "FlowNetworkModel" ({ cls := "FlowNetworkModel", name := "digest", desc := "()J" } : Jvm.MethodName) ({ cls := "FlowNetworkModel", name := "digest", desc := "()J" } : Jvm.MethodName)) ∈ TB := TB_mem (List.mem_of_getElem? (i := 1024) (by decide +kernel)) rfl
theorem tw_970 : (Jvm.Cond.code ({ cls := "FlowNetworkModel", name := "digest", desc := "()J" } : Jvm.MethodName) prog_9_method_46_code (4 : Nat) (Option.some Jvm.ClassFile.FieldType.long)) ∈ TB := TB_mem (List.mem_of_getElem? (i := 1025) (by decide +kernel)) rfl
theorem tw_971 : (Jvm.Cond.constantLong "FlowNetworkModel" (149 : Nat) (1147 : Int64)) ∈ TB := TB_mem (List.mem_of_getElem? (i := 1026) (by decide +kernel)) rfl
theorem tw_972 : (Jvm.Cond.constantLong "FlowNetworkModel" (151 : Nat) (31 : Int64)) ∈ TB := TB_mem (List.mem_of_getElem? (i := 1027) (by decide +kernel)) rfl
theorem tw_973 : (Jvm.Cond.constantDouble "FlowNetworkLaw" (113 : Nat) (4593671619917905920 : UInt64)) ∈ TB := TB_mem (List.mem_of_getElem? (i := 1028) (by decide +kernel)) rfl
theorem tw_974 : (Jvm.Cond.arrayClass Jvm.ClassFile.FieldType.long) ∈ TB := TB_mem (List.mem_of_getElem? (i := 1029) (by decide +kernel)) rfl
theorem tw_975 : (Jvm.Cond.arrayClass Jvm.ClassFile.FieldType.double) ∈ TB := TB_mem (List.mem_of_getElem? (i := 1030) (by decide +kernel)) rfl
theorem tw_976 : (Jvm.Cond.sameMethod "java/lang/Throwable" "java/lang/Throwable" "fillInStackTrace" "(I)Ljava/lang/Throwable;") ∈ TB := TB_mem (List.mem_of_getElem? (i := 1031) (by decide +kernel)) rfl
theorem ti_0 : ∀ w ∈ u_ws RX0 TX0 3, w ∈ TB := fun w h => TB_mem ((goodIn_of (big := lw_tbl) (u_ws RX0 TX0 3) (by decide +kernel)) w h).1 ((List.all_eq_true.mp (by decide +kernel : (u_ws RX0 TX0 3).all goodWord = true)) w h)
theorem ti_1 : ∀ w ∈ u_ws RX1 TX1 3, w ∈ TB := fun w h => TB_mem ((goodIn_of (big := lw_tbl) (u_ws RX1 TX1 3) (by decide +kernel)) w h).1 ((List.all_eq_true.mp (by decide +kernel : (u_ws RX1 TX1 3).all goodWord = true)) w h)
theorem ti_2 : ∀ w ∈ u_ws RX2 TX2 4, w ∈ TB := fun w h => TB_mem ((goodIn_of (big := lw_tbl) (u_ws RX2 TX2 4) (by decide +kernel)) w h).1 ((List.all_eq_true.mp (by decide +kernel : (u_ws RX2 TX2 4).all goodWord = true)) w h)
theorem ti_3 : ∀ w ∈ u_ws RX3 TX3 6, w ∈ TB := fun w h => TB_mem ((goodIn_of (big := lw_tbl) (u_ws RX3 TX3 6) (by decide +kernel)) w h).1 ((List.all_eq_true.mp (by decide +kernel : (u_ws RX3 TX3 6).all goodWord = true)) w h)
theorem ti_4 : ∀ w ∈ u_ws RX4 TX4 6, w ∈ TB := fun w h => TB_mem ((goodIn_of (big := lw_tbl) (u_ws RX4 TX4 6) (by decide +kernel)) w h).1 ((List.all_eq_true.mp (by decide +kernel : (u_ws RX4 TX4 6).all goodWord = true)) w h)
theorem ti_5 : ∀ w ∈ u_ws RX5 TX5 7, w ∈ TB := fun w h => TB_mem ((goodIn_of (big := lw_tbl) (u_ws RX5 TX5 7) (by decide +kernel)) w h).1 ((List.all_eq_true.mp (by decide +kernel : (u_ws RX5 TX5 7).all goodWord = true)) w h)
theorem ti_6 : ∀ w ∈ u_ws RX6 TX6 5, w ∈ TB := fun w h => TB_mem ((goodIn_of (big := lw_tbl) (u_ws RX6 TX6 5) (by decide +kernel)) w h).1 ((List.all_eq_true.mp (by decide +kernel : (u_ws RX6 TX6 5).all goodWord = true)) w h)
theorem ti_7 : ∀ w ∈ u_ws RX7 TX7 20, w ∈ TB := fun w h => TB_mem ((goodIn_of (big := lw_tbl) (u_ws RX7 TX7 20) (by decide +kernel)) w h).1 ((List.all_eq_true.mp (by decide +kernel : (u_ws RX7 TX7 20).all goodWord = true)) w h)
end
section
section ZM
variable {p : Program} {l : Launch} {e : Env} {R : Room} {s : State} {m : MethodId} {args : Array Value} {below : List Frame} {meth : Method} {c : Code} {D : va_G} {cs : Nat → ClassId} {ids : List Ix} {ad : Ix → Nat} {A : Nat → Prop} {H0 : Heap} {nL : Nat} {Q : State → Prop} {mc ms : Nat} {σ : Mem} {pc : Nat} {lo : List (Option Value)} {st : List Value} {cc : ByteArray} {own : String}
theorem pic_one {H : Heap} {o : Ix} (h : Pic D cs ids ad σ H) (ho : o ∈ ids) {x : va_E} (he : enc cs ad σ o = x) : va_P D vwCl [(ad o, x)] H := by
  intro k q hq
  cases k with
  | zero => cases hq; rw [← he]; exact h o ho
  | succ k => simp at hq
abbrev wlist (cs : Nat → ClassId) (ids : List Ix) (ad : Ix → Nat) (σ : Mem) : va_W := ids.map (fun i => (ad i, enc cs ad σ i))
theorem pic_P {H : Heap} (h : Pic D cs ids ad σ H) : va_P D vwCl (wlist cs ids ad σ) H := by
  intro k q hq
  rw [List.getElem?_map] at hq
  cases hi : ids[k]? with
  | none => rw [hi] at hq; cases hq
  | some i => rw [hi] at hq; cases hq; exact h i (List.mem_of_getElem? hi)
theorem nd_at {l : List Ix} (h : l.Nodup) : ∀ {i j : Nat} {x : Ix}, l[i]? = some x → l[j]? = some x → i = j := by
  intro i j x hi hj
  obtain ⟨h1, h2⟩ := List.getElem?_eq_some_iff.mp hi
  obtain ⟨h3, h4⟩ := List.getElem?_eq_some_iff.mp hj
  exact (List.getElem_inj h).mp (h2.trans h4.symm)
theorem pic_D (hnd : ids.Nodup) (hap : Apart ids ad) (hA : ∀ i ∈ ids, A (ad i)) : va_D A (wlist cs ids ad σ) := by
  have key : ∀ (k : Nat) (q : Nat × va_E), (wlist cs ids ad σ)[k]? = some q → ∃ i, ids[k]? = some i ∧ q.1 = ad i := by
    intro k q hq
    rw [List.getElem?_map] at hq
    cases hi : ids[k]? with
    | none => rw [hi] at hq; cases hq
    | some i => rw [hi] at hq; cases hq; exact ⟨i, rfl, rfl⟩
  refine ⟨fun i j x y hi hj hxy => ?_, fun k q hk => ?_⟩
  · obtain ⟨a, h1, h2⟩ := key i x hi
    obtain ⟨b, h3, h4⟩ := key j y hj
    have hab : a = b := hap a (List.mem_of_getElem? h1) b (List.mem_of_getElem? h3) (by rw [← h2, ← h4]; exact hxy)
    subst hab
    exact nd_at hnd h1 h3
  · obtain ⟨a, h1, h2⟩ := key k q hk
    rw [h2]
    exact hA a (List.mem_of_getElem? h1)
theorem pic_set {τ : Mem} {H : Heap} {o : Ix} {q0 : Nat} {x : va_E} (hnd : ids.Nodup) (hq0 : ids[q0]? = some o) (hP : va_P D vwCl ((wlist cs ids ad σ).set q0 (ad o, x)) H) (he : enc cs ad τ o = x) (hr : ∀ q, owner q ≠ o → σ q = τ q) : Pic D cs ids ad τ H := by
  intro i hi
  obtain ⟨k, hk⟩ := List.getElem?_of_mem hi
  have hl : k < (wlist cs ids ad σ).length := by
    rw [List.length_map]
    exact (List.getElem?_eq_some_iff.mp hk).1
  by_cases hio : i = o
  · subst hio
    have : k = q0 := nd_at hnd hk hq0
    subst this
    have h1 := hP k (ad i, x) (by rw [List.getElem?_set_self hl])
    rw [he]
    exact h1
  · have hkq : k ≠ q0 := fun e => hio (by rw [e, hq0] at hk; exact (Option.some.inj hk).symm)
    have h1 := hP k (ad i, enc cs ad σ i) (by rw [List.getElem?_set_ne (Ne.symm hkq), List.getElem?_map, hk]; rfl)
    rw [← enc_reads (σ := σ) (τ := τ) (i := i) (fun q hq => hr q (by rw [hq]; exact hio))]
    exact h1
theorem ids_place {o : Ix} (ho : o ∈ ids) : ∃ q0 : Nat, ids[q0]? = some o ∧ (wlist cs ids ad σ)[q0]? = some (ad o, enc cs ad σ o) := by
  obtain ⟨k, hk⟩ := List.getElem?_of_mem ho
  exact ⟨k, hk, by rw [List.getElem?_map, hk]; rfl⟩
theorem mset_owner {i o : Ix} {z x : Int} (h : owner i = o) : ∀ q, owner q ≠ o → σ q = mset σ i z x q := fun q hq => (mset_id (fun e => hq (by rw [e]; exact h))).symm
-- fields
theorem zr_get (X : Cx p s m args meth c cc nL own) (K : Kx D cs ids ad A s) {o : Ix} {ref C nm dsc : String} {T : u_T} {N ci k index : Nat} {fs : List Value} {v : Value} (ho : o ∈ ids) (he : enc cs ad σ o = .inr (ci, fs)) (hc : vwCl[ci]? = some (C, T, N)) (hin : ∀ w ∈ u_ws C T N, w ∈ TB) (hk : k < N) (hT : T k = (ref, nm, dsc, (T k).2.2.2)) (hw : Cond.fieldLink own index ref nm dsc ∈ TB) (hv : fs[k]? = some v) (d : decode cc pc = .ok (.getfield index, 3))
    (kk : Wx p l e R s m args below meth c D cs ids ad A H0 nL Q mc ms σ (pc + 3) lo (v :: st)) : Wx p l e R s m args below meth c D cs ids ad A H0 nL Q mc ms σ pc lo (.ref (ad o) :: st) := fun H locs ls hP hS hl => by
  refine va_get (ref := ref) X.1 X.2.1 X.2.2.2.2.1 hin X.2.2.2.1 K.1 (pic_one hP ho he) 0 rfl hc k hk ?_ ?_ hv d (kk H locs ls hP hS hl)
  · rw [hT]; exact X.2.2.2.2.1 _ hw
  · rw [hT]; exact fun _ h => h
theorem zr_getN (X : Cx p s m args meth c cc nL own) (K : Kx D cs ids ad A s) {o : Ix} {ref C nm dsc host : String} {T : u_T} {N ci k index : Nat} {fs : List Value} {v : Value} (ho : o ∈ ids) (he : enc cs ad σ o = .inr (ci, fs)) (hc : vwCl[ci]? = some (C, T, N)) (hin : ∀ w ∈ u_ws C T N, w ∈ TB) (hk : k < N) (hT : T k = (ref, nm, dsc, (T k).2.2.2)) (hw : Cond.fieldLinkNest own index ref nm dsc host ∈ NW) (hv : fs[k]? = some v) (d : decode cc pc = .ok (.getfield index, 3))
    (kk : Wx p l e R s m args below meth c D cs ids ad A H0 nL Q mc ms σ (pc + 3) lo (v :: st)) : Wx p l e R s m args below meth c D cs ids ad A H0 nL Q mc ms σ pc lo (.ref (ad o) :: st) := fun H locs ls hP hS hl => by
  refine va_getN (ref := ref) (host := host) X.1 X.2.1 X.2.2.2.2.1 hin X.2.2.2.1 K.1 (pic_one hP ho he) 0 rfl hc k hk ?_ ?_ hv d (kk H locs ls hP hS hl)
  · rw [hT]; exact va_Nw.use rfl (K.2.2.2.2.1 _ hw)
  · rw [hT]; exact fun _ h => h
theorem zr_put (X : Cx p s m args meth c cc nL own) (K : Kx D cs ids ad A s) {o q : Ix} {ref C nm dsc : String} {T : u_T} {ty0 : Nat → FieldType} {ty : FieldType} {N ci k index : Nat} {F : Mem → List Value} {x : Int} (ho : o ∈ ids) (he : ∀ τ, enc cs ad τ o = .inr (ci, F τ)) (hF : F (mset σ q 0 x) = (F σ).set k (jI x)) (hq : owner q = o) (hc : vwCl[ci]? = some (C, T, N)) (hin : ∀ w ∈ u_ws C T N, w ∈ TB) (hty : ∀ k, k < N → parseFieldDescriptor (T k).2.2.1 = some (ty0 k)) (hnm : ∀ a, a < N → ∀ b, b < N → a ≠ b → (T a).2.1 ≠ (T b).2.1) (hk : k < N) (hT : T k = (ref, nm, dsc, false)) (hw : Cond.fieldLink own index ref nm dsc ∈ TB) (hd : ty0 k = ty) (hn : narrow ty (jI x) = jI x) (hfit : fits ty (jI x) = true) (hl0 : k < (F σ).length) (d : decode cc pc = .ok (.putfield index, 3))
    (kk : Wx p l e R s m args below meth c D cs ids ad A H0 nL Q mc ms (mset σ q 0 x) (pc + 3) lo st) : Wx p l e R s m args below meth c D cs ids ad A H0 nL Q mc ms σ pc lo (jI x :: .ref (ad o) :: st) := fun H locs ls hP hS hl => by
  obtain ⟨q0, h1, h2⟩ := ids_place (cs := cs) (ad := ad) (σ := σ) ho
  rw [he] at h2
  refine va_put (ref := ref) X.1 X.2.1 X.2.2.2.2.1 hin ty0 hty hnm X.2.2.2.1 K.1 (pic_P hP) (pic_D K.2.2.2.1 K.2.1 K.2.2.1) hS q0 h2 hc k hk ?_ ?_ ?_ ((hty k hk).trans (congrArg some hd)) hn hfit hl0 d (fun H1 locs1 hP1 _ hS1 => kk H1 locs1 ls (pic_set K.2.2.2.1 h1 hP1 (by rw [he, hF]) (mset_owner hq)) hS1 hl)
  · rw [hT]; exact X.2.2.2.2.1 _ hw
  · rw [hT]; exact fun _ h => h
  · rw [hT]
theorem zr_putN (X : Cx p s m args meth c cc nL own) (K : Kx D cs ids ad A s) {o q : Ix} {ref C nm dsc host : String} {T : u_T} {ty0 : Nat → FieldType} {ty : FieldType} {N ci k index : Nat} {F : Mem → List Value} {x : Int} (ho : o ∈ ids) (he : ∀ τ, enc cs ad τ o = .inr (ci, F τ)) (hF : F (mset σ q 0 x) = (F σ).set k (jI x)) (hq : owner q = o) (hc : vwCl[ci]? = some (C, T, N)) (hin : ∀ w ∈ u_ws C T N, w ∈ TB) (hty : ∀ k, k < N → parseFieldDescriptor (T k).2.2.1 = some (ty0 k)) (hnm : ∀ a, a < N → ∀ b, b < N → a ≠ b → (T a).2.1 ≠ (T b).2.1) (hk : k < N) (hT : T k = (ref, nm, dsc, false)) (hw : Cond.fieldLinkNest own index ref nm dsc host ∈ NW) (hd : ty0 k = ty) (hn : narrow ty (jI x) = jI x) (hfit : fits ty (jI x) = true) (hl0 : k < (F σ).length) (d : decode cc pc = .ok (.putfield index, 3))
    (kk : Wx p l e R s m args below meth c D cs ids ad A H0 nL Q mc ms (mset σ q 0 x) (pc + 3) lo st) : Wx p l e R s m args below meth c D cs ids ad A H0 nL Q mc ms σ pc lo (jI x :: .ref (ad o) :: st) := fun H locs ls hP hS hl => by
  obtain ⟨q0, h1, h2⟩ := ids_place (cs := cs) (ad := ad) (σ := σ) ho
  rw [he] at h2
  refine va_putN (ref := ref) (host := host) X.1 X.2.1 X.2.2.2.2.1 hin ty0 hty hnm X.2.2.2.1 K.1 (pic_P hP) (pic_D K.2.2.2.1 K.2.1 K.2.2.1) hS q0 h2 hc k hk ?_ ?_ ?_ ((hty k hk).trans (congrArg some hd)) hn hfit hl0 d (fun H1 locs1 hP1 _ hS1 => kk H1 locs1 ls (pic_set K.2.2.2.1 h1 hP1 (by rw [he, hF]) (mset_owner hq)) hS1 hl)
  · rw [hT]; exact va_Nw.use rfl (K.2.2.2.2.1 _ hw)
  · rw [hT]; exact fun _ h => h
  · rw [hT]
-- arrays
theorem zr_iald (X : Cx p s m args meth c cc nL own) (K : Kx D cs ids ad A s) {i : Ix} {n : Nat} {z : Int} (hi : i ∈ ids) (he : enc cs ad σ i = arI cs σ i n) (hn : n < 2147483648) (h0 : 0 ≤ z ∧ z < n) (d : decode cc pc = .ok (.iaload, 1)) (kk : Wx p l e R s m args below meth c D cs ids ad A H0 nL Q mc ms σ (pc + 1) lo (jI (σ i z) :: st)) : Wx p l e R s m args below meth c D cs ids ad A H0 nL Q mc ms σ pc lo (jI z :: .ref (ad i) :: st) := fun H locs ls hP hS hl => by
  refine va_iald X.1 X.2.1 K.1 (pic_one hP hi he) 0 0 rfl rfl (iI_in h0.1 h0.2 hn) d ?_
  rw [iI_clamp h0.1 (by omega), Int.toNat_of_nonneg h0.1]
  exact kk H locs ls hP hS hl
theorem arI_put {i : Ix} {n : Nat} {z x : Int} (h0 : 0 ≤ z) (hz : z < 2147483648) : arI cs (mset σ i z x) i n = .inl (cs 0, n, .inl (upd (fun j => iI (σ i (j : Int))) (iI z).toNatClampNeg (iI x))) := by
  rw [iI_clamp h0 hz]
  show (Sum.inl (cs 0, n, Sum.inl _) : va_E) = _
  congr 4
  funext j
  show iI (mset σ i z x i (j : Int)) = upd (fun j => iI (σ i (j : Int))) z.toNat (iI x) j
  rw [mset_at]
  by_cases h : j = z.toNat
  · subst h
    rw [if_pos (Int.toNat_of_nonneg h0)]
    simp [upd]
  · rw [if_neg (by omega)]
    simp [upd, h]
theorem zr_iast (X : Cx p s m args meth c cc nL own) (K : Kx D cs ids ad A s) {i : Ix} {n : Nat} {z x : Int} (hi : i ∈ ids) (he : ∀ τ, enc cs ad τ i = arI cs τ i n) (hq : owner i = i) (hn : n < 2147483648) (h0 : 0 ≤ z ∧ z < n) (d : decode cc pc = .ok (.iastore, 1)) (kk : Wx p l e R s m args below meth c D cs ids ad A H0 nL Q mc ms (mset σ i z x) (pc + 1) lo st) : Wx p l e R s m args below meth c D cs ids ad A H0 nL Q mc ms σ pc lo (jI x :: jI z :: .ref (ad i) :: st) := fun H locs ls hP hS hl => by
  obtain ⟨q0, h1, h2⟩ := ids_place (cs := cs) (ad := ad) (σ := σ) hi
  rw [he] at h2
  exact va_iast X.1 X.2.1 K.1 (pic_P hP) (pic_D K.2.2.2.1 K.2.1 K.2.2.1) hS q0 0 h2 rfl (iI_in h0.1 h0.2 hn) d (fun H1 locs1 hP1 _ hS1 => kk H1 locs1 ls (pic_set K.2.2.2.1 h1 hP1 (by rw [he, arI_put h0.1 (by omega)]) (mset_owner hq)) hS1 hl)
theorem zr_aald (X : Cx p s m args meth c cc nL own) (K : Kx D cs ids ad A s) {i : Ix} {n : Nat} {f : Nat → Nat} {z : Int} (hi : i ∈ ids) (he : enc cs ad σ i = arQ cs n f) (hn : n < 2147483648) (h0 : 0 ≤ z ∧ z < n) (d : decode cc pc = .ok (.aaload, 1)) (kk : Wx p l e R s m args below meth c D cs ids ad A H0 nL Q mc ms σ (pc + 1) lo (.ref (f z.toNat) :: st)) : Wx p l e R s m args below meth c D cs ids ad A H0 nL Q mc ms σ pc lo (jI z :: .ref (ad i) :: st) := fun H locs ls hP hS hl => by
  have hin := iI_in (z := z) h0.1 h0.2 hn
  have hlt : (iI z).toNatClampNeg < n := Nat.not_le.mp fun q => hin (Or.inr q)
  have h1 := hP i hi
  rw [he] at h1
  refine W.aald (v := .ref (f z.toNat)) (ty := .array .int) X.1 X.2.1 h1 ((K.1.2 1 _ rfl).1 n (fun j => va_rf (if j < n then some (f j) else none))) rfl (fun q => by cases q) (by show ¬ (iI z < 0 ∨ (arrV _ _ _).slots.size ≤ _); rw [arrV_size]; exact hin) ?_ rfl rfl d (kk H locs ls hP hS hl)
  show (arrV _ _ _).slots[_]? = _
  rw [arrV_read _ _ hlt]
  show some (va_rf (if (iI z).toNatClampNeg < n then some (f (iI z).toNatClampNeg) else none)) = _
  rw [if_pos hlt, iI_clamp h0.1 (by omega)]
  rfl
theorem zr_alen (X : Cx p s m args meth c cc nL own) (K : Kx D cs ids ad A s) {i : Ix} {n : Nat} (hi : i ∈ ids) (he : enc cs ad σ i = arI cs σ i n) (d : decode cc pc = .ok (.arraylength, 1)) (kk : Wx p l e R s m args below meth c D cs ids ad A H0 nL Q mc ms σ (pc + 1) lo (jI (n : Int) :: st)) : Wx p l e R s m args below meth c D cs ids ad A H0 nL Q mc ms σ pc lo (.ref (ad i) :: st) := fun H locs ls hP hS hl => va_alen X.1 X.2.1 K.1 (pic_one hP hi he) 0 0 rfl rfl (iI_nat n) d (kk H locs ls hP hS hl)
def mcopy (σ : Mem) (a b : Ix) (n : Int) : Mem := fun q j => if q = b ∧ 0 ≤ j ∧ j < n then σ a j else σ q j
theorem mcopy_id {σ : Mem} {a b q : Ix} {n : Int} (h : q ≠ b) : mcopy σ a b n q = σ q := funext fun _ => if_neg fun e => h e.1
theorem mcopy_in {σ : Mem} {a b : Ix} {n j : Int} (h0 : 0 ≤ j) (h1 : j < n) : mcopy σ a b n b j = σ a j := if_pos ⟨rfl, h0, h1⟩
theorem mcopy_out {σ : Mem} {a b : Ix} {n j : Int} (h : j < 0 ∨ n ≤ j) : mcopy σ a b n b j = σ b j := if_neg fun e => by omega
theorem zr_copy (X : Cx p s m args meth c cc nL own) (K : Kx D cs ids ad A s) {i0 i1 : Ix} {n0 n1 index : Nat} {n : Int} (hi0 : i0 ∈ ids) (hi1 : i1 ∈ ids) (he0 : enc cs ad σ i0 = arI cs σ i0 n0) (he1 : ∀ τ, enc cs ad τ i1 = arI cs τ i1 n1) (hq : owner i1 = i1) (hb0 : n0 < 2147483648) (hb1 : n1 < 2147483648) (hn : 0 ≤ n ∧ n ≤ n0 ∧ n ≤ n1) (hw1 : Cond.methodLink own index arraycopyName ∈ TB) (hw2 : Cond.native arraycopyName ∈ TB) (hw3 : Cond.static arraycopyName ∈ TB) (hw4 : Cond.initialized "java/lang/System" ∈ TB) (hR : 1 ≤ R.frames ∧ (st.map fun v => v.category).sum + (nativeFrameWords "java/lang/System" "arraycopy" 5 + 11) ≤ R.locals) (d : decode cc pc = .ok (.invokestatic index, 3)) (kk : Wx p l e R s m args below meth c D cs ids ad A H0 nL Q mc ms (mcopy σ i0 i1 n) (pc + 3) lo st) : Wx p l e R s m args below meth c D cs ids ad A H0 nL Q mc ms σ pc lo (jI n :: jI 0 :: .ref (ad i1) :: jI 0 :: .ref (ad i0) :: st) := fun H locs ls hP hS hl => by
  obtain ⟨q0, g1, g2⟩ := ids_place (cs := cs) (ad := ad) (σ := σ) hi0
  obtain ⟨q1, h1, h2⟩ := ids_place (cs := cs) (ad := ad) (σ := σ) hi1
  rw [he0] at g2
  rw [he1] at h2
  have hc0 : (iI 0).toNatClampNeg = 0 := rfl
  have hcn : (iI n).toNatClampNeg = n.toNat := iI_clamp hn.1 (by omega)
  refine va_copyi X.1 X.2.1 (X.2.2.1.trans hl.1.symm) X.2.2.2.1 (X.2.2.2.2.1 _ hw1) (X.2.2.2.2.1 _ hw2) (X.2.2.2.2.1 _ hw3) (X.2.2.2.2.1 _ hw4) K.1 (pic_P hP) (pic_D K.2.2.2.1 K.2.1 K.2.2.1) hS q0 q1 0 0 g2 h2 rfl rfl rfl (by decide) (by decide) (by rw [iI_0, iI_lt ⟨by omega, by omega⟩ ⟨by omega, by omega⟩]; omega) (by rw [hc0, hcn]; omega) (by rw [hc0, hcn]; omega) (fun _ _ => rfl) hR.1 hR.2 d (fun H1 locs1 hP1 _ hS1 => kk H1 locs1 ls (pic_set K.2.2.2.1 h1 hP1 ?_ (fun q hq' => (mcopy_id (fun e => hq' (by rw [e]; exact hq))).symm)) hS1 hl)
  rw [he1, hc0, hcn]
  show (Sum.inl (cs 0, n1, Sum.inl _) : va_E) = _
  congr 4
  funext j
  show iI (mcopy σ i0 i1 n i1 (j : Int)) = va_cpy (fun j => iI (σ i0 (j : Int))) (fun j => iI (σ i1 (j : Int))) 0 0 n.toNat j
  by_cases h : j < n.toNat
  · rw [mcopy_in (by omega) (by omega), pk_cpy_in (by omega) (by omega)]
    simp
  · rw [mcopy_out (by omega), pk_cpy_out (by omega)]
theorem zr_min (X : Cx p s m args meth c cc nL own) {index : Nat} {x y : Int} (hw1 : Cond.methodLink own index Lib.Math.min.name ∈ TB) (hw2 : Cond.static Lib.Math.min.name ∈ TB) (hw3 : Cond.initialized "java/lang/Math" ∈ TB) (hw4 : Cond.code Lib.Math.min.name Lib.Math.min.code 2 (some .int) ∈ TB) (hR : 1 ≤ R.frames ∧ (st.map fun v => v.category).sum + 13 ≤ R.locals ∧ mc ≤ R.cells ∧ ms ≤ R.slots) (hx : rg x) (hy : rg y) (d : decode cc pc = .ok (.invokestatic index, 3)) (kk : ∀ w : Int, (w = x ∨ w = y) ∧ w ≤ x ∧ w ≤ y → Wx p l e R s m args below meth c D cs ids ad A H0 nL Q mc ms σ (pc + 3) lo (jI w :: st)) : Wx p l e R s m args below meth c D cs ids ad A H0 nL Q mc ms σ pc lo (jI y :: jI x :: st) := fun H locs ls hP hS hl => by
  refine va_mmin X.1 X.2.1 (X.2.2.1.trans hl.1.symm) X.2.2.2.1 (X.2.2.2.2.1 _ hw1) (X.2.2.2.2.1 _ hw2) (X.2.2.2.2.1 _ hw3) (X.2.2.2.2.1 _ hw4) hR.1 hR.2.1 hR.2.2.1 hR.2.2.2 d ?_
  by_cases h : y < x
  · rw [if_pos ((iI_lt hy hx).mpr h)]
    exact kk y ⟨Or.inr rfl, by omega, Int.le_refl y⟩ H locs ls hP hS hl
  · rw [if_neg (fun h1 => h ((iI_lt hy hx).mp h1))]
    exact kk x ⟨Or.inl rfl, Int.le_refl x, by omega⟩ H locs ls hP hS hl
end ZM
end
section
/-! contracts over the world of numbered cells, and their calls -/
def rmm (h mc ms : Nat) : Room := { frames := h, cells := mc, slots := ms, locals := 100 + 60 * h }
abbrev wsy (y : MethodName) (cc : ByteArray) (nL : Nat) (ret : Option FieldType) : List Cond := .code y cc nL ret :: TB
abbrev qI (D : va_G) (cs : Nat → ClassId) (ids : List Ix) (ad : Ix → Nat) (Post : Int → Mem → Prop) : Array Value → State → Outcome → State → Prop := va_Qi (fun r (u : Int × Mem) => r = iI u.1 ∧ Post u.1 u.2) (fun u t => Pic D cs ids ad u.2 t.heap) (Rg ids ad)
abbrev qV (D : va_G) (cs : Nat → ClassId) (ids : List Ix) (ad : Ix → Nat) (Post : Mem → Prop) : Array Value → State → Outcome → State → Prop := va_Qv (fun (u : Mem) => Post u) (fun u t => Pic D cs ids ad u t.heap) (Rg ids ad)
/-- a method that makes nothing and answers with a whole number (or a truth value) -/
def CI (l : Launch) (D : va_G) (cs : Nat → ClassId) (ids : List Ix) (ad : Ix → Nat) (y : MethodName) (cc : ByteArray) (nL : Nat) (ret : FieldType) (h : Nat) (as : List Value) (σ : Mem) (Post : Int → Mem → Prop) : Prop :=
  Met l y (wsy y cc nL (some ret)) (rmm h 0 0) (va_Pc as (fun U => Wo D cs ids ad σ U)) (qI D cs ids ad Post) 0 0 (Rg ids ad)
def CV (l : Launch) (D : va_G) (cs : Nat → ClassId) (ids : List Ix) (ad : Ix → Nat) (y : MethodName) (cc : ByteArray) (nL : Nat) (h : Nat) (as : List Value) (σ : Mem) (Post : Mem → Prop) : Prop :=
  Met l y (wsy y cc nL none) (rmm h 0 0) (va_Pc as (fun U => Wo D cs ids ad σ U)) (qV D cs ids ad Post) 0 0 (Rg ids ad)
theorem CI.of {l : Launch} {D : va_G} {cs : Nat → ClassId} {ids : List Ix} {ad : Ix → Nat} {y : MethodName} {cc : ByteArray} {nL h : Nat} {ret : FieldType} {as : List Value} {σ : Mem} {Post : Int → Mem → Prop} (own : String) (hap : Apart ids ad) (hnd : ids.Nodup) (hy : plainName y.cls = true) (ho : y.cls = own) (hlen : (lg_sl as).length ≤ nL)
    (body : ∀ (p : Program) (e : Env) (s : State) (m : MethodId) (args : Array Value) (below : List Frame) (meth : Method) (c : Code), Cx p s m args meth c cc nL own → Kx D cs ids ad (Rg ids ad) s → meth.sig.returnType = some ret →
      Wx p l e (rmm h 0 0) s m args below meth c D cs ids ad (Rg ids ad) s.heap nL (MQ below (qI D cs ids ad Post) args s 0 0 (Rg ids ad)) 0 0 σ 0 (entryLo as nL) []) : CI l D cs ids ad y cc nL ret h as σ Post := by
  refine Met.ofW (cc := cc) (maxL := nL) (ret := some ret) hy rfl ?_
  intro p e s m args below meth c s₁ B hml hv
  obtain ⟨rfl, hP, hK, hN, hX⟩ := hv
  have hts := atoms_spec (ws := wsy y cc nL (some ret)) B.pre
  have hown : s.vm.findClass own = some m.cls := ho ▸ findClass_of_methodNamed B.named
  rw [lg_entry_eq]
  exact body p e s m as.toArray below meth c ⟨B.exec, B.bytes, hml, hown, fun w hw => hts w (List.mem_cons_of_mem _ hw), B.notSynchronized⟩ ⟨hK, hap, fun i hi => ⟨i, hi, rfl⟩, hnd, hN, hX⟩ B.returns s.heap [] _ hP va_S.rf (lo_entry as hlen)
theorem CV.of {l : Launch} {D : va_G} {cs : Nat → ClassId} {ids : List Ix} {ad : Ix → Nat} {y : MethodName} {cc : ByteArray} {nL h : Nat} {as : List Value} {σ : Mem} {Post : Mem → Prop} (own : String) (hap : Apart ids ad) (hnd : ids.Nodup) (hy : plainName y.cls = true) (ho : y.cls = own) (hlen : (lg_sl as).length ≤ nL)
    (body : ∀ (p : Program) (e : Env) (s : State) (m : MethodId) (args : Array Value) (below : List Frame) (meth : Method) (c : Code), Cx p s m args meth c cc nL own → Kx D cs ids ad (Rg ids ad) s → meth.sig.returnType = none →
      Wx p l e (rmm h 0 0) s m args below meth c D cs ids ad (Rg ids ad) s.heap nL (MQ below (qV D cs ids ad Post) args s 0 0 (Rg ids ad)) 0 0 σ 0 (entryLo as nL) []) : CV l D cs ids ad y cc nL h as σ Post := by
  refine Met.ofW (cc := cc) (maxL := nL) (ret := none) hy rfl ?_
  intro p e s m args below meth c s₁ B hml hv
  obtain ⟨rfl, hP, hK, hN, hX⟩ := hv
  have hts := atoms_spec (ws := wsy y cc nL none) B.pre
  have hown : s.vm.findClass own = some m.cls := ho ▸ findClass_of_methodNamed B.named
  rw [lg_entry_eq]
  exact body p e s m as.toArray below meth c ⟨B.exec, B.bytes, hml, hown, fun w hw => hts w (List.mem_cons_of_mem _ hw), B.notSynchronized⟩ ⟨hK, hap, fun i hi => ⟨i, hi, rfl⟩, hnd, hN, hX⟩ B.returns s.heap [] _ hP va_S.rf (lo_entry as hlen)
theorem CI.mono {l : Launch} {D : va_G} {cs : Nat → ClassId} {ids : List Ix} {ad : Ix → Nat} {y : MethodName} {cc : ByteArray} {nL h : Nat} {ret : FieldType} {as : List Value} {σ : Mem} {Post Post' : Int → Mem → Prop} (hC : CI l D cs ids ad y cc nL ret h as σ Post) (hp : ∀ z τ, Post z τ → Post' z τ) : CI l D cs ids ad y cc nL ret h as σ Post' := by
  intro p e h1 h2 h3 s m args below h4 h5 h6 h7
  obtain ⟨k, o, b1, b2, b3, ⟨⟨⟨r, u, q1, ⟨q2, q3⟩, q4⟩, q5⟩, q6⟩⟩ := hC p e h1 h2 h3 s m args below h4 h5 h6 h7
  exact ⟨k, o, b1, b2, b3, ⟨⟨r, u, q1, ⟨q2, hp _ _ q3⟩, q4⟩, q5⟩, q6⟩
section ZC
variable {p : Program} {l : Launch} {e : Env} {R : Room} {s : State} {m : MethodId} {args : Array Value} {below : List Frame} {meth : Method} {c : Code} {D : va_G} {cs : Nat → ClassId} {ids : List Ix} {ad : Ix → Nat} {A : Nat → Prop} {H0 : Heap} {nL : Nat} {Q : State → Prop} {mc ms : Nat} {σ : Mem} {pc : Nat} {lo : List (Option Value)} {st : List Value} {cc : ByteArray} {own : String}
theorem zr_iret (X : Cx p s m args meth c cc nL own) {Post : Int → Mem → Prop} {z : Int} (hr : meth.sig.returnType = some .int) (d : decode cc pc = .ok (.ireturn, 1)) (h : Post z σ) : Wx p l e R s m args below meth c D cs ids ad (Rg ids ad) s.heap nL (MQ below (qI D cs ids ad Post) args s 0 0 (Rg ids ad)) 0 0 σ pc lo [jI z] := fun H locs ls hP hS hl =>
  W.iret X.1 X.2.1 hr (fun t ht _ => ⟨⟨iI z, (z, σ), rfl, ⟨rfl, h⟩, (by show Pic D cs ids ad σ t.heap; rw [ht]; exact hP)⟩, hS.F ht⟩) hS.2.2 d X.2.2.2.2.2
theorem zr_zret (X : Cx p s m args meth c cc nL own) {Post : Int → Mem → Prop} {z : Int} (hr : meth.sig.returnType = some .boolean) (d : decode cc pc = .ok (.ireturn, 1)) (hz : z = 0 ∨ z = 1) (h : Post z σ) : Wx p l e R s m args below meth c D cs ids ad (Rg ids ad) s.heap nL (MQ below (qI D cs ids ad Post) args s 0 0 (Rg ids ad)) 0 0 σ pc lo [jI z] := fun H locs ls hP hS hl =>
  W.zret X.1 X.2.1 hr (by rcases hz with rfl | rfl <;> rfl) (fun t ht _ => ⟨⟨iI z, (z, σ), rfl, ⟨rfl, h⟩, (by show Pic D cs ids ad σ t.heap; rw [ht]; exact hP)⟩, hS.F ht⟩) hS.2.2 d X.2.2.2.2.2
theorem zr_vret (X : Cx p s m args meth c cc nL own) {Post : Mem → Prop} (hr : meth.sig.returnType = none) (d : decode cc pc = .ok (.return_, 1)) (h : Post σ) : Wx p l e R s m args below meth c D cs ids ad (Rg ids ad) s.heap nL (MQ below (qV D cs ids ad Post) args s 0 0 (Rg ids ad)) 0 0 σ pc lo [] := fun H locs ls hP hS hl =>
  W.vret X.1 X.2.1 hr (fun t ht _ => ⟨⟨σ, rfl, h, (by show Pic D cs ids ad σ t.heap; rw [ht]; exact hP)⟩, hS.F ht⟩) hS.2.2 d X.2.2.2.2.2
/-- the words of a call of a method of the same class, of a nest mate -/
def lkV (own : String) (idx : Nat) (y : MethodName) (bytes : ByteArray) (maxL : Nat) (ret : Option FieldType) : Prop := Cond.methodLink own idx y ∈ TB ∧ Cond.instanceMethod y ∈ TB ∧ Cond.selects y.cls y y ∈ TB ∧ Cond.initialized y.cls ∈ TB ∧ Cond.code y bytes maxL ret ∈ TB
def lkN (own host : String) (idx : Nat) (y : MethodName) (bytes : ByteArray) (maxL : Nat) (ret : Option FieldType) : Prop := Cond.methodLinkNest own idx y host ∈ NW ∧ Cond.instanceMethod y ∈ TB ∧ Cond.selects y.cls y y ∈ TB ∧ Cond.initialized y.cls ∈ TB ∧ Cond.code y bytes maxL ret ∈ TB
def lkS (own : String) (idx : Nat) (y : MethodName) (bytes : ByteArray) (maxL : Nat) (ret : Option FieldType) : Prop := Cond.methodLink own idx y ∈ TB ∧ Cond.static y ∈ TB ∧ Cond.initialized y.cls ∈ TB ∧ Cond.code y bytes maxL ret ∈ TB
def lkSN (own host : String) (idx : Nat) (y : MethodName) (bytes : ByteArray) (maxL : Nat) (ret : Option FieldType) : Prop := Cond.methodLinkNest own idx y host ∈ NW ∧ Cond.static y ∈ TB ∧ Cond.initialized y.cls ∈ TB ∧ Cond.code y bytes maxL ret ∈ TB
/-- the callee's name is plain, it takes n parameters, and the room holds it -/
def dcl (y : MethodName) (n : Nat) : Prop := y.cls ≠ "java/lang/invoke/MethodHandle" ∧ y.cls ≠ "java/lang/invoke/VarHandle" ∧ (parseMethodDescriptor y.desc).map (fun d => d.parameters.length) = some n
theorem wsy_in {y : MethodName} {bytes : ByteArray} {maxL : Nat} {ret : Option FieldType} (h : Cond.code y bytes maxL ret ∈ TB) : GoodIn TB (wsy y bytes maxL ret) := fun w hw => by
  have hm : w ∈ TB := (List.mem_cons.mp hw).elim (fun e => by rw [e]; exact h) id
  exact ⟨hm, good_of_word (TB_good hm)⟩
theorem cb_V (X : Cx p s m args meth c cc nL own) {y : MethodName} {bytes : ByteArray} {maxL index n h mc1 ms1 : Nat} {ret : Option FieldType} (L : lkV own index y bytes maxL ret) (hd : dcl y n) (hR : h + 1 ≤ R.frames ∧ 8 + (maxL + 11) + (100 + 60 * h) ≤ R.locals) : CallW R s args own y.cls index y bytes maxL ret (wsy y bytes maxL ret) (rmm h mc1 ms1) mc1 ms1 n :=
  ⟨callB_of n X.2.2.2.2.1 (wsy_in L.2.2.2.2) rfl rfl rfl (X.2.2.2.2.1 _ L.2.2.2.1) (X.2.2.2.2.1 _ L.1) hd hR, X.2.2.2.2.1 _ L.2.1, X.2.2.2.2.1 _ L.2.2.1⟩
theorem cb_S (X : Cx p s m args meth c cc nL own) {y : MethodName} {bytes : ByteArray} {maxL index n h mc1 ms1 : Nat} {ret : Option FieldType} (L : lkS own index y bytes maxL ret) (hd : dcl y n) (hR : h + 1 ≤ R.frames ∧ 8 + (maxL + 11) + (100 + 60 * h) ≤ R.locals) : CallB R s args own index y bytes maxL ret (wsy y bytes maxL ret) (rmm h mc1 ms1) mc1 ms1 n ∧ (Cond.static y).before args s = true :=
  ⟨callB_of n X.2.2.2.2.1 (wsy_in L.2.2.2) rfl rfl rfl (X.2.2.2.2.1 _ L.2.2.1) (X.2.2.2.2.1 _ L.1) hd hR, X.2.2.2.2.1 _ L.2.1⟩
theorem cb_N (X : Cx p s m args meth c cc nL own) (K : Kx D cs ids ad A s) {y : MethodName} {host : String} {bytes : ByteArray} {maxL index n h mc1 ms1 : Nat} {ret : Option FieldType} (L : lkN own host index y bytes maxL ret) (hd : dcl y n) (hR : h + 1 ≤ R.frames ∧ 8 + (maxL + 11) + (100 + 60 * h) ≤ R.locals) : va_CN R s args own index y host bytes maxL ret (wsy y bytes maxL ret) (rmm h mc1 ms1) mc1 ms1 n ∧ (Cond.instanceMethod y).before args s = true ∧ (Cond.selects y.cls y y).before args s = true :=
  ⟨va_cnB n X.2.2.2.2.1 (wsy_in L.2.2.2.2) rfl rfl rfl (K.2.2.2.2.1 _ L.1) (X.2.2.2.2.1 _ L.2.2.2.1) hd hR, X.2.2.2.2.1 _ L.2.1, X.2.2.2.2.1 _ L.2.2.1⟩
theorem cb_SN (X : Cx p s m args meth c cc nL own) (K : Kx D cs ids ad A s) {y : MethodName} {host : String} {bytes : ByteArray} {maxL index n h mc1 ms1 : Nat} {ret : Option FieldType} (L : lkSN own host index y bytes maxL ret) (hd : dcl y n) (hR : h + 1 ≤ R.frames ∧ 8 + (maxL + 11) + (100 + 60 * h) ≤ R.locals) : va_CN R s args own index y host bytes maxL ret (wsy y bytes maxL ret) (rmm h mc1 ms1) mc1 ms1 n ∧ (Cond.static y).before args s = true ∧ True :=
  ⟨va_cnB n X.2.2.2.2.1 (wsy_in L.2.2.2) rfl rfl rfl (K.2.2.2.2.1 _ L.1) (X.2.2.2.2.1 _ L.2.2.1) hd hR, X.2.2.2.2.1 _ L.2.1, trivial⟩
theorem pre_S (K : Kx D cs ids ad A s) {H : Heap} {As : List Value} (hP : Pic D cs ids ad σ H) : PreS s H (va_Pc As (fun U => Wo D cs ids ad σ U)) As :=
  ⟨fun a U g mk q => ⟨q.1, Wo.same (u := U) (U := U.calling g mk a) rfl rfl q.2⟩, fun U hU hW => ⟨rfl, by rw [hU]; exact hP, va_K.moved hW.alike K.1, K.2.2.2.2.1.warm hW, K.2.2.2.2.2.warm hW⟩⟩
theorem pre_V (K : Kx D cs ids ad A s) {H : Heap} {o : Ix} {ci : Nat} {q : vw_C} {fs : List Value} {As : List Value} (hP : Pic D cs ids ad σ H) (ho : o ∈ ids) (he : enc cs ad σ o = .inr (ci, fs)) (hc : vwCl[ci]? = some q) : PreV s H q.1 (ad o) (va_Pc (.ref (ad o) :: As) (fun U => Wo D cs ids ad σ U)) As :=
  ⟨fun a U g mk q => ⟨q.1, Wo.same (u := U) (U := U.calling g mk a) rfl rfl q.2⟩, va_recv K.1 (pic_one hP ho he) hc (q0 := 0) rfl, fun U hU hW => ⟨rfl, by rw [hU]; exact hP, va_K.moved hW.alike K.1, K.2.2.2.2.1.warm hW, K.2.2.2.2.2.warm hW⟩⟩
theorem Rg_in (K : Kx D cs ids ad A s) : ∀ q, Rg ids ad q → A q := fun q h => by
  obtain ⟨i, hi, rfl⟩ := h
  exact K.2.2.1 i hi
theorem zr_callVI (X : Cx p s m args meth c cc nL own) (K : Kx D cs ids ad A s) {y : MethodName} {bytes : ByteArray} {maxL index n h ci : Nat} {ret : FieldType} {o : Ix} {q : vw_C} {fs : List Value} {As st1 : List Value} {Post : Int → Mem → Prop} (hC : CI l D cs ids ad y bytes maxL ret h (.ref (ad o) :: As) σ Post) (L : lkV own index y bytes maxL (some ret)) (hd : dcl y n) (ho : o ∈ ids) (he : enc cs ad σ o = .inr (ci, fs)) (hc : vwCl[ci]? = some q) (hy : y.cls = q.1) (hst : st1 = As.reverse ++ .ref (ad o) :: st) (hn : As.length = n) (hW : (st.map fun v => v.category).sum ≤ 8) (hR : (h + 1 ≤ R.frames ∧ 8 + (maxL + 11) + (100 + 60 * h) ≤ R.locals) ∧ mc ≤ R.cells ∧ ms ≤ R.slots) (d : decode cc pc = .ok (.invokevirtual index, 3))
    (kk : ∀ (z : Int) (τ : Mem), Post z τ → Wx p l e R s m args below meth c D cs ids ad A H0 nL Q mc ms τ (pc + 3) lo (jI z :: st)) : Wx p l e R s m args below meth c D cs ids ad A H0 nL Q mc ms σ pc lo st1 := fun H locs ls hP hS hl => by
  subst hst
  refine va_calli (va_runV (As := As) (rest := st) (C := y.cls) ⟨X.1, X.2.1, X.2.2.1, X.2.2.2.1, X.2.2.2.2.1⟩ hC (cb_V X L hd hR.1) (by rw [hy]; exact pre_V K hP ho he hc) rfl hn hl.1 rfl (by show 2 * 0 + _ ≤ 8; omega) d hR.2) hS (fun q _ h => Rg_in K q h) (Rg_in K) (fun r u t H1 locs1 ht _ hw hB _ _ hS1 => ?_)
  obtain ⟨rfl, hp⟩ := hw
  exact kk u.1 u.2 hp H1 locs1 ls (by rw [← ht]; exact hB) hS1 hl
theorem zr_callVV (X : Cx p s m args meth c cc nL own) (K : Kx D cs ids ad A s) {y : MethodName} {bytes : ByteArray} {maxL index n h ci : Nat} {o : Ix} {q : vw_C} {fs : List Value} {As st1 : List Value} {Post : Mem → Prop} (hC : CV l D cs ids ad y bytes maxL h (.ref (ad o) :: As) σ Post) (L : lkV own index y bytes maxL none) (hd : dcl y n) (ho : o ∈ ids) (he : enc cs ad σ o = .inr (ci, fs)) (hc : vwCl[ci]? = some q) (hy : y.cls = q.1) (hst : st1 = As.reverse ++ .ref (ad o) :: st) (hn : As.length = n) (hW : (st.map fun v => v.category).sum ≤ 8) (hR : (h + 1 ≤ R.frames ∧ 8 + (maxL + 11) + (100 + 60 * h) ≤ R.locals) ∧ mc ≤ R.cells ∧ ms ≤ R.slots) (d : decode cc pc = .ok (.invokevirtual index, 3))
    (kk : ∀ (τ : Mem), Post τ → Wx p l e R s m args below meth c D cs ids ad A H0 nL Q mc ms τ (pc + 3) lo st) : Wx p l e R s m args below meth c D cs ids ad A H0 nL Q mc ms σ pc lo st1 := fun H locs ls hP hS hl => by
  subst hst
  refine va_callv (va_runV (As := As) (rest := st) (C := y.cls) ⟨X.1, X.2.1, X.2.2.1, X.2.2.2.1, X.2.2.2.2.1⟩ hC (cb_V X L hd hR.1) (by rw [hy]; exact pre_V K hP ho he hc) rfl hn hl.1 rfl (by show 2 * 0 + _ ≤ 8; omega) d hR.2) hS (fun q _ h => Rg_in K q h) (Rg_in K) (fun u t H1 locs1 ht _ hw hB _ _ hS1 => ?_)
  exact kk u hw H1 locs1 ls (by rw [← ht]; exact hB) hS1 hl
theorem zr_callNI (X : Cx p s m args meth c cc nL own) (K : Kx D cs ids ad A s) {y : MethodName} {host : String} {bytes : ByteArray} {maxL index n h ci : Nat} {ret : FieldType} {o : Ix} {q : vw_C} {fs : List Value} {As st1 : List Value} {Post : Int → Mem → Prop} (hC : CI l D cs ids ad y bytes maxL ret h (.ref (ad o) :: As) σ Post) (L : lkN own host index y bytes maxL (some ret)) (hd : dcl y n) (ho : o ∈ ids) (he : enc cs ad σ o = .inr (ci, fs)) (hc : vwCl[ci]? = some q) (hy : y.cls = q.1) (hst : st1 = As.reverse ++ .ref (ad o) :: st) (hn : As.length = n) (hW : (st.map fun v => v.category).sum ≤ 8) (hR : (h + 1 ≤ R.frames ∧ 8 + (maxL + 11) + (100 + 60 * h) ≤ R.locals) ∧ mc ≤ R.cells ∧ ms ≤ R.slots) (d : decode cc pc = .ok (.invokevirtual index, 3))
    (kk : ∀ (z : Int) (τ : Mem), Post z τ → Wx p l e R s m args below meth c D cs ids ad A H0 nL Q mc ms τ (pc + 3) lo (jI z :: st)) : Wx p l e R s m args below meth c D cs ids ad A H0 nL Q mc ms σ pc lo st1 := fun H locs ls hP hS hl => by
  subst hst
  refine va_calli (va_runVN (As := As) (rest := st) (C := y.cls) ⟨X.1, X.2.1, X.2.2.1, X.2.2.2.1, X.2.2.2.2.1⟩ hC (cb_N X K L hd hR.1) (by rw [hy]; exact pre_V K hP ho he hc) rfl hn hl.1 rfl (by show 2 * 0 + _ ≤ 8; omega) d hR.2) hS (fun q _ h => Rg_in K q h) (Rg_in K) (fun r u t H1 locs1 ht _ hw hB _ _ hS1 => ?_)
  obtain ⟨rfl, hp⟩ := hw
  exact kk u.1 u.2 hp H1 locs1 ls (by rw [← ht]; exact hB) hS1 hl
theorem zr_callNV (X : Cx p s m args meth c cc nL own) (K : Kx D cs ids ad A s) {y : MethodName} {host : String} {bytes : ByteArray} {maxL index n h ci : Nat} {o : Ix} {q : vw_C} {fs : List Value} {As st1 : List Value} {Post : Mem → Prop} (hC : CV l D cs ids ad y bytes maxL h (.ref (ad o) :: As) σ Post) (L : lkN own host index y bytes maxL none) (hd : dcl y n) (ho : o ∈ ids) (he : enc cs ad σ o = .inr (ci, fs)) (hc : vwCl[ci]? = some q) (hy : y.cls = q.1) (hst : st1 = As.reverse ++ .ref (ad o) :: st) (hn : As.length = n) (hW : (st.map fun v => v.category).sum ≤ 8) (hR : (h + 1 ≤ R.frames ∧ 8 + (maxL + 11) + (100 + 60 * h) ≤ R.locals) ∧ mc ≤ R.cells ∧ ms ≤ R.slots) (d : decode cc pc = .ok (.invokevirtual index, 3))
    (kk : ∀ (τ : Mem), Post τ → Wx p l e R s m args below meth c D cs ids ad A H0 nL Q mc ms τ (pc + 3) lo st) : Wx p l e R s m args below meth c D cs ids ad A H0 nL Q mc ms σ pc lo st1 := fun H locs ls hP hS hl => by
  subst hst
  refine va_callv (va_runVN (As := As) (rest := st) (C := y.cls) ⟨X.1, X.2.1, X.2.2.1, X.2.2.2.1, X.2.2.2.2.1⟩ hC (cb_N X K L hd hR.1) (by rw [hy]; exact pre_V K hP ho he hc) rfl hn hl.1 rfl (by show 2 * 0 + _ ≤ 8; omega) d hR.2) hS (fun q _ h => Rg_in K q h) (Rg_in K) (fun u t H1 locs1 ht _ hw hB _ _ hS1 => ?_)
  exact kk u hw H1 locs1 ls (by rw [← ht]; exact hB) hS1 hl
theorem zr_callSI (X : Cx p s m args meth c cc nL own) (K : Kx D cs ids ad A s) {y : MethodName} {bytes : ByteArray} {maxL index n h : Nat} {ret : FieldType} {As st1 : List Value} {Post : Int → Mem → Prop} (hC : CI l D cs ids ad y bytes maxL ret h As σ Post) (L : lkS own index y bytes maxL (some ret)) (hd : dcl y n) (hst : st1 = As.reverse ++ st) (hn : As.length = n) (hW : (st.map fun v => v.category).sum ≤ 8) (hR : (h + 1 ≤ R.frames ∧ 8 + (maxL + 11) + (100 + 60 * h) ≤ R.locals) ∧ mc ≤ R.cells ∧ ms ≤ R.slots) (d : decode cc pc = .ok (.invokestatic index, 3))
    (kk : ∀ (z : Int) (τ : Mem), Post z τ → Wx p l e R s m args below meth c D cs ids ad A H0 nL Q mc ms τ (pc + 3) lo (jI z :: st)) : Wx p l e R s m args below meth c D cs ids ad A H0 nL Q mc ms σ pc lo st1 := fun H locs ls hP hS hl => by
  subst hst
  refine va_calli (va_runS (As := As) (rest := st) ⟨X.1, X.2.1, X.2.2.1, X.2.2.2.1, X.2.2.2.2.1⟩ hC (cb_S X L hd hR.1) (pre_S K hP) rfl hn hl.1 rfl (by show 2 * 0 + _ ≤ 8; omega) d hR.2) hS (fun q _ h => Rg_in K q h) (Rg_in K) (fun r u t H1 locs1 ht _ hw hB _ _ hS1 => ?_)
  obtain ⟨rfl, hp⟩ := hw
  exact kk u.1 u.2 hp H1 locs1 ls (by rw [← ht]; exact hB) hS1 hl
theorem zr_callSV (X : Cx p s m args meth c cc nL own) (K : Kx D cs ids ad A s) {y : MethodName} {bytes : ByteArray} {maxL index n h : Nat} {As st1 : List Value} {Post : Mem → Prop} (hC : CV l D cs ids ad y bytes maxL h As σ Post) (L : lkS own index y bytes maxL none) (hd : dcl y n) (hst : st1 = As.reverse ++ st) (hn : As.length = n) (hW : (st.map fun v => v.category).sum ≤ 8) (hR : (h + 1 ≤ R.frames ∧ 8 + (maxL + 11) + (100 + 60 * h) ≤ R.locals) ∧ mc ≤ R.cells ∧ ms ≤ R.slots) (d : decode cc pc = .ok (.invokestatic index, 3))
    (kk : ∀ (τ : Mem), Post τ → Wx p l e R s m args below meth c D cs ids ad A H0 nL Q mc ms τ (pc + 3) lo st) : Wx p l e R s m args below meth c D cs ids ad A H0 nL Q mc ms σ pc lo st1 := fun H locs ls hP hS hl => by
  subst hst
  refine va_callv (va_runS (As := As) (rest := st) ⟨X.1, X.2.1, X.2.2.1, X.2.2.2.1, X.2.2.2.2.1⟩ hC (cb_S X L hd hR.1) (pre_S K hP) rfl hn hl.1 rfl (by show 2 * 0 + _ ≤ 8; omega) d hR.2) hS (fun q _ h => Rg_in K q h) (Rg_in K) (fun u t H1 locs1 ht _ hw hB _ _ hS1 => ?_)
  exact kk u hw H1 locs1 ls (by rw [← ht]; exact hB) hS1 hl
theorem zr_callSNI (X : Cx p s m args meth c cc nL own) (K : Kx D cs ids ad A s) {y : MethodName} {host : String} {bytes : ByteArray} {maxL index n h : Nat} {ret : FieldType} {As st1 : List Value} {Post : Int → Mem → Prop} (hC : CI l D cs ids ad y bytes maxL ret h As σ Post) (L : lkSN own host index y bytes maxL (some ret)) (hd : dcl y n) (hst : st1 = As.reverse ++ st) (hn : As.length = n) (hW : (st.map fun v => v.category).sum ≤ 8) (hR : (h + 1 ≤ R.frames ∧ 8 + (maxL + 11) + (100 + 60 * h) ≤ R.locals) ∧ mc ≤ R.cells ∧ ms ≤ R.slots) (d : decode cc pc = .ok (.invokestatic index, 3))
    (kk : ∀ (z : Int) (τ : Mem), Post z τ → Wx p l e R s m args below meth c D cs ids ad A H0 nL Q mc ms τ (pc + 3) lo (jI z :: st)) : Wx p l e R s m args below meth c D cs ids ad A H0 nL Q mc ms σ pc lo st1 := fun H locs ls hP hS hl => by
  subst hst
  refine va_calli (va_runSN (As := As) (rest := st) ⟨X.1, X.2.1, X.2.2.1, X.2.2.2.1, X.2.2.2.2.1⟩ hC (cb_SN X K L hd hR.1) (pre_S K hP) rfl hn hl.1 rfl (by show 2 * 0 + _ ≤ 8; omega) d hR.2) hS (fun q _ h => Rg_in K q h) (Rg_in K) (fun r u t H1 locs1 ht _ hw hB _ _ hS1 => ?_)
  obtain ⟨rfl, hp⟩ := hw
  exact kk u.1 u.2 hp H1 locs1 ls (by rw [← ht]; exact hB) hS1 hl
end ZC
end
section
theorem mF_0_0 : ((0, 0) : Ix) ∈ idsF := by decide +kernel
theorem mF_0_2 : ((0, 2) : Ix) ∈ idsF := by decide +kernel
theorem mF_0_3 : ((0, 3) : Ix) ∈ idsF := by decide +kernel
theorem mF_0_4 : ((0, 4) : Ix) ∈ idsF := by decide +kernel
theorem mF_0_5 : ((0, 5) : Ix) ∈ idsF := by decide +kernel
theorem mF_3_0 : ((3, 0) : Ix) ∈ idsF := by decide +kernel
theorem mF_3_1 : ((3, 1) : Ix) ∈ idsF := by decide +kernel
theorem mF_3_2 : ((3, 2) : Ix) ∈ idsF := by decide +kernel
theorem mF_3_3 : ((3, 3) : Ix) ∈ idsF := by decide +kernel
theorem mF_3_4 : ((3, 4) : Ix) ∈ idsF := by decide +kernel
theorem mF_3_5 : ((3, 5) : Ix) ∈ idsF := by decide +kernel
theorem mF_3_6 : ((3, 6) : Ix) ∈ idsF := by decide +kernel
theorem mF_3_7 : ((3, 7) : Ix) ∈ idsF := by decide +kernel
theorem mF_6_0 : ((6, 0) : Ix) ∈ idsF := by decide +kernel
theorem mF_6_1 : ((6, 1) : Ix) ∈ idsF := by decide +kernel
theorem mF_6_2 : ((6, 2) : Ix) ∈ idsF := by decide +kernel
theorem mF_6_3 : ((6, 3) : Ix) ∈ idsF := by decide +kernel
theorem mF_6_4 : ((6, 4) : Ix) ∈ idsF := by decide +kernel
theorem mF_6_5 : ((6, 5) : Ix) ∈ idsF := by decide +kernel
theorem mF_6_6 : ((6, 6) : Ix) ∈ idsF := by decide +kernel
theorem mF_6_7 : ((6, 7) : Ix) ∈ idsF := by decide +kernel
theorem mF_7_0 : ((7, 0) : Ix) ∈ idsF := by decide +kernel
theorem mF_7_1 : ((7, 1) : Ix) ∈ idsF := by decide +kernel
theorem mF_7_2 : ((7, 2) : Ix) ∈ idsF := by decide +kernel
theorem mF_7_3 : ((7, 3) : Ix) ∈ idsF := by decide +kernel
theorem mF_7_4 : ((7, 4) : Ix) ∈ idsF := by decide +kernel
theorem mF_7_5 : ((7, 5) : Ix) ∈ idsF := by decide +kernel
theorem mF_7_6 : ((7, 6) : Ix) ∈ idsF := by decide +kernel
theorem mF_7_7 : ((7, 7) : Ix) ∈ idsF := by decide +kernel
theorem mM_0 : ((4, 0) : Ix) ∈ idsM := by decide +kernel
theorem mM_4 : ((4, 4) : Ix) ∈ idsM := by decide +kernel
theorem mM_5 : ((4, 5) : Ix) ∈ idsM := by decide +kernel
theorem mM_6 : ((4, 6) : Ix) ∈ idsM := by decide +kernel
theorem mM_10 : ((4, 10) : Ix) ∈ idsM := by decide +kernel
theorem mM_11 : ((4, 11) : Ix) ∈ idsM := by decide +kernel
theorem mM_12 : ((4, 12) : Ix) ∈ idsM := by decide +kernel
theorem mM_13 : ((4, 13) : Ix) ∈ idsM := by decide +kernel
theorem mM_14 : ((4, 14) : Ix) ∈ idsM := by decide +kernel
theorem mM_16 : ((4, 16) : Ix) ∈ idsM := by decide +kernel
theorem mM_17 : ((4, 17) : Ix) ∈ idsM := by decide +kernel
theorem mM_18 : ((4, 18) : Ix) ∈ idsM := by decide +kernel
theorem mM_19 : ((4, 19) : Ix) ∈ idsM := by decide +kernel
theorem mM_20 : ((4, 20) : Ix) ∈ idsM := by decide +kernel
theorem mB {b k : Nat} (hb : b < 2) (hk : k < 8) : ((b + 6, k) : Ix) ∈ idsF := by
  have h : ∀ b : Fin 2, ∀ k : Fin 8, ((b.val + 6, k.val) : Ix) ∈ idsF := by decide +kernel
  exact h ⟨b, hb⟩ ⟨k, hk⟩
theorem mR1 {v : Nat} (h : v < 24) : ((1, v) : Ix) ∈ idsF := by
  have h1 : ∀ v : Fin 24, ((1, v.val) : Ix) ∈ idsF := by decide +kernel
  exact h1 ⟨v, h⟩
theorem mR2 {v : Nat} (h : v < 8) : ((2, v) : Ix) ∈ idsF := by
  have h1 : ∀ v : Fin 8, ((2, v.val) : Ix) ∈ idsF := by decide +kernel
  exact h1 ⟨v, h⟩
/-! masks: whole numbers, read bit by bit -/
def bt (m v : Int) : Bool := m.toNat.testBit v.toNat
def pI (v : Int) : Int := ((2 ^ v.toNat : Nat) : Int)
def oI (a b : Int) : Int := ((a.toNat ||| b.toNat : Nat) : Int)
def sI (m v : Int) : Int := ((m.toNat / 2 ^ v.toNat : Nat) : Int)
theorem nat_of {z : Int} (h : 0 ≤ z) : ∃ n : Nat, z = (n : Int) := ⟨z.toNat, (Int.toNat_of_nonneg h).symm⟩
theorem zb_shl {v : Int} (h0 : 0 ≤ v) (h : v < 31) : iI 1 <<< (iI v &&& 31) = iI (pI v) := by
  obtain ⟨n, rfl⟩ := nat_of h0
  have h1 : ∀ n : Fin 31, iI 1 <<< (iI (n.val : Int) &&& 31) = iI (pI (n.val : Int)) := by decide +kernel
  exact h1 ⟨n, by omega⟩
theorem zb_sm {n : Nat} (h : n < 32) : ((nI n &&& 31).toBitVec.smod 32).toNat = n := by
  have h1 : ∀ n : Fin 32, ((nI n.val &&& 31).toBitVec.smod 32).toNat = n.val := by decide +kernel
  exact h1 ⟨n, h⟩
theorem zb_shr {m v : Int} (hm : 0 ≤ m) (hm2 : m < 2147483648) (h0 : 0 ≤ v) (h : v < 31) : iI m >>> (iI v &&& 31) = iI (sI m v) := by
  obtain ⟨n, rfl⟩ := nat_of h0
  obtain ⟨k, rfl⟩ := nat_of hm
  exact pk_shrN (n := k) (by omega) _ n (zb_sm (by omega))
theorem zb_and1 {m : Int} (hm : 0 ≤ m) (hm2 : m < 2147483648) : iI m &&& iI 1 = iI (m % 2) := by
  obtain ⟨k, rfl⟩ := nat_of hm
  exact pk_andN (n := k) (by omega) (m := 1) 1 rfl
theorem zb_or {a b : Int} (ha : 0 ≤ a) (hb : 0 ≤ b) : iI a ||| iI b = iI (oI a b) := by
  obtain ⟨k, rfl⟩ := nat_of ha
  obtain ⟨n, rfl⟩ := nat_of hb
  show Int32.ofNat k ||| Int32.ofNat n = Int32.ofNat (k ||| n)
  apply Int32.toBitVec_inj.mp
  apply BitVec.eq_of_getLsbD_eq
  intro i hi
  simp [hi]
theorem sI_mod {m v : Int} : sI m v % 2 = if bt m v then 1 else 0 := by
  unfold sI bt
  rw [Nat.testBit_eq_decide_div_mod_eq]
  generalize m.toNat / 2 ^ v.toNat = q
  have h : q % 2 < 2 := Nat.mod_lt _ (by decide)
  by_cases h1 : q % 2 = 1
  · rw [decide_eq_true h1, if_pos rfl]
    omega
  · rw [decide_eq_false h1, if_neg (by decide)]
    omega
theorem sI_rg {m v : Int} (hm2 : m < 2147483648) : 0 ≤ sI m v ∧ sI m v < 2147483648 := by
  unfold sI
  have : m.toNat / 2 ^ v.toNat ≤ m.toNat := Nat.div_le_self _ _
  generalize m.toNat / 2 ^ v.toNat = q at *
  omega
/-- a mask of nodes below n -/
def isM (n m : Int) : Prop := 0 ≤ m ∧ m < 16777216 ∧ ∀ v, 0 ≤ v → bt m v = true → v < n
theorem oI_lt {a b : Int} (ha : a < 16777216) (hb : b < 16777216) : 0 ≤ oI a b ∧ oI a b < 16777216 := by
  have h := Nat.or_lt_two_pow (x := a.toNat) (y := b.toNat) (n := 24) (by omega) (by omega)
  unfold oI
  omega
theorem bt_o {a b v : Int} : bt (oI a b) v = (bt a v || bt b v) := by
  unfold bt oI
  rw [Int.toNat_natCast, Nat.testBit_or]
theorem bt_p {v w : Int} (hv : 0 ≤ v) (hw : 0 ≤ w) : bt (pI v) w = decide (v = w) := by
  unfold bt pI
  rw [Int.toNat_natCast, Nat.testBit_two_pow]
  have : (v.toNat = w.toNat) ↔ (v = w) := by omega
  simp [this]
theorem pI_rg {v : Int} (h : v < 24) : 0 ≤ pI v ∧ pI v < 16777216 := by
  unfold pI
  have h1 : 2 ^ v.toNat < 2 ^ 24 := Nat.pow_lt_pow_right (by decide) (by omega)
  generalize 2 ^ v.toNat = q at *
  omega
theorem pI_rg31 {v : Int} (h : v < 31) : 0 ≤ pI v ∧ pI v < 2147483648 := by
  unfold pI
  have h1 : 2 ^ v.toNat < 2 ^ 31 := Nat.pow_lt_pow_right (by decide) (by omega)
  generalize 2 ^ v.toNat = q at *
  omega
theorem bt_ext {a b : Int} (ha : 0 ≤ a) (hb : 0 ≤ b) (h : ∀ v, 0 ≤ v → bt a v = bt b v) : a = b := by
  have : a.toNat = b.toNat := by
    apply Nat.eq_of_testBit_eq
    intro i
    have := h (i : Int) (by omega)
    unfold bt at this
    rwa [Int.toNat_natCast] at this
  omega
theorem bt_big {m v : Int} (hm : m < 16777216) (hv : 24 ≤ v) : bt m v = false := by
  unfold bt
  apply Nat.testBit_lt_two_pow
  calc m.toNat < 2 ^ 24 := by omega
    _ ≤ 2 ^ v.toNat := Nat.pow_le_pow_right (by decide) (by omega)
/-! what a network is -/
def NetOk (σ : Mem) : Prop := (0 ≤ σ (0, 0) 0 ∧ σ (0, 0) 0 ≤ 24) ∧ (0 ≤ σ (0, 1) 0 ∧ σ (0, 1) 0 ≤ 80) ∧
  (∀ a, 0 ≤ a → a < σ (0, 1) 0 → (0 ≤ σ (0, 2) a ∧ σ (0, 2) a < σ (0, 0) 0) ∧ (0 ≤ σ (0, 3) a ∧ σ (0, 3) a < σ (0, 0) 0) ∧ σ (0, 2) a ≠ σ (0, 3) a)
/-- the rows of arcs at each node -/
def AdjOk (σ : Mem) : Prop := (∀ v, 0 ≤ v → v < 24 → 0 ≤ σ (0, 4) v ∧ σ (0, 4) v ≤ σ (0, 1) 0) ∧ (∀ v, σ (0, 0) 0 ≤ v → v < 24 → σ (0, 4) v = 0) ∧
  (∀ v i, 0 ≤ v → v < 24 → 0 ≤ i → i < σ (0, 4) v → (0 ≤ σ (1, v.toNat) i ∧ σ (1, v.toNat) i < σ (0, 1) 0) ∧ (σ (0, 2) (σ (1, v.toNat) i) = v ∨ σ (0, 3) (σ (1, v.toNat) i) = v)) ∧
  (∀ a, 0 ≤ a → a < σ (0, 1) 0 → (∃ i, (0 ≤ i ∧ i < σ (0, 4) (σ (0, 2) a)) ∧ σ (1, (σ (0, 2) a).toNat) i = a) ∧ (∃ i, (0 ≤ i ∧ i < σ (0, 4) (σ (0, 3) a)) ∧ σ (1, (σ (0, 3) a).toNat) i = a))
/-- what an arc may carry, and what it carries -/
def FlOk (σ : Mem) (b : Nat) : Prop := ∀ a, 0 ≤ a → a < σ (0, 1) 0 → 0 ≤ σ (b + 6, 3) a ∧ σ (b + 6, 3) a ≤ σ (b + 6, 2) a ∧ σ (b + 6, 2) a ≤ 100000000
/-- two memories are the same but for some numbers -/
def Agr (l : List Ix) (σ τ : Mem) : Prop := ∀ q, q ∉ l → τ q = σ q
theorem Agr.rf {l : List Ix} {σ : Mem} : Agr l σ σ := fun _ _ => rfl
theorem Agr.tr {l : List Ix} {σ τ υ : Mem} (h : Agr l σ τ) (k : Agr l τ υ) : Agr l σ υ := fun q hq => (k q hq).trans (h q hq)
theorem Agr.up {l k : List Ix} {σ τ : Mem} (h : Agr l σ τ) (hs : ∀ q ∈ l, q ∈ k) : Agr k σ τ := fun q hq => h q (fun e => hq (hs q e))
theorem Agr.set {l : List Ix} {σ : Mem} {i : Ix} {z x : Int} (h : i ∈ l) : Agr l σ (mset σ i z x) := fun q hq => mset_id (fun e => hq (e ▸ h))
end
section
/-! FLOW AND NETWORK: the leaves -/

theorem dc_X6_contains : dcl yX6_contains 2 := ⟨by decide, by decide, by decide +kernel⟩
theorem dc_X1_room : dcl yX1_room 2 := ⟨by decide, by decide, by decide +kernel⟩
theorem dc_X1_send : dcl yX1_send 3 := ⟨by decide, by decide, by decide +kernel⟩
theorem dc_X4_otherEnd : dcl yX4_otherEnd 2 := ⟨by decide, by decide, by decide +kernel⟩
theorem dc_X1_withNeighbours : dcl yX1_withNeighbours 1 := ⟨by decide, by decide, by decide +kernel⟩
theorem dc_X1_reachableFrom : dcl yX1_reachableFrom 1 := ⟨by decide, by decide, by decide +kernel⟩
theorem dc_X1_capacityOut : dcl yX1_capacityOut 1 := ⟨by decide, by decide, by decide +kernel⟩
theorem dc_X1_block : dcl yX1_block 1 := ⟨by decide, by decide, by decide +kernel⟩
theorem dc_X1_copy : dcl yX1_copy 1 := ⟨by decide, by decide, by decide +kernel⟩
theorem dc_J7_fill_53178 : dcl yJ7_fill_53178 2 := ⟨by decide, by decide, by decide +kernel⟩
theorem dc_X4_allNodes : dcl yX4_allNodes 0 := ⟨by decide, by decide, by decide +kernel⟩

set_option maxHeartbeats 4000000 in
set_option maxRecDepth 100000 in
/-- contains: a bit of a mask -/
theorem c_X6_contains (l : Launch) (D : va_G) (cs : Nat → ClassId) (ad : Ix → Nat) (hap : Apart idsF ad) {σ : Mem} {m v : Int} (hm : 0 ≤ m ∧ m < 2147483648) (hv : 0 ≤ v ∧ v < 31) : CI l D cs idsF ad yX6_contains cX6_contains 2 .boolean 0 [(jI m), (jI v)] σ (fun z τ => τ = σ ∧ z = if bt m v then 1 else 0) := by
  refine CI.of RX6 hap idsF_nd (by decide) rfl (Nat.le_of_ble_eq_true rfl) ?_
  intro pg ev s0 mi av bl mt cd X K hr
  refine zr_iloadn X dX6_contains_0 rfl ?_
  refine zr_iloadn X dX6_contains_1 rfl ?_
  refine zr_ishr X dX6_contains_2 (zb_shr hm.1 hm.2 hv.1 hv.2) ?_
  refine zr_iconst X dX6_contains_3 ?_
  refine zr_iand X dX6_contains_4 ((zb_and1 (sI_rg hm.2).1 (sI_rg hm.2).2).trans (congrArg iI sI_mod)) ?_
  refine zr_iconst X dX6_contains_5 ?_
  refine zr_icmp_ne X 13 dX6_contains_6 (by decide) (by split <;> exact ⟨by decide, by decide⟩) ⟨by omega, by omega⟩ (fun t_6 => ?_) (fun f_6 => ?_)
  · refine zr_iconst X dX6_contains_13 ?_
    refine zr_zret X hr dX6_contains_14 (by omega) ?_
    refine ⟨rfl, ?_⟩
    by_cases h : bt m v = true <;> simp_all
  · refine zr_iconst X dX6_contains_9 ?_
    refine zr_goto X 14 dX6_contains_10 (by decide) ?_
    refine zr_zret X hr dX6_contains_14 (by omega) ?_
    refine ⟨rfl, ?_⟩
    by_cases h : bt m v = true <;> simp_all

/-- what more can go over an arc from one end -/
def rmF (σ : Mem) (b : Nat) (a v : Int) : Int := if σ (0, 2) a = v then σ (b + 6, 2) a - σ (b + 6, 3) a else σ (b + 6, 3) a

set_option maxHeartbeats 4000000 in
set_option maxRecDepth 100000 in
theorem c_X1_room (l : Launch) (D : va_G) (cs : Nat → ClassId) (ad : Ix → Nat) (hap : Apart idsF ad) {b : Nat} (hb : b < 2) {σ : Mem} (hN : NetOk σ) {a v : Int} (ha : 0 ≤ a ∧ a < σ (0, 1) 0) (hv : 0 ≤ v ∧ v < 24) : CI l D cs idsF ad yX1_room cX1_room 3 .int 0 [(.ref (ad (b + 6, 1))), (jI a), (jI v)] σ (fun z τ => τ = σ ∧ z = rmF σ b a v) := by
  refine CI.of RX1 hap idsF_nd (by decide) rfl (Nat.le_of_ble_eq_true rfl) ?_
  intro pg ev s0 mi av bl mt cd X K hr
  have hA := hN.2.1
  have hn := hN.1
  have ht := (hN.2.2 a ha.1 ha.2).1
  have hh := (hN.2.2 a ha.1 ha.2).2.1
  refine zr_aloadn X dX1_room_0 rfl ?_
  refine zr_get X K (C := RX1) (T := TX1) (N := 3) (k := 0) (mB hb (by decide)) rfl rfl ti_1 (by decide) rfl tw_85 rfl dX1_room_1 ?_
  refine zr_getN X K (C := RX4) (T := TX4) (N := 6) (k := 2) mF_0_0 rfl rfl ti_4 (by decide) rfl tn_48 rfl dX1_room_4 ?_
  refine zr_iloadn X dX1_room_7 rfl ?_
  refine zr_iald X K (n := 80) mF_0_2 rfl (by decide) (by omega) dX1_room_8 ?_
  refine zr_iloadn X dX1_room_9 rfl ?_
  refine zr_icmp_ne X 29 dX1_room_10 (by decide) ⟨by omega, by omega⟩ ⟨by omega, by omega⟩ (fun t_10 => ?_) (fun f_10 => ?_)
  · refine zr_aloadn X dX1_room_29 rfl ?_
    refine zr_get X K (C := RX1) (T := TX1) (N := 3) (k := 2) (mB hb (by decide)) rfl rfl ti_1 (by decide) rfl tw_90 rfl dX1_room_30 ?_
    refine zr_iloadn X dX1_room_33 rfl ?_
    refine zr_iald X K (n := 80) (mB hb (by decide)) rfl (by decide) (by omega) dX1_room_34 ?_
    refine zr_iret X hr dX1_room_35 ?_
    exact ⟨rfl, by unfold rmF; split <;> first | rfl | (exfalso; omega)⟩
  · refine zr_aloadn X dX1_room_13 rfl ?_
    refine zr_get X K (C := RX1) (T := TX1) (N := 3) (k := 1) (mB hb (by decide)) rfl rfl ti_1 (by decide) rfl tw_86 rfl dX1_room_14 ?_
    refine zr_iloadn X dX1_room_17 rfl ?_
    refine zr_iald X K (n := 80) (mB hb (by decide)) rfl (by decide) (by omega) dX1_room_18 ?_
    refine zr_aloadn X dX1_room_19 rfl ?_
    refine zr_get X K (C := RX1) (T := TX1) (N := 3) (k := 2) (mB hb (by decide)) rfl rfl ti_1 (by decide) rfl tw_90 rfl dX1_room_20 ?_
    refine zr_iloadn X dX1_room_23 rfl ?_
    refine zr_iald X K (n := 80) (mB hb (by decide)) rfl (by decide) (by omega) dX1_room_24 ?_
    refine zr_isub X dX1_room_25 ?_
    refine zr_goto X 35 dX1_room_26 (by decide) ?_
    refine zr_iret X hr dX1_room_35 ?_
    exact ⟨rfl, by unfold rmF; split <;> first | rfl | (exfalso; omega)⟩

set_option maxHeartbeats 4000000 in
set_option maxRecDepth 100000 in
theorem c_X1_send (l : Launch) (D : va_G) (cs : Nat → ClassId) (ad : Ix → Nat) (hap : Apart idsF ad) {b : Nat} (hb : b < 2) {σ : Mem} (hN : NetOk σ) {a v x : Int} (ha : 0 ≤ a ∧ a < σ (0, 1) 0) (hv : 0 ≤ v ∧ v < 24) : CV l D cs idsF ad yX1_send cX1_send 4 0 [(.ref (ad (b + 6, 1))), (jI a), (jI v), (jI x)] σ (fun τ => τ = mset σ (b + 6, 3) a (σ (b + 6, 3) a + if σ (0, 2) a = v then x else -x)) := by
  refine CV.of RX1 hap idsF_nd (by decide) rfl (Nat.le_of_ble_eq_true rfl) ?_
  intro pg ev s0 mi av bl mt cd X K hr
  have hA := hN.2.1
  have hn := hN.1
  have ht := (hN.2.2 a ha.1 ha.2).1
  have hh := (hN.2.2 a ha.1 ha.2).2.1
  refine zr_aloadn X dX1_send_0 rfl ?_
  refine zr_get X K (C := RX1) (T := TX1) (N := 3) (k := 2) (mB hb (by decide)) rfl rfl ti_1 (by decide) rfl tw_90 rfl dX1_send_1 ?_
  refine zr_iloadn X dX1_send_4 rfl ?_
  refine zr_dup2 X dX1_send_5 rfl rfl ?_
  refine zr_iald X K (n := 80) (mB hb (by decide)) rfl (by decide) (by omega) dX1_send_6 ?_
  refine zr_aloadn X dX1_send_7 rfl ?_
  refine zr_get X K (C := RX1) (T := TX1) (N := 3) (k := 0) (mB hb (by decide)) rfl rfl ti_1 (by decide) rfl tw_85 rfl dX1_send_8 ?_
  refine zr_getN X K (C := RX4) (T := TX4) (N := 6) (k := 2) mF_0_0 rfl rfl ti_4 (by decide) rfl tn_48 rfl dX1_send_11 ?_
  refine zr_iloadn X dX1_send_14 rfl ?_
  refine zr_iald X K (n := 80) mF_0_2 rfl (by decide) (by omega) dX1_send_15 ?_
  refine zr_iloadn X dX1_send_16 rfl ?_
  refine zr_icmp_ne X 24 dX1_send_17 (by decide) ⟨by omega, by omega⟩ ⟨by omega, by omega⟩ (fun t_17 => ?_) (fun f_17 => ?_)
  · refine zr_iloadn X dX1_send_24 rfl ?_
    refine zr_ineg X dX1_send_25 ?_
    refine zr_iadd X dX1_send_26 ?_
    refine zr_iast X K (n := 80) (mB hb (by decide)) (fun _ => rfl) rfl (by decide) (by omega) dX1_send_27 ?_
    refine zr_vret X hr dX1_send_28 ?_
    split <;> first | rfl | (exfalso; omega)
  · refine zr_iloadn X dX1_send_20 rfl ?_
    refine zr_goto X 26 dX1_send_21 (by decide) ?_
    refine zr_iadd X dX1_send_26 ?_
    refine zr_iast X K (n := 80) (mB hb (by decide)) (fun _ => rfl) rfl (by decide) (by omega) dX1_send_27 ?_
    refine zr_vret X hr dX1_send_28 ?_
    split <;> first | rfl | (exfalso; omega)

def otF (σ : Mem) (a v : Int) : Int := if σ (0, 2) a = v then σ (0, 3) a else σ (0, 2) a

set_option maxHeartbeats 4000000 in
set_option maxRecDepth 100000 in
theorem c_X4_otherEnd (l : Launch) (D : va_G) (cs : Nat → ClassId) (ad : Ix → Nat) (hap : Apart idsF ad) {σ : Mem} (hN : NetOk σ) {a v : Int} (ha : 0 ≤ a ∧ a < σ (0, 1) 0) (hv : 0 ≤ v ∧ v < 24) : CI l D cs idsF ad yX4_otherEnd cX4_otherEnd 3 .int 0 [(.ref (ad (0, 0))), (jI a), (jI v)] σ (fun z τ => τ = σ ∧ z = otF σ a v) := by
  refine CI.of RX4 hap idsF_nd (by decide) rfl (Nat.le_of_ble_eq_true rfl) ?_
  intro pg ev s0 mi av bl mt cd X K hr
  have hA := hN.2.1
  have hn := hN.1
  have ht := (hN.2.2 a ha.1 ha.2).1
  have hh := (hN.2.2 a ha.1 ha.2).2.1
  refine zr_aloadn X dX4_otherEnd_0 rfl ?_
  refine zr_get X K (C := RX4) (T := TX4) (N := 6) (k := 2) mF_0_0 rfl rfl ti_4 (by decide) rfl tw_47 rfl dX4_otherEnd_1 ?_
  refine zr_iloadn X dX4_otherEnd_4 rfl ?_
  refine zr_iald X K (n := 80) mF_0_2 rfl (by decide) (by omega) dX4_otherEnd_5 ?_
  refine zr_iloadn X dX4_otherEnd_6 rfl ?_
  refine zr_icmp_ne X 19 dX4_otherEnd_7 (by decide) ⟨by omega, by omega⟩ ⟨by omega, by omega⟩ (fun t_7 => ?_) (fun f_7 => ?_)
  · refine zr_aloadn X dX4_otherEnd_19 rfl ?_
    refine zr_get X K (C := RX4) (T := TX4) (N := 6) (k := 2) mF_0_0 rfl rfl ti_4 (by decide) rfl tw_47 rfl dX4_otherEnd_20 ?_
    refine zr_iloadn X dX4_otherEnd_23 rfl ?_
    refine zr_iald X K (n := 80) mF_0_2 rfl (by decide) (by omega) dX4_otherEnd_24 ?_
    refine zr_iret X hr dX4_otherEnd_25 ?_
    exact ⟨rfl, by unfold otF; split <;> first | rfl | (exfalso; omega)⟩
  · refine zr_aloadn X dX4_otherEnd_10 rfl ?_
    refine zr_get X K (C := RX4) (T := TX4) (N := 6) (k := 3) mF_0_0 rfl rfl ti_4 (by decide) rfl tw_51 rfl dX4_otherEnd_11 ?_
    refine zr_iloadn X dX4_otherEnd_14 rfl ?_
    refine zr_iald X K (n := 80) mF_0_3 rfl (by decide) (by omega) dX4_otherEnd_15 ?_
    refine zr_goto X 25 dX4_otherEnd_16 (by decide) ?_
    refine zr_iret X hr dX4_otherEnd_25 ?_
    exact ⟨rfl, by unfold otF; split <;> first | rfl | (exfalso; omega)⟩
end
section
/-! WHAT CAN BE REACHED: the mathematics -/
theorem ite0 {c : Prop} [Decidable c] (h : (if c then (1 : Int) else 0) = 0) : ¬ c := fun hc => by rw [if_pos hc] at h; exact absurd h (by decide)
theorem ite1 {c : Prop} [Decidable c] (h : ¬ (if c then (1 : Int) else 0) = 0) : c := Decidable.byContradiction fun hc => h (if_neg hc)
theorem ite01 {c : Prop} [Decidable c] : rg (if c then (1 : Int) else 0) := by split <;> exact ⟨by decide, by decide⟩
def inS (X Y : Int → Bool) : Prop := ∀ v, 0 ≤ v → X v = true → Y v = true
theorem inS.rf {X : Int → Bool} : inS X X := fun _ _ h => h
theorem inS.tr {X Y Z : Int → Bool} (h : inS X Y) (k : inS Y Z) : inS X Z := fun v hv hx => k v hv (h v hv hx)
/-- over the arcs below k, what has room leads from X into Y -/
def stp (σ : Mem) (b : Nat) (X Y : Int → Bool) (k : Int) : Prop := ∀ a, 0 ≤ a → a < k → (X (σ (0, 2) a) = true → 0 < rmF σ b a (σ (0, 2) a) → Y (σ (0, 3) a) = true) ∧ (X (σ (0, 3) a) = true → 0 < rmF σ b a (σ (0, 3) a) → Y (σ (0, 2) a) = true)
def clo (σ : Mem) (b : Nat) (X : Int → Bool) : Prop := stp σ b X X (σ (0, 1) 0)
def mk24 (w : Int) : Prop := 0 ≤ w ∧ w < 16777216
def wnI (σ : Mem) (b : Nat) (q w i : Int) : Prop := mk24 w ∧ inS (bt q) (bt w) ∧ (∀ X, clo σ b X → inS (bt q) X → inS (bt w) X) ∧ stp σ b (bt q) (bt w) i
/-- a half of a step: over one arc, from one of its ends -/
def hlf (σ : Mem) (b : Nat) (i w w1 x y : Int) : Prop := mk24 w1 ∧ inS (bt w) (bt w1) ∧ (∀ X, clo σ b X → inS (bt w) X → inS (bt w1) X) ∧ (bt w x = true → 0 < rmF σ b i x → bt w1 y = true)
theorem hlf_no {σ : Mem} {b : Nat} {i w x y : Int} (hw : mk24 w) (h : bt w x = true → 0 < rmF σ b i x → False) : hlf σ b i w w x y := ⟨hw, inS.rf, fun _ _ h => h, fun h1 h2 => (h h1 h2).elim⟩
theorem hlf_yes {σ : Mem} {b : Nat} {i w x y : Int} (hw : mk24 w) (hy : 0 ≤ y ∧ y < 24) (hx : 0 ≤ x) (h1 : bt w x = true) (hc : ∀ X : Int → Bool, clo σ b X → X x = true → X y = true) : hlf σ b i w (oI w (pI y)) x y := by
  refine ⟨oI_lt hw.2 (pI_rg hy.2).2, fun v _ h => by rw [bt_o, h]; rfl, fun X hX hS v hv h => ?_, fun _ _ => by rw [bt_o, bt_p hy.1 hy.1]; simp⟩
  rw [bt_o, Bool.or_eq_true] at h
  rcases h with h | h
  · exact hS v hv h
  · rw [bt_p hy.1 hv] at h
    have : y = v := of_decide_eq_true h
    subst this
    exact hc X hX (hS x hx h1)
theorem wnI_step {σ : Mem} {b : Nat} {q w w1 w2 i : Int} (hN : NetOk σ) (hi : 0 ≤ i ∧ i < σ (0, 1) 0) (h : wnI σ b q w i) (h1 : hlf σ b i w w1 (σ (0, 2) i) (σ (0, 3) i)) (h2 : hlf σ b i w1 w2 (σ (0, 3) i) (σ (0, 2) i)) : wnI σ b q w2 (i + 1) := by
  obtain ⟨-, a2, a3, a4⟩ := h
  obtain ⟨-, b2, b3, b4⟩ := h1
  obtain ⟨c1, c2, c3, c4⟩ := h2
  refine ⟨c1, (a2.tr b2).tr c2, fun X hX hS => c3 X hX (b3 X hX (a3 X hX hS)), fun a ha hk => ?_⟩
  obtain ⟨⟨t1, -⟩, ⟨t2, -⟩, -⟩ := hN.2.2 a ha (by omega)
  by_cases e : a = i
  · subst e
    exact ⟨fun k1 k2 => c2 _ t2 (b4 (a2 _ t1 k1) k2), fun k1 k2 => c4 (b2 _ t2 (a2 _ t2 k1)) k2⟩
  · have hlt : a < i := by omega
    exact ⟨fun k1 k2 => (b2.tr c2) _ t2 ((a4 a ha hlt).1 k1 k2), fun k1 k2 => (b2.tr c2) _ t1 ((a4 a ha hlt).2 k1 k2)⟩
theorem wnI_0 {σ : Mem} {b : Nat} {q : Int} (hq : mk24 q) : wnI σ b q q 0 := ⟨hq, inS.rf, fun _ _ h => h, fun a h1 h2 => by omega⟩
theorem clo_tl {σ : Mem} {b : Nat} {i : Int} (hi : 0 ≤ i ∧ i < σ (0, 1) 0) (hr : 0 < rmF σ b i (σ (0, 2) i)) : ∀ X : Int → Bool, clo σ b X → X (σ (0, 2) i) = true → X (σ (0, 3) i) = true := fun _ hX hx => (hX i hi.1 hi.2).1 hx hr
theorem clo_hd {σ : Mem} {b : Nat} {i : Int} (hi : 0 ≤ i ∧ i < σ (0, 1) 0) (hr : 0 < rmF σ b i (σ (0, 3) i)) : ∀ X : Int → Bool, clo σ b X → X (σ (0, 3) i) = true → X (σ (0, 2) i) = true := fun _ hX hx => (hX i hi.1 hi.2).2 hx hr
/-- the answer of one round -/
def wnP (σ : Mem) (b : Nat) (q z : Int) : Prop := mk24 z ∧ inS (bt q) (bt z) ∧ (∀ X, clo σ b X → inS (bt q) X → inS (bt z) X) ∧ (z = q → clo σ b (bt z))
theorem wnI_end {σ : Mem} {b : Nat} {q w i : Int} (h : wnI σ b q w i) (hi : σ (0, 1) 0 ≤ i) : wnP σ b q w := ⟨h.1, h.2.1, h.2.2.1, fun e => by
  subst e
  exact fun a h1 h2 => h.2.2.2 a h1 (by omega)⟩
/-- how many nodes a mask has -/
def ctB (p : Int → Bool) : Nat → Nat
  | 0 => 0
  | n + 1 => ctB p n + (if p (n : Int) = true then 1 else 0)
theorem ctB_le (p : Int → Bool) : ∀ n, ctB p n ≤ n
  | 0 => Nat.le_refl 0
  | n + 1 => by
    have := ctB_le p n
    unfold ctB
    split <;> omega
theorem ctB_mono {p q : Int → Bool} (h : inS p q) : ∀ n, ctB p n ≤ ctB q n
  | 0 => Nat.le_refl 0
  | n + 1 => by
    have := ctB_mono h n
    unfold ctB
    by_cases h1 : p (n : Int) = true
    · rw [if_pos h1, if_pos (h _ (by omega) h1)]; omega
    · rw [if_neg h1]; omega
theorem ctB_lt {p q : Int → Bool} (h : inS p q) {v : Nat} (h1 : q (v : Int) = true) (h2 : ¬ p (v : Int) = true) : ∀ n, v < n → ctB p n < ctB q n
  | 0, hv => absurd hv (Nat.not_lt_zero v)
  | n + 1, hv => by
    unfold ctB
    by_cases e : v = n
    · subst e
      rw [if_pos h1, if_neg h2]
      have := ctB_mono h v
      omega
    · have := ctB_lt h h1 h2 n (by omega)
      by_cases h3 : p (n : Int) = true
      · rw [if_pos h3, if_pos (h _ (by omega) h3)]; omega
      · rw [if_neg h3]; omega
theorem ctB_below {p : Int → Bool} {k : Nat} (h : ∀ v : Nat, k ≤ v → ¬ p (v : Int) = true) : ∀ n, ctB p n ≤ k
  | 0 => Nat.zero_le k
  | n + 1 => by
    by_cases hk : n + 1 ≤ k
    · exact Nat.le_trans (ctB_le p (n + 1)) hk
    · unfold ctB
      rw [if_neg (h n (by omega))]
      exact ctB_below h n
theorem ctB_one {p : Int → Bool} {v : Nat} (h : p (v : Int) = true) {n : Nat} (hv : v < n) : 1 ≤ ctB p n := by
  have h0 : ∀ n, ctB (fun _ => false) n = 0 := fun n => by
    induction n with
    | zero => rfl
    | succ n ih => unfold ctB; rw [ih]; rfl
  have := ctB_lt (p := fun _ => false) (q := p) (fun _ _ h => by cases h) h (by simp) n hv
  rw [h0] at this
  omega
/-- the answer: the least closed set with the start -/
def rcP (σ : Mem) (b : Nat) (x z : Int) : Prop := mk24 z ∧ bt z x = true ∧ clo σ b (bt z) ∧ ∀ X, clo σ b X → X x = true → inS (bt z) X
def rcI (σ : Mem) (b : Nat) (x q f k : Int) : Prop := mk24 q ∧ mk24 f ∧ bt q x = true ∧ (∀ X, clo σ b X → X x = true → inS (bt q) X) ∧ (q = f → clo σ b (bt q)) ∧ (q ≠ f → k + 1 ≤ ctB (bt q) 24) ∧ 0 ≤ k ∧ k ≤ σ (0, 0) 0
theorem clo_nodes {σ : Mem} {b : Nat} (hN : NetOk σ) : clo σ b (fun v => decide (v < σ (0, 0) 0)) := fun a h1 h2 => by
  obtain ⟨⟨-, t1⟩, ⟨-, t2⟩, -⟩ := hN.2.2 a h1 h2
  exact ⟨fun _ _ => decide_eq_true t2, fun _ _ => decide_eq_true t1⟩
theorem rcI_0 {σ : Mem} {b : Nat} {x : Int} (hN : NetOk σ) (hx : 0 ≤ x ∧ x < σ (0, 0) 0) : rcI σ b x (pI x) 0 0 := by
  have hn := hN.1
  have h1 : bt (pI x) x = true := by rw [bt_p hx.1 hx.1]; simp
  refine ⟨pI_rg (by omega), ⟨by decide, by decide⟩, h1, fun X _ hX v hv h => ?_, fun e => ?_, fun _ => ?_, by omega, by omega⟩
  · rw [bt_p hx.1 hv] at h
    have : x = v := of_decide_eq_true h
    rw [← this]; exact hX
  · rw [e] at h1
    exact absurd h1 (by unfold bt; simp)
  · have := ctB_one (p := bt (pI x)) (v := x.toNat) (by rw [Int.toNat_of_nonneg hx.1]; exact h1) (n := 24) (by omega)
    omega
theorem rcI_step {σ : Mem} {b : Nat} {x q f k z : Int} (h : rcI σ b x q f k) (hqf : q ≠ f) (hk : k < σ (0, 0) 0) (hz : wnP σ b q z) : rcI σ b x z q (k + 1) := by
  obtain ⟨a1, a2, a3, a4, a5, a6, a7, a8⟩ := h
  obtain ⟨b1, b2, b3, b4⟩ := hz
  have hx0 : ∀ X, clo σ b X → X x = true → inS (bt z) X := fun X hX hx => b3 X hX (a4 X hX hx)
  refine ⟨b1, a1, ?_, hx0, b4, fun hne => ?_, by omega, by omega⟩
  · by_cases hxx : 0 ≤ x
    · exact b2 x hxx a3
    · have hx' : x.toNat = 0 := by omega
      have h3 : bt q 0 = true := by unfold bt at a3 ⊢; rw [hx'] at a3; exact a3
      have h4 := b2 0 (by omega) h3
      unfold bt at h4 ⊢; rw [hx']; exact h4
  · have h6 := a6 hqf
    have : ∃ v : Nat, v < 24 ∧ bt z (v : Int) = true ∧ ¬ bt q (v : Int) = true := by
      apply Classical.byContradiction
      intro hno
      apply hne
      refine bt_ext b1.1 a1.1 (fun v hv => ?_)
      by_cases hv24 : v < 24
      · by_cases h1 : bt q v = true
        · rw [h1, b2 v hv h1]
        · by_cases h2 : bt z v = true
          · exact (hno ⟨v.toNat, by omega, by rw [Int.toNat_of_nonneg hv]; exact h2, by rw [Int.toNat_of_nonneg hv]; exact h1⟩).elim
          · rw [Bool.eq_false_iff.mpr h1, Bool.eq_false_iff.mpr h2]
      · rw [bt_big b1.2 (by omega), bt_big a1.2 (by omega)]
    obtain ⟨v, h1, h2, h3⟩ := this
    have := ctB_lt b2 h2 h3 24 h1
    omega
theorem rcI_end {σ : Mem} {b : Nat} {x q f k : Int} (hN : NetOk σ) (hx : 0 ≤ x ∧ x < σ (0, 0) 0) (h : rcI σ b x q f k) (he : q = f ∨ σ (0, 0) 0 ≤ k) : rcP σ b x q := by
  obtain ⟨a1, a2, a3, a4, a5, a6, a7, a8⟩ := h
  refine ⟨a1, a3, ?_, a4⟩
  by_cases e : q = f
  · exact a5 e
  · exfalso
    have h6 := a6 e
    have hin := a4 _ (clo_nodes hN) (decide_eq_true hx.2)
    have := ctB_below (p := bt q) (k := (σ (0, 0) 0).toNat) (fun v hv h1 => by
      have := of_decide_eq_true (hin (v : Int) (by omega) h1)
      omega) 24
    rcases he with he | he
    · exact e he
    · omega
/-- least closed sets are one -/
theorem rcP_one {σ : Mem} {b : Nat} {x z y : Int} (h : rcP σ b x z) (k : rcP σ b x y) : z = y := bt_ext h.1.1 k.1.1 fun v hv => by
  by_cases h1 : bt z v = true
  · rw [h1, h.2.2.2 _ k.2.2.1 k.2.1 v hv h1]
  · by_cases h2 : bt y v = true
    · exact absurd (k.2.2.2 _ h.2.2.1 h.2.1 v hv h2) h1
    · rw [Bool.eq_false_iff.mpr h1, Bool.eq_false_iff.mpr h2]
theorem rcP_nodes {σ : Mem} {b : Nat} {x z : Int} (hN : NetOk σ) (hx : x < σ (0, 0) 0) (h : rcP σ b x z) {v : Int} (hv : 0 ≤ v) (h1 : bt z v = true) : v < σ (0, 0) 0 := of_decide_eq_true (h.2.2.2 _ (clo_nodes hN) (decide_eq_true hx) v hv h1)
/-- sums over the first places -/
def sm (f : Int → Int) : Nat → Int
  | 0 => 0
  | n + 1 => sm f n + f (n : Int)
theorem sm_cong {f g : Int → Int} : ∀ {n : Nat}, (∀ a : Int, 0 ≤ a → a < n → f a = g a) → sm f n = sm g n
  | 0, _ => rfl
  | n + 1, h => by
    unfold sm
    rw [sm_cong (n := n) (fun a h1 h2 => h a h1 (by omega)), h (n : Int) (by omega) (by omega)]
theorem sm_add (f g : Int → Int) : ∀ n, sm (fun a => f a + g a) n = sm f n + sm g n
  | 0 => rfl
  | n + 1 => by
    have := sm_add f g n
    unfold sm
    omega
theorem sm_sub (f g : Int → Int) : ∀ n, sm (fun a => f a - g a) n = sm f n - sm g n
  | 0 => rfl
  | n + 1 => by
    have := sm_sub f g n
    unfold sm
    omega
theorem sm_le {f g : Int → Int} : ∀ {n : Nat}, (∀ a : Int, 0 ≤ a → a < n → f a ≤ g a) → sm f n ≤ sm g n
  | 0, _ => Int.le_refl 0
  | n + 1, h => by
    have h1 := sm_le (n := n) (fun a h1 h2 => h a h1 (by omega))
    have h2 := h (n : Int) (by omega) (by omega)
    unfold sm
    omega
theorem sm_zero : ∀ n, sm (fun _ => 0) n = 0
  | 0 => rfl
  | n + 1 => by unfold sm; rw [sm_zero n]; rfl
theorem sm_const (c : Int) : ∀ n : Nat, sm (fun _ => c) n = n * c
  | 0 => by simp [sm]
  | n + 1 => by
    unfold sm
    rw [sm_const c n, Int.natCast_succ, Int.add_mul, Int.one_mul]
theorem sm_upd (f : Int → Int) {i x : Int} (hi : 0 ≤ i) : ∀ {n : Nat}, i < n → sm (fun a => if a = i then x else f a) n = sm f n - f i + x
  | 0, h => by omega
  | n + 1, h => by
    unfold sm
    by_cases e : i = (n : Int)
    · subst e
      rw [if_pos rfl, sm_cong (g := f) (fun a h1 h2 => if_neg (by omega))]
      omega
    · rw [sm_upd f hi (n := n) (by omega), if_neg (by omega)]
      omega
theorem sm_upd_out (f : Int → Int) {i x : Int} {n : Nat} (h : (n : Int) ≤ i ∨ i < 0) : sm (fun a => if a = i then x else f a) n = sm f n := sm_cong fun a h1 h2 => if_neg (by omega)
theorem sm_succ {f : Int → Int} {i : Int} (hi : 0 ≤ i) : sm f (i + 1).toNat = sm f i.toNat + f i := by
  have : (i + 1).toNat = i.toNat + 1 := by omega
  rw [this]
  show sm f i.toNat + f (i.toNat : Int) = _
  rw [Int.toNat_of_nonneg hi]
theorem sm_eq_le {f g : Int → Int} : ∀ {n : Nat}, (∀ a : Int, 0 ≤ a → a < n → f a ≤ g a) → sm f n = sm g n → ∀ a : Int, 0 ≤ a → a < n → f a = g a
  | 0, _, _, a, h1, h2 => by omega
  | n + 1, h, he, a, h1, h2 => by
    have h3 := sm_le (n := n) (fun a h1 h2 => h a h1 (by omega))
    have h4 := h (n : Int) (by omega) (by omega)
    unfold sm at he
    by_cases e : a = (n : Int)
    · subst e; omega
    · exact sm_eq_le (n := n) (fun a h1 h2 => h a h1 (by omega)) (by omega) a h1 (by omega)
end
section
/-! FLOW: what is reached, what leads out -/

theorem rmF_rg {σ : Mem} {b : Nat} (hF : FlOk σ b) {a v : Int} (ha : 0 ≤ a ∧ a < σ (0, 1) 0) : 0 ≤ rmF σ b a v ∧ rmF σ b a v ≤ 100000000 := by
  have h := hF a ha.1 ha.2
  unfold rmF
  split <;> omega
theorem rmF_rg' {σ : Mem} {b : Nat} (hF : FlOk σ b) {a v : Int} (ha : 0 ≤ a ∧ a < σ (0, 1) 0) : rg (rmF σ b a v) := by
  have h := rmF_rg hF (v := v) ha
  exact ⟨by omega, by omega⟩

set_option maxHeartbeats 4000000 in
set_option maxRecDepth 100000 in
theorem c_X1_withNeighbours (l : Launch) (D : va_G) (cs : Nat → ClassId) (ad : Ix → Nat) (hap : Apart idsF ad) {b : Nat} (hb : b < 2) {σ : Mem} (hN : NetOk σ) (hF : FlOk σ b) {q : Int} (hq : mk24 q) : CI l D cs idsF ad yX1_withNeighbours cX1_withNeighbours 6 .int 1 [(.ref (ad (b + 6, 1))), (jI q)] σ (fun z τ => τ = σ ∧ wnP σ b q z) := by
  refine CI.of RX1 hap idsF_nd (by decide) rfl (Nat.le_of_ble_eq_true rfl) ?_
  intro pg ev s0 mi av bl mt cd X K hr
  have hA := hN.2.1
  have hn := hN.1
  refine zr_iloadn X dX1_withNeighbours_0 rfl ?_
  refine zr_istoren X dX1_withNeighbours_1 (by decide) rfl ?_
  refine zr_iconst X dX1_withNeighbours_2 ?_
  refine zr_istoren X dX1_withNeighbours_3 (by decide) rfl ?_
  have loop_4 : ∀ (n_4 : Nat) (w : Int) (i : Int), ((0 ≤ i ∧ i ≤ σ (0, 1) 0) ∧ wnI σ b q w i) → (σ (0, 1) 0 - i).toNat < n_4 → Wx pg l ev (rmm 1 0 0) s0 mi av bl mt cd D cs idsF ad (Rg idsF ad) s0.heap 6 (MQ bl (qI D cs idsF ad ((fun z τ => τ = σ ∧ wnP σ b q z))) av s0 0 0 (Rg idsF ad)) 0 0 σ 4 [some (.ref (ad (b + 6, 1))), some (jI q), some (jI w), some (jI i), none, none] [] := by
    intro n_4
    induction n_4 with
    | zero => exact fun w i hinv hn => absurd hn (Nat.not_lt_zero _)
    | succ n_4 ih_4 =>
      intro w i hI_4 hn_4
      have hw := hI_4.2.1
      have hi0 := hI_4.1
      refine zr_iloadn X dX1_withNeighbours_4 rfl ?_
      refine zr_aloadn X dX1_withNeighbours_5 rfl ?_
      refine zr_get X K (C := RX1) (T := TX1) (N := 3) (k := 0) (mB hb (by decide)) rfl rfl ti_1 (by decide) rfl tw_85 rfl dX1_withNeighbours_6 ?_
      refine zr_getN X K (C := RX4) (T := TX4) (N := 6) (k := 1) mF_0_0 rfl rfl ti_4 (by decide) rfl tn_45 rfl dX1_withNeighbours_9 ?_
      refine zr_icmp_ge X 95 dX1_withNeighbours_12 (by decide) ⟨by omega, by omega⟩ ⟨by omega, by omega⟩ (fun t_12 => ?_) (fun f_12 => ?_)
      · refine zr_iloadn X dX1_withNeighbours_95 rfl ?_
        refine zr_iret X hr dX1_withNeighbours_96 ?_
        exact ⟨rfl, wnI_end hI_4.2 (by omega)⟩
      · have hi : 0 ≤ i ∧ i < σ (0, 1) 0 := ⟨by omega, by omega⟩
        have ht := (hN.2.2 i hi.1 hi.2).1
        have hh := (hN.2.2 i hi.1 hi.2).2.1
        refine zr_aloadn X dX1_withNeighbours_15 rfl ?_
        refine zr_get X K (C := RX1) (T := TX1) (N := 3) (k := 0) (mB hb (by decide)) rfl rfl ti_1 (by decide) rfl tw_85 rfl dX1_withNeighbours_16 ?_
        refine zr_getN X K (C := RX4) (T := TX4) (N := 6) (k := 2) mF_0_0 rfl rfl ti_4 (by decide) rfl tn_48 rfl dX1_withNeighbours_19 ?_
        refine zr_iloadn X dX1_withNeighbours_22 rfl ?_
        refine zr_iald X K (n := 80) mF_0_2 rfl (by decide) (by omega) dX1_withNeighbours_23 ?_
        refine zr_istore X dX1_withNeighbours_24 (by decide) rfl ?_
        refine zr_aloadn X dX1_withNeighbours_26 rfl ?_
        refine zr_get X K (C := RX1) (T := TX1) (N := 3) (k := 0) (mB hb (by decide)) rfl rfl ti_1 (by decide) rfl tw_85 rfl dX1_withNeighbours_27 ?_
        refine zr_getN X K (C := RX4) (T := TX4) (N := 6) (k := 3) mF_0_0 rfl rfl ti_4 (by decide) rfl tn_53 rfl dX1_withNeighbours_30 ?_
        refine zr_iloadn X dX1_withNeighbours_33 rfl ?_
        refine zr_iald X K (n := 80) mF_0_3 rfl (by decide) (by omega) dX1_withNeighbours_34 ?_
        refine zr_istore X dX1_withNeighbours_35 (by decide) rfl ?_
        refine zr_iloadn X dX1_withNeighbours_37 rfl ?_
        refine zr_iload X dX1_withNeighbours_38 rfl ?_
        refine zr_callSNI X K (st := []) (c_X6_contains l D cs ad hap (m := w) (v := σ (0, 2) i) ⟨hw.1, by have := hw.2; omega⟩ ⟨by omega, by omega⟩) ⟨tn_302, tw_303, tw_1, tw_304⟩ dc_X6_contains rfl rfl (Nat.le_of_ble_eq_true rfl) (by decide) dX1_withNeighbours_40 ?_
        intro z_ τ_ hp_
        obtain ⟨hτ_, hz_⟩ := hp_
        subst τ_
        subst z_
        have join_63 : ∀ (w1 : Int), (hlf σ b i w w1 (σ (0, 2) i) (σ (0, 3) i)) → Wx pg l ev (rmm 1 0 0) s0 mi av bl mt cd D cs idsF ad (Rg idsF ad) s0.heap 6 (MQ bl (qI D cs idsF ad ((fun z τ => τ = σ ∧ wnP σ b q z))) av s0 0 0 (Rg idsF ad)) 0 0 σ 63 [some (.ref (ad (b + 6, 1))), some (jI q), some (jI w1), some (jI i), some (jI (σ (0, 2) i)), some (jI (σ (0, 3) i))] [] := by
          intro w1 hJ_63
          have hw1 := hJ_63.1
          refine zr_iloadn X dX1_withNeighbours_63 rfl ?_
          refine zr_iload X dX1_withNeighbours_64 rfl ?_
          refine zr_callSNI X K (st := []) (c_X6_contains l D cs ad hap (m := w1) (v := σ (0, 3) i) ⟨hw1.1, by have := hw1.2; omega⟩ ⟨by omega, by omega⟩) ⟨tn_302, tw_303, tw_1, tw_304⟩ dc_X6_contains rfl rfl (Nat.le_of_ble_eq_true rfl) (by decide) dX1_withNeighbours_66 ?_
          intro z_ τ_ hp_
          obtain ⟨hτ_, hz_⟩ := hp_
          subst τ_
          subst z_
          refine zr_if_eq X 89 dX1_withNeighbours_69 (by decide) ite01 (fun t_69 => ?_) (fun f_69 => ?_)
          · refine zr_iinc X dX1_withNeighbours_89 rfl (by decide) rfl ?_
            refine zr_goto X 4 dX1_withNeighbours_92 (by decide) ?_
            refine Wx.weak (lo' := [some (.ref (ad (b + 6, 1))), some (jI q), some (jI w1), some (jI (i + 1)), none, none]) ⟨rfl, rfl, rfl, rfl, trivial⟩ ?_
            exact ih_4 _ _ ⟨⟨by omega, by omega⟩, wnI_step hN hi hI_4.2 hJ_63 (hlf_no hw1 (fun h1 h2 => by first | exact ite0 t_69 h1 | omega))⟩ (by omega)
          · refine zr_aloadn X dX1_withNeighbours_72 rfl ?_
            refine zr_iloadn X dX1_withNeighbours_73 rfl ?_
            refine zr_iload X dX1_withNeighbours_74 rfl ?_
            refine zr_callVI X K (q := (RX1, TX1, 3)) (st := []) (c_X1_room l D cs ad hap hb hN (a := i) (v := σ (0, 3) i) hi ⟨by omega, by omega⟩) ⟨tw_305, tw_264, tp_7, tw_4, tw_265⟩ dc_X1_room (mB hb (by decide)) rfl rfl rfl rfl rfl (Nat.le_of_ble_eq_true rfl) (by decide) dX1_withNeighbours_76 ?_
            intro z_ τ_ hp_
            obtain ⟨hτ_, hz_⟩ := hp_
            subst τ_
            subst z_
            refine zr_if_le X 89 dX1_withNeighbours_79 (by decide) (rmF_rg' hF hi) (fun t_79 => ?_) (fun f_79 => ?_)
            · refine zr_iinc X dX1_withNeighbours_89 rfl (by decide) rfl ?_
              refine zr_goto X 4 dX1_withNeighbours_92 (by decide) ?_
              refine Wx.weak (lo' := [some (.ref (ad (b + 6, 1))), some (jI q), some (jI w1), some (jI (i + 1)), none, none]) ⟨rfl, rfl, rfl, rfl, trivial⟩ ?_
              exact ih_4 _ _ ⟨⟨by omega, by omega⟩, wnI_step hN hi hI_4.2 hJ_63 (hlf_no hw1 (fun h1 h2 => by first | exact ite0 t_69 h1 | omega))⟩ (by omega)
            · refine zr_iloadn X dX1_withNeighbours_82 rfl ?_
              refine zr_iconst X dX1_withNeighbours_83 ?_
              refine zr_iload X dX1_withNeighbours_84 rfl ?_
              refine zr_ishl X dX1_withNeighbours_86 (zb_shl (by omega) (by omega)) ?_
              refine zr_ior X dX1_withNeighbours_87 (zb_or hw1.1 (pI_rg (by omega)).1) ?_
              refine zr_istoren X dX1_withNeighbours_88 (by decide) rfl ?_
              refine zr_iinc X dX1_withNeighbours_89 rfl (by decide) rfl ?_
              refine zr_goto X 4 dX1_withNeighbours_92 (by decide) ?_
              refine Wx.weak (lo' := [some (.ref (ad (b + 6, 1))), some (jI q), some (jI (oI w1 (pI (σ (0, 2) i)))), some (jI (i + 1)), none, none]) ⟨rfl, rfl, rfl, rfl, trivial⟩ ?_
              exact ih_4 _ _ ⟨⟨by omega, by omega⟩, wnI_step hN hi hI_4.2 hJ_63 (hlf_yes hw1 ⟨by omega, by omega⟩ (by omega) (ite1 f_69) (clo_hd hi (by omega)))⟩ (by omega)
        refine zr_if_eq X 63 dX1_withNeighbours_43 (by decide) ite01 (fun t_43 => ?_) (fun f_43 => ?_)
        · refine Wx.weak (lo' := [some (.ref (ad (b + 6, 1))), some (jI q), some (jI w), some (jI i), some (jI (σ (0, 2) i)), some (jI (σ (0, 3) i))]) ⟨rfl, rfl, rfl, rfl, rfl, rfl, trivial⟩ ?_
          exact join_63 _ (hlf_no hw (fun h1 h2 => by first | exact ite0 t_43 h1 | omega))
        · refine zr_aloadn X dX1_withNeighbours_46 rfl ?_
          refine zr_iloadn X dX1_withNeighbours_47 rfl ?_
          refine zr_iload X dX1_withNeighbours_48 rfl ?_
          refine zr_callVI X K (q := (RX1, TX1, 3)) (st := []) (c_X1_room l D cs ad hap hb hN (a := i) (v := σ (0, 2) i) hi ⟨by omega, by omega⟩) ⟨tw_305, tw_264, tp_7, tw_4, tw_265⟩ dc_X1_room (mB hb (by decide)) rfl rfl rfl rfl rfl (Nat.le_of_ble_eq_true rfl) (by decide) dX1_withNeighbours_50 ?_
          intro z_ τ_ hp_
          obtain ⟨hτ_, hz_⟩ := hp_
          subst τ_
          subst z_
          refine zr_if_le X 63 dX1_withNeighbours_53 (by decide) (rmF_rg' hF hi) (fun t_53 => ?_) (fun f_53 => ?_)
          · refine Wx.weak (lo' := [some (.ref (ad (b + 6, 1))), some (jI q), some (jI w), some (jI i), some (jI (σ (0, 2) i)), some (jI (σ (0, 3) i))]) ⟨rfl, rfl, rfl, rfl, rfl, rfl, trivial⟩ ?_
            exact join_63 _ (hlf_no hw (fun h1 h2 => by first | exact ite0 t_43 h1 | omega))
          · refine zr_iloadn X dX1_withNeighbours_56 rfl ?_
            refine zr_iconst X dX1_withNeighbours_57 ?_
            refine zr_iload X dX1_withNeighbours_58 rfl ?_
            refine zr_ishl X dX1_withNeighbours_60 (zb_shl (by omega) (by omega)) ?_
            refine zr_ior X dX1_withNeighbours_61 (zb_or hw.1 (pI_rg (by omega)).1) ?_
            refine zr_istoren X dX1_withNeighbours_62 (by decide) rfl ?_
            refine Wx.weak (lo' := [some (.ref (ad (b + 6, 1))), some (jI q), some (jI (oI w (pI (σ (0, 3) i)))), some (jI i), some (jI (σ (0, 2) i)), some (jI (σ (0, 3) i))]) ⟨rfl, rfl, rfl, rfl, rfl, rfl, trivial⟩ ?_
            exact join_63 _ (hlf_yes hw ⟨by omega, by omega⟩ (by omega) (ite1 f_43) (clo_tl hi (by omega)))
  refine Wx.weak (lo' := [some (.ref (ad (b + 6, 1))), some (jI q), some (jI q), some (jI 0), none, none]) ⟨rfl, rfl, rfl, rfl, trivial⟩ ?_
  exact loop_4 _ _ _ ⟨⟨by omega, by omega⟩, wnI_0 hq⟩ (Nat.lt_succ_self _)

set_option maxHeartbeats 4000000 in
set_option maxRecDepth 100000 in
theorem c_X1_reachableFrom (l : Launch) (D : va_G) (cs : Nat → ClassId) (ad : Ix → Nat) (hap : Apart idsF ad) {b : Nat} (hb : b < 2) {σ : Mem} (hN : NetOk σ) (hF : FlOk σ b) {x : Int} (hx : 0 ≤ x ∧ x < σ (0, 0) 0) : CI l D cs idsF ad yX1_reachableFrom cX1_reachableFrom 5 .int 2 [(.ref (ad (b + 6, 1))), (jI x)] σ (fun z τ => τ = σ ∧ rcP σ b x z) := by
  refine CI.of RX1 hap idsF_nd (by decide) rfl (Nat.le_of_ble_eq_true rfl) ?_
  intro pg ev s0 mi av bl mt cd X K hr
  have hA := hN.2.1
  have hn := hN.1
  refine zr_iconst X dX1_reachableFrom_0 ?_
  refine zr_iloadn X dX1_reachableFrom_1 rfl ?_
  refine zr_ishl X dX1_reachableFrom_2 (zb_shl (by omega) (by omega)) ?_
  refine zr_istoren X dX1_reachableFrom_3 (by decide) rfl ?_
  refine zr_iconst X dX1_reachableFrom_4 ?_
  refine zr_istoren X dX1_reachableFrom_5 (by decide) rfl ?_
  refine zr_iconst X dX1_reachableFrom_6 ?_
  refine zr_istore X dX1_reachableFrom_7 (by decide) rfl ?_
  have loop_9 : ∀ (n_9 : Nat) (q : Int) (f : Int) (k : Int), (rcI σ b x q f k) → (σ (0, 0) 0 - k).toNat < n_9 → Wx pg l ev (rmm 2 0 0) s0 mi av bl mt cd D cs idsF ad (Rg idsF ad) s0.heap 5 (MQ bl (qI D cs idsF ad ((fun z τ => τ = σ ∧ rcP σ b x z))) av s0 0 0 (Rg idsF ad)) 0 0 σ 9 [some (.ref (ad (b + 6, 1))), some (jI x), some (jI q), some (jI f), some (jI k)] [] := by
    intro n_9
    induction n_9 with
    | zero => exact fun q f k hinv hn => absurd hn (Nat.not_lt_zero _)
    | succ n_9 ih_9 =>
      intro q f k hI_9 hn_9
      have hk := hI_9.2.2.2.2.2.2
      have hq := hI_9.1
      have hf := hI_9.2.1
      refine zr_iload X dX1_reachableFrom_9 rfl ?_
      refine zr_aloadn X dX1_reachableFrom_11 rfl ?_
      refine zr_get X K (C := RX1) (T := TX1) (N := 3) (k := 0) (mB hb (by decide)) rfl rfl ti_1 (by decide) rfl tw_85 rfl dX1_reachableFrom_12 ?_
      refine zr_getN X K (C := RX4) (T := TX4) (N := 6) (k := 0) mF_0_0 rfl rfl ti_4 (by decide) rfl tn_41 rfl dX1_reachableFrom_15 ?_
      refine zr_icmp_ge X 40 dX1_reachableFrom_18 (by decide) ⟨by omega, by omega⟩ ⟨by omega, by omega⟩ (fun t_18 => ?_) (fun f_18 => ?_)
      · refine zr_iloadn X dX1_reachableFrom_40 rfl ?_
        refine zr_iret X hr dX1_reachableFrom_41 ?_
        exact ⟨rfl, rcI_end hN hx hI_9 (by first | exact Or.inl t_23 | exact Or.inr (by omega))⟩
      · refine zr_iloadn X dX1_reachableFrom_21 rfl ?_
        refine zr_iloadn X dX1_reachableFrom_22 rfl ?_
        refine zr_icmp_eq X 40 dX1_reachableFrom_23 (by decide) ⟨by have := hq.1; omega, by have := hq.2; omega⟩ ⟨by have := hf.1; omega, by have := hf.2; omega⟩ (fun t_23 => ?_) (fun f_23 => ?_)
        · refine zr_iloadn X dX1_reachableFrom_40 rfl ?_
          refine zr_iret X hr dX1_reachableFrom_41 ?_
          exact ⟨rfl, rcI_end hN hx hI_9 (by first | exact Or.inl t_23 | exact Or.inr (by omega))⟩
        · refine zr_iloadn X dX1_reachableFrom_26 rfl ?_
          refine zr_istoren X dX1_reachableFrom_27 (by decide) rfl ?_
          refine zr_aloadn X dX1_reachableFrom_28 rfl ?_
          refine zr_iloadn X dX1_reachableFrom_29 rfl ?_
          refine zr_callVI X K (q := (RX1, TX1, 3)) (st := []) (c_X1_withNeighbours l D cs ad hap hb hN hF (q := q) hI_9.1) ⟨tw_298, tw_300, tp_15, tw_4, tw_301⟩ dc_X1_withNeighbours (mB hb (by decide)) rfl rfl rfl rfl rfl (Nat.le_of_ble_eq_true rfl) (by decide) dX1_reachableFrom_30 ?_
          intro z τ hp
          obtain ⟨hτ, hz⟩ := hp
          subst τ
          refine zr_istoren X dX1_reachableFrom_33 (by decide) rfl ?_
          refine zr_iinc X dX1_reachableFrom_34 rfl (by decide) rfl ?_
          refine zr_goto X 9 dX1_reachableFrom_37 (by decide) ?_
          refine Wx.weak (lo' := [some (.ref (ad (b + 6, 1))), some (jI x), some (jI z), some (jI q), some (jI (k + 1))]) ⟨rfl, rfl, rfl, rfl, rfl, trivial⟩ ?_
          exact ih_9 _ _ _ (rcI_step hI_9 f_23 (by omega) hz) (by omega)
  refine Wx.weak (lo' := [some (.ref (ad (b + 6, 1))), some (jI x), some (jI (pI x)), some (jI 0), some (jI 0)]) ⟨rfl, rfl, rfl, rfl, rfl, trivial⟩ ?_
  exact loop_9 _ _ _ _ (rcI_0 hN hx) (Nat.lt_succ_self _)

/-- the sum of the capacities that lead out -/
def coF (σ : Mem) (b : Nat) (q : Int) (a : Int) : Int := if bt q (σ (0, 2) a) && !bt q (σ (0, 3) a) then σ (b + 6, 2) a else 0

set_option maxHeartbeats 4000000 in
set_option maxRecDepth 100000 in
theorem c_X1_capacityOut (l : Launch) (D : va_G) (cs : Nat → ClassId) (ad : Ix → Nat) (hap : Apart idsF ad) {b : Nat} (hb : b < 2) {σ : Mem} (hN : NetOk σ) {q : Int} (hq : mk24 q) : CI l D cs idsF ad yX1_capacityOut cX1_capacityOut 4 .int 1 [(.ref (ad (b + 6, 1))), (jI q)] σ (fun z τ => τ = σ ∧ z = sm (coF σ b q) (σ (0, 1) 0).toNat) := by
  refine CI.of RX1 hap idsF_nd (by decide) rfl (Nat.le_of_ble_eq_true rfl) ?_
  intro pg ev s0 mi av bl mt cd X K hr
  have hA := hN.2.1
  have hn := hN.1
  refine zr_iconst X dX1_capacityOut_0 ?_
  refine zr_istoren X dX1_capacityOut_1 (by decide) rfl ?_
  refine zr_iconst X dX1_capacityOut_2 ?_
  refine zr_istoren X dX1_capacityOut_3 (by decide) rfl ?_
  have loop_4 : ∀ (n_4 : Nat) (i : Int) (y : Int), ((0 ≤ i ∧ i ≤ σ (0, 1) 0) ∧ y = sm (coF σ b q) i.toNat) → (σ (0, 1) 0 - i).toNat < n_4 → Wx pg l ev (rmm 1 0 0) s0 mi av bl mt cd D cs idsF ad (Rg idsF ad) s0.heap 4 (MQ bl (qI D cs idsF ad ((fun z τ => τ = σ ∧ z = sm (coF σ b q) (σ (0, 1) 0).toNat))) av s0 0 0 (Rg idsF ad)) 0 0 σ 4 [some (.ref (ad (b + 6, 1))), some (jI q), some (jI y), some (jI i)] [] := by
    intro n_4
    induction n_4 with
    | zero => exact fun i y hinv hn => absurd hn (Nat.not_lt_zero _)
    | succ n_4 ih_4 =>
      intro i y hI_4 hn_4
      have hi0 := hI_4.1
      have hy := hI_4.2
      refine zr_iloadn X dX1_capacityOut_4 rfl ?_
      refine zr_aloadn X dX1_capacityOut_5 rfl ?_
      refine zr_get X K (C := RX1) (T := TX1) (N := 3) (k := 0) (mB hb (by decide)) rfl rfl ti_1 (by decide) rfl tw_85 rfl dX1_capacityOut_6 ?_
      refine zr_getN X K (C := RX4) (T := TX4) (N := 6) (k := 1) mF_0_0 rfl rfl ti_4 (by decide) rfl tn_45 rfl dX1_capacityOut_9 ?_
      refine zr_icmp_ge X 62 dX1_capacityOut_12 (by decide) ⟨by omega, by omega⟩ ⟨by omega, by omega⟩ (fun t_12 => ?_) (fun f_12 => ?_)
      · refine zr_iloadn X dX1_capacityOut_62 rfl ?_
        refine zr_iret X hr dX1_capacityOut_63 ?_
        exact ⟨rfl, by rw [hy, show i = σ (0, 1) 0 by omega]⟩
      · have hi : 0 ≤ i ∧ i < σ (0, 1) 0 := ⟨by omega, by omega⟩
        have ht := (hN.2.2 i hi.1 hi.2).1
        have hh := (hN.2.2 i hi.1 hi.2).2.1
        refine zr_iloadn X dX1_capacityOut_15 rfl ?_
        refine zr_aloadn X dX1_capacityOut_16 rfl ?_
        refine zr_get X K (C := RX1) (T := TX1) (N := 3) (k := 0) (mB hb (by decide)) rfl rfl ti_1 (by decide) rfl tw_85 rfl dX1_capacityOut_17 ?_
        refine zr_getN X K (C := RX4) (T := TX4) (N := 6) (k := 2) mF_0_0 rfl rfl ti_4 (by decide) rfl tn_48 rfl dX1_capacityOut_20 ?_
        refine zr_iloadn X dX1_capacityOut_23 rfl ?_
        refine zr_iald X K (n := 80) mF_0_2 rfl (by decide) (by omega) dX1_capacityOut_24 ?_
        refine zr_callSNI X K (st := []) (c_X6_contains l D cs ad hap (m := q) (v := σ (0, 2) i) ⟨hq.1, by have := hq.2; omega⟩ ⟨by omega, by omega⟩) ⟨tn_302, tw_303, tw_1, tw_304⟩ dc_X6_contains rfl rfl (Nat.le_of_ble_eq_true rfl) (by decide) dX1_capacityOut_25 ?_
        intro z_ τ_ hp_
        obtain ⟨hτ_, hz_⟩ := hp_
        subst τ_
        subst z_
        refine zr_if_eq X 56 dX1_capacityOut_28 (by decide) ite01 (fun t_28 => ?_) (fun f_28 => ?_)
        · refine zr_iinc X dX1_capacityOut_56 rfl (by decide) rfl ?_
          refine zr_goto X 4 dX1_capacityOut_59 (by decide) ?_
          refine Wx.weak (lo' := [some (.ref (ad (b + 6, 1))), some (jI q), some (jI y), some (jI (i + 1))]) ⟨rfl, rfl, rfl, rfl, trivial⟩ ?_
          exact ih_4 _ _ ⟨⟨by omega, by omega⟩, by rw [sm_succ hi.1, ← hy]; unfold coF; first | simp [ite0 t_28] | simp [ite1 t_44]⟩ (by omega)
        · refine zr_iloadn X dX1_capacityOut_31 rfl ?_
          refine zr_aloadn X dX1_capacityOut_32 rfl ?_
          refine zr_get X K (C := RX1) (T := TX1) (N := 3) (k := 0) (mB hb (by decide)) rfl rfl ti_1 (by decide) rfl tw_85 rfl dX1_capacityOut_33 ?_
          refine zr_getN X K (C := RX4) (T := TX4) (N := 6) (k := 3) mF_0_0 rfl rfl ti_4 (by decide) rfl tn_53 rfl dX1_capacityOut_36 ?_
          refine zr_iloadn X dX1_capacityOut_39 rfl ?_
          refine zr_iald X K (n := 80) mF_0_3 rfl (by decide) (by omega) dX1_capacityOut_40 ?_
          refine zr_callSNI X K (st := []) (c_X6_contains l D cs ad hap (m := q) (v := σ (0, 3) i) ⟨hq.1, by have := hq.2; omega⟩ ⟨by omega, by omega⟩) ⟨tn_302, tw_303, tw_1, tw_304⟩ dc_X6_contains rfl rfl (Nat.le_of_ble_eq_true rfl) (by decide) dX1_capacityOut_41 ?_
          intro z_ τ_ hp_
          obtain ⟨hτ_, hz_⟩ := hp_
          subst τ_
          subst z_
          refine zr_if_ne X 56 dX1_capacityOut_44 (by decide) ite01 (fun t_44 => ?_) (fun f_44 => ?_)
          · refine zr_iinc X dX1_capacityOut_56 rfl (by decide) rfl ?_
            refine zr_goto X 4 dX1_capacityOut_59 (by decide) ?_
            refine Wx.weak (lo' := [some (.ref (ad (b + 6, 1))), some (jI q), some (jI y), some (jI (i + 1))]) ⟨rfl, rfl, rfl, rfl, trivial⟩ ?_
            exact ih_4 _ _ ⟨⟨by omega, by omega⟩, by rw [sm_succ hi.1, ← hy]; unfold coF; first | simp [ite0 t_28] | simp [ite1 t_44]⟩ (by omega)
          · refine zr_iloadn X dX1_capacityOut_47 rfl ?_
            refine zr_aloadn X dX1_capacityOut_48 rfl ?_
            refine zr_get X K (C := RX1) (T := TX1) (N := 3) (k := 1) (mB hb (by decide)) rfl rfl ti_1 (by decide) rfl tw_86 rfl dX1_capacityOut_49 ?_
            refine zr_iloadn X dX1_capacityOut_52 rfl ?_
            refine zr_iald X K (n := 80) (mB hb (by decide)) rfl (by decide) (by omega) dX1_capacityOut_53 ?_
            refine zr_iadd X dX1_capacityOut_54 ?_
            refine zr_istoren X dX1_capacityOut_55 (by decide) rfl ?_
            refine zr_iinc X dX1_capacityOut_56 rfl (by decide) rfl ?_
            refine zr_goto X 4 dX1_capacityOut_59 (by decide) ?_
            refine Wx.weak (lo' := [some (.ref (ad (b + 6, 1))), some (jI q), some (jI (y + (σ (b + 6, 2) i))), some (jI (i + 1))]) ⟨rfl, rfl, rfl, rfl, trivial⟩ ?_
            exact ih_4 _ _ ⟨⟨by omega, by omega⟩, by rw [sm_succ hi.1, ← hy]; unfold coF; simp [ite1 f_28, ite0 f_44]⟩ (by omega)
  refine Wx.weak (lo' := [some (.ref (ad (b + 6, 1))), some (jI q), some (jI 0), some (jI 0)]) ⟨rfl, rfl, rfl, rfl, trivial⟩ ?_
  exact loop_4 _ _ _ ⟨⟨by omega, by omega⟩, rfl⟩ (Nat.lt_succ_self _)
end
section
/-! FLOWS: the mathematics of cuts -/
/-- only some numbers of one group have changed -/
def Fr (b : Nat) (L : List Nat) (σ τ : Mem) : Prop := ∀ g k : Nat, (g ≠ b + 6 ∨ k ∉ L) → τ (g, k) = σ (g, k)
theorem Fr.rf {b : Nat} {L : List Nat} {σ : Mem} : Fr b L σ σ := fun _ _ _ => rfl
theorem Fr.tr {b : Nat} {L : List Nat} {σ τ υ : Mem} (h : Fr b L σ τ) (k : Fr b L τ υ) : Fr b L σ υ := fun g j hq => (k g j hq).trans (h g j hq)
theorem Fr.up {b : Nat} {L M : List Nat} {σ τ : Mem} (h : Fr b L σ τ) (hs : ∀ k ∈ L, k ∈ M) : Fr b M σ τ := fun g k hq => h g k (hq.elim Or.inl (fun e => Or.inr (fun q => e (hs k q))))
theorem Fr.set {b k : Nat} {L : List Nat} {σ : Mem} {z x : Int} (h : k ∈ L) : Fr b L σ (mset σ (b + 6, k) z x) := fun g j hq => mset_id (fun e => by
  cases e
  rcases hq with hq | hq
  · exact hq rfl
  · exact hq h)
theorem Fr.of {b : Nat} {L : List Nat} {σ τ : Mem} (h : Fr b L σ τ) (g k : Nat) (hq : g < 6 := by decide) : τ (g, k) = σ (g, k) := h g k (Or.inl (by omega))
theorem Fr.own {b : Nat} {L : List Nat} {σ τ : Mem} (h : Fr b L σ τ) (k : Nat) (hq : k ∉ L := by decide) : τ (b + 6, k) = σ (b + 6, k) := h _ k (Or.inr hq)
theorem Fr.net {b : Nat} {L : List Nat} {σ τ : Mem} (h : Fr b L σ τ) (hN : NetOk σ) : NetOk τ := by
  unfold NetOk at hN ⊢
  rw [h.of 0 0, h.of 0 1, h.of 0 2, h.of 0 3]
  exact hN
theorem Fr.adj {b : Nat} {L : List Nat} {σ τ : Mem} (h : Fr b L σ τ) (hN : AdjOk σ) : AdjOk τ := by
  unfold AdjOk at hN ⊢
  have e : ∀ v : Nat, τ (1, v) = σ (1, v) := fun v => h.of 1 v
  simp only [h.of 0 0, h.of 0 1, h.of 0 2, h.of 0 3, h.of 0 4, e]
  exact hN
theorem Fr.fl {b : Nat} {L : List Nat} {σ τ : Mem} (h : Fr b L σ τ) (h2 : 2 ∉ L := by decide) (h3 : 3 ∉ L := by decide) (hN : FlOk σ b) : FlOk τ b := by
  unfold FlOk at hN ⊢
  rw [h.own 2 h2, h.own 3 h3, h.of 0 1]
  exact hN
def ind (X : Int → Bool) (v x : Int) : Int := if X v = true then x else 0
theorem ind_t {X : Int → Bool} {v x : Int} (h : X v = true) : ind X v x = x := if_pos h
theorem ind_f {X : Int → Bool} {v x : Int} (h : ¬ X v = true) : ind X v x = 0 := if_neg h
theorem ind_add (X : Int → Bool) (v x y : Int) : ind X v (x + y) = ind X v x + ind X v y := by unfold ind; split <;> omega
theorem ind_sub (X : Int → Bool) (v x y : Int) : ind X v (x - y) = ind X v x - ind X v y := by unfold ind; split <;> omega
theorem ind_le {X : Int → Bool} {v x y : Int} (h : x ≤ y) : ind X v x ≤ ind X v y := by unfold ind; split <;> omega
theorem ind_0 (X : Int → Bool) (v : Int) : ind X v 0 = 0 := by unfold ind; split <;> rfl
theorem ind_nn {X : Int → Bool} {v x : Int} (h : 0 ≤ x) : 0 ≤ ind X v x := by unfold ind; split <;> omega
/-- the net flow out of a set -/
def nf (σ : Mem) (b : Nat) (X : Int → Bool) (a : Int) : Int := ind X (σ (0, 2) a) (σ (b + 6, 3) a) - ind X (σ (0, 3) a) (σ (b + 6, 3) a)
def net (σ : Mem) (b : Nat) (X : Int → Bool) : Int := sm (nf σ b X) (σ (0, 1) 0).toNat
/-- the capacity out of a set -/
def co (σ : Mem) (b : Nat) (X : Int → Bool) (a : Int) : Int := if X (σ (0, 2) a) = true ∧ ¬ X (σ (0, 3) a) = true then σ (b + 6, 2) a else 0
def cpo (σ : Mem) (b : Nat) (X : Int → Bool) : Int := sm (co σ b X) (σ (0, 1) 0).toNat
/-- what a set has in excess -/
def sx (σ : Mem) (b : Nat) (X : Int → Bool) : Int := sm (fun v => ind X v (σ (b + 6, 5) v)) (σ (0, 0) 0).toNat
theorem nf_le {σ : Mem} {b : Nat} {X : Int → Bool} {a : Int} (h : 0 ≤ σ (b + 6, 3) a ∧ σ (b + 6, 3) a ≤ σ (b + 6, 2) a) : nf σ b X a ≤ co σ b X a := by
  unfold nf co
  by_cases h1 : X (σ (0, 2) a) = true <;> by_cases h2 : X (σ (0, 3) a) = true
  · rw [ind_t h1, ind_t h2, if_neg (fun h => h.2 h2)]; omega
  · rw [ind_t h1, ind_f h2, if_pos ⟨h1, h2⟩]; omega
  · rw [ind_f h1, ind_t h2, if_neg (fun h => h1 h.1)]; omega
  · rw [ind_f h1, ind_f h2, if_neg (fun h => h1 h.1)]; omega
theorem net_le {σ : Mem} {b : Nat} (hN : NetOk σ) (hF : FlOk σ b) (X : Int → Bool) : net σ b X ≤ cpo σ b X := by
  have := hN.2.1.1
  exact sm_le fun a h1 h2 => nf_le ⟨(hF a h1 (by omega)).1, (hF a h1 (by omega)).2.1⟩
theorem rmF_t {σ : Mem} {b : Nat} {a : Int} : rmF σ b a (σ (0, 2) a) = σ (b + 6, 2) a - σ (b + 6, 3) a := if_pos rfl
theorem rmF_h {σ : Mem} {b : Nat} (hN : NetOk σ) {a : Int} (ha : 0 ≤ a ∧ a < σ (0, 1) 0) : rmF σ b a (σ (0, 3) a) = σ (b + 6, 3) a := if_neg (hN.2.2 a ha.1 ha.2).2.2
theorem clo_net {σ : Mem} {b : Nat} (hN : NetOk σ) (hF : FlOk σ b) {X : Int → Bool} (h : clo σ b X) : net σ b X = cpo σ b X := by
  have hm := hN.2.1.1
  refine sm_cong fun a h1 h2 => ?_
  have ha : 0 ≤ a ∧ a < σ (0, 1) 0 := ⟨h1, by omega⟩
  have hf := hF a ha.1 ha.2
  have hc := h a ha.1 ha.2
  rw [rmF_t, rmF_h hN ha] at hc
  unfold nf co
  by_cases k1 : X (σ (0, 2) a) = true <;> by_cases k2 : X (σ (0, 3) a) = true
  · rw [ind_t k1, ind_t k2, if_neg (fun h => h.2 k2)]; omega
  · rw [ind_t k1, ind_f k2, if_pos ⟨k1, k2⟩]
    by_cases h0 : 0 < σ (b + 6, 2) a - σ (b + 6, 3) a
    · exact absurd (hc.1 k1 h0) k2
    · omega
  · rw [ind_f k1, ind_t k2, if_neg (fun h => k1 h.1)]
    by_cases h0 : 0 < σ (b + 6, 3) a
    · exact absurd (hc.2 k2 h0) k1
    · omega
  · rw [ind_f k1, ind_f k2, if_neg (fun h => k1 h.1)]; omega
theorem net_clo {σ : Mem} {b : Nat} (hN : NetOk σ) (hF : FlOk σ b) {X : Int → Bool} (h : net σ b X = cpo σ b X) : clo σ b X := by
  have hm := hN.2.1.1
  intro a h1 h2
  have ha : 0 ≤ a ∧ a < σ (0, 1) 0 := ⟨h1, by omega⟩
  have hf := hF a ha.1 ha.2
  have he := sm_eq_le (f := nf σ b X) (g := co σ b X) (n := (σ (0, 1) 0).toNat) (fun a h1 h2 => nf_le ⟨(hF a h1 (by omega)).1, (hF a h1 (by omega)).2.1⟩) h a h1 (by omega)
  rw [rmF_t, rmF_h hN ha]
  unfold nf co at he
  by_cases k1 : X (σ (0, 2) a) = true <;> by_cases k2 : X (σ (0, 3) a) = true
  · exact ⟨fun _ _ => k2, fun _ _ => k1⟩
  · rw [ind_t k1, ind_f k2, if_pos ⟨k1, k2⟩] at he
    exact ⟨fun _ h0 => by omega, fun k _ => absurd k k2⟩
  · rw [ind_f k1, ind_t k2, if_neg (fun h => k1 h.1)] at he
    exact ⟨fun k _ => absurd k k1, fun _ h0 => by omega⟩
  · exact ⟨fun k _ => absurd k k1, fun k _ => absurd k k2⟩
theorem co_nn {σ : Mem} {b : Nat} (hN : NetOk σ) (hF : FlOk σ b) (X : Int → Bool) : 0 ≤ cpo σ b X := by
  have hm := hN.2.1.1
  have := sm_le (f := fun _ => 0) (g := co σ b X) (n := (σ (0, 1) 0).toNat) (fun a h1 h2 => by
    have := hF a h1 (by omega)
    show 0 ≤ co σ b X a
    unfold co
    split <;> omega)
  rw [sm_zero] at this
  exact this
/-- closed sets meet and join -/
theorem clo_and {σ : Mem} {b : Nat} {X Y : Int → Bool} (h : clo σ b X) (k : clo σ b Y) : clo σ b (fun v => X v && Y v) := fun a h1 h2 =>
  ⟨fun hx h0 => by rw [Bool.and_eq_true] at hx ⊢; exact ⟨(h a h1 h2).1 hx.1 h0, (k a h1 h2).1 hx.2 h0⟩, fun hx h0 => by rw [Bool.and_eq_true] at hx ⊢; exact ⟨(h a h1 h2).2 hx.1 h0, (k a h1 h2).2 hx.2 h0⟩⟩
theorem clo_or {σ : Mem} {b : Nat} {X Y : Int → Bool} (h : clo σ b X) (k : clo σ b Y) : clo σ b (fun v => X v || Y v) := fun a h1 h2 =>
  ⟨fun hx h0 => by
    rw [Bool.or_eq_true] at hx ⊢
    exact hx.elim (fun q => Or.inl ((h a h1 h2).1 q h0)) (fun q => Or.inr ((k a h1 h2).1 q h0)), fun hx h0 => by
    rw [Bool.or_eq_true] at hx ⊢
    exact hx.elim (fun q => Or.inl ((h a h1 h2).2 q h0)) (fun q => Or.inr ((k a h1 h2).2 q h0))⟩
/-- what is sent over one arc -/
theorem net_send {σ τ : Mem} {b : Nat} {X : Int → Bool} {a x : Int} (ha : 0 ≤ a ∧ a < σ (0, 1) 0) (e1 : τ (0, 1) = σ (0, 1)) (e2 : τ (0, 2) = σ (0, 2)) (e3 : τ (0, 3) = σ (0, 3)) (e4 : ∀ j, τ (b + 6, 3) j = if j = a then σ (b + 6, 3) a + x else σ (b + 6, 3) j) : net τ b X = net σ b X + ind X (σ (0, 2) a) x - ind X (σ (0, 3) a) x := by
  unfold net
  rw [e1]
  have h1 : sm (nf τ b X) (σ (0, 1) 0).toNat = sm (fun j => if j = a then nf σ b X a + ind X (σ (0, 2) a) x - ind X (σ (0, 3) a) x else nf σ b X j) (σ (0, 1) 0).toNat := by
    refine sm_cong fun j h1 h2 => ?_
    unfold nf
    rw [e2, e3, e4 j]
    by_cases h : j = a
    · subst h
      rw [if_pos rfl, if_pos rfl, ind_add, ind_add]; omega
    · rw [if_neg h, if_neg h]
  rw [h1, sm_upd (nf σ b X) ha.1 (by omega)]
  omega
theorem sx_upd {σ τ : Mem} {b : Nat} {X : Int → Bool} {v x : Int} (hv : 0 ≤ v ∧ v < σ (0, 0) 0) (e0 : τ (0, 0) = σ (0, 0)) (e : ∀ j, τ (b + 6, 5) j = if j = v then σ (b + 6, 5) v + x else σ (b + 6, 5) j) : sx τ b X = sx σ b X + ind X v x := by
  unfold sx
  rw [e0]
  have h1 : sm (fun j => ind X j (τ (b + 6, 5) j)) (σ (0, 0) 0).toNat = sm (fun j => if j = v then ind X v (σ (b + 6, 5) v) + ind X v x else ind X j (σ (b + 6, 5) j)) (σ (0, 0) 0).toNat := by
    refine sm_cong fun j h1 h2 => ?_
    show ind X j (τ (b + 6, 5) j) = _
    rw [e j]
    by_cases h : j = v
    · subst h
      rw [if_pos rfl, if_pos rfl, ind_add]
    · rw [if_neg h, if_neg h]
  rw [h1, sm_upd (fun j => ind X j (σ (b + 6, 5) j)) hv.1 (by omega)]
  omega
theorem net_all {σ : Mem} {b : Nat} : net σ b (fun _ => true) = 0 := by
  unfold net
  rw [sm_cong (g := fun _ => 0) (fun a _ _ => by unfold nf; rw [ind_t rfl, ind_t rfl]; omega), sm_zero]
theorem net_same {σ τ : Mem} {b : Nat} {X : Int → Bool} (e1 : τ (0, 1) = σ (0, 1)) (e2 : τ (0, 2) = σ (0, 2)) (e3 : τ (0, 3) = σ (0, 3)) (e4 : τ (b + 6, 3) = σ (b + 6, 3)) : net τ b X = net σ b X := by
  unfold net nf
  rw [e1, e2, e3, e4]
theorem cpo_same {σ τ : Mem} {b : Nat} {X : Int → Bool} (e1 : τ (0, 1) = σ (0, 1)) (e2 : τ (0, 2) = σ (0, 2)) (e3 : τ (0, 3) = σ (0, 3)) (e4 : τ (b + 6, 2) = σ (b + 6, 2)) : cpo τ b X = cpo σ b X := by
  unfold cpo co
  rw [e1, e2, e3, e4]
theorem sx_same {σ τ : Mem} {b : Nat} {X : Int → Bool} (e1 : τ (0, 0) = σ (0, 0)) (e4 : τ (b + 6, 5) = σ (b + 6, 5)) : sx τ b X = sx σ b X := by
  unfold sx
  rw [e1, e4]
theorem clo_same {σ τ : Mem} {b : Nat} {X : Int → Bool} (e1 : τ (0, 1) = σ (0, 1)) (e2 : τ (0, 2) = σ (0, 2)) (e3 : τ (0, 3) = σ (0, 3)) (e4 : τ (b + 6, 2) = σ (b + 6, 2)) (e5 : τ (b + 6, 3) = σ (b + 6, 3)) (h : clo σ b X) : clo τ b X := by
  unfold clo stp rmF at h ⊢
  rw [e1, e2, e3, e4, e5]
  exact h
theorem sm_pos {f : Int → Int} {n : Nat} (h : ∀ a : Int, 0 ≤ a → a < n → 0 ≤ f a) {i : Int} (hi : 0 ≤ i ∧ i < n) : f i ≤ sm f n := by
  have h1 := sm_upd f (i := i) (x := 0) hi.1 hi.2
  have h2 := sm_le (f := fun _ => 0) (g := fun a => if a = i then 0 else f a) (n := n) (fun a h3 h4 => by
    show 0 ≤ if a = i then 0 else f a
    split
    · omega
    · exact h a h3 h4)
  rw [sm_zero] at h2
  omega
theorem sm_nn {f : Int → Int} {n : Nat} (h : ∀ a : Int, 0 ≤ a → a < n → 0 ≤ f a) : 0 ≤ sm f n := by
  have h2 := sm_le (f := fun _ => 0) (g := f) (n := n) h
  rw [sm_zero] at h2
  exact h2
end
section
theorem fb_holes : ∀ (m n : Nat) (f : Nat → Nat), (∀ i, i < n → f i < m) → (∀ i j, i < j → j < n → f i ≠ f j) → n ≤ m := by
  intro m
  induction m with
  | zero =>
    intro n f h1 _
    rcases Nat.eq_zero_or_pos n with h | h
    · omega
    · exact absurd (h1 0 h) (Nat.not_lt_zero _)
  | succ m ih =>
    intro n f h1 h2
    by_cases hx : ∃ i, i < n ∧ f i = m
    · obtain ⟨a, ha, hfa⟩ := hx
      have hg := ih (n - 1) (fun i => if i < a then f i else f (i + 1)) (by
        intro i hi
        by_cases q : i < a
        · simp only [if_pos q]
          have b1 := h1 i (by omega)
          have b2 := h2 i a q ha
          omega
        · simp only [if_neg q]
          have b1 := h1 (i + 1) (by omega)
          have b2 := h2 a (i + 1) (by omega) (by omega)
          omega) (by
        intro i j hij hj
        by_cases q : i < a
        · by_cases r : j < a
          · simp only [if_pos q, if_pos r]
            exact h2 i j hij (by omega)
          · simp only [if_pos q, if_neg r]
            exact h2 i (j + 1) (by omega) (by omega)
        · have r : ¬ j < a := by omega
          simp only [if_neg q, if_neg r]
          exact h2 (i + 1) (j + 1) (by omega) (by omega))
      omega
    · have hg := ih n f (fun i hi => by
        have b1 := h1 i hi
        have b2 : f i ≠ m := fun e => hx ⟨i, hi, e⟩
        omega) h2
      omega
/-! PREFLOWS: pushing and relabeling, the mathematics -/
/-- of n + 1 different heights, one is no node's -/
theorem pig {h : Int → Int} {n : Nat} {c : Nat → Int} (hc : ∀ i j : Nat, i < j → j < n + 1 → c i ≠ c j) : ∃ i : Nat, i < n + 1 ∧ ∀ v : Int, 0 ≤ v → v < n → h v ≠ c i := by
  apply Classical.byContradiction
  intro hno
  have hex : ∀ i : Nat, ∃ w : Nat, i < n + 1 → w < n ∧ h (w : Int) = c i := by
    intro i
    by_cases hi : i < n + 1
    · apply Classical.byContradiction
      intro h1
      apply hno
      refine ⟨i, hi, fun v h2 h3 h4 => h1 ⟨v.toNat, fun _ => ⟨by omega, ?_⟩⟩⟩
      rw [Int.toNat_of_nonneg h2]
      exact h4
    · exact ⟨0, fun h => absurd h hi⟩
  have hf : ∀ i, i < n + 1 → Classical.choose (hex i) < n ∧ h ((Classical.choose (hex i) : Nat) : Int) = c i := fun i hi => Classical.choose_spec (hex i) hi
  have := fb_holes n (n + 1) (fun i => Classical.choose (hex i)) (fun i hi => (hf i hi).1) (fun i j hij hj e => by
    apply hc i j hij hj
    rw [← (hf i (by omega)).2, ← (hf j hj).2]
    have e : Classical.choose (hex i) = Classical.choose (hex j) := e
    rw [e])
  omega
def VL (σ : Mem) (b : Nat) : Prop := ∀ a, 0 ≤ a → a < σ (0, 1) 0 → (0 < σ (b + 6, 2) a - σ (b + 6, 3) a → σ (b + 6, 6) (σ (0, 2) a) ≤ σ (b + 6, 6) (σ (0, 3) a) + 1) ∧ (0 < σ (b + 6, 3) a → σ (b + 6, 6) (σ (0, 3) a) ≤ σ (b + 6, 6) (σ (0, 2) a) + 1)
theorem gap_clo {σ : Mem} {b : Nat} {k : Int} (hN : NetOk σ) (hV : VL σ b) (hk : ∀ v : Int, 0 ≤ v → v < σ (0, 0) 0 → σ (b + 6, 6) v ≠ k) : clo σ b (fun v => decide (k < σ (b + 6, 6) v)) := by
  intro a h1 h2
  have ha : 0 ≤ a ∧ a < σ (0, 1) 0 := ⟨h1, h2⟩
  obtain ⟨⟨t1, t2⟩, ⟨t3, t4⟩, -⟩ := hN.2.2 a h1 h2
  have hv := hV a h1 h2
  have k1 := hk _ t1 t2
  have k2 := hk _ t3 t4
  rw [rmF_t, rmF_h hN ha]
  constructor
  · intro hx h0
    have hx := of_decide_eq_true hx
    have := hv.1 h0
    exact decide_eq_true (by omega)
  · intro hx h0
    have hx := of_decide_eq_true hx
    have := hv.2 h0
    exact decide_eq_true (by omega)
/-- the state of the router at work: what flows, plus what is in excess, is what flowed, plus what was given to the start -/
def pfI (σ : Mem) (b : Nat) (N0 : (Int → Bool) → Int) (s t B : Int) : Prop :=
  (NetOk σ ∧ AdjOk σ ∧ FlOk σ b) ∧ (∀ X, net σ b X + sx σ b X = N0 X + ind X s B) ∧ (∀ X, N0 X ≤ cpo σ b X) ∧ N0 (fun _ => true) = 0 ∧
  (∀ v, 0 ≤ v → v < σ (0, 0) 0 → 0 ≤ σ (b + 6, 5) v) ∧ VL σ b ∧ σ (b + 6, 6) t = 0 ∧ σ (b + 6, 6) s ≤ σ (0, 0) 0 ∧
  (∀ v, 0 ≤ v → v < σ (0, 0) 0 → 0 ≤ σ (b + 6, 6) v ∧ σ (b + 6, 6) v ≤ 2 * σ (0, 0) 0 - 1) ∧
  (σ (b + 6, 11) 0 = s ∧ σ (b + 6, 12) 0 = t) ∧ (0 ≤ s ∧ s < σ (0, 0) 0) ∧ (0 ≤ t ∧ t < σ (0, 0) 0) ∧ s ≠ t ∧ 0 ≤ B ∧ B ≤ 100000000
theorem pf_exc {σ : Mem} {b : Nat} {N0 : (Int → Bool) → Int} {s t B : Int} (h : pfI σ b N0 s t B) {v : Int} (hv : 0 ≤ v ∧ v < σ (0, 0) 0) : 0 ≤ σ (b + 6, 5) v ∧ σ (b + 6, 5) v ≤ B := by
  obtain ⟨⟨hN, hA, hF⟩, hb, hc, h0, he, -⟩ := h
  refine ⟨he v hv.1 hv.2, ?_⟩
  have h1 := hb (fun _ => true)
  rw [net_all, h0, ind_t rfl] at h1
  have h2 := sm_pos (f := fun v => ind (fun _ => true) v (σ (b + 6, 5) v)) (n := (σ (0, 0) 0).toNat) (fun a h1 h2 => by
    show 0 ≤ ind _ a _
    rw [ind_t rfl]
    exact he a h1 (by omega)) (i := v) ⟨hv.1, by omega⟩
  have h3 : ind (fun _ => true) v (σ (b + 6, 5) v) ≤ sx σ b (fun _ => true) := h2
  rw [ind_t rfl] at h3
  omega
/-- a node with excess is below twice the number of nodes -/
theorem pf_high {σ : Mem} {b : Nat} {N0 : (Int → Bool) → Int} {s t B : Int} (hN : NetOk σ) (hF : FlOk σ b) (hb : ∀ X, net σ b X + sx σ b X = N0 X + ind X s B) (hc : ∀ X, N0 X ≤ cpo σ b X) (he : ∀ v, 0 ≤ v → v < σ (0, 0) 0 → 0 ≤ σ (b + 6, 5) v) (hV : VL σ b) (ht : σ (b + 6, 6) t = 0) (hs : σ (b + 6, 6) s ≤ σ (0, 0) 0) (htn : 0 ≤ t ∧ t < σ (0, 0) 0) {v : Int} (hv : 0 ≤ v ∧ v < σ (0, 0) 0) (h0 : 0 < σ (b + 6, 5) v) : σ (b + 6, 6) v ≤ 2 * σ (0, 0) 0 - 1 := by
  apply Classical.byContradiction
  intro hno
  obtain ⟨i, hi, hk⟩ := pig (h := σ (b + 6, 6)) (n := (σ (0, 0) 0).toNat) (c := fun i => if i = 0 then 0 else σ (0, 0) 0 + (i : Int) - 1) (fun i j hij hj => by
    show (if i = 0 then (0 : Int) else σ (0, 0) 0 + (i : Int) - 1) ≠ (if j = 0 then (0 : Int) else σ (0, 0) 0 + (j : Int) - 1)
    split <;> split <;> omega)
  have hi0 : i ≠ 0 := by
    intro e
    subst e
    exact hk t htn.1 (by omega) (by rw [ht]; rfl)
  have hk' : ∀ w : Int, 0 ≤ w → w < σ (0, 0) 0 → σ (b + 6, 6) w ≠ σ (0, 0) 0 + (i : Int) - 1 := fun w h1 h2 => by
    have := hk w h1 (by omega)
    rw [if_neg hi0] at this
    exact this
  have hX := gap_clo hN hV hk'
  have h1 := clo_net hN hF hX
  have h2 := hb (fun v => decide (σ (0, 0) 0 + (i : Int) - 1 < σ (b + 6, 6) v))
  have h3 := hc (fun v => decide (σ (0, 0) 0 + (i : Int) - 1 < σ (b + 6, 6) v))
  rw [ind_f (v := s) (by intro q; have := of_decide_eq_true q; omega)] at h2
  have h4 := sm_pos (f := fun w => ind (fun v => decide (σ (0, 0) 0 + (i : Int) - 1 < σ (b + 6, 6) v)) w (σ (b + 6, 5) w)) (n := (σ (0, 0) 0).toNat) (fun a h1 h2 => ind_nn (he a h1 (by omega))) (i := v) ⟨hv.1, by omega⟩
  have h5 : ind (fun v => decide (σ (0, 0) 0 + (i : Int) - 1 < σ (b + 6, 6) v)) v (σ (b + 6, 5) v) ≤ sx σ b (fun v => decide (σ (0, 0) 0 + (i : Int) - 1 < σ (b + 6, 6) v)) := h4
  rw [ind_t (v := v) (by exact decide_eq_true (by omega))] at h5
  omega
/-! a push over one arc -/
theorem otF_t {σ : Mem} {a : Int} : otF σ a (σ (0, 2) a) = σ (0, 3) a := if_pos rfl
theorem otF_h {σ : Mem} (hN : NetOk σ) {a : Int} (ha : 0 ≤ a ∧ a < σ (0, 1) 0) : otF σ a (σ (0, 3) a) = σ (0, 2) a := if_neg (hN.2.2 a ha.1 ha.2).2.2
theorem sx_two {σ τ : Mem} {b : Nat} {X : Int → Bool} {u w x : Int} (hu : 0 ≤ u ∧ u < σ (0, 0) 0) (hw : 0 ≤ w ∧ w < σ (0, 0) 0) (huw : u ≠ w) (e0 : τ (0, 0) = σ (0, 0)) (e : ∀ j, τ (b + 6, 5) j = if j = w then σ (b + 6, 5) w + x else if j = u then σ (b + 6, 5) u - x else σ (b + 6, 5) j) : sx τ b X = sx σ b X + ind X w x - ind X u x := by
  unfold sx
  rw [e0]
  have h1 : sm (fun j => ind X j (τ (b + 6, 5) j)) (σ (0, 0) 0).toNat = sm (fun j => if j = w then ind X w (σ (b + 6, 5) w) + ind X w x else if j = u then ind X u (σ (b + 6, 5) u) - ind X u x else ind X j (σ (b + 6, 5) j)) (σ (0, 0) 0).toNat := by
    refine sm_cong fun j h1 h2 => ?_
    show ind X j (τ (b + 6, 5) j) = _
    rw [e j]
    by_cases h : j = w
    · subst h
      rw [if_pos rfl, if_pos rfl, ind_add]
    · rw [if_neg h, if_neg h]
      by_cases h' : j = u
      · subst h'
        rw [if_pos rfl, if_pos rfl, ind_sub]
      · rw [if_neg h', if_neg h']
  rw [h1, sm_upd (fun j => if j = u then ind X u (σ (b + 6, 5) u) - ind X u x else ind X j (σ (b + 6, 5) j)) hw.1 (by omega), sm_upd (fun j => ind X j (σ (b + 6, 5) j)) hu.1 (by omega), if_neg (Ne.symm huw)]
  omega
/-- what a push from u over the arc a makes of the memory -/
def psP (σ τ : Mem) (b : Nat) (a u x : Int) : Prop := Fr b [3, 5] σ τ ∧ (∀ j, τ (b + 6, 3) j = if j = a then σ (b + 6, 3) a + (if σ (0, 2) a = u then x else -x) else σ (b + 6, 3) j) ∧ ∀ j, τ (b + 6, 5) j = if j = otF σ a u then σ (b + 6, 5) (otF σ a u) + x else if j = u then σ (b + 6, 5) u - x else σ (b + 6, 5) j
theorem ends {σ : Mem} (hN : NetOk σ) {a u : Int} (ha : 0 ≤ a ∧ a < σ (0, 1) 0) (hu : σ (0, 2) a = u ∨ σ (0, 3) a = u) : (0 ≤ u ∧ u < σ (0, 0) 0) ∧ (0 ≤ otF σ a u ∧ otF σ a u < σ (0, 0) 0) ∧ u ≠ otF σ a u := by
  obtain ⟨t1, t2, t3⟩ := hN.2.2 a ha.1 ha.2
  rcases hu with rfl | rfl
  · rw [otF_t]; exact ⟨t1, t2, t3⟩
  · rw [otF_h hN ha]; exact ⟨t2, t1, Ne.symm t3⟩
theorem ps_rm {σ τ : Mem} {b : Nat} {a u x : Int} (hN : NetOk σ) (ha : 0 ≤ a ∧ a < σ (0, 1) 0) (hu : σ (0, 2) a = u ∨ σ (0, 3) a = u) (h : psP σ τ b a u x) (c : Int) (hc : σ (0, 2) c = u ∨ σ (0, 3) c = u) (hc2 : 0 ≤ c ∧ c < σ (0, 1) 0) : rmF τ b c u = if c = a then rmF σ b a u - x else rmF σ b c u := by
  obtain ⟨hf, h3, -⟩ := h
  unfold rmF
  rw [hf.of 0 2, hf.own 2, h3 c]
  by_cases e : c = a
  · subst e
    rw [if_pos rfl, if_pos rfl]
    split
    · omega
    · omega
  · rw [if_neg e, if_neg e]
theorem pf_push {σ τ : Mem} {b : Nat} {N0 : (Int → Bool) → Int} {s t B a u x : Int} (h : pfI σ b N0 s t B) (ha : 0 ≤ a ∧ a < σ (0, 1) 0) (hu : σ (0, 2) a = u ∨ σ (0, 3) a = u) (hx : 0 ≤ x ∧ x ≤ σ (b + 6, 5) u ∧ x ≤ rmF σ b a u) (hh : σ (b + 6, 6) u = σ (b + 6, 6) (otF σ a u) + 1) (k : psP σ τ b a u x) : pfI τ b N0 s t B := by
  obtain ⟨⟨hN, hA, hF⟩, hb, hc, h0, he, hV, h6, h7, h8, ⟨h9, h10⟩, h11, h12, h13, h14, h15⟩ := h
  obtain ⟨kf, k3, k5⟩ := k
  obtain ⟨u1, w1, uw⟩ := ends hN ha hu
  have hFa := hF a ha.1 ha.2
  obtain ⟨q1, q2, q3⟩ := hN.2.2 a ha.1 ha.2
  have hF' : FlOk τ b := by
    intro c c1 c2
    rw [kf.of 0 1] at c2
    rw [kf.own 2, k3 c]
    have hFc := hF c c1 c2
    by_cases e : c = a
    · subst e
      rw [if_pos rfl]
      unfold rmF at hx
      by_cases e2 : σ (0, 2) c = u
      · rw [if_pos e2] at hx ⊢; omega
      · rw [if_neg e2] at hx ⊢; omega
    · rw [if_neg e]; exact hFc
  have hnet : ∀ X, net τ b X = net σ b X + ind X u x - ind X (otF σ a u) x := by
    intro X
    rw [net_send (σ := σ) ha (kf.of 0 1) (kf.of 0 2) (kf.of 0 3) k3]
    rcases hu with hu | hu
    · subst hu
      rw [if_pos rfl, otF_t]
    · subst hu
      rw [if_neg q3, otF_h hN ha]
      have e : ∀ y, ind X y (-x) = - ind X y x := fun y => by unfold ind; split <;> omega
      rw [e, e]; omega
  have hsx : ∀ X, sx τ b X = sx σ b X + ind X (otF σ a u) x - ind X u x := fun X => sx_two u1 w1 uw (kf.of 0 0) k5
  refine ⟨⟨kf.net hN, kf.adj hA, hF'⟩, fun X => ?_, fun X => ?_, h0, fun v v1 v2 => ?_, ?_, ?_, ?_, ?_, ⟨?_, ?_⟩, ?_, ?_, h13, h14, h15⟩
  · rw [hnet, hsx]
    have := hb X
    omega
  · rw [cpo_same (kf.of 0 1) (kf.of 0 2) (kf.of 0 3) (kf.own 2)]; exact hc X
  · rw [kf.of 0 0] at v2
    rw [k5 v]
    have := he v v1 v2
    by_cases e : v = otF σ a u
    · rw [if_pos e]; rw [e] at this; omega
    · rw [if_neg e]
      by_cases e2 : v = u
      · rw [if_pos e2]; omega
      · rw [if_neg e2]; exact this
  · intro c c1 c2
    rw [kf.of 0 1] at c2
    rw [kf.own 2, kf.own 6, kf.of 0 2, kf.of 0 3, k3 c]
    have hv := hV c c1 c2
    by_cases e : c = a
    · subst e
      rw [if_pos rfl]
      unfold rmF at hx
      rcases hu with hu | hu
      · subst hu
        rw [otF_t] at hh
        rw [if_pos rfl] at hx ⊢
        exact ⟨fun _ => by omega, fun _ => by omega⟩
      · subst hu
        rw [otF_h hN ha] at hh
        rw [if_neg q3] at hx ⊢
        exact ⟨fun _ => by omega, fun _ => by omega⟩
    · rw [if_neg e]; exact hv
  · rw [kf.own 6]; exact h6
  · rw [kf.own 6, kf.of 0 0]; exact h7
  · rw [kf.own 6, kf.of 0 0]; exact h8
  · rw [kf.own 11]; exact h9
  · rw [kf.own 12]; exact h10
  · rw [kf.of 0 0]; exact h11
  · rw [kf.of 0 0]; exact h12
/-- pushOut at work: σ0 its start, the node u, the arcs below i done -/
def poI (σ0 σ : Mem) (b : Nat) (N0 : (Int → Bool) → Int) (s t B u i : Int) : Prop := pfI σ b N0 s t B ∧ Fr b [3, 5] σ0 σ ∧ (∀ v, 0 ≤ v → v < σ (0, 0) 0 → v ≠ u → σ0 (b + 6, 5) v ≤ σ (b + 6, 5) v ∧ (σ (b + 6, 5) v ≠ σ0 (b + 6, 5) v → σ (b + 6, 6) v + 1 = σ (b + 6, 6) u)) ∧
  σ (b + 6, 5) u ≤ σ0 (b + 6, 5) u ∧ ∀ j, 0 ≤ j → j < i → σ (b + 6, 6) u = σ (b + 6, 6) (otF σ (σ (1, u.toNat) j) u) + 1 → σ (b + 6, 5) u = 0 ∨ rmF σ b (σ (1, u.toNat) j) u = 0
theorem poI_0 {σ : Mem} {b : Nat} {N0 : (Int → Bool) → Int} {s t B u : Int} (h : pfI σ b N0 s t B) : poI σ σ b N0 s t B u 0 := ⟨h, Fr.rf, fun _ _ _ _ => ⟨Int.le_refl _, fun e => absurd rfl e⟩, Int.le_refl _, fun j h1 h2 => by omega⟩
theorem poI_skip {σ0 σ : Mem} {b : Nat} {N0 : (Int → Bool) → Int} {s t B u i : Int} (h : poI σ0 σ b N0 s t B u i) (hi : ¬ σ (b + 6, 6) u = σ (b + 6, 6) (otF σ (σ (1, u.toNat) i) u) + 1) : poI σ0 σ b N0 s t B u (i + 1) := ⟨h.1, h.2.1, h.2.2.1, h.2.2.2.1, fun j h1 h2 h3 => by
  by_cases e : j = i
  · subst e; exact absurd h3 hi
  · exact h.2.2.2.2 j h1 (by omega) h3⟩
theorem poI_push {σ0 σ τ : Mem} {b : Nat} {N0 : (Int → Bool) → Int} {s t B u i x : Int} (h : poI σ0 σ b N0 s t B u i) (hu : 0 ≤ u ∧ u < 24) (hi : 0 ≤ i ∧ i < σ (0, 4) u) (hh : σ (b + 6, 6) u = σ (b + 6, 6) (otF σ (σ (1, u.toNat) i) u) + 1) (hx : (x = σ (b + 6, 5) u ∨ x = rmF σ b (σ (1, u.toNat) i) u) ∧ x ≤ σ (b + 6, 5) u ∧ x ≤ rmF σ b (σ (1, u.toNat) i) u) (k : psP σ τ b (σ (1, u.toNat) i) u x) : poI σ0 τ b N0 s t B u (i + 1) := by
  obtain ⟨h1, h2, h3, h4, h5⟩ := h
  have hN := h1.1.1
  have hA := h1.1.2.1
  have hF := h1.1.2.2
  obtain ⟨ha, hua⟩ := hA.2.2.1 u i hu.1 hu.2 hi.1 hi.2
  obtain ⟨u1, w1, uw⟩ := ends hN ha hua
  have hex := (pf_exc h1 u1).1
  have hrm := (rmF_rg hF (v := u) ha).1
  have hx0 : 0 ≤ x := by rcases hx.1 with e | e <;> omega
  obtain ⟨kf, k3, k5⟩ := id k
  refine ⟨pf_push h1 ha hua ⟨hx0, hx.2⟩ hh k, h2.tr (kf.up (by decide)), fun v v1 v2 v3 => ?_, ?_, fun j j1 j2 j3 => ?_⟩
  · rw [kf.of 0 0] at v2
    have h3v := h3 v v1 v2 v3
    rw [kf.own 6, k5 v]
    by_cases e : v = otF σ (σ (1, u.toNat) i) u
    · rw [if_pos e, ← e]
      refine ⟨by omega, fun _ => ?_⟩
      rw [e]; omega
    · rw [if_neg e, if_neg v3]
      exact h3v
  · rw [k5 u, if_neg uw, if_pos rfl]
    omega
  · have e1 : τ (1, u.toNat) = σ (1, u.toNat) := kf.of 1 _
    have eo : ∀ c, otF τ c u = otF σ c u := fun c => by unfold otF; rw [kf.of 0 2, kf.of 0 3]
    rw [e1] at j3 ⊢
    rw [kf.own 6, eo] at j3
    rw [k5 u, if_neg uw, if_pos rfl]
    by_cases e : j = i
    · subst e
      rw [ps_rm hN ha hua k _ hua ha, if_pos rfl]
      rcases hx.1 with e | e
      · left; omega
      · right; omega
    · have hj2 : j < i := by omega
      obtain ⟨hc, huc⟩ := hA.2.2.1 u j hu.1 hu.2 j1 (by omega)
      rw [ps_rm hN ha hua k _ huc hc]
      rcases h5 j j1 hj2 j3 with q | q
      · left; omega
      · by_cases e2 : σ (1, u.toNat) j = σ (1, u.toNat) i
        · rw [if_pos e2]
          right
          rw [← e2] at hx ⊢
          omega
        · rw [if_neg e2]
          right; exact q
/-- pushOut's answer -/
def poP (σ τ : Mem) (b : Nat) (N0 : (Int → Bool) → Int) (s t B u : Int) : Prop := pfI τ b N0 s t B ∧ Fr b [3, 5] σ τ ∧ (∀ v, 0 ≤ v → v < τ (0, 0) 0 → v ≠ u → τ (b + 6, 5) v ≠ σ (b + 6, 5) v → τ (b + 6, 6) v + 1 = τ (b + 6, 6) u) ∧
  (0 < τ (b + 6, 5) u → ∀ a, 0 ≤ a → a < τ (0, 1) 0 → (τ (0, 2) a = u ∨ τ (0, 3) a = u) → 0 < rmF τ b a u → τ (b + 6, 6) u ≤ τ (b + 6, 6) (otF τ a u))
theorem adj_at {σ : Mem} (hA : AdjOk σ) {a u : Int} (ha : 0 ≤ a ∧ a < σ (0, 1) 0) (hu : σ (0, 2) a = u ∨ σ (0, 3) a = u) : ∃ j, (0 ≤ j ∧ j < σ (0, 4) u) ∧ σ (1, u.toNat) j = a := by
  obtain ⟨q1, q2⟩ := hA.2.2.2 a ha.1 ha.2
  rcases hu with rfl | rfl
  · exact q1
  · exact q2
theorem VL_rm {σ : Mem} {b : Nat} (hN : NetOk σ) (hV : VL σ b) {a u : Int} (ha : 0 ≤ a ∧ a < σ (0, 1) 0) (hu : σ (0, 2) a = u ∨ σ (0, 3) a = u) (h0 : 0 < rmF σ b a u) : σ (b + 6, 6) u ≤ σ (b + 6, 6) (otF σ a u) + 1 := by
  have hv := hV a ha.1 ha.2
  rcases hu with rfl | rfl
  · rw [rmF_t] at h0
    rw [otF_t]
    exact hv.1 h0
  · rw [rmF_h hN ha] at h0
    rw [otF_h hN ha]
    exact hv.2 h0
theorem poI_end {σ0 σ : Mem} {b : Nat} {N0 : (Int → Bool) → Int} {s t B u i : Int} (h : poI σ0 σ b N0 s t B u i) (hi : σ (0, 4) u ≤ i) : poP σ0 σ b N0 s t B u := by
  obtain ⟨h1, h2, h3, h4, h5⟩ := h
  refine ⟨h1, h2, fun v v1 v2 v3 v4 => (h3 v v1 v2 v3).2 v4, fun he a a1 a2 a3 a4 => ?_⟩
  obtain ⟨j, hj, e⟩ := adj_at h1.1.2.1 ⟨a1, a2⟩ a3
  have hv := VL_rm h1.1.1 h1.2.2.2.2.2.1 ⟨a1, a2⟩ a3 a4
  have := h5 j hj.1 (by omega)
  rw [e] at this
  by_cases q : σ (b + 6, 6) u = σ (b + 6, 6) (otF σ a u) + 1
  · have := this q
    omega
  · omega
/-! a lift -/
def lfI (σ : Mem) (b : Nat) (u i y : Int) : Prop := 0 ≤ y ∧ y ≤ 48 ∧ (∀ j, 0 ≤ j → j < i → 0 < rmF σ b (σ (1, u.toNat) j) u → y ≤ σ (b + 6, 6) (otF σ (σ (1, u.toNat) j) u)) ∧ (y = 48 ∨ ∃ j, 0 ≤ j ∧ j < i ∧ 0 < rmF σ b (σ (1, u.toNat) j) u ∧ y = σ (b + 6, 6) (otF σ (σ (1, u.toNat) j) u))
theorem lfI_0 {σ : Mem} {b : Nat} {u : Int} : lfI σ b u 0 48 := ⟨by omega, by omega, fun j h1 h2 => by omega, Or.inl rfl⟩
theorem lfI_skip {σ : Mem} {b : Nat} {u i y : Int} (h : lfI σ b u i y) (hi : ¬ 0 < rmF σ b (σ (1, u.toNat) i) u) : lfI σ b u (i + 1) y := ⟨h.1, h.2.1, fun j h1 h2 h3 => by
  by_cases e : j = i
  · subst e; exact absurd h3 hi
  · exact h.2.2.1 j h1 (by omega) h3, h.2.2.2.elim Or.inl (fun ⟨j, h1, h2, h3⟩ => Or.inr ⟨j, h1, by omega, h3⟩)⟩
theorem lfI_min {σ : Mem} {b : Nat} {u i y z : Int} (h : lfI σ b u i y) (hi0 : 0 ≤ i) (hi : 0 < rmF σ b (σ (1, u.toNat) i) u) (h0 : 0 ≤ σ (b + 6, 6) (otF σ (σ (1, u.toNat) i) u)) (hz : (z = y ∨ z = σ (b + 6, 6) (otF σ (σ (1, u.toNat) i) u)) ∧ z ≤ y ∧ z ≤ σ (b + 6, 6) (otF σ (σ (1, u.toNat) i) u)) : lfI σ b u (i + 1) z := by
  obtain ⟨h1, h2, h3, h4⟩ := h
  refine ⟨by rcases hz.1 with e | e <;> omega, by omega, fun j j1 j2 j3 => ?_, ?_⟩
  · by_cases e : j = i
    · subst e; exact hz.2.2
    · have := h3 j j1 (by omega) j3
      omega
  · rcases hz.1 with e | e
    · rw [e]
      exact h4.elim Or.inl (fun ⟨j, q1, q2, q3⟩ => Or.inr ⟨j, q1, by omega, q3⟩)
    · exact Or.inr ⟨i, hi0, by omega, hi, e⟩
/-- lift's answer: nothing, or the node stands higher -/
def lfP (σ τ : Mem) (b : Nat) (N0 : (Int → Bool) → Int) (s t B u : Int) : Prop := (σ (b + 6, 5) u = 0 ∧ τ = σ) ∨ (0 < σ (b + 6, 5) u ∧ pfI τ b N0 s t B ∧ ∃ z, σ (b + 6, 6) u + 1 ≤ z ∧ τ = mset σ (b + 6, 6) u z)
theorem lf_end {σ : Mem} {b : Nat} {N0 : (Int → Bool) → Int} {s t B u i y z : Int} (h : pfI σ b N0 s t B) (hu : 0 ≤ u ∧ u < σ (0, 0) 0) (hut : u ≠ t) (hus : u = s → σ (b + 6, 6) u < σ (0, 0) 0) (he : 0 < σ (b + 6, 5) u) (hp : ∀ a, 0 ≤ a → a < σ (0, 1) 0 → (σ (0, 2) a = u ∨ σ (0, 3) a = u) → 0 < rmF σ b a u → σ (b + 6, 6) u ≤ σ (b + 6, 6) (otF σ a u)) (hy : lfI σ b u i y) (hi : σ (0, 4) u ≤ i) (hi2 : i ≤ σ (0, 4) u) (hz : (u = s → (z = y + 1 ∨ z = σ (0, 0) 0) ∧ z ≤ y + 1 ∧ z ≤ σ (0, 0) 0) ∧ (u ≠ s → z = y + 1)) : lfP σ (mset σ (b + 6, 6) u z) b N0 s t B u := by
  obtain ⟨⟨hN, hA, hF⟩, hb, hc, h0, hee, hV, h6, h7, h8, ⟨h9, h10⟩, h11, h12, h13, h14, h15⟩ := h
  obtain ⟨y0, y1, y2, y3⟩ := hy
  have hn := hN.1
  have h8u := h8 u hu.1 hu.2
  have hyh : σ (b + 6, 6) u ≤ y := by
    rcases y3 with e | ⟨j, j1, j2, j3, e⟩
    · omega
    · obtain ⟨q1, q2⟩ := hA.2.2.1 u j hu.1 (by omega) j1 (by omega)
      rw [e]
      exact hp _ q1.1 q1.2 q2 j3
  have hzh : σ (b + 6, 6) u + 1 ≤ z := by
    by_cases e : u = s
    · have := hus e
      rcases (hz.1 e).1 with e2 | e2 <;> omega
    · have := hz.2 e
      omega
  have hzy : z ≤ y + 1 := by
    by_cases e : u = s
    · exact (hz.1 e).2.1
    · exact Int.le_of_eq (hz.2 e)
  have kf : Fr b [6] σ (mset σ (b + 6, 6) u z) := Fr.set (by decide)
  have k6 : ∀ v, mset σ (b + 6, 6) u z (b + 6, 6) v = if v = u then z else σ (b + 6, 6) v := fun v => mset_at
  generalize hτ : mset σ (b + 6, 6) u z = τ at kf k6 ⊢
  have hVτ : VL τ b := by
    intro c c1 c2
    rw [kf.of 0 1] at c2
    rw [kf.own 2, kf.own 3, kf.of 0 2, kf.of 0 3, k6, k6]
    have hv := hV c c1 c2
    obtain ⟨q1, q2, q3⟩ := hN.2.2 c c1 c2
    have hcc : 0 ≤ c ∧ c < σ (0, 1) 0 := ⟨c1, c2⟩
    constructor
    · intro r
      by_cases e1 : σ (0, 2) c = u
      · obtain ⟨j, hj, ej⟩ := adj_at hA hcc (Or.inl e1)
        have := y2 j hj.1 (by omega)
        rw [ej, ← e1, rmF_t, otF_t] at this
        have := this r
        rw [if_pos e1, if_neg (by rw [← e1]; exact Ne.symm q3)]
        omega
      · rw [if_neg e1]
        by_cases e2 : σ (0, 3) c = u
        · rw [if_pos e2]
          have := hv.1 r
          rw [e2] at this
          omega
        · rw [if_neg e2]; exact hv.1 r
    · intro r
      by_cases e1 : σ (0, 3) c = u
      · obtain ⟨j, hj, ej⟩ := adj_at hA hcc (Or.inr e1)
        have := y2 j hj.1 (by omega)
        rw [ej, ← e1, rmF_h hN hcc, otF_h hN hcc] at this
        have := this r
        rw [if_pos e1, if_neg (by rw [← e1]; exact q3)]
        omega
      · rw [if_neg e1]
        by_cases e2 : σ (0, 2) c = u
        · rw [if_pos e2]
          have := hv.2 r
          rw [e2] at this
          omega
        · rw [if_neg e2]; exact hv.2 r
  have hb' : ∀ X, net τ b X + sx τ b X = N0 X + ind X s B := fun X => by
    rw [net_same (kf.of 0 1) (kf.of 0 2) (kf.of 0 3) (kf.own 3), sx_same (kf.of 0 0) (kf.own 5)]; exact hb X
  have hc' : ∀ X, N0 X ≤ cpo τ b X := fun X => by rw [cpo_same (kf.of 0 1) (kf.of 0 2) (kf.of 0 3) (kf.own 2)]; exact hc X
  have hee' : ∀ v, 0 ≤ v → v < τ (0, 0) 0 → 0 ≤ τ (b + 6, 5) v := by rw [kf.of 0 0, kf.own 5]; exact hee
  have h6' : τ (b + 6, 6) t = 0 := by rw [k6, if_neg (Ne.symm hut)]; exact h6
  have h7' : τ (b + 6, 6) s ≤ τ (0, 0) 0 := by
    rw [k6, kf.of 0 0]
    by_cases e : s = u
    · rw [if_pos e]; exact (hz.1 e.symm).2.2
    · rw [if_neg e]; exact h7
  have hN' := kf.net hN
  have hF' := kf.fl (hN := hF)
  have h12' : 0 ≤ t ∧ t < τ (0, 0) 0 := by rw [kf.of 0 0]; exact h12
  refine Or.inr ⟨he, ⟨⟨hN', kf.adj hA, hF'⟩, hb', hc', h0, hee', hVτ, h6', h7', fun v v1 v2 => ?_, ⟨by rw [kf.own 11]; exact h9, by rw [kf.own 12]; exact h10⟩, by rw [kf.of 0 0]; exact h11, h12', h13, h14, h15⟩, z, hzh, hτ.symm⟩
  have hv2 : v < σ (0, 0) 0 := by rw [kf.of 0 0] at v2; exact v2
  have h8v := h8 v v1 hv2
  by_cases e : v = u
  · subst e
    have := pf_high hN' hF' hb' hc' hee' hVτ h6' h7' h12' (v := v) ⟨v1, v2⟩ (by rw [kf.own 5]; exact he)
    refine ⟨by rw [k6, if_pos rfl]; omega, this⟩
  · rw [k6, if_neg e, kf.of 0 0]
    exact h8v
/-! a sweep -/
def act (σ : Mem) (b : Nat) (s t v : Int) : Prop := 0 < σ (b + 6, 5) v ∧ v ≠ t ∧ (v ≠ s ∨ σ (b + 6, 6) v < σ (0, 0) 0)
def HS (σ : Mem) (b : Nat) : Int := sm (fun v => σ (b + 6, 6) v) (σ (0, 0) 0).toNat
theorem HS_rg {σ : Mem} {b : Nat} {N0 : (Int → Bool) → Int} {s t B : Int} (h : pfI σ b N0 s t B) : 0 ≤ HS σ b ∧ HS σ b ≤ 1128 := by
  have hn := h.1.1.1
  have h8 := h.2.2.2.2.2.2.2.2.1
  refine ⟨sm_nn fun a h1 h2 => (h8 a h1 (by omega)).1, ?_⟩
  have h1 := sm_le (f := fun v => σ (b + 6, 6) v) (g := fun _ => 47) (n := (σ (0, 0) 0).toNat) (fun a h1 h2 => by
    have := (h8 a h1 (by omega)).2
    show σ (b + 6, 6) a ≤ 47
    omega)
  rw [sm_const] at h1
  have h2 : HS σ b = sm (fun v => σ (b + 6, 6) v) (σ (0, 0) 0).toNat := rfl
  omega
theorem HS_same {σ τ : Mem} {b : Nat} (e0 : τ (0, 0) = σ (0, 0)) (e6 : τ (b + 6, 6) = σ (b + 6, 6)) : HS τ b = HS σ b := by
  unfold HS
  rw [e0, e6]
theorem HS_up {σ : Mem} {b : Nat} {u z : Int} (hu : 0 ≤ u ∧ u < σ (0, 0) 0) : HS (mset σ (b + 6, 6) u z) b = HS σ b - σ (b + 6, 6) u + z := by
  have kf : Fr b [6] σ (mset σ (b + 6, 6) u z) := Fr.set (by decide)
  unfold HS
  rw [kf.of 0 0]
  have h1 : sm (fun v => mset σ (b + 6, 6) u z (b + 6, 6) v) (σ (0, 0) 0).toNat = sm (fun v => if v = u then z else σ (b + 6, 6) v) (σ (0, 0) 0).toNat := sm_cong fun a _ _ => mset_at
  rw [h1, sm_upd (fun v => σ (b + 6, 6) v) hu.1 (by omega)]
def swI (σ0 σ : Mem) (b : Nat) (N0 : (Int → Bool) → Int) (s t B f k y : Int) : Prop := pfI σ b N0 s t B ∧ Fr b [3, 5, 6] σ0 σ ∧ (y = 0 ∨ y = 1) ∧ (y = 0 → σ = σ0 ∧ ∀ v, 0 ≤ v → v < k → ¬ act σ b s t v) ∧ (y = 1 → 0 ≤ f) ∧ HS σ0 b ≤ HS σ b ∧ (HS σ0 b < HS σ b → y = 1) ∧
  (HS σ b = HS σ0 b → (∀ v, 0 ≤ v → v < k → act σ b s t v → σ (b + 6, 6) v ≤ f - 1) ∧ ∀ v, k ≤ v → v < σ (0, 0) 0 → act σ b s t v → σ (b + 6, 6) v ≤ f)
theorem swI_0 {σ : Mem} {b : Nat} {N0 : (Int → Bool) → Int} {s t B f : Int} (h : pfI σ b N0 s t B) (hf : ∀ v, 0 ≤ v → v < σ (0, 0) 0 → act σ b s t v → σ (b + 6, 6) v ≤ f) : swI σ σ b N0 s t B f 0 0 := ⟨h, Fr.rf, Or.inl rfl, fun _ => ⟨rfl, fun v h1 h2 => by omega⟩, fun e => by omega, Int.le_refl _, fun e => by omega, fun _ => ⟨fun v h1 h2 => by omega, hf⟩⟩
theorem swI_skip {σ0 σ : Mem} {b : Nat} {N0 : (Int → Bool) → Int} {s t B f k y : Int} (h : swI σ0 σ b N0 s t B f k y) (hk : ¬ act σ b s t k) : swI σ0 σ b N0 s t B f (k + 1) y := by
  obtain ⟨h1, h2, h3, h4, h5, h6, h7, h8⟩ := h
  refine ⟨h1, h2, h3, fun e => ⟨(h4 e).1, fun v v1 v2 => ?_⟩, h5, h6, h7, fun e => ⟨fun v v1 v2 v3 => ?_, fun v v1 v2 v3 => (h8 e).2 v (by omega) v2 v3⟩⟩
  · by_cases e2 : v = k
    · rw [e2]; exact hk
    · exact (h4 e).2 v v1 (by omega)
  · by_cases e2 : v = k
    · rw [e2] at v3; exact absurd v3 hk
    · exact (h8 e).1 v v1 (by omega) v3
theorem swI_step {σ0 σ σ1 τ : Mem} {b : Nat} {N0 : (Int → Bool) → Int} {s t B f k y : Int} (h : swI σ0 σ b N0 s t B f k y) (hk : 0 ≤ k ∧ k < σ (0, 0) 0) (ha : act σ b s t k) (hp : poP σ σ1 b N0 s t B k) (hl : lfP σ1 τ b N0 s t B k) : swI σ0 τ b N0 s t B f (k + 1) 1 := by
  obtain ⟨h1, h2, h3, h4, h5, h6, h7, h8⟩ := h
  obtain ⟨p1, p2, p3, p4⟩ := hp
  have hh1 : HS σ1 b = HS σ b := HS_same (p2.of 0 0) (p2.own 6)
  have hf0 : 0 ≤ f := by
    by_cases e : HS σ b = HS σ0 b
    · have q1 := (h8 e).2 k (Int.le_refl k) hk.2 ha
      have q2 := (h1.2.2.2.2.2.2.2.2.1 k hk.1 hk.2).1
      omega
    · exact h5 (h7 (by omega))
  rcases hl with ⟨l1, rfl⟩ | ⟨l1, l2, z, l3, rfl⟩
  · refine ⟨p1, h2.tr (p2.up (by decide)), Or.inr rfl, fun e => by omega, fun _ => hf0, by omega, fun _ => rfl, fun e => ?_⟩
    have e8 := h8 (by omega)
    have key : ∀ v, 0 ≤ v → v < σ (0, 0) 0 → act τ b s t v → v ≠ k ∧ (act σ b s t v ∨ τ (b + 6, 6) v ≤ f - 1) := by
      intro v v1 v2 v3
      have hvk : v ≠ k := by
        intro e3
        have := v3.1
        rw [e3] at this
        omega
      refine ⟨hvk, ?_⟩
      by_cases e3 : τ (b + 6, 5) v = σ (b + 6, 5) v
      · left
        unfold act at v3 ⊢
        rw [e3, p2.own 6, p2.of 0 0] at v3
        exact v3
      · right
        have q1 := p3 v v1 (by rw [p2.of 0 0]; exact v2) hvk e3
        have q2 := e8.2 k (Int.le_refl k) hk.2 ha
        rw [p2.own 6] at q1 ⊢
        omega
    refine ⟨fun v v1 v2 v3 => ?_, fun v v1 v2 v3 => ?_⟩
    · obtain ⟨q1, q2⟩ := key v v1 (by omega) v3
      rcases q2 with q2 | q2
      · have := e8.1 v v1 (by omega) q2
        rw [p2.own 6]; exact this
      · exact q2
    · rw [p2.of 0 0] at v2
      obtain ⟨q1, q2⟩ := key v (by omega) v2 v3
      rcases q2 with q2 | q2
      · have := e8.2 v (by omega) v2 q2
        rw [p2.own 6]; exact this
      · omega
  · have hu : HS (mset σ1 (b + 6, 6) k z) b = HS σ1 b - σ1 (b + 6, 6) k + z := HS_up (by rw [p2.of 0 0]; exact hk)
    refine ⟨l2, (h2.tr (p2.up (by decide))).tr (Fr.set (by decide)), Or.inr rfl, fun e => by omega, fun _ => hf0, by omega, fun _ => rfl, fun e => by omega⟩
/-- a sweep's answer -/
def swP (σ τ : Mem) (b : Nat) (N0 : (Int → Bool) → Int) (s t B f y : Int) : Prop := pfI τ b N0 s t B ∧ Fr b [3, 5, 6] σ τ ∧ ((y = 0 ∧ ∀ v, 0 ≤ v → v < τ (0, 0) 0 → ¬ act τ b s t v) ∨ (y = 1 ∧ 0 ≤ f ∧ (HS σ b < HS τ b ∨ (HS τ b = HS σ b ∧ ∀ v, 0 ≤ v → v < τ (0, 0) 0 → act τ b s t v → τ (b + 6, 6) v ≤ f - 1))))
theorem swI_end {σ0 σ : Mem} {b : Nat} {N0 : (Int → Bool) → Int} {s t B f k y : Int} (h : swI σ0 σ b N0 s t B f k y) (hk : σ (0, 0) 0 ≤ k) : swP σ0 σ b N0 s t B f y := by
  obtain ⟨h1, h2, h3, h4, h5, h6, h7, h8⟩ := h
  refine ⟨h1, h2, ?_⟩
  rcases h3 with e | e
  · exact Or.inl ⟨e, fun v v1 v2 => (h4 e).2 v v1 (by omega)⟩
  · refine Or.inr ⟨e, h5 e, ?_⟩
    by_cases e2 : HS σ b = HS σ0 b
    · exact Or.inr ⟨e2, fun v v1 v2 v3 => (h8 e2).1 v v1 (by omega) v3⟩
    · exact Or.inl (by omega)
/-! the whole route -/
def rtI (σ0 σ : Mem) (b : Nat) (N0 : (Int → Bool) → Int) (s t B f k y : Int) : Prop := pfI σ b N0 s t B ∧ Fr b [3, 5, 6, 7, 11, 12] σ0 σ ∧ (y = 0 ∨ y = 1) ∧ (y = 0 → ∀ v, 0 ≤ v → v < σ (0, 0) 0 → ¬ act σ b s t v) ∧ (∀ v, 0 ≤ v → v < σ (0, 0) 0 → act σ b s t v → σ (b + 6, 6) v ≤ f) ∧ -1 ≤ f ∧ (0 ≤ k ∧ k ≤ 70000) ∧ (y = 1 → k + (1200 - HS σ b) * 50 + f ≤ 61000)
theorem rtI_step {σ0 σ τ : Mem} {b : Nat} {N0 : (Int → Bool) → Int} {s t B f k y z : Int} (h : rtI σ0 σ b N0 s t B f k y) (hy : y = 1) (hw : swP σ τ b N0 s t B f z) : ∃ f', rtI σ0 τ b N0 s t B f' (k + 1) z := by
  obtain ⟨h1, h2, h3, h4, h5, h6, h7, h8⟩ := h
  obtain ⟨w1, w2, w3⟩ := hw
  have hn := w1.1.1.1
  have hr := HS_rg w1
  have hr0 := HS_rg h1
  have h8 := h8 hy
  have hb : ∀ v, 0 ≤ v → v < τ (0, 0) 0 → act τ b s t v → τ (b + 6, 6) v ≤ 47 := fun v v1 v2 _ => by
    have := (w1.2.2.2.2.2.2.2.2.1 v v1 v2).2
    omega
  rcases w3 with ⟨e, w4⟩ | ⟨e, w4, w5⟩
  · refine ⟨-1, w1, h2.tr (w2.up (by decide)), Or.inl e, fun _ => w4, fun v v1 v2 v3 => absurd v3 (w4 v v1 v2), by omega, by omega, fun q => by omega⟩
  · rcases w5 with w5 | ⟨w5, w6⟩
    · exact ⟨47, w1, h2.tr (w2.up (by decide)), Or.inr e, fun q => by omega, hb, by omega, by omega, fun _ => by omega⟩
    · exact ⟨f - 1, w1, h2.tr (w2.up (by decide)), Or.inr e, fun q => by omega, w6, by omega, by omega, fun _ => by omega⟩
/-- what route makes and answers -/
def rtP (σ τ : Mem) (b : Nat) (s t B z : Int) : Prop := 0 ≤ z ∧ FlOk τ b ∧ Fr b [3, 5, 6, 7, 11, 12] σ τ ∧ (∀ X, net τ b X = net σ b X + ind X s z - ind X t z) ∧ (s < 0 ∨ t < 0 ∨ s = t ∨ B ≤ 0 → z = 0 ∧ τ = σ) ∧ (0 < B → z ≤ B) ∧ (0 ≤ s → 0 ≤ t → s ≠ t → 0 < B → z = B ∨ ∃ X : Int → Bool, X s = true ∧ ¬ X t = true ∧ clo τ b X)
theorem rtP_no {σ : Mem} {b : Nat} {s t B : Int} (hF : FlOk σ b) (h : s < 0 ∨ t < 0 ∨ s = t ∨ B ≤ 0) : rtP σ σ b s t B 0 := ⟨Int.le_refl 0, hF, Fr.rf, fun X => by rw [ind_0, ind_0]; omega, fun _ => ⟨rfl, rfl⟩, fun h => by omega, fun h1 h2 h3 h4 => by omega⟩
theorem sx_ends {σ : Mem} {b : Nat} {X : Int → Bool} {s t : Int} (hs : 0 ≤ s ∧ s < σ (0, 0) 0) (ht : 0 ≤ t ∧ t < σ (0, 0) 0) (hst : s ≠ t) (h : ∀ v, 0 ≤ v → v < σ (0, 0) 0 → v ≠ s → v ≠ t → σ (b + 6, 5) v = 0) : sx σ b X = ind X s (σ (b + 6, 5) s) + ind X t (σ (b + 6, 5) t) := by
  unfold sx
  have h1 : sm (fun j => ind X j (σ (b + 6, 5) j)) (σ (0, 0) 0).toNat = sm (fun j => if j = t then ind X t (σ (b + 6, 5) t) else if j = s then ind X s (σ (b + 6, 5) s) else 0) (σ (0, 0) 0).toNat := by
    refine sm_cong fun j h1 h2 => ?_
    show ind X j (σ (b + 6, 5) j) = _
    by_cases e : j = t
    · rw [if_pos e, e]
    · rw [if_neg e]
      by_cases e2 : j = s
      · rw [if_pos e2, e2]
      · rw [if_neg e2, h j h1 (by omega) e2 e, ind_0]
  rw [h1, sm_upd (fun j => if j = s then ind X s (σ (b + 6, 5) s) else 0) ht.1 (by omega), sm_upd (fun _ => 0) hs.1 (by omega), sm_zero, if_neg (Ne.symm hst)]
  omega
theorem rtI_end {σ0 σ : Mem} {b : Nat} {s t B f k y : Int} (h : rtI σ0 σ b (net σ0 b) s t B f k y) (hy : y = 0) (hB : 0 < B) : rtP σ0 σ b s t B (σ (b + 6, 5) t) := by
  obtain ⟨h1, h2, -, h4, -⟩ := h
  have h4 := h4 hy
  obtain ⟨⟨hN, hA, hF⟩, hb, hc, h0, he, hV, h6, h7, h8, ⟨h9, h10⟩, h11, h12, h13, h14, h15⟩ := id h1
  have hz : ∀ v, 0 ≤ v → v < σ (0, 0) 0 → v ≠ s → v ≠ t → σ (b + 6, 5) v = 0 := fun v v1 v2 v3 v4 => by
    have := he v v1 v2
    by_cases q : 0 < σ (b + 6, 5) v
    · exact absurd ⟨q, v4, Or.inl v3⟩ (h4 v v1 v2)
    · omega
  have hsx := fun X : Int → Bool => sx_ends (X := X) h11 h12 h13 hz
  have hal := hb (fun _ => true)
  rw [net_all, hsx, h0, ind_t rfl, ind_t rfl, ind_t rfl] at hal
  have es := he s h11.1 h11.2
  have et := he t h12.1 h12.2
  refine ⟨et, hF, h2, fun X => ?_, fun q => by omega, fun _ => by omega, fun _ _ _ _ => ?_⟩
  · have := hb X
    rw [hsx, show B = σ (b + 6, 5) s + σ (b + 6, 5) t by omega, ind_add] at this
    omega
  · by_cases q : 0 < σ (b + 6, 5) s
    · right
      have hs : ¬ σ (b + 6, 6) s < σ (0, 0) 0 := fun q2 => h4 s h11.1 h11.2 ⟨q, h13, Or.inr q2⟩
      obtain ⟨i, hi, hk⟩ := pig (h := σ (b + 6, 6)) (n := (σ (0, 0) 0).toNat) (c := fun i => (i : Int)) (fun i j hij hj => by
        show (i : Int) ≠ (j : Int)
        omega)
      have i1 : i ≠ 0 := by
        intro e
        subst e
        exact hk t h12.1 (by omega) h6
      have i2 : i ≠ (σ (0, 0) 0).toNat := by
        intro e
        exact hk s h11.1 (by omega) (by show σ (b + 6, 6) s = (i : Int); omega)
      refine ⟨_, ?_, ?_, gap_clo hN hV (k := (i : Int)) (fun v v1 v2 => hk v v1 (by omega))⟩
      · exact decide_eq_true (by omega)
      · intro q3
        have := of_decide_eq_true q3
        omega
    · left; omega
end
