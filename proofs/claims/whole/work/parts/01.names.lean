-- ===== PART A: goes FIRST, ahead of the names: the tables' words, and 'selects' of the private methods out of them =====
/-- a private method of a class that the tables say can be made, by its rows of tables_1 -/
def lw_okq (q : MethodName × Nat) : Prop := (q.1.cls ≠ "java/lang/invoke/MethodHandle" ∧ q.1.cls ≠ "java/lang/invoke/VarHandle") ∧ Cond.instantiable q.1.cls q.2 ∈ tables_1 ∧ Cond.privateMethod q.1 ∈ tables_1 ∧ Cond.instanceMethod q.1 ∈ tables_1
theorem lw_p0 : lw_okq (⟨"AimDesk$Page", "append", "(I)V"⟩, 2) := ⟨⟨by decide +kernel, by decide +kernel⟩, List.mem_of_getElem? (i := 19) (by decide +kernel), List.mem_of_getElem? (i := 157) (by decide +kernel), List.mem_of_getElem? (i := 158) (by decide +kernel)⟩
theorem lw_p1 : lw_okq (⟨"AimDesk$Page", "firstFault", "()I"⟩, 2) := ⟨⟨by decide +kernel, by decide +kernel⟩, List.mem_of_getElem? (i := 19) (by decide +kernel), List.mem_of_getElem? (i := 169) (by decide +kernel), List.mem_of_getElem? (i := 170) (by decide +kernel)⟩
theorem lw_p2 : lw_okq (⟨"AimDesk$Page", "fits", "(I)Z"⟩, 2) := ⟨⟨by decide +kernel, by decide +kernel⟩, List.mem_of_getElem? (i := 19) (by decide +kernel), List.mem_of_getElem? (i := 173) (by decide +kernel), List.mem_of_getElem? (i := 174) (by decide +kernel)⟩
theorem lw_p3 : lw_okq (⟨"AimDesk$Page", "codeAt", "(I)I"⟩, 2) := ⟨⟨by decide +kernel, by decide +kernel⟩, List.mem_of_getElem? (i := 19) (by decide +kernel), List.mem_of_getElem? (i := 177) (by decide +kernel), List.mem_of_getElem? (i := 178) (by decide +kernel)⟩
theorem lw_p4 : lw_okq (⟨"AimDesk$Page", "isField", "()Z"⟩, 2) := ⟨⟨by decide +kernel, by decide +kernel⟩, List.mem_of_getElem? (i := 19) (by decide +kernel), List.mem_of_getElem? (i := 185) (by decide +kernel), List.mem_of_getElem? (i := 186) (by decide +kernel)⟩
theorem lw_p5 : lw_okq (⟨"AimDesk$Plant", "read", "(LAimDesk$Page;)V"⟩, 11) := ⟨⟨by decide +kernel, by decide +kernel⟩, List.mem_of_getElem? (i := 35) (by decide +kernel), List.mem_of_getElem? (i := 190) (by decide +kernel), List.mem_of_getElem? (i := 191) (by decide +kernel)⟩
theorem lw_p6 : lw_okq (⟨"AimDesk$Page", "figureAt", "(I)I"⟩, 2) := ⟨⟨by decide +kernel, by decide +kernel⟩, List.mem_of_getElem? (i := 19) (by decide +kernel), List.mem_of_getElem? (i := 194) (by decide +kernel), List.mem_of_getElem? (i := 195) (by decide +kernel)⟩
theorem lw_p7 : lw_okq (⟨"AimDesk$Plant", "lightAt", "(III)I"⟩, 11) := ⟨⟨by decide +kernel, by decide +kernel⟩, List.mem_of_getElem? (i := 35) (by decide +kernel), List.mem_of_getElem? (i := 201) (by decide +kernel), List.mem_of_getElem? (i := 202) (by decide +kernel)⟩
theorem lw_p8 : lw_okq (⟨"AimDesk$Plant", "hasPatch", "(I)Z"⟩, 11) := ⟨⟨by decide +kernel, by decide +kernel⟩, List.mem_of_getElem? (i := 35) (by decide +kernel), List.mem_of_getElem? (i := 205) (by decide +kernel), List.mem_of_getElem? (i := 206) (by decide +kernel)⟩
theorem lw_p9 : lw_okq (⟨"AimDesk$Plant", "measureSlack", "()V"⟩, 11) := ⟨⟨by decide +kernel, by decide +kernel⟩, List.mem_of_getElem? (i := 35) (by decide +kernel), List.mem_of_getElem? (i := 212) (by decide +kernel), List.mem_of_getElem? (i := 213) (by decide +kernel)⟩
theorem lw_p10 : lw_okq (⟨"AimDesk$Planner", "forget", "()V"⟩, 3) := ⟨⟨by decide +kernel, by decide +kernel⟩, List.mem_of_getElem? (i := 87) (by decide +kernel), List.mem_of_getElem? (i := 216) (by decide +kernel), List.mem_of_getElem? (i := 217) (by decide +kernel)⟩
theorem lw_p11 : lw_okq (⟨"AimDesk$Plant", "isRead", "()Z"⟩, 11) := ⟨⟨by decide +kernel, by decide +kernel⟩, List.mem_of_getElem? (i := 35) (by decide +kernel), List.mem_of_getElem? (i := 230) (by decide +kernel), List.mem_of_getElem? (i := 231) (by decide +kernel)⟩
theorem lw_p12 : lw_okq (⟨"AimDesk$Plant", "hasMirror", "(I)Z"⟩, 11) := ⟨⟨by decide +kernel, by decide +kernel⟩, List.mem_of_getElem? (i := 35) (by decide +kernel), List.mem_of_getElem? (i := 238) (by decide +kernel), List.mem_of_getElem? (i := 239) (by decide +kernel)⟩
theorem lw_p13 : lw_okq (⟨"AimDesk$Plant", "isStuck", "(I)Z"⟩, 11) := ⟨⟨by decide +kernel, by decide +kernel⟩, List.mem_of_getElem? (i := 35) (by decide +kernel), List.mem_of_getElem? (i := 249) (by decide +kernel), List.mem_of_getElem? (i := 250) (by decide +kernel)⟩
theorem lw_p14 : lw_okq (⟨"AimDesk$Plant", "heats", "()I"⟩, 11) := ⟨⟨by decide +kernel, by decide +kernel⟩, List.mem_of_getElem? (i := 35) (by decide +kernel), List.mem_of_getElem? (i := 254) (by decide +kernel), List.mem_of_getElem? (i := 255) (by decide +kernel)⟩
theorem lw_p15 : lw_okq (⟨"AimDesk$Plant", "heatsWithout", "(I)I"⟩, 11) := ⟨⟨by decide +kernel, by decide +kernel⟩, List.mem_of_getElem? (i := 35) (by decide +kernel), List.mem_of_getElem? (i := 258) (by decide +kernel), List.mem_of_getElem? (i := 259) (by decide +kernel)⟩
def lw_privs_1 : List (MethodName × Nat) := [(⟨"AimDesk$Page", "append", "(I)V"⟩, 2), (⟨"AimDesk$Page", "firstFault", "()I"⟩, 2), (⟨"AimDesk$Page", "fits", "(I)Z"⟩, 2), (⟨"AimDesk$Page", "codeAt", "(I)I"⟩, 2), (⟨"AimDesk$Page", "isField", "()Z"⟩, 2), (⟨"AimDesk$Plant", "read", "(LAimDesk$Page;)V"⟩, 11), (⟨"AimDesk$Page", "figureAt", "(I)I"⟩, 2), (⟨"AimDesk$Plant", "lightAt", "(III)I"⟩, 11), (⟨"AimDesk$Plant", "hasPatch", "(I)Z"⟩, 11), (⟨"AimDesk$Plant", "measureSlack", "()V"⟩, 11), (⟨"AimDesk$Planner", "forget", "()V"⟩, 3), (⟨"AimDesk$Plant", "isRead", "()Z"⟩, 11), (⟨"AimDesk$Plant", "hasMirror", "(I)Z"⟩, 11), (⟨"AimDesk$Plant", "isStuck", "(I)Z"⟩, 11), (⟨"AimDesk$Plant", "heats", "()I"⟩, 11), (⟨"AimDesk$Plant", "heatsWithout", "(I)I"⟩, 11)]
theorem lw_r1 : ∀ q ∈ lw_privs_1, lw_okq q := List.forall_mem_cons.mpr ⟨lw_p0, List.forall_mem_cons.mpr ⟨lw_p1, List.forall_mem_cons.mpr ⟨lw_p2, List.forall_mem_cons.mpr ⟨lw_p3, List.forall_mem_cons.mpr ⟨lw_p4, List.forall_mem_cons.mpr ⟨lw_p5, List.forall_mem_cons.mpr ⟨lw_p6, List.forall_mem_cons.mpr ⟨lw_p7, List.forall_mem_cons.mpr ⟨lw_p8, List.forall_mem_cons.mpr ⟨lw_p9, List.forall_mem_cons.mpr ⟨lw_p10, List.forall_mem_cons.mpr ⟨lw_p11, List.forall_mem_cons.mpr ⟨lw_p12, List.forall_mem_cons.mpr ⟨lw_p13, List.forall_mem_cons.mpr ⟨lw_p14, List.forall_mem_cons.mpr ⟨lw_p15, fun _ h => absurd h List.not_mem_nil⟩⟩⟩⟩⟩⟩⟩⟩⟩⟩⟩⟩⟩⟩⟩⟩
theorem lw_p16 : lw_okq (⟨"AimDesk$Plant", "light", "(II)I"⟩, 11) := ⟨⟨by decide +kernel, by decide +kernel⟩, List.mem_of_getElem? (i := 35) (by decide +kernel), List.mem_of_getElem? (i := 262) (by decide +kernel), List.mem_of_getElem? (i := 263) (by decide +kernel)⟩
theorem lw_p17 : lw_okq (⟨"AimDesk$Plant", "isSafe", "(I)Z"⟩, 11) := ⟨⟨by decide +kernel, by decide +kernel⟩, List.mem_of_getElem? (i := 35) (by decide +kernel), List.mem_of_getElem? (i := 267) (by decide +kernel), List.mem_of_getElem? (i := 268) (by decide +kernel)⟩
theorem lw_p18 : lw_okq (⟨"AimDesk$Plant", "isShaded", "(I)Z"⟩, 11) := ⟨⟨by decide +kernel, by decide +kernel⟩, List.mem_of_getElem? (i := 35) (by decide +kernel), List.mem_of_getElem? (i := 276) (by decide +kernel), List.mem_of_getElem? (i := 277) (by decide +kernel)⟩
theorem lw_p19 : lw_okq (⟨"AimDesk$Plant", "aimingAt", "(I)I"⟩, 11) := ⟨⟨by decide +kernel, by decide +kernel⟩, List.mem_of_getElem? (i := 35) (by decide +kernel), List.mem_of_getElem? (i := 292) (by decide +kernel), List.mem_of_getElem? (i := 293) (by decide +kernel)⟩
theorem lw_p20 : lw_okq (⟨"AimDesk$Planner", "planWithBest", "(LAimDesk$Plant;Z)LAimDesk$Plan;"⟩, 3) := ⟨⟨by decide +kernel, by decide +kernel⟩, List.mem_of_getElem? (i := 87) (by decide +kernel), List.mem_of_getElem? (i := 300) (by decide +kernel), List.mem_of_getElem? (i := 301) (by decide +kernel)⟩
theorem lw_p21 : lw_okq (⟨"AimDesk$Planner", "findBest", "(LAimDesk$Plant;LAimDesk$Plan;)V"⟩, 3) := ⟨⟨by decide +kernel, by decide +kernel⟩, List.mem_of_getElem? (i := 87) (by decide +kernel), List.mem_of_getElem? (i := 304) (by decide +kernel), List.mem_of_getElem? (i := 305) (by decide +kernel)⟩
theorem lw_p22 : lw_okq (⟨"AimDesk$Plant", "bound", "()I"⟩, 11) := ⟨⟨by decide +kernel, by decide +kernel⟩, List.mem_of_getElem? (i := 35) (by decide +kernel), List.mem_of_getElem? (i := 323) (by decide +kernel), List.mem_of_getElem? (i := 324) (by decide +kernel)⟩
theorem lw_p23 : lw_okq (⟨"AimDesk$Plant", "mostLight", "(I)I"⟩, 11) := ⟨⟨by decide +kernel, by decide +kernel⟩, List.mem_of_getElem? (i := 35) (by decide +kernel), List.mem_of_getElem? (i := 330) (by decide +kernel), List.mem_of_getElem? (i := 331) (by decide +kernel)⟩
theorem lw_p24 : lw_okq (⟨"AimDesk$Planner", "planWithChange", "(LAimDesk$Plant;Z)LAimDesk$Plan;"⟩, 3) := ⟨⟨by decide +kernel, by decide +kernel⟩, List.mem_of_getElem? (i := 87) (by decide +kernel), List.mem_of_getElem? (i := 344) (by decide +kernel), List.mem_of_getElem? (i := 345) (by decide +kernel)⟩
theorem lw_p25 : lw_okq (⟨"AimDesk$Planner", "findChange", "(LAimDesk$Plant;LAimDesk$Plan;)V"⟩, 3) := ⟨⟨by decide +kernel, by decide +kernel⟩, List.mem_of_getElem? (i := 87) (by decide +kernel), List.mem_of_getElem? (i := 348) (by decide +kernel), List.mem_of_getElem? (i := 349) (by decide +kernel)⟩
theorem lw_p26 : lw_okq (⟨"AimDesk$Plant", "placeNow", "()I"⟩, 11) := ⟨⟨by decide +kernel, by decide +kernel⟩, List.mem_of_getElem? (i := 35) (by decide +kernel), List.mem_of_getElem? (i := 352) (by decide +kernel), List.mem_of_getElem? (i := 353) (by decide +kernel)⟩
theorem lw_p27 : lw_okq (⟨"AimDesk$Planner", "setWay", "(II)V"⟩, 3) := ⟨⟨by decide +kernel, by decide +kernel⟩, List.mem_of_getElem? (i := 87) (by decide +kernel), List.mem_of_getElem? (i := 357) (by decide +kernel), List.mem_of_getElem? (i := 358) (by decide +kernel)⟩
theorem lw_p28 : lw_okq (⟨"AimDesk$Planner", "wayFrom", "(I)I"⟩, 3) := ⟨⟨by decide +kernel, by decide +kernel⟩, List.mem_of_getElem? (i := 87) (by decide +kernel), List.mem_of_getElem? (i := 361) (by decide +kernel), List.mem_of_getElem? (i := 362) (by decide +kernel)⟩
theorem lw_p29 : lw_okq (⟨"AimDesk$Planner", "widen", "(LAimDesk$Plant;I)Z"⟩, 3) := ⟨⟨by decide +kernel, by decide +kernel⟩, List.mem_of_getElem? (i := 87) (by decide +kernel), List.mem_of_getElem? (i := 365) (by decide +kernel), List.mem_of_getElem? (i := 366) (by decide +kernel)⟩
theorem lw_p30 : lw_okq (⟨"AimDesk$Planner", "markBeside", "(LAimDesk$Plant;II)Z"⟩, 3) := ⟨⟨by decide +kernel, by decide +kernel⟩, List.mem_of_getElem? (i := 87) (by decide +kernel), List.mem_of_getElem? (i := 369) (by decide +kernel), List.mem_of_getElem? (i := 370) (by decide +kernel)⟩
theorem lw_p31 : lw_okq (⟨"AimDesk$Planner", "noteMoves", "(LAimDesk$Plant;LAimDesk$Plan;I)V"⟩, 3) := ⟨⟨by decide +kernel, by decide +kernel⟩, List.mem_of_getElem? (i := 87) (by decide +kernel), List.mem_of_getElem? (i := 373) (by decide +kernel), List.mem_of_getElem? (i := 374) (by decide +kernel)⟩
def lw_privs_2 : List (MethodName × Nat) := [(⟨"AimDesk$Plant", "light", "(II)I"⟩, 11), (⟨"AimDesk$Plant", "isSafe", "(I)Z"⟩, 11), (⟨"AimDesk$Plant", "isShaded", "(I)Z"⟩, 11), (⟨"AimDesk$Plant", "aimingAt", "(I)I"⟩, 11), (⟨"AimDesk$Planner", "planWithBest", "(LAimDesk$Plant;Z)LAimDesk$Plan;"⟩, 3), (⟨"AimDesk$Planner", "findBest", "(LAimDesk$Plant;LAimDesk$Plan;)V"⟩, 3), (⟨"AimDesk$Plant", "bound", "()I"⟩, 11), (⟨"AimDesk$Plant", "mostLight", "(I)I"⟩, 11), (⟨"AimDesk$Planner", "planWithChange", "(LAimDesk$Plant;Z)LAimDesk$Plan;"⟩, 3), (⟨"AimDesk$Planner", "findChange", "(LAimDesk$Plant;LAimDesk$Plan;)V"⟩, 3), (⟨"AimDesk$Plant", "placeNow", "()I"⟩, 11), (⟨"AimDesk$Planner", "setWay", "(II)V"⟩, 3), (⟨"AimDesk$Planner", "wayFrom", "(I)I"⟩, 3), (⟨"AimDesk$Planner", "widen", "(LAimDesk$Plant;I)Z"⟩, 3), (⟨"AimDesk$Planner", "markBeside", "(LAimDesk$Plant;II)Z"⟩, 3), (⟨"AimDesk$Planner", "noteMoves", "(LAimDesk$Plant;LAimDesk$Plan;I)V"⟩, 3)]
theorem lw_r2 : ∀ q ∈ lw_privs_2, lw_okq q := List.forall_mem_cons.mpr ⟨lw_p16, List.forall_mem_cons.mpr ⟨lw_p17, List.forall_mem_cons.mpr ⟨lw_p18, List.forall_mem_cons.mpr ⟨lw_p19, List.forall_mem_cons.mpr ⟨lw_p20, List.forall_mem_cons.mpr ⟨lw_p21, List.forall_mem_cons.mpr ⟨lw_p22, List.forall_mem_cons.mpr ⟨lw_p23, List.forall_mem_cons.mpr ⟨lw_p24, List.forall_mem_cons.mpr ⟨lw_p25, List.forall_mem_cons.mpr ⟨lw_p26, List.forall_mem_cons.mpr ⟨lw_p27, List.forall_mem_cons.mpr ⟨lw_p28, List.forall_mem_cons.mpr ⟨lw_p29, List.forall_mem_cons.mpr ⟨lw_p30, List.forall_mem_cons.mpr ⟨lw_p31, fun _ h => absurd h List.not_mem_nil⟩⟩⟩⟩⟩⟩⟩⟩⟩⟩⟩⟩⟩⟩⟩⟩
theorem lw_p32 : lw_okq (⟨"AimDesk$Planner", "leastMove", "(LAimDesk$Plant;II)I"⟩, 3) := ⟨⟨by decide +kernel, by decide +kernel⟩, List.mem_of_getElem? (i := 87) (by decide +kernel), List.mem_of_getElem? (i := 378) (by decide +kernel), List.mem_of_getElem? (i := 379) (by decide +kernel)⟩
theorem lw_p33 : lw_okq (⟨"AimDesk$Plan", "moveAt", "(I)I"⟩, 7) := ⟨⟨by decide +kernel, by decide +kernel⟩, List.mem_of_getElem? (i := 93) (by decide +kernel), List.mem_of_getElem? (i := 383) (by decide +kernel), List.mem_of_getElem? (i := 384) (by decide +kernel)⟩
theorem lw_p34 : lw_okq (⟨"AimDesk$Plant", "bestTrade", "()I"⟩, 11) := ⟨⟨by decide +kernel, by decide +kernel⟩, List.mem_of_getElem? (i := 35) (by decide +kernel), List.mem_of_getElem? (i := 395) (by decide +kernel), List.mem_of_getElem? (i := 396) (by decide +kernel)⟩
theorem lw_p35 : lw_okq (⟨"AimDesk$Plant", "heatsByTrade", "(II)I"⟩, 11) := ⟨⟨by decide +kernel, by decide +kernel⟩, List.mem_of_getElem? (i := 35) (by decide +kernel), List.mem_of_getElem? (i := 400) (by decide +kernel), List.mem_of_getElem? (i := 401) (by decide +kernel)⟩
theorem lw_p36 : lw_okq (⟨"AimDesk$Plant", "swapAims", "(II)V"⟩, 11) := ⟨⟨by decide +kernel, by decide +kernel⟩, List.mem_of_getElem? (i := 35) (by decide +kernel), List.mem_of_getElem? (i := 404) (by decide +kernel), List.mem_of_getElem? (i := 405) (by decide +kernel)⟩
theorem lw_p37 : lw_okq (⟨"AimDesk$Plant", "bestRelief", "()I"⟩, 11) := ⟨⟨by decide +kernel, by decide +kernel⟩, List.mem_of_getElem? (i := 35) (by decide +kernel), List.mem_of_getElem? (i := 414) (by decide +kernel), List.mem_of_getElem? (i := 415) (by decide +kernel)⟩
theorem lw_p38 : lw_okq (⟨"AimDesk", "digestOfParts", "(J)J"⟩, 5) := ⟨⟨by decide +kernel, by decide +kernel⟩, List.mem_of_getElem? (i := 11) (by decide +kernel), List.mem_of_getElem? (i := 433) (by decide +kernel), List.mem_of_getElem? (i := 434) (by decide +kernel)⟩
theorem lw_p39 : lw_okq (⟨"AimDeskModel", "rightLetters", "()I"⟩, 24) := ⟨⟨by decide +kernel, by decide +kernel⟩, List.mem_of_getElem? (i := 446) (by decide +kernel), List.mem_of_getElem? (i := 541) (by decide +kernel), List.mem_of_getElem? (i := 542) (by decide +kernel)⟩
theorem lw_p40 : lw_okq (⟨"AimDeskModel", "isRight", "(I)Z"⟩, 24) := ⟨⟨by decide +kernel, by decide +kernel⟩, List.mem_of_getElem? (i := 446) (by decide +kernel), List.mem_of_getElem? (i := 545) (by decide +kernel), List.mem_of_getElem? (i := 546) (by decide +kernel)⟩
theorem lw_p41 : lw_okq (⟨"AimDeskModel", "isPatch", "(I)Z"⟩, 24) := ⟨⟨by decide +kernel, by decide +kernel⟩, List.mem_of_getElem? (i := 446) (by decide +kernel), List.mem_of_getElem? (i := 557) (by decide +kernel), List.mem_of_getElem? (i := 558) (by decide +kernel)⟩
theorem lw_p42 : lw_okq (⟨"AimDeskModel", "isMirror", "(I)Z"⟩, 24) := ⟨⟨by decide +kernel, by decide +kernel⟩, List.mem_of_getElem? (i := 446) (by decide +kernel), List.mem_of_getElem? (i := 569) (by decide +kernel), List.mem_of_getElem? (i := 570) (by decide +kernel)⟩
theorem lw_p43 : lw_okq (⟨"AimDeskModel", "asTheyAre", "()V"⟩, 24) := ⟨⟨by decide +kernel, by decide +kernel⟩, List.mem_of_getElem? (i := 446) (by decide +kernel), List.mem_of_getElem? (i := 577) (by decide +kernel), List.mem_of_getElem? (i := 578) (by decide +kernel)⟩
theorem lw_p44 : lw_okq (⟨"AimDeskModel", "isGood", "(Z)Z"⟩, 24) := ⟨⟨by decide +kernel, by decide +kernel⟩, List.mem_of_getElem? (i := 446) (by decide +kernel), List.mem_of_getElem? (i := 584) (by decide +kernel), List.mem_of_getElem? (i := 585) (by decide +kernel)⟩
theorem lw_p45 : lw_okq (⟨"AimDeskModel", "heatAt", "(IZ)I"⟩, 24) := ⟨⟨by decide +kernel, by decide +kernel⟩, List.mem_of_getElem? (i := 446) (by decide +kernel), List.mem_of_getElem? (i := 588) (by decide +kernel), List.mem_of_getElem? (i := 589) (by decide +kernel)⟩
theorem lw_p46 : lw_okq (⟨"AimDeskModel", "gives", "(III)I"⟩, 24) := ⟨⟨by decide +kernel, by decide +kernel⟩, List.mem_of_getElem? (i := 446) (by decide +kernel), List.mem_of_getElem? (i := 592) (by decide +kernel), List.mem_of_getElem? (i := 593) (by decide +kernel)⟩
theorem lw_p47 : lw_okq (⟨"AimDeskModel", "ofMirror", "(II)I"⟩, 24) := ⟨⟨by decide +kernel, by decide +kernel⟩, List.mem_of_getElem? (i := 446) (by decide +kernel), List.mem_of_getElem? (i := 600) (by decide +kernel), List.mem_of_getElem? (i := 601) (by decide +kernel)⟩
def lw_privs_3 : List (MethodName × Nat) := [(⟨"AimDesk$Planner", "leastMove", "(LAimDesk$Plant;II)I"⟩, 3), (⟨"AimDesk$Plan", "moveAt", "(I)I"⟩, 7), (⟨"AimDesk$Plant", "bestTrade", "()I"⟩, 11), (⟨"AimDesk$Plant", "heatsByTrade", "(II)I"⟩, 11), (⟨"AimDesk$Plant", "swapAims", "(II)V"⟩, 11), (⟨"AimDesk$Plant", "bestRelief", "()I"⟩, 11), (⟨"AimDesk", "digestOfParts", "(J)J"⟩, 5), (⟨"AimDeskModel", "rightLetters", "()I"⟩, 24), (⟨"AimDeskModel", "isRight", "(I)Z"⟩, 24), (⟨"AimDeskModel", "isPatch", "(I)Z"⟩, 24), (⟨"AimDeskModel", "isMirror", "(I)Z"⟩, 24), (⟨"AimDeskModel", "asTheyAre", "()V"⟩, 24), (⟨"AimDeskModel", "isGood", "(Z)Z"⟩, 24), (⟨"AimDeskModel", "heatAt", "(IZ)I"⟩, 24), (⟨"AimDeskModel", "gives", "(III)I"⟩, 24), (⟨"AimDeskModel", "ofMirror", "(II)I"⟩, 24)]
theorem lw_r3 : ∀ q ∈ lw_privs_3, lw_okq q := List.forall_mem_cons.mpr ⟨lw_p32, List.forall_mem_cons.mpr ⟨lw_p33, List.forall_mem_cons.mpr ⟨lw_p34, List.forall_mem_cons.mpr ⟨lw_p35, List.forall_mem_cons.mpr ⟨lw_p36, List.forall_mem_cons.mpr ⟨lw_p37, List.forall_mem_cons.mpr ⟨lw_p38, List.forall_mem_cons.mpr ⟨lw_p39, List.forall_mem_cons.mpr ⟨lw_p40, List.forall_mem_cons.mpr ⟨lw_p41, List.forall_mem_cons.mpr ⟨lw_p42, List.forall_mem_cons.mpr ⟨lw_p43, List.forall_mem_cons.mpr ⟨lw_p44, List.forall_mem_cons.mpr ⟨lw_p45, List.forall_mem_cons.mpr ⟨lw_p46, List.forall_mem_cons.mpr ⟨lw_p47, fun _ h => absurd h List.not_mem_nil⟩⟩⟩⟩⟩⟩⟩⟩⟩⟩⟩⟩⟩⟩⟩⟩
theorem lw_p48 : lw_okq (⟨"AimDeskModel", "givesAll", "(II)I"⟩, 24) := ⟨⟨by decide +kernel, by decide +kernel⟩, List.mem_of_getElem? (i := 446) (by decide +kernel), List.mem_of_getElem? (i := 604) (by decide +kernel), List.mem_of_getElem? (i := 605) (by decide +kernel)⟩
theorem lw_p49 : lw_okq (⟨"AimDeskModel", "ofPatch", "(II)I"⟩, 24) := ⟨⟨by decide +kernel, by decide +kernel⟩, List.mem_of_getElem? (i := 446) (by decide +kernel), List.mem_of_getElem? (i := 612) (by decide +kernel), List.mem_of_getElem? (i := 613) (by decide +kernel)⟩
theorem lw_p50 : lw_okq (⟨"AimDeskModel", "aimedAt", "(I)I"⟩, 24) := ⟨⟨by decide +kernel, by decide +kernel⟩, List.mem_of_getElem? (i := 446) (by decide +kernel), List.mem_of_getElem? (i := 616) (by decide +kernel), List.mem_of_getElem? (i := 617) (by decide +kernel)⟩
theorem lw_p51 : lw_okq (⟨"AimDeskModel", "layBest", "(Z)V"⟩, 24) := ⟨⟨by decide +kernel, by decide +kernel⟩, List.mem_of_getElem? (i := 446) (by decide +kernel), List.mem_of_getElem? (i := 624) (by decide +kernel), List.mem_of_getElem? (i := 625) (by decide +kernel)⟩
theorem lw_p52 : lw_okq (⟨"AimDeskModel", "layCode", "(I)V"⟩, 24) := ⟨⟨by decide +kernel, by decide +kernel⟩, List.mem_of_getElem? (i := 446) (by decide +kernel), List.mem_of_getElem? (i := 628) (by decide +kernel), List.mem_of_getElem? (i := 629) (by decide +kernel)⟩
theorem lw_p53 : lw_okq (⟨"AimDeskModel", "areThere", "()Z"⟩, 24) := ⟨⟨by decide +kernel, by decide +kernel⟩, List.mem_of_getElem? (i := 446) (by decide +kernel), List.mem_of_getElem? (i := 632) (by decide +kernel), List.mem_of_getElem? (i := 633) (by decide +kernel)⟩
theorem lw_p54 : lw_okq (⟨"AimDeskModel", "caught", "()I"⟩, 24) := ⟨⟨by decide +kernel, by decide +kernel⟩, List.mem_of_getElem? (i := 446) (by decide +kernel), List.mem_of_getElem? (i := 636) (by decide +kernel), List.mem_of_getElem? (i := 637) (by decide +kernel)⟩
theorem lw_p55 : lw_okq (⟨"AimDeskModel", "bestNow", "(I)I"⟩, 24) := ⟨⟨by decide +kernel, by decide +kernel⟩, List.mem_of_getElem? (i := 446) (by decide +kernel), List.mem_of_getElem? (i := 640) (by decide +kernel), List.mem_of_getElem? (i := 641) (by decide +kernel)⟩
theorem lw_p56 : lw_okq (⟨"AimDeskModel", "boundNow", "()I"⟩, 24) := ⟨⟨by decide +kernel, by decide +kernel⟩, List.mem_of_getElem? (i := 446) (by decide +kernel), List.mem_of_getElem? (i := 644) (by decide +kernel), List.mem_of_getElem? (i := 645) (by decide +kernel)⟩
theorem lw_p57 : lw_okq (⟨"AimDeskModel", "layChange", "(Z)V"⟩, 24) := ⟨⟨by decide +kernel, by decide +kernel⟩, List.mem_of_getElem? (i := 446) (by decide +kernel), List.mem_of_getElem? (i := 652) (by decide +kernel), List.mem_of_getElem? (i := 653) (by decide +kernel)⟩
theorem lw_p58 : lw_okq (⟨"AimDeskModel", "layFar", "()V"⟩, 24) := ⟨⟨by decide +kernel, by decide +kernel⟩, List.mem_of_getElem? (i := 446) (by decide +kernel), List.mem_of_getElem? (i := 656) (by decide +kernel), List.mem_of_getElem? (i := 657) (by decide +kernel)⟩
theorem lw_p59 : lw_okq (⟨"AimDeskModel", "unitOf", "(I)I"⟩, 24) := ⟨⟨by decide +kernel, by decide +kernel⟩, List.mem_of_getElem? (i := 446) (by decide +kernel), List.mem_of_getElem? (i := 660) (by decide +kernel), List.mem_of_getElem? (i := 661) (by decide +kernel)⟩
theorem lw_p60 : lw_okq (⟨"AimDeskModel", "codeNow", "()I"⟩, 24) := ⟨⟨by decide +kernel, by decide +kernel⟩, List.mem_of_getElem? (i := 446) (by decide +kernel), List.mem_of_getElem? (i := 667) (by decide +kernel), List.mem_of_getElem? (i := 668) (by decide +kernel)⟩
theorem lw_p61 : lw_okq (⟨"AimDeskModel", "moveFrom", "(II)I"⟩, 24) := ⟨⟨by decide +kernel, by decide +kernel⟩, List.mem_of_getElem? (i := 446) (by decide +kernel), List.mem_of_getElem? (i := 671) (by decide +kernel), List.mem_of_getElem? (i := 672) (by decide +kernel)⟩
theorem lw_p62 : lw_okq (⟨"AimDeskModel", "moved", "(II)I"⟩, 24) := ⟨⟨by decide +kernel, by decide +kernel⟩, List.mem_of_getElem? (i := 446) (by decide +kernel), List.mem_of_getElem? (i := 675) (by decide +kernel), List.mem_of_getElem? (i := 676) (by decide +kernel)⟩
theorem lw_p63 : lw_okq (⟨"AimDeskModel", "changeNow", "(I)I"⟩, 24) := ⟨⟨by decide +kernel, by decide +kernel⟩, List.mem_of_getElem? (i := 446) (by decide +kernel), List.mem_of_getElem? (i := 679) (by decide +kernel), List.mem_of_getElem? (i := 680) (by decide +kernel)⟩
def lw_privs_4 : List (MethodName × Nat) := [(⟨"AimDeskModel", "givesAll", "(II)I"⟩, 24), (⟨"AimDeskModel", "ofPatch", "(II)I"⟩, 24), (⟨"AimDeskModel", "aimedAt", "(I)I"⟩, 24), (⟨"AimDeskModel", "layBest", "(Z)V"⟩, 24), (⟨"AimDeskModel", "layCode", "(I)V"⟩, 24), (⟨"AimDeskModel", "areThere", "()Z"⟩, 24), (⟨"AimDeskModel", "caught", "()I"⟩, 24), (⟨"AimDeskModel", "bestNow", "(I)I"⟩, 24), (⟨"AimDeskModel", "boundNow", "()I"⟩, 24), (⟨"AimDeskModel", "layChange", "(Z)V"⟩, 24), (⟨"AimDeskModel", "layFar", "()V"⟩, 24), (⟨"AimDeskModel", "unitOf", "(I)I"⟩, 24), (⟨"AimDeskModel", "codeNow", "()I"⟩, 24), (⟨"AimDeskModel", "moveFrom", "(II)I"⟩, 24), (⟨"AimDeskModel", "moved", "(II)I"⟩, 24), (⟨"AimDeskModel", "changeNow", "(I)I"⟩, 24)]
theorem lw_r4 : ∀ q ∈ lw_privs_4, lw_okq q := List.forall_mem_cons.mpr ⟨lw_p48, List.forall_mem_cons.mpr ⟨lw_p49, List.forall_mem_cons.mpr ⟨lw_p50, List.forall_mem_cons.mpr ⟨lw_p51, List.forall_mem_cons.mpr ⟨lw_p52, List.forall_mem_cons.mpr ⟨lw_p53, List.forall_mem_cons.mpr ⟨lw_p54, List.forall_mem_cons.mpr ⟨lw_p55, List.forall_mem_cons.mpr ⟨lw_p56, List.forall_mem_cons.mpr ⟨lw_p57, List.forall_mem_cons.mpr ⟨lw_p58, List.forall_mem_cons.mpr ⟨lw_p59, List.forall_mem_cons.mpr ⟨lw_p60, List.forall_mem_cons.mpr ⟨lw_p61, List.forall_mem_cons.mpr ⟨lw_p62, List.forall_mem_cons.mpr ⟨lw_p63, fun _ h => absurd h List.not_mem_nil⟩⟩⟩⟩⟩⟩⟩⟩⟩⟩⟩⟩⟩⟩⟩⟩
theorem lw_p64 : lw_okq (⟨"AimDeskModel", "layTrade", "()V"⟩, 24) := ⟨⟨by decide +kernel, by decide +kernel⟩, List.mem_of_getElem? (i := 446) (by decide +kernel), List.mem_of_getElem? (i := 691) (by decide +kernel), List.mem_of_getElem? (i := 692) (by decide +kernel)⟩
theorem lw_p65 : lw_okq (⟨"AimDeskModel", "tradeNow", "(I)I"⟩, 24) := ⟨⟨by decide +kernel, by decide +kernel⟩, List.mem_of_getElem? (i := 446) (by decide +kernel), List.mem_of_getElem? (i := 695) (by decide +kernel), List.mem_of_getElem? (i := 696) (by decide +kernel)⟩
theorem lw_p66 : lw_okq (⟨"AimDeskModel", "reliefNow", "()I"⟩, 24) := ⟨⟨by decide +kernel, by decide +kernel⟩, List.mem_of_getElem? (i := 446) (by decide +kernel), List.mem_of_getElem? (i := 703) (by decide +kernel), List.mem_of_getElem? (i := 704) (by decide +kernel)⟩
theorem lw_p67 : lw_okq (⟨"AimDeskModel", "howMany", "(I)I"⟩, 24) := ⟨⟨by decide +kernel, by decide +kernel⟩, List.mem_of_getElem? (i := 446) (by decide +kernel), List.mem_of_getElem? (i := 714) (by decide +kernel), List.mem_of_getElem? (i := 715) (by decide +kernel)⟩
theorem lw_p68 : lw_okq (⟨"AimDeskModel", "mix", "(J)V"⟩, 24) := ⟨⟨by decide +kernel, by decide +kernel⟩, List.mem_of_getElem? (i := 446) (by decide +kernel), List.mem_of_getElem? (i := 723) (by decide +kernel), List.mem_of_getElem? (i := 724) (by decide +kernel)⟩
theorem lw_p69 : lw_okq (⟨"AimDeskModel", "mixField", "()V"⟩, 24) := ⟨⟨by decide +kernel, by decide +kernel⟩, List.mem_of_getElem? (i := 446) (by decide +kernel), List.mem_of_getElem? (i := 728) (by decide +kernel), List.mem_of_getElem? (i := 729) (by decide +kernel)⟩
theorem lw_p70 : lw_okq (⟨"AimDeskModel", "mixPlans", "(Z)V"⟩, 24) := ⟨⟨by decide +kernel, by decide +kernel⟩, List.mem_of_getElem? (i := 446) (by decide +kernel), List.mem_of_getElem? (i := 732) (by decide +kernel), List.mem_of_getElem? (i := 733) (by decide +kernel)⟩
def lw_privs_5 : List (MethodName × Nat) := [(⟨"AimDeskModel", "layTrade", "()V"⟩, 24), (⟨"AimDeskModel", "tradeNow", "(I)I"⟩, 24), (⟨"AimDeskModel", "reliefNow", "()I"⟩, 24), (⟨"AimDeskModel", "howMany", "(I)I"⟩, 24), (⟨"AimDeskModel", "mix", "(J)V"⟩, 24), (⟨"AimDeskModel", "mixField", "()V"⟩, 24), (⟨"AimDeskModel", "mixPlans", "(Z)V"⟩, 24)]
theorem lw_r5 : ∀ q ∈ lw_privs_5, lw_okq q := List.forall_mem_cons.mpr ⟨lw_p64, List.forall_mem_cons.mpr ⟨lw_p65, List.forall_mem_cons.mpr ⟨lw_p66, List.forall_mem_cons.mpr ⟨lw_p67, List.forall_mem_cons.mpr ⟨lw_p68, List.forall_mem_cons.mpr ⟨lw_p69, List.forall_mem_cons.mpr ⟨lw_p70, fun _ h => absurd h List.not_mem_nil⟩⟩⟩⟩⟩⟩⟩
def lw_privs : List (MethodName × Nat) := lw_privs_1 ++ (lw_privs_2 ++ (lw_privs_3 ++ (lw_privs_4 ++ (lw_privs_5))))
def lw_tbl : List Cond := k2_sels lw_privs ++ tables_1
theorem lw_privs_ok : ∀ q ∈ lw_privs, lw_okq q := by
  show ∀ q ∈ lw_privs_1 ++ (lw_privs_2 ++ (lw_privs_3 ++ (lw_privs_4 ++ (lw_privs_5)))), lw_okq q
  exact List.forall_mem_append.mpr ⟨lw_r1, List.forall_mem_append.mpr ⟨lw_r2, List.forall_mem_append.mpr ⟨lw_r3, List.forall_mem_append.mpr ⟨lw_r4, lw_r5⟩⟩⟩⟩
def RX0 : String := "AimDesk$Page"
def TX0 : u_T := fun k => match k with
  | 0 => ("AimDesk$Page", "codes", "[I", true)
  | _ => ("AimDesk$Page", "length", "I", false)
def tyX0 : Nat → FieldType := fun k => match k with
  | 0 => .array .int
  | _ => .int
abbrev wsX00 : List Cond := u_ws RX0 TX0 2
theorem nmX0 : ∀ a, a < 2 → ∀ b, b < 2 → a ≠ b → (TX0 a).2.1 ≠ (TX0 b).2.1 := by decide +kernel
theorem tyX0_ok : ∀ k, k < 2 → parseFieldDescriptor (TX0 k).2.2.1 = some (tyX0 k) := by decide +kernel
abbrev cX0_init : ByteArray := prog_2_method_1_code
def yX0_init : MethodName := ⟨RX0, "<init>", "()V"⟩
abbrev cX0_append : ByteArray := prog_2_method_2_code
def yX0_append : MethodName := ⟨RX0, "append", "(I)V"⟩
abbrev cX0_codeAt : ByteArray := prog_2_method_3_code
def yX0_codeAt : MethodName := ⟨RX0, "codeAt", "(I)I"⟩
abbrev cX0_figureAt : ByteArray := prog_2_method_4_code
def yX0_figureAt : MethodName := ⟨RX0, "figureAt", "(I)I"⟩
abbrev cX0_firstFault : ByteArray := prog_2_method_5_code
def yX0_firstFault : MethodName := ⟨RX0, "firstFault", "()I"⟩
abbrev cX0_fits : ByteArray := prog_2_method_6_code
def yX0_fits : MethodName := ⟨RX0, "fits", "(I)Z"⟩
abbrev cX0_isField : ByteArray := prog_2_method_7_code
def yX0_isField : MethodName := ⟨RX0, "isField", "()Z"⟩
def RX1 : String := "AimDesk$Plan"
def TX1 : u_T := fun k => match k with
  | 0 => ("AimDesk$Plan", "steady", "Z", true)
  | 1 => ("AimDesk$Plan", "firstMoves", "[I", true)
  | 2 => ("AimDesk$Plan", "bestKnown", "Z", false)
  | 3 => ("AimDesk$Plan", "changeKnown", "Z", false)
  | 4 => ("AimDesk$Plan", "caught", "I", false)
  | 5 => ("AimDesk$Plan", "place", "I", false)
  | _ => ("AimDesk$Plan", "moves", "I", false)
def tyX1 : Nat → FieldType := fun k => match k with
  | 0 => .boolean
  | 1 => .array .int
  | 2 => .boolean
  | 3 => .boolean
  | 4 => .int
  | 5 => .int
  | _ => .int
abbrev wsX10 : List Cond := u_ws RX1 TX1 7
theorem nmX1 : ∀ a, a < 7 → ∀ b, b < 7 → a ≠ b → (TX1 a).2.1 ≠ (TX1 b).2.1 := by decide +kernel
theorem tyX1_ok : ∀ k, k < 7 → parseFieldDescriptor (TX1 k).2.2.1 = some (tyX1 k) := by decide +kernel
abbrev cX1_init : ByteArray := prog_3_method_1_code
def yX1_init : MethodName := ⟨RX1, "<init>", "(Z)V"⟩
abbrev cX1_moveAt : ByteArray := prog_3_method_2_code
def yX1_moveAt : MethodName := ⟨RX1, "moveAt", "(I)I"⟩
def RX2 : String := "AimDesk$Planner"
def TX2 : u_T := fun k => match k with
  | 0 => ("AimDesk$Planner", "loosePlan", "LAimDesk$Plan;", true)
  | 1 => ("AimDesk$Planner", "steadyPlan", "LAimDesk$Plan;", true)
  | _ => ("AimDesk$Planner", "ways", "[I", true)
def tyX2 : Nat → FieldType := fun k => match k with
  | 0 => .object "AimDesk$Plan"
  | 1 => .object "AimDesk$Plan"
  | _ => .array .int
abbrev wsX20 : List Cond := u_ws RX2 TX2 3
theorem nmX2 : ∀ a, a < 3 → ∀ b, b < 3 → a ≠ b → (TX2 a).2.1 ≠ (TX2 b).2.1 := by decide +kernel
theorem tyX2_ok : ∀ k, k < 3 → parseFieldDescriptor (TX2 k).2.2.1 = some (tyX2 k) := by decide +kernel
abbrev cX2_init : ByteArray := prog_4_method_1_code
def yX2_init : MethodName := ⟨RX2, "<init>", "()V"⟩
abbrev cX2_forget : ByteArray := prog_4_method_2_code
def yX2_forget : MethodName := ⟨RX2, "forget", "()V"⟩
abbrev cX2_planWithBest : ByteArray := prog_4_method_3_code
def yX2_planWithBest : MethodName := ⟨RX2, "planWithBest", "(LAimDesk$Plant;Z)LAimDesk$Plan;"⟩
abbrev cX2_planWithChange : ByteArray := prog_4_method_4_code
def yX2_planWithChange : MethodName := ⟨RX2, "planWithChange", "(LAimDesk$Plant;Z)LAimDesk$Plan;"⟩
abbrev cX2_findBest : ByteArray := prog_4_method_5_code
def yX2_findBest : MethodName := ⟨RX2, "findBest", "(LAimDesk$Plant;LAimDesk$Plan;)V"⟩
abbrev cX2_openFrom : ByteArray := prog_4_method_6_code
def yX2_openFrom : MethodName := ⟨RX2, "openFrom", "(LAimDesk$Plant;LAimDesk$Plan;[IIIII)V"⟩
abbrev cX2_open : ByteArray := prog_4_method_7_code
def yX2_open : MethodName := ⟨RX2, "\x6fpen", "(LAimDesk$Plan;[III)V"⟩
abbrev cX2_wayFrom : ByteArray := prog_4_method_8_code
def yX2_wayFrom : MethodName := ⟨RX2, "wayFrom", "(I)I"⟩
abbrev cX2_setWay : ByteArray := prog_4_method_9_code
def yX2_setWay : MethodName := ⟨RX2, "setWay", "(II)V"⟩
abbrev cX2_findChange : ByteArray := prog_4_method_10_code
def yX2_findChange : MethodName := ⟨RX2, "findChange", "(LAimDesk$Plant;LAimDesk$Plan;)V"⟩
abbrev cX2_widen : ByteArray := prog_4_method_11_code
def yX2_widen : MethodName := ⟨RX2, "widen", "(LAimDesk$Plant;I)Z"⟩
abbrev cX2_markBeside : ByteArray := prog_4_method_12_code
def yX2_markBeside : MethodName := ⟨RX2, "markBeside", "(LAimDesk$Plant;II)Z"⟩
abbrev cX2_noteMoves : ByteArray := prog_4_method_13_code
def yX2_noteMoves : MethodName := ⟨RX2, "noteMoves", "(LAimDesk$Plant;LAimDesk$Plan;I)V"⟩
abbrev cX2_leastMove : ByteArray := prog_4_method_14_code
def yX2_leastMove : MethodName := ⟨RX2, "leastMove", "(LAimDesk$Plant;II)I"⟩
def RX3 : String := "AimDesk$Plant"
def TX3 : u_T := fun k => match k with
  | 0 => ("AimDesk$Plant", "mirrors", "I", false)
  | 1 => ("AimDesk$Plant", "patches", "I", false)
  | 2 => ("AimDesk$Plant", "places", "I", false)
  | 3 => ("AimDesk$Plant", "shadedOnes", "I", false)
  | 4 => ("AimDesk$Plant", "stuckOnes", "I", false)
  | 5 => ("AimDesk$Plant", "slack", "I", false)
  | 6 => ("AimDesk$Plant", "middles", "[I", true)
  | 7 => ("AimDesk$Plant", "sides", "[I", true)
  | 8 => ("AimDesk$Plant", "aims", "[I", true)
  | 9 => ("AimDesk$Plant", "lights", "[I", true)
  | _ => ("AimDesk$Plant", "ceilings", "[I", true)
def tyX3 : Nat → FieldType := fun k => match k with
  | 0 => .int
  | 1 => .int
  | 2 => .int
  | 3 => .int
  | 4 => .int
  | 5 => .int
  | 6 => .array .int
  | 7 => .array .int
  | 8 => .array .int
  | 9 => .array .int
  | _ => .array .int
abbrev wsX30 : List Cond := u_ws RX3 TX3 11
theorem nmX3 : ∀ a, a < 11 → ∀ b, b < 11 → a ≠ b → (TX3 a).2.1 ≠ (TX3 b).2.1 := by decide +kernel
theorem tyX3_ok : ∀ k, k < 11 → parseFieldDescriptor (TX3 k).2.2.1 = some (tyX3 k) := by decide +kernel
abbrev cX3_init : ByteArray := prog_5_method_1_code
def yX3_init : MethodName := ⟨RX3, "<init>", "()V"⟩
abbrev cX3_isRead : ByteArray := prog_5_method_2_code
def yX3_isRead : MethodName := ⟨RX3, "isRead", "()Z"⟩
abbrev cX3_hasMirror : ByteArray := prog_5_method_3_code
def yX3_hasMirror : MethodName := ⟨RX3, "hasMirror", "(I)Z"⟩
abbrev cX3_hasPatch : ByteArray := prog_5_method_4_code
def yX3_hasPatch : MethodName := ⟨RX3, "hasPatch", "(I)Z"⟩
abbrev cX3_isShaded : ByteArray := prog_5_method_5_code
def yX3_isShaded : MethodName := ⟨RX3, "isShaded", "(I)Z"⟩
abbrev cX3_isStuck : ByteArray := prog_5_method_6_code
def yX3_isStuck : MethodName := ⟨RX3, "isStuck", "(I)Z"⟩
abbrev cX3_read : ByteArray := prog_5_method_7_code
def yX3_read : MethodName := ⟨RX3, "read", "(LAimDesk$Page;)V"⟩
abbrev cX3_lightAt : ByteArray := prog_5_method_8_code
def yX3_lightAt : MethodName := ⟨RX3, "lightAt", "(III)I"⟩
abbrev cX3_light : ByteArray := prog_5_method_9_code
def yX3_light : MethodName := ⟨RX3, "light", "(II)I"⟩
abbrev cX3_measureSlack : ByteArray := prog_5_method_10_code
def yX3_measureSlack : MethodName := ⟨RX3, "measureSlack", "()V"⟩
abbrev cX3_isSafe : ByteArray := prog_5_method_11_code
def yX3_isSafe : MethodName := ⟨RX3, "isSafe", "(I)Z"⟩
abbrev cX3_heats : ByteArray := prog_5_method_12_code
def yX3_heats : MethodName := ⟨RX3, "heats", "()I"⟩
abbrev cX3_heatsWithout : ByteArray := prog_5_method_13_code
def yX3_heatsWithout : MethodName := ⟨RX3, "heatsWithout", "(I)I"⟩
abbrev cX3_aimingAt : ByteArray := prog_5_method_14_code
def yX3_aimingAt : MethodName := ⟨RX3, "aimingAt", "(I)I"⟩
abbrev cX3_bound : ByteArray := prog_5_method_15_code
def yX3_bound : MethodName := ⟨RX3, "bound", "()I"⟩
abbrev cX3_mostLight : ByteArray := prog_5_method_16_code
def yX3_mostLight : MethodName := ⟨RX3, "mostLight", "(I)I"⟩
abbrev cX3_placeNow : ByteArray := prog_5_method_17_code
def yX3_placeNow : MethodName := ⟨RX3, "placeNow", "()I"⟩
abbrev cX3_bestTrade : ByteArray := prog_5_method_18_code
def yX3_bestTrade : MethodName := ⟨RX3, "bestTrade", "()I"⟩
abbrev cX3_heatsByTrade : ByteArray := prog_5_method_19_code
def yX3_heatsByTrade : MethodName := ⟨RX3, "heatsByTrade", "(II)I"⟩
abbrev cX3_swapAims : ByteArray := prog_5_method_20_code
def yX3_swapAims : MethodName := ⟨RX3, "swapAims", "(II)V"⟩
abbrev cX3_bestRelief : ByteArray := prog_5_method_21_code
def yX3_bestRelief : MethodName := ⟨RX3, "bestRelief", "()I"⟩
def RX4 : String := "AimDesk"
def TX4 : u_T := fun k => match k with
  | 0 => ("AimDesk", "page", "LAimDesk$Page;", true)
  | 1 => ("AimDesk", "plant", "LAimDesk$Plant;", true)
  | 2 => ("AimDesk", "planner", "LAimDesk$Planner;", true)
  | 3 => ("AimDesk", "fieldsRead", "I", false)
  | _ => ("AimDesk", "aimsGiven", "I", false)
def tyX4 : Nat → FieldType := fun k => match k with
  | 0 => .object "AimDesk$Page"
  | 1 => .object "AimDesk$Plant"
  | 2 => .object "AimDesk$Planner"
  | 3 => .int
  | _ => .int
abbrev wsX40 : List Cond := u_ws RX4 TX4 5
theorem nmX4 : ∀ a, a < 5 → ∀ b, b < 5 → a ≠ b → (TX4 a).2.1 ≠ (TX4 b).2.1 := by decide +kernel
theorem tyX4_ok : ∀ k, k < 5 → parseFieldDescriptor (TX4 k).2.2.1 = some (tyX4 k) := by decide +kernel
abbrev cX4_init : ByteArray := prog_1_method_1_code
def yX4_init : MethodName := ⟨RX4, "<init>", "()V"⟩
abbrev cX4_letter : ByteArray := prog_1_method_2_code
def yX4_letter : MethodName := ⟨RX4, "letter", "(I)I"⟩
abbrev cX4_blank : ByteArray := prog_1_method_3_code
def yX4_blank : MethodName := ⟨RX4, "blank", "()I"⟩
abbrev cX4_fault : ByteArray := prog_1_method_4_code
def yX4_fault : MethodName := ⟨RX4, "fault", "()I"⟩
abbrev cX4_field : ByteArray := prog_1_method_5_code
def yX4_field : MethodName := ⟨RX4, "field", "()I"⟩
abbrev cX4_ceiling : ByteArray := prog_1_method_6_code
def yX4_ceiling : MethodName := ⟨RX4, "ceiling", "(II)I"⟩
abbrev cX4_shade : ByteArray := prog_1_method_7_code
def yX4_shade : MethodName := ⟨RX4, "shade", "(I)I"⟩
abbrev cX4_stuck : ByteArray := prog_1_method_8_code
def yX4_stuck : MethodName := ⟨RX4, "stuck", "(IZ)I"⟩
abbrev cX4_aim : ByteArray := prog_1_method_9_code
def yX4_aim : MethodName := ⟨RX4, "aim", "(II)I"⟩
abbrev cX4_mirror : ByteArray := prog_1_method_10_code
def yX4_mirror : MethodName := ⟨RX4, "mirror", "(II)I"⟩
abbrev cX4_patch : ByteArray := prog_1_method_11_code
def yX4_patch : MethodName := ⟨RX4, "patch", "(II)I"⟩
abbrev cX4_best : ByteArray := prog_1_method_12_code
def yX4_best : MethodName := ⟨RX4, "best", "(ZI)I"⟩
abbrev cX4_change : ByteArray := prog_1_method_13_code
def yX4_change : MethodName := ⟨RX4, "change", "(ZI)I"⟩
abbrev cX4_go : ByteArray := prog_1_method_14_code
def yX4_go : MethodName := ⟨RX4, "go", "(Z)I"⟩
abbrev cX4_trade : ByteArray := prog_1_method_15_code
def yX4_trade : MethodName := ⟨RX4, "trade", "(I)I"⟩
abbrev cX4_relief : ByteArray := prog_1_method_16_code
def yX4_relief : MethodName := ⟨RX4, "relief", "()I"⟩
abbrev cX4_count : ByteArray := prog_1_method_17_code
def yX4_count : MethodName := ⟨RX4, "count", "(I)I"⟩
abbrev cX4_digest : ByteArray := prog_1_method_18_code
def yX4_digest : MethodName := ⟨RX4, "digest", "()J"⟩
abbrev cX4_digestOfParts : ByteArray := prog_1_method_19_code
def yX4_digestOfParts : MethodName := ⟨RX4, "digestOfParts", "(J)J"⟩
abbrev cX4_bit : ByteArray := prog_1_method_20_code
def yX4_bit : MethodName := ⟨RX4, "bit", "(II)I"⟩
abbrev cX4_heatOf : ByteArray := prog_1_method_21_code
def yX4_heatOf : MethodName := ⟨RX4, "heatOf", "(II)I"⟩
abbrev cX4_sum : ByteArray := prog_1_method_22_code
def yX4_sum : MethodName := ⟨RX4, "sum", "(I)I"⟩
abbrev cX4_aimIn : ByteArray := prog_1_method_23_code
def yX4_aimIn : MethodName := ⟨RX4, "aimIn", "(II)I"⟩
def RX5 : String := "AimDeskModel"
def TX5 : u_T := fun k => match k with
  | 0 => ("AimDeskModel", "pageLength", "I", false)
  | 1 => ("AimDeskModel", "page", "[I", true)
  | 2 => ("AimDeskModel", "mirrors", "I", false)
  | 3 => ("AimDeskModel", "patches", "I", false)
  | 4 => ("AimDeskModel", "middleOf", "[I", true)
  | 5 => ("AimDeskModel", "sideOf", "[I", true)
  | 6 => ("AimDeskModel", "aimOf", "[I", true)
  | 7 => ("AimDeskModel", "ceilingOf", "[I", true)
  | 8 => ("AimDeskModel", "shaded", "I", false)
  | 9 => ("AimDeskModel", "held", "I", false)
  | 10 => ("AimDeskModel", "fieldsRead", "I", false)
  | 11 => ("AimDeskModel", "given", "I", false)
  | 12 => ("AimDeskModel", "now", "[I", true)
  | 13 => ("AimDeskModel", "may", "[Z", true)
  | 14 => ("AimDeskModel", "far", "[I", true)
  | 15 => ("AimDeskModel", "bestCode", "I", false)
  | 16 => ("AimDeskModel", "bestCaught", "I", false)
  | 17 => ("AimDeskModel", "queue", "[I", true)
  | 18 => ("AimDeskModel", "changeMany", "I", false)
  | 19 => ("AimDeskModel", "moves", "[I", true)
  | 20 => ("AimDeskModel", "tradeGain", "I", false)
  | 21 => ("AimDeskModel", "tradeFirst", "I", false)
  | 22 => ("AimDeskModel", "tradeSecond", "I", false)
  | _ => ("AimDeskModel", "h", "J", false)
def tyX5 : Nat → FieldType := fun k => match k with
  | 0 => .int
  | 1 => .array .int
  | 2 => .int
  | 3 => .int
  | 4 => .array .int
  | 5 => .array .int
  | 6 => .array .int
  | 7 => .array .int
  | 8 => .int
  | 9 => .int
  | 10 => .int
  | 11 => .int
  | 12 => .array .int
  | 13 => .array .boolean
  | 14 => .array .int
  | 15 => .int
  | 16 => .int
  | 17 => .array .int
  | 18 => .int
  | 19 => .array .int
  | 20 => .int
  | 21 => .int
  | 22 => .int
  | _ => .long
abbrev wsX50 : List Cond := u_ws RX5 TX5 24
theorem nmX5 : ∀ a, a < 24 → ∀ b, b < 24 → a ≠ b → (TX5 a).2.1 ≠ (TX5 b).2.1 := by decide +kernel
theorem tyX5_ok : ∀ k, k < 24 → parseFieldDescriptor (TX5 k).2.2.1 = some (tyX5 k) := by decide +kernel
abbrev cX5_init : ByteArray := prog_7_method_1_code
def yX5_init : MethodName := ⟨RX5, "<init>", "()V"⟩
abbrev cX5_within : ByteArray := prog_7_method_3_code
def yX5_within : MethodName := ⟨RX5, "within", "(III)Z"⟩
abbrev cX5_has : ByteArray := prog_7_method_4_code
def yX5_has : MethodName := ⟨RX5, "has", "(II)Z"⟩
abbrev cX5_letter : ByteArray := prog_7_method_5_code
def yX5_letter : MethodName := ⟨RX5, "letter", "(I)I"⟩
abbrev cX5_blank : ByteArray := prog_7_method_6_code
def yX5_blank : MethodName := ⟨RX5, "blank", "()I"⟩
abbrev cX5_isRight : ByteArray := prog_7_method_7_code
def yX5_isRight : MethodName := ⟨RX5, "isRight", "(I)Z"⟩
abbrev cX5_rightLetters : ByteArray := prog_7_method_8_code
def yX5_rightLetters : MethodName := ⟨RX5, "rightLetters", "()I"⟩
abbrev cX5_fault : ByteArray := prog_7_method_9_code
def yX5_fault : MethodName := ⟨RX5, "fault", "()I"⟩
abbrev cX5_field : ByteArray := prog_7_method_10_code
def yX5_field : MethodName := ⟨RX5, "field", "()I"⟩
abbrev cX5_isMirror : ByteArray := prog_7_method_11_code
def yX5_isMirror : MethodName := ⟨RX5, "isMirror", "(I)Z"⟩
abbrev cX5_isPatch : ByteArray := prog_7_method_12_code
def yX5_isPatch : MethodName := ⟨RX5, "isPatch", "(I)Z"⟩
abbrev cX5_gives : ByteArray := prog_7_method_13_code
def yX5_gives : MethodName := ⟨RX5, "gives", "(III)I"⟩
abbrev cX5_givesAll : ByteArray := prog_7_method_14_code
def yX5_givesAll : MethodName := ⟨RX5, "givesAll", "(II)I"⟩
abbrev cX5_asTheyAre : ByteArray := prog_7_method_15_code
def yX5_asTheyAre : MethodName := ⟨RX5, "asTheyAre", "()V"⟩
abbrev cX5_heatAt : ByteArray := prog_7_method_16_code
def yX5_heatAt : MethodName := ⟨RX5, "heatAt", "(IZ)I"⟩
abbrev cX5_isGood : ByteArray := prog_7_method_17_code
def yX5_isGood : MethodName := ⟨RX5, "isGood", "(Z)Z"⟩
abbrev cX5_caught : ByteArray := prog_7_method_18_code
def yX5_caught : MethodName := ⟨RX5, "caught", "()I"⟩
abbrev cX5_ceiling : ByteArray := prog_7_method_19_code
def yX5_ceiling : MethodName := ⟨RX5, "ceiling", "(II)I"⟩
abbrev cX5_shade : ByteArray := prog_7_method_20_code
def yX5_shade : MethodName := ⟨RX5, "shade", "(I)I"⟩
abbrev cX5_stuck : ByteArray := prog_7_method_21_code
def yX5_stuck : MethodName := ⟨RX5, "stuck", "(IZ)I"⟩
abbrev cX5_aim : ByteArray := prog_7_method_22_code
def yX5_aim : MethodName := ⟨RX5, "aim", "(II)I"⟩
abbrev cX5_ofMirror : ByteArray := prog_7_method_23_code
def yX5_ofMirror : MethodName := ⟨RX5, "ofMirror", "(II)I"⟩
abbrev cX5_mirror : ByteArray := prog_7_method_24_code
def yX5_mirror : MethodName := ⟨RX5, "mirror", "(II)I"⟩
abbrev cX5_aimedAt : ByteArray := prog_7_method_25_code
def yX5_aimedAt : MethodName := ⟨RX5, "aimedAt", "(I)I"⟩
abbrev cX5_ofPatch : ByteArray := prog_7_method_26_code
def yX5_ofPatch : MethodName := ⟨RX5, "ofPatch", "(II)I"⟩
abbrev cX5_patch : ByteArray := prog_7_method_27_code
def yX5_patch : MethodName := ⟨RX5, "patch", "(II)I"⟩
abbrev cX5_unitOf : ByteArray := prog_7_method_28_code
def yX5_unitOf : MethodName := ⟨RX5, "unitOf", "(I)I"⟩
abbrev cX5_codeNow : ByteArray := prog_7_method_29_code
def yX5_codeNow : MethodName := ⟨RX5, "codeNow", "()I"⟩
abbrev cX5_layCode : ByteArray := prog_7_method_30_code
def yX5_layCode : MethodName := ⟨RX5, "layCode", "(I)V"⟩
abbrev cX5_areThere : ByteArray := prog_7_method_31_code
def yX5_areThere : MethodName := ⟨RX5, "areThere", "()Z"⟩
abbrev cX5_layBest : ByteArray := prog_7_method_32_code
def yX5_layBest : MethodName := ⟨RX5, "layBest", "(Z)V"⟩
abbrev cX5_boundNow : ByteArray := prog_7_method_33_code
def yX5_boundNow : MethodName := ⟨RX5, "boundNow", "()I"⟩
abbrev cX5_bestNow : ByteArray := prog_7_method_34_code
def yX5_bestNow : MethodName := ⟨RX5, "bestNow", "(I)I"⟩
abbrev cX5_best : ByteArray := prog_7_method_35_code
def yX5_best : MethodName := ⟨RX5, "best", "(ZI)I"⟩
abbrev cX5_figure : ByteArray := prog_7_method_36_code
def yX5_figure : MethodName := ⟨RX5, "figure", "(II)I"⟩
abbrev cX5_layFar : ByteArray := prog_7_method_37_code
def yX5_layFar : MethodName := ⟨RX5, "layFar", "()V"⟩
abbrev cX5_moveFrom : ByteArray := prog_7_method_38_code
def yX5_moveFrom : MethodName := ⟨RX5, "moveFrom", "(II)I"⟩
abbrev cX5_moved : ByteArray := prog_7_method_39_code
def yX5_moved : MethodName := ⟨RX5, "moved", "(II)I"⟩
abbrev cX5_layChange : ByteArray := prog_7_method_40_code
def yX5_layChange : MethodName := ⟨RX5, "layChange", "(Z)V"⟩
abbrev cX5_changeNow : ByteArray := prog_7_method_41_code
def yX5_changeNow : MethodName := ⟨RX5, "changeNow", "(I)I"⟩
abbrev cX5_change : ByteArray := prog_7_method_42_code
def yX5_change : MethodName := ⟨RX5, "change", "(ZI)I"⟩
abbrev cX5_go : ByteArray := prog_7_method_43_code
def yX5_go : MethodName := ⟨RX5, "go", "(Z)I"⟩
abbrev cX5_layTrade : ByteArray := prog_7_method_44_code
def yX5_layTrade : MethodName := ⟨RX5, "layTrade", "()V"⟩
abbrev cX5_tradeNow : ByteArray := prog_7_method_45_code
def yX5_tradeNow : MethodName := ⟨RX5, "tradeNow", "(I)I"⟩
abbrev cX5_trade : ByteArray := prog_7_method_46_code
def yX5_trade : MethodName := ⟨RX5, "trade", "(I)I"⟩
abbrev cX5_ones : ByteArray := prog_7_method_47_code
def yX5_ones : MethodName := ⟨RX5, "ones", "(I)I"⟩
abbrev cX5_reliefNow : ByteArray := prog_7_method_48_code
def yX5_reliefNow : MethodName := ⟨RX5, "reliefNow", "()I"⟩
abbrev cX5_relief : ByteArray := prog_7_method_49_code
def yX5_relief : MethodName := ⟨RX5, "relief", "()I"⟩
abbrev cX5_howMany : ByteArray := prog_7_method_50_code
def yX5_howMany : MethodName := ⟨RX5, "howMany", "(I)I"⟩
abbrev cX5_count : ByteArray := prog_7_method_51_code
def yX5_count : MethodName := ⟨RX5, "count", "(I)I"⟩
abbrev cX5_mix : ByteArray := prog_7_method_52_code
def yX5_mix : MethodName := ⟨RX5, "mix", "(J)V"⟩
abbrev cX5_mixPlans : ByteArray := prog_7_method_53_code
def yX5_mixPlans : MethodName := ⟨RX5, "mixPlans", "(Z)V"⟩
abbrev cX5_mixField : ByteArray := prog_7_method_54_code
def yX5_mixField : MethodName := ⟨RX5, "mixField", "()V"⟩
abbrev cX5_digest : ByteArray := prog_7_method_55_code
def yX5_digest : MethodName := ⟨RX5, "digest", "()J"⟩
def RJ6 : String := "java/lang/Integer"
def TJ6 : u_T := fun k => match k with
  | _ => ("", "", "", false)
def tyJ6 : Nat → FieldType := fun k => match k with
  | _ => .int
abbrev wsJ60 : List Cond := u_ws RJ6 TJ6 0
theorem nmJ6 : ∀ a, a < 0 → ∀ b, b < 0 → a ≠ b → (TJ6 a).2.1 ≠ (TJ6 b).2.1 := by decide +kernel
theorem tyJ6_ok : ∀ k, k < 0 → parseFieldDescriptor (TJ6 k).2.2.1 = some (tyJ6 k) := by decide +kernel
abbrev cJ6_bitCount_0f7a4 : ByteArray := prog_8_method_49_code
def yJ6_bitCount_0f7a4 : MethodName := ⟨RJ6, "bitCount", "(I)I"⟩
def RJ9 : String := "java/lang/Math"
def TJ9 : u_T := fun k => match k with
  | _ => ("", "", "", false)
def tyJ9 : Nat → FieldType := fun k => match k with
  | _ => .int
abbrev wsJ90 : List Cond := u_ws RJ9 TJ9 0
theorem nmJ9 : ∀ a, a < 0 → ∀ b, b < 0 → a ≠ b → (TJ9 a).2.1 ≠ (TJ9 b).2.1 := by decide +kernel
theorem tyJ9_ok : ∀ k, k < 0 → parseFieldDescriptor (TJ9 k).2.2.1 = some (tyJ9 k) := by decide +kernel
abbrev cJ9_max_7cf53 : ByteArray := prog_9_method_65_code
def yJ9_max_7cf53 : MethodName := ⟨RJ9, "max", "(II)I"⟩
abbrev cJ9_min_7cf53 : ByteArray := prog_9_method_69_code
def yJ9_min_7cf53 : MethodName := ⟨RJ9, "min", "(II)I"⟩
def RJ7 : String := "java/util/Arrays"
def TJ7 : u_T := fun k => match k with
  | _ => ("", "", "", false)
def tyJ7 : Nat → FieldType := fun k => match k with
  | _ => .int
abbrev wsJ70 : List Cond := u_ws RJ7 TJ7 0
theorem nmJ7 : ∀ a, a < 0 → ∀ b, b < 0 → a ≠ b → (TJ7 a).2.1 ≠ (TJ7 b).2.1 := by decide +kernel
theorem tyJ7_ok : ∀ k, k < 0 → parseFieldDescriptor (TJ7 k).2.2.1 = some (tyJ7 k) := by decide +kernel
abbrev cJ7_fill_53178 : ByteArray := prog_10_method_103_code
def yJ7_fill_53178 : MethodName := ⟨RJ7, "fill", "([II)V"⟩
def RL : String := "AimDeskLaw"
abbrev cL_law : ByteArray := code
def yL_law : MethodName := ⟨RL, "law", "([I)Z"⟩
abbrev vwCl : List vw_C := [(RX0, TX0, 2), (RX1, TX1, 7), (RX2, TX2, 3), (RX3, TX3, 11), (RX4, TX4, 5), (RX5, TX5, 24)]
