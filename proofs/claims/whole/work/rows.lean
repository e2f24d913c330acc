section
-- ===== PART A: goes FIRST, ahead of the names: the tables' words, and 'selects' of the private methods out of them =====
/-- a private method of a class that the tables say can be made, by its rows of tables_1 -/
def lw_okq (q : MethodName × Nat) : Prop := (q.1.cls ≠ "java/lang/invoke/MethodHandle" ∧ q.1.cls ≠ "java/lang/invoke/VarHandle") ∧ Cond.instantiable q.1.cls q.2 ∈ tables_1 ∧ Cond.privateMethod q.1 ∈ tables_1 ∧ Cond.instanceMethod q.1 ∈ tables_1
theorem lw_p0 : lw_okq (⟨"AimDesk$Page", "append", "(I)V"⟩, 2) := ⟨⟨by decide +kernel, by decide +kernel⟩, List.mem_of_getElem? (i := 19) (by decide +kernel), List.mem_of_getElem? (i := 157) (by decide +kernel), List.mem_of_getElem? (i := 158) (by decide +kernel)⟩
theorem lw_p1 : lw_okq (⟨"AimDesk$Page", "firstFault", "()I"⟩, 2) := ⟨⟨by decide +kernel, by decide +kernel⟩, List.mem_of_getElem? (i := 19) (by decide +kernel), List.mem_of_getElem? (i := 169) (by decide +kernel), List.mem_of_getElem? (i := 170) (by decide +kernel)⟩
theorem lw_p2 : lw_okq (⟨"AimDesk$Page", "fits", "(I)Z"⟩, 2) := ⟨⟨by decide +kernel, by decide +kernel⟩, List.mem_of_getElem? (i := 19) (by decide +kernel), List.mem_of_getElem? (i := 173) (by decide +kernel), List.mem_of_getElem? (i := 174) (by decide +kernel)⟩
theorem lw_p3 : lw_okq (⟨"AimDesk$Page", "codeAt", "(I)I"⟩, 2) := ⟨⟨by decide +kernel, by decide +kernel⟩, List.mem_of_getElem? (i := 19) (by decide +kernel), List.mem_of_getElem? (i := 177) (by decide +kernel), List.mem_of_getElem? (i := 178) (by decide +kernel)⟩
theorem lw_p4 : lw_okq (⟨"AimDesk$Page", "isField", "()Z"⟩, 2) := ⟨⟨by decide +kernel, by decide +kernel⟩, List.mem_of_getElem? (i := 19) (by decide +kernel), List.mem_of_getElem? (i := 185) (by decide +kernel), List.mem_of_getElem? (i := 186) (by decide +kernel)⟩
theorem lw_p5 : lw_okq (⟨"AimDesk$Plant", "read", "(LAimDesk$Page;)V"⟩, 11) := ⟨⟨by decide +kernel, by decide +kernel⟩, List.mem_of_getElem? (i := 35) (by decide +kernel), List.mem_of_getElem? (i := 190) (by decide +kernel), List.mem_of_getElem? (i := 191) (by decide +kernel)⟩
theorem lw_p6 : lw_okq (⟨"AimDesk$Page", "figureAt", "(I)I"⟩, 2) := ⟨⟨by decide +kernel, by decide +kernel⟩, List.mem_of_getElem? (i := 19) (by decide +kernel), List.mem_of_getElem? (i := 194) (by decide +kernel), List.mem_of_getElem? (i := 195) (by decide +kernel)⟩
theorem lw_p7 : lw_okq (⟨"AimDesk$Plant", "lightOf", "(III)I"⟩, 11) := ⟨⟨by decide +kernel, by decide +kernel⟩, List.mem_of_getElem? (i := 35) (by decide +kernel), List.mem_of_getElem? (i := 201) (by decide +kernel), List.mem_of_getElem? (i := 202) (by decide +kernel)⟩
theorem lw_p8 : lw_okq (⟨"AimDesk$Plant", "hasPatch", "(I)Z"⟩, 11) := ⟨⟨by decide +kernel, by decide +kernel⟩, List.mem_of_getElem? (i := 35) (by decide +kernel), List.mem_of_getElem? (i := 205) (by decide +kernel), List.mem_of_getElem? (i := 206) (by decide +kernel)⟩
theorem lw_p9 : lw_okq (⟨"AimDesk$Plant", "measureSlack", "()V"⟩, 11) := ⟨⟨by decide +kernel, by decide +kernel⟩, List.mem_of_getElem? (i := 35) (by decide +kernel), List.mem_of_getElem? (i := 212) (by decide +kernel), List.mem_of_getElem? (i := 213) (by decide +kernel)⟩
theorem lw_p10 : lw_okq (⟨"AimDesk$Planner", "forget", "()V"⟩, 3) := ⟨⟨by decide +kernel, by decide +kernel⟩, List.mem_of_getElem? (i := 87) (by decide +kernel), List.mem_of_getElem? (i := 216) (by decide +kernel), List.mem_of_getElem? (i := 217) (by decide +kernel)⟩
theorem lw_p11 : lw_okq (⟨"AimDesk$Plant", "isRead", "()Z"⟩, 11) := ⟨⟨by decide +kernel, by decide +kernel⟩, List.mem_of_getElem? (i := 35) (by decide +kernel), List.mem_of_getElem? (i := 230) (by decide +kernel), List.mem_of_getElem? (i := 231) (by decide +kernel)⟩
theorem lw_p12 : lw_okq (⟨"AimDesk$Plant", "hasMirror", "(I)Z"⟩, 11) := ⟨⟨by decide +kernel, by decide +kernel⟩, List.mem_of_getElem? (i := 35) (by decide +kernel), List.mem_of_getElem? (i := 238) (by decide +kernel), List.mem_of_getElem? (i := 239) (by decide +kernel)⟩
theorem lw_p13 : lw_okq (⟨"AimDesk$Plant", "isStuck", "(I)Z"⟩, 11) := ⟨⟨by decide +kernel, by decide +kernel⟩, List.mem_of_getElem? (i := 35) (by decide +kernel), List.mem_of_getElem? (i := 249) (by decide +kernel), List.mem_of_getElem? (i := 250) (by decide +kernel)⟩
theorem lw_p14 : lw_okq (⟨"AimDesk$Plant", "heats", "()I"⟩, 11) := ⟨⟨by decide +kernel, by decide +kernel⟩, List.mem_of_getElem? (i := 35) (by decide +kernel), List.mem_of_getElem? (i := 254) (by decide +kernel), List.mem_of_getElem? (i := 255) (by decide +kernel)⟩
theorem lw_p15 : lw_okq (⟨"AimDesk$Plant", "heatsWithout", "(I)I"⟩, 11) := ⟨⟨by decide +kernel, by decide +kernel⟩, List.mem_of_getElem? (i := 35) (by decide +kernel), List.mem_of_getElem? (i := 258) (by decide +kernel), List.mem_of_getElem? (i := 259) (by decide +kernel)⟩
def lw_privs_1 : List (MethodName × Nat) := [(⟨"AimDesk$Page", "append", "(I)V"⟩, 2), (⟨"AimDesk$Page", "firstFault", "()I"⟩, 2), (⟨"AimDesk$Page", "fits", "(I)Z"⟩, 2), (⟨"AimDesk$Page", "codeAt", "(I)I"⟩, 2), (⟨"AimDesk$Page", "isField", "()Z"⟩, 2), (⟨"AimDesk$Plant", "read", "(LAimDesk$Page;)V"⟩, 11), (⟨"AimDesk$Page", "figureAt", "(I)I"⟩, 2), (⟨"AimDesk$Plant", "lightOf", "(III)I"⟩, 11), (⟨"AimDesk$Plant", "hasPatch", "(I)Z"⟩, 11), (⟨"AimDesk$Plant", "measureSlack", "()V"⟩, 11), (⟨"AimDesk$Planner", "forget", "()V"⟩, 3), (⟨"AimDesk$Plant", "isRead", "()Z"⟩, 11), (⟨"AimDesk$Plant", "hasMirror", "(I)Z"⟩, 11), (⟨"AimDesk$Plant", "isStuck", "(I)Z"⟩, 11), (⟨"AimDesk$Plant", "heats", "()I"⟩, 11), (⟨"AimDesk$Plant", "heatsWithout", "(I)I"⟩, 11)]
theorem lw_r1 : ∀ q ∈ lw_privs_1, lw_okq q := List.forall_mem_cons.mpr ⟨lw_p0, List.forall_mem_cons.mpr ⟨lw_p1, List.forall_mem_cons.mpr ⟨lw_p2, List.forall_mem_cons.mpr ⟨lw_p3, List.forall_mem_cons.mpr ⟨lw_p4, List.forall_mem_cons.mpr ⟨lw_p5, List.forall_mem_cons.mpr ⟨lw_p6, List.forall_mem_cons.mpr ⟨lw_p7, List.forall_mem_cons.mpr ⟨lw_p8, List.forall_mem_cons.mpr ⟨lw_p9, List.forall_mem_cons.mpr ⟨lw_p10, List.forall_mem_cons.mpr ⟨lw_p11, List.forall_mem_cons.mpr ⟨lw_p12, List.forall_mem_cons.mpr ⟨lw_p13, List.forall_mem_cons.mpr ⟨lw_p14, List.forall_mem_cons.mpr ⟨lw_p15, fun _ h => absurd h List.not_mem_nil⟩⟩⟩⟩⟩⟩⟩⟩⟩⟩⟩⟩⟩⟩⟩⟩
theorem lw_p16 : lw_okq (⟨"AimDesk$Plant", "light", "(II)I"⟩, 11) := ⟨⟨by decide +kernel, by decide +kernel⟩, List.mem_of_getElem? (i := 35) (by decide +kernel), List.mem_of_getElem? (i := 262) (by decide +kernel), List.mem_of_getElem? (i := 263) (by decide +kernel)⟩
theorem lw_p17 : lw_okq (⟨"AimDesk$Plant", "isSafe", "(I)Z"⟩, 11) := ⟨⟨by decide +kernel, by decide +kernel⟩, List.mem_of_getElem? (i := 35) (by decide +kernel), List.mem_of_getElem? (i := 266) (by decide +kernel), List.mem_of_getElem? (i := 267) (by decide +kernel)⟩
theorem lw_p18 : lw_okq (⟨"AimDesk$Plant", "isShaded", "(I)Z"⟩, 11) := ⟨⟨by decide +kernel, by decide +kernel⟩, List.mem_of_getElem? (i := 35) (by decide +kernel), List.mem_of_getElem? (i := 275) (by decide +kernel), List.mem_of_getElem? (i := 276) (by decide +kernel)⟩
theorem lw_p19 : lw_okq (⟨"AimDesk$Plant", "aimingAt", "(I)I"⟩, 11) := ⟨⟨by decide +kernel, by decide +kernel⟩, List.mem_of_getElem? (i := 35) (by decide +kernel), List.mem_of_getElem? (i := 291) (by decide +kernel), List.mem_of_getElem? (i := 292) (by decide +kernel)⟩
theorem lw_p20 : lw_okq (⟨"AimDesk$Planner", "planWithBest", "(LAimDesk$Plant;Z)LAimDesk$Plan;"⟩, 3) := ⟨⟨by decide +kernel, by decide +kernel⟩, List.mem_of_getElem? (i := 87) (by decide +kernel), List.mem_of_getElem? (i := 299) (by decide +kernel), List.mem_of_getElem? (i := 300) (by decide +kernel)⟩
theorem lw_p21 : lw_okq (⟨"AimDesk$Planner", "findBest", "(LAimDesk$Plant;LAimDesk$Plan;)V"⟩, 3) := ⟨⟨by decide +kernel, by decide +kernel⟩, List.mem_of_getElem? (i := 87) (by decide +kernel), List.mem_of_getElem? (i := 303) (by decide +kernel), List.mem_of_getElem? (i := 304) (by decide +kernel)⟩
theorem lw_p22 : lw_okq (⟨"AimDesk$Plant", "bound", "()I"⟩, 11) := ⟨⟨by decide +kernel, by decide +kernel⟩, List.mem_of_getElem? (i := 35) (by decide +kernel), List.mem_of_getElem? (i := 319) (by decide +kernel), List.mem_of_getElem? (i := 320) (by decide +kernel)⟩
theorem lw_p23 : lw_okq (⟨"AimDesk$Plant", "mostLight", "(I)I"⟩, 11) := ⟨⟨by decide +kernel, by decide +kernel⟩, List.mem_of_getElem? (i := 35) (by decide +kernel), List.mem_of_getElem? (i := 326) (by decide +kernel), List.mem_of_getElem? (i := 327) (by decide +kernel)⟩
theorem lw_p24 : lw_okq (⟨"AimDesk$Planner", "planWithChange", "(LAimDesk$Plant;Z)LAimDesk$Plan;"⟩, 3) := ⟨⟨by decide +kernel, by decide +kernel⟩, List.mem_of_getElem? (i := 87) (by decide +kernel), List.mem_of_getElem? (i := 340) (by decide +kernel), List.mem_of_getElem? (i := 341) (by decide +kernel)⟩
theorem lw_p25 : lw_okq (⟨"AimDesk$Planner", "findChange", "(LAimDesk$Plant;LAimDesk$Plan;)V"⟩, 3) := ⟨⟨by decide +kernel, by decide +kernel⟩, List.mem_of_getElem? (i := 87) (by decide +kernel), List.mem_of_getElem? (i := 344) (by decide +kernel), List.mem_of_getElem? (i := 345) (by decide +kernel)⟩
theorem lw_p26 : lw_okq (⟨"AimDesk$Plant", "placeNow", "()I"⟩, 11) := ⟨⟨by decide +kernel, by decide +kernel⟩, List.mem_of_getElem? (i := 35) (by decide +kernel), List.mem_of_getElem? (i := 348) (by decide +kernel), List.mem_of_getElem? (i := 349) (by decide +kernel)⟩
theorem lw_p27 : lw_okq (⟨"AimDesk$Planner", "widen", "(LAimDesk$Plant;I)Z"⟩, 3) := ⟨⟨by decide +kernel, by decide +kernel⟩, List.mem_of_getElem? (i := 87) (by decide +kernel), List.mem_of_getElem? (i := 353) (by decide +kernel), List.mem_of_getElem? (i := 354) (by decide +kernel)⟩
theorem lw_p28 : lw_okq (⟨"AimDesk$Planner", "markBeside", "(LAimDesk$Plant;II)Z"⟩, 3) := ⟨⟨by decide +kernel, by decide +kernel⟩, List.mem_of_getElem? (i := 87) (by decide +kernel), List.mem_of_getElem? (i := 357) (by decide +kernel), List.mem_of_getElem? (i := 358) (by decide +kernel)⟩
theorem lw_p29 : lw_okq (⟨"AimDesk$Planner", "noteMoves", "(LAimDesk$Plant;LAimDesk$Plan;I)V"⟩, 3) := ⟨⟨by decide +kernel, by decide +kernel⟩, List.mem_of_getElem? (i := 87) (by decide +kernel), List.mem_of_getElem? (i := 361) (by decide +kernel), List.mem_of_getElem? (i := 362) (by decide +kernel)⟩
theorem lw_p30 : lw_okq (⟨"AimDesk$Planner", "leastMove", "(LAimDesk$Plant;II)I"⟩, 3) := ⟨⟨by decide +kernel, by decide +kernel⟩, List.mem_of_getElem? (i := 87) (by decide +kernel), List.mem_of_getElem? (i := 366) (by decide +kernel), List.mem_of_getElem? (i := 367) (by decide +kernel)⟩
theorem lw_p31 : lw_okq (⟨"AimDesk$Plan", "moveAt", "(I)I"⟩, 7) := ⟨⟨by decide +kernel, by decide +kernel⟩, List.mem_of_getElem? (i := 93) (by decide +kernel), List.mem_of_getElem? (i := 371) (by decide +kernel), List.mem_of_getElem? (i := 372) (by decide +kernel)⟩
def lw_privs_2 : List (MethodName × Nat) := [(⟨"AimDesk$Plant", "light", "(II)I"⟩, 11), (⟨"AimDesk$Plant", "isSafe", "(I)Z"⟩, 11), (⟨"AimDesk$Plant", "isShaded", "(I)Z"⟩, 11), (⟨"AimDesk$Plant", "aimingAt", "(I)I"⟩, 11), (⟨"AimDesk$Planner", "planWithBest", "(LAimDesk$Plant;Z)LAimDesk$Plan;"⟩, 3), (⟨"AimDesk$Planner", "findBest", "(LAimDesk$Plant;LAimDesk$Plan;)V"⟩, 3), (⟨"AimDesk$Plant", "bound", "()I"⟩, 11), (⟨"AimDesk$Plant", "mostLight", "(I)I"⟩, 11), (⟨"AimDesk$Planner", "planWithChange", "(LAimDesk$Plant;Z)LAimDesk$Plan;"⟩, 3), (⟨"AimDesk$Planner", "findChange", "(LAimDesk$Plant;LAimDesk$Plan;)V"⟩, 3), (⟨"AimDesk$Plant", "placeNow", "()I"⟩, 11), (⟨"AimDesk$Planner", "widen", "(LAimDesk$Plant;I)Z"⟩, 3), (⟨"AimDesk$Planner", "markBeside", "(LAimDesk$Plant;II)Z"⟩, 3), (⟨"AimDesk$Planner", "noteMoves", "(LAimDesk$Plant;LAimDesk$Plan;I)V"⟩, 3), (⟨"AimDesk$Planner", "leastMove", "(LAimDesk$Plant;II)I"⟩, 3), (⟨"AimDesk$Plan", "moveAt", "(I)I"⟩, 7)]
theorem lw_r2 : ∀ q ∈ lw_privs_2, lw_okq q := List.forall_mem_cons.mpr ⟨lw_p16, List.forall_mem_cons.mpr ⟨lw_p17, List.forall_mem_cons.mpr ⟨lw_p18, List.forall_mem_cons.mpr ⟨lw_p19, List.forall_mem_cons.mpr ⟨lw_p20, List.forall_mem_cons.mpr ⟨lw_p21, List.forall_mem_cons.mpr ⟨lw_p22, List.forall_mem_cons.mpr ⟨lw_p23, List.forall_mem_cons.mpr ⟨lw_p24, List.forall_mem_cons.mpr ⟨lw_p25, List.forall_mem_cons.mpr ⟨lw_p26, List.forall_mem_cons.mpr ⟨lw_p27, List.forall_mem_cons.mpr ⟨lw_p28, List.forall_mem_cons.mpr ⟨lw_p29, List.forall_mem_cons.mpr ⟨lw_p30, List.forall_mem_cons.mpr ⟨lw_p31, fun _ h => absurd h List.not_mem_nil⟩⟩⟩⟩⟩⟩⟩⟩⟩⟩⟩⟩⟩⟩⟩⟩
theorem lw_p32 : lw_okq (⟨"AimDesk$Plant", "bestTrade", "()I"⟩, 11) := ⟨⟨by decide +kernel, by decide +kernel⟩, List.mem_of_getElem? (i := 35) (by decide +kernel), List.mem_of_getElem? (i := 383) (by decide +kernel), List.mem_of_getElem? (i := 384) (by decide +kernel)⟩
theorem lw_p33 : lw_okq (⟨"AimDesk$Plant", "heatsByTrade", "(II)I"⟩, 11) := ⟨⟨by decide +kernel, by decide +kernel⟩, List.mem_of_getElem? (i := 35) (by decide +kernel), List.mem_of_getElem? (i := 388) (by decide +kernel), List.mem_of_getElem? (i := 389) (by decide +kernel)⟩
theorem lw_p34 : lw_okq (⟨"AimDesk$Plant", "swapAims", "(II)V"⟩, 11) := ⟨⟨by decide +kernel, by decide +kernel⟩, List.mem_of_getElem? (i := 35) (by decide +kernel), List.mem_of_getElem? (i := 393) (by decide +kernel), List.mem_of_getElem? (i := 394) (by decide +kernel)⟩
theorem lw_p35 : lw_okq (⟨"AimDesk$Plant", "bestRelief", "()I"⟩, 11) := ⟨⟨by decide +kernel, by decide +kernel⟩, List.mem_of_getElem? (i := 35) (by decide +kernel), List.mem_of_getElem? (i := 403) (by decide +kernel), List.mem_of_getElem? (i := 404) (by decide +kernel)⟩
theorem lw_p36 : lw_okq (⟨"AimDesk", "digestOfParts", "(J)J"⟩, 5) := ⟨⟨by decide +kernel, by decide +kernel⟩, List.mem_of_getElem? (i := 11) (by decide +kernel), List.mem_of_getElem? (i := 422) (by decide +kernel), List.mem_of_getElem? (i := 423) (by decide +kernel)⟩
theorem lw_p37 : lw_okq (⟨"AimDeskModel", "rightLetters", "()I"⟩, 24) := ⟨⟨by decide +kernel, by decide +kernel⟩, List.mem_of_getElem? (i := 435) (by decide +kernel), List.mem_of_getElem? (i := 530) (by decide +kernel), List.mem_of_getElem? (i := 531) (by decide +kernel)⟩
theorem lw_p38 : lw_okq (⟨"AimDeskModel", "isRight", "(I)Z"⟩, 24) := ⟨⟨by decide +kernel, by decide +kernel⟩, List.mem_of_getElem? (i := 435) (by decide +kernel), List.mem_of_getElem? (i := 534) (by decide +kernel), List.mem_of_getElem? (i := 535) (by decide +kernel)⟩
theorem lw_p39 : lw_okq (⟨"AimDeskModel", "isPatch", "(I)Z"⟩, 24) := ⟨⟨by decide +kernel, by decide +kernel⟩, List.mem_of_getElem? (i := 435) (by decide +kernel), List.mem_of_getElem? (i := 546) (by decide +kernel), List.mem_of_getElem? (i := 547) (by decide +kernel)⟩
theorem lw_p40 : lw_okq (⟨"AimDeskModel", "isMirror", "(I)Z"⟩, 24) := ⟨⟨by decide +kernel, by decide +kernel⟩, List.mem_of_getElem? (i := 435) (by decide +kernel), List.mem_of_getElem? (i := 558) (by decide +kernel), List.mem_of_getElem? (i := 559) (by decide +kernel)⟩
theorem lw_p41 : lw_okq (⟨"AimDeskModel", "asTheyAre", "()V"⟩, 24) := ⟨⟨by decide +kernel, by decide +kernel⟩, List.mem_of_getElem? (i := 435) (by decide +kernel), List.mem_of_getElem? (i := 566) (by decide +kernel), List.mem_of_getElem? (i := 567) (by decide +kernel)⟩
theorem lw_p42 : lw_okq (⟨"AimDeskModel", "isGood", "(Z)Z"⟩, 24) := ⟨⟨by decide +kernel, by decide +kernel⟩, List.mem_of_getElem? (i := 435) (by decide +kernel), List.mem_of_getElem? (i := 573) (by decide +kernel), List.mem_of_getElem? (i := 574) (by decide +kernel)⟩
theorem lw_p43 : lw_okq (⟨"AimDeskModel", "heatAt", "(IZ)I"⟩, 24) := ⟨⟨by decide +kernel, by decide +kernel⟩, List.mem_of_getElem? (i := 435) (by decide +kernel), List.mem_of_getElem? (i := 577) (by decide +kernel), List.mem_of_getElem? (i := 578) (by decide +kernel)⟩
theorem lw_p44 : lw_okq (⟨"AimDeskModel", "gives", "(III)I"⟩, 24) := ⟨⟨by decide +kernel, by decide +kernel⟩, List.mem_of_getElem? (i := 435) (by decide +kernel), List.mem_of_getElem? (i := 581) (by decide +kernel), List.mem_of_getElem? (i := 582) (by decide +kernel)⟩
theorem lw_p45 : lw_okq (⟨"AimDeskModel", "ofMirror", "(II)I"⟩, 24) := ⟨⟨by decide +kernel, by decide +kernel⟩, List.mem_of_getElem? (i := 435) (by decide +kernel), List.mem_of_getElem? (i := 589) (by decide +kernel), List.mem_of_getElem? (i := 590) (by decide +kernel)⟩
theorem lw_p46 : lw_okq (⟨"AimDeskModel", "givesAll", "(II)I"⟩, 24) := ⟨⟨by decide +kernel, by decide +kernel⟩, List.mem_of_getElem? (i := 435) (by decide +kernel), List.mem_of_getElem? (i := 593) (by decide +kernel), List.mem_of_getElem? (i := 594) (by decide +kernel)⟩
theorem lw_p47 : lw_okq (⟨"AimDeskModel", "ofPatch", "(II)I"⟩, 24) := ⟨⟨by decide +kernel, by decide +kernel⟩, List.mem_of_getElem? (i := 435) (by decide +kernel), List.mem_of_getElem? (i := 601) (by decide +kernel), List.mem_of_getElem? (i := 602) (by decide +kernel)⟩
def lw_privs_3 : List (MethodName × Nat) := [(⟨"AimDesk$Plant", "bestTrade", "()I"⟩, 11), (⟨"AimDesk$Plant", "heatsByTrade", "(II)I"⟩, 11), (⟨"AimDesk$Plant", "swapAims", "(II)V"⟩, 11), (⟨"AimDesk$Plant", "bestRelief", "()I"⟩, 11), (⟨"AimDesk", "digestOfParts", "(J)J"⟩, 5), (⟨"AimDeskModel", "rightLetters", "()I"⟩, 24), (⟨"AimDeskModel", "isRight", "(I)Z"⟩, 24), (⟨"AimDeskModel", "isPatch", "(I)Z"⟩, 24), (⟨"AimDeskModel", "isMirror", "(I)Z"⟩, 24), (⟨"AimDeskModel", "asTheyAre", "()V"⟩, 24), (⟨"AimDeskModel", "isGood", "(Z)Z"⟩, 24), (⟨"AimDeskModel", "heatAt", "(IZ)I"⟩, 24), (⟨"AimDeskModel", "gives", "(III)I"⟩, 24), (⟨"AimDeskModel", "ofMirror", "(II)I"⟩, 24), (⟨"AimDeskModel", "givesAll", "(II)I"⟩, 24), (⟨"AimDeskModel", "ofPatch", "(II)I"⟩, 24)]
theorem lw_r3 : ∀ q ∈ lw_privs_3, lw_okq q := List.forall_mem_cons.mpr ⟨lw_p32, List.forall_mem_cons.mpr ⟨lw_p33, List.forall_mem_cons.mpr ⟨lw_p34, List.forall_mem_cons.mpr ⟨lw_p35, List.forall_mem_cons.mpr ⟨lw_p36, List.forall_mem_cons.mpr ⟨lw_p37, List.forall_mem_cons.mpr ⟨lw_p38, List.forall_mem_cons.mpr ⟨lw_p39, List.forall_mem_cons.mpr ⟨lw_p40, List.forall_mem_cons.mpr ⟨lw_p41, List.forall_mem_cons.mpr ⟨lw_p42, List.forall_mem_cons.mpr ⟨lw_p43, List.forall_mem_cons.mpr ⟨lw_p44, List.forall_mem_cons.mpr ⟨lw_p45, List.forall_mem_cons.mpr ⟨lw_p46, List.forall_mem_cons.mpr ⟨lw_p47, fun _ h => absurd h List.not_mem_nil⟩⟩⟩⟩⟩⟩⟩⟩⟩⟩⟩⟩⟩⟩⟩⟩
theorem lw_p48 : lw_okq (⟨"AimDeskModel", "aimedAt", "(I)I"⟩, 24) := ⟨⟨by decide +kernel, by decide +kernel⟩, List.mem_of_getElem? (i := 435) (by decide +kernel), List.mem_of_getElem? (i := 605) (by decide +kernel), List.mem_of_getElem? (i := 606) (by decide +kernel)⟩
theorem lw_p49 : lw_okq (⟨"AimDeskModel", "layBest", "(Z)V"⟩, 24) := ⟨⟨by decide +kernel, by decide +kernel⟩, List.mem_of_getElem? (i := 435) (by decide +kernel), List.mem_of_getElem? (i := 613) (by decide +kernel), List.mem_of_getElem? (i := 614) (by decide +kernel)⟩
theorem lw_p50 : lw_okq (⟨"AimDeskModel", "layCode", "(I)V"⟩, 24) := ⟨⟨by decide +kernel, by decide +kernel⟩, List.mem_of_getElem? (i := 435) (by decide +kernel), List.mem_of_getElem? (i := 617) (by decide +kernel), List.mem_of_getElem? (i := 618) (by decide +kernel)⟩
theorem lw_p51 : lw_okq (⟨"AimDeskModel", "areThere", "()Z"⟩, 24) := ⟨⟨by decide +kernel, by decide +kernel⟩, List.mem_of_getElem? (i := 435) (by decide +kernel), List.mem_of_getElem? (i := 621) (by decide +kernel), List.mem_of_getElem? (i := 622) (by decide +kernel)⟩
theorem lw_p52 : lw_okq (⟨"AimDeskModel", "caught", "()I"⟩, 24) := ⟨⟨by decide +kernel, by decide +kernel⟩, List.mem_of_getElem? (i := 435) (by decide +kernel), List.mem_of_getElem? (i := 625) (by decide +kernel), List.mem_of_getElem? (i := 626) (by decide +kernel)⟩
theorem lw_p53 : lw_okq (⟨"AimDeskModel", "bestNow", "(I)I"⟩, 24) := ⟨⟨by decide +kernel, by decide +kernel⟩, List.mem_of_getElem? (i := 435) (by decide +kernel), List.mem_of_getElem? (i := 629) (by decide +kernel), List.mem_of_getElem? (i := 630) (by decide +kernel)⟩
theorem lw_p54 : lw_okq (⟨"AimDeskModel", "boundNow", "()I"⟩, 24) := ⟨⟨by decide +kernel, by decide +kernel⟩, List.mem_of_getElem? (i := 435) (by decide +kernel), List.mem_of_getElem? (i := 633) (by decide +kernel), List.mem_of_getElem? (i := 634) (by decide +kernel)⟩
theorem lw_p55 : lw_okq (⟨"AimDeskModel", "layChange", "(Z)V"⟩, 24) := ⟨⟨by decide +kernel, by decide +kernel⟩, List.mem_of_getElem? (i := 435) (by decide +kernel), List.mem_of_getElem? (i := 641) (by decide +kernel), List.mem_of_getElem? (i := 642) (by decide +kernel)⟩
theorem lw_p56 : lw_okq (⟨"AimDeskModel", "layFar", "()V"⟩, 24) := ⟨⟨by decide +kernel, by decide +kernel⟩, List.mem_of_getElem? (i := 435) (by decide +kernel), List.mem_of_getElem? (i := 645) (by decide +kernel), List.mem_of_getElem? (i := 646) (by decide +kernel)⟩
theorem lw_p57 : lw_okq (⟨"AimDeskModel", "unitOf", "(I)I"⟩, 24) := ⟨⟨by decide +kernel, by decide +kernel⟩, List.mem_of_getElem? (i := 435) (by decide +kernel), List.mem_of_getElem? (i := 649) (by decide +kernel), List.mem_of_getElem? (i := 650) (by decide +kernel)⟩
theorem lw_p58 : lw_okq (⟨"AimDeskModel", "codeNow", "()I"⟩, 24) := ⟨⟨by decide +kernel, by decide +kernel⟩, List.mem_of_getElem? (i := 435) (by decide +kernel), List.mem_of_getElem? (i := 656) (by decide +kernel), List.mem_of_getElem? (i := 657) (by decide +kernel)⟩
theorem lw_p59 : lw_okq (⟨"AimDeskModel", "moveFrom", "(II)I"⟩, 24) := ⟨⟨by decide +kernel, by decide +kernel⟩, List.mem_of_getElem? (i := 435) (by decide +kernel), List.mem_of_getElem? (i := 660) (by decide +kernel), List.mem_of_getElem? (i := 661) (by decide +kernel)⟩
theorem lw_p60 : lw_okq (⟨"AimDeskModel", "moved", "(II)I"⟩, 24) := ⟨⟨by decide +kernel, by decide +kernel⟩, List.mem_of_getElem? (i := 435) (by decide +kernel), List.mem_of_getElem? (i := 664) (by decide +kernel), List.mem_of_getElem? (i := 665) (by decide +kernel)⟩
theorem lw_p61 : lw_okq (⟨"AimDeskModel", "changeNow", "(I)I"⟩, 24) := ⟨⟨by decide +kernel, by decide +kernel⟩, List.mem_of_getElem? (i := 435) (by decide +kernel), List.mem_of_getElem? (i := 668) (by decide +kernel), List.mem_of_getElem? (i := 669) (by decide +kernel)⟩
theorem lw_p62 : lw_okq (⟨"AimDeskModel", "layTrade", "()V"⟩, 24) := ⟨⟨by decide +kernel, by decide +kernel⟩, List.mem_of_getElem? (i := 435) (by decide +kernel), List.mem_of_getElem? (i := 680) (by decide +kernel), List.mem_of_getElem? (i := 681) (by decide +kernel)⟩
theorem lw_p63 : lw_okq (⟨"AimDeskModel", "tradeNow", "(I)I"⟩, 24) := ⟨⟨by decide +kernel, by decide +kernel⟩, List.mem_of_getElem? (i := 435) (by decide +kernel), List.mem_of_getElem? (i := 684) (by decide +kernel), List.mem_of_getElem? (i := 685) (by decide +kernel)⟩
def lw_privs_4 : List (MethodName × Nat) := [(⟨"AimDeskModel", "aimedAt", "(I)I"⟩, 24), (⟨"AimDeskModel", "layBest", "(Z)V"⟩, 24), (⟨"AimDeskModel", "layCode", "(I)V"⟩, 24), (⟨"AimDeskModel", "areThere", "()Z"⟩, 24), (⟨"AimDeskModel", "caught", "()I"⟩, 24), (⟨"AimDeskModel", "bestNow", "(I)I"⟩, 24), (⟨"AimDeskModel", "boundNow", "()I"⟩, 24), (⟨"AimDeskModel", "layChange", "(Z)V"⟩, 24), (⟨"AimDeskModel", "layFar", "()V"⟩, 24), (⟨"AimDeskModel", "unitOf", "(I)I"⟩, 24), (⟨"AimDeskModel", "codeNow", "()I"⟩, 24), (⟨"AimDeskModel", "moveFrom", "(II)I"⟩, 24), (⟨"AimDeskModel", "moved", "(II)I"⟩, 24), (⟨"AimDeskModel", "changeNow", "(I)I"⟩, 24), (⟨"AimDeskModel", "layTrade", "()V"⟩, 24), (⟨"AimDeskModel", "tradeNow", "(I)I"⟩, 24)]
theorem lw_r4 : ∀ q ∈ lw_privs_4, lw_okq q := List.forall_mem_cons.mpr ⟨lw_p48, List.forall_mem_cons.mpr ⟨lw_p49, List.forall_mem_cons.mpr ⟨lw_p50, List.forall_mem_cons.mpr ⟨lw_p51, List.forall_mem_cons.mpr ⟨lw_p52, List.forall_mem_cons.mpr ⟨lw_p53, List.forall_mem_cons.mpr ⟨lw_p54, List.forall_mem_cons.mpr ⟨lw_p55, List.forall_mem_cons.mpr ⟨lw_p56, List.forall_mem_cons.mpr ⟨lw_p57, List.forall_mem_cons.mpr ⟨lw_p58, List.forall_mem_cons.mpr ⟨lw_p59, List.forall_mem_cons.mpr ⟨lw_p60, List.forall_mem_cons.mpr ⟨lw_p61, List.forall_mem_cons.mpr ⟨lw_p62, List.forall_mem_cons.mpr ⟨lw_p63, fun _ h => absurd h List.not_mem_nil⟩⟩⟩⟩⟩⟩⟩⟩⟩⟩⟩⟩⟩⟩⟩⟩
theorem lw_p64 : lw_okq (⟨"AimDeskModel", "reliefNow", "()I"⟩, 24) := ⟨⟨by decide +kernel, by decide +kernel⟩, List.mem_of_getElem? (i := 435) (by decide +kernel), List.mem_of_getElem? (i := 692) (by decide +kernel), List.mem_of_getElem? (i := 693) (by decide +kernel)⟩
theorem lw_p65 : lw_okq (⟨"AimDeskModel", "howMany", "(I)I"⟩, 24) := ⟨⟨by decide +kernel, by decide +kernel⟩, List.mem_of_getElem? (i := 435) (by decide +kernel), List.mem_of_getElem? (i := 703) (by decide +kernel), List.mem_of_getElem? (i := 704) (by decide +kernel)⟩
theorem lw_p66 : lw_okq (⟨"AimDeskModel", "mix", "(J)V"⟩, 24) := ⟨⟨by decide +kernel, by decide +kernel⟩, List.mem_of_getElem? (i := 435) (by decide +kernel), List.mem_of_getElem? (i := 712) (by decide +kernel), List.mem_of_getElem? (i := 713) (by decide +kernel)⟩
theorem lw_p67 : lw_okq (⟨"AimDeskModel", "mixField", "()V"⟩, 24) := ⟨⟨by decide +kernel, by decide +kernel⟩, List.mem_of_getElem? (i := 435) (by decide +kernel), List.mem_of_getElem? (i := 717) (by decide +kernel), List.mem_of_getElem? (i := 718) (by decide +kernel)⟩
theorem lw_p68 : lw_okq (⟨"AimDeskModel", "mixPlans", "(Z)V"⟩, 24) := ⟨⟨by decide +kernel, by decide +kernel⟩, List.mem_of_getElem? (i := 435) (by decide +kernel), List.mem_of_getElem? (i := 721) (by decide +kernel), List.mem_of_getElem? (i := 722) (by decide +kernel)⟩
def lw_privs_5 : List (MethodName × Nat) := [(⟨"AimDeskModel", "reliefNow", "()I"⟩, 24), (⟨"AimDeskModel", "howMany", "(I)I"⟩, 24), (⟨"AimDeskModel", "mix", "(J)V"⟩, 24), (⟨"AimDeskModel", "mixField", "()V"⟩, 24), (⟨"AimDeskModel", "mixPlans", "(Z)V"⟩, 24)]
theorem lw_r5 : ∀ q ∈ lw_privs_5, lw_okq q := List.forall_mem_cons.mpr ⟨lw_p64, List.forall_mem_cons.mpr ⟨lw_p65, List.forall_mem_cons.mpr ⟨lw_p66, List.forall_mem_cons.mpr ⟨lw_p67, List.forall_mem_cons.mpr ⟨lw_p68, fun _ h => absurd h List.not_mem_nil⟩⟩⟩⟩⟩
def lw_privs : List (MethodName × Nat) := lw_privs_1 ++ (lw_privs_2 ++ (lw_privs_3 ++ (lw_privs_4 ++ (lw_privs_5))))
def lw_tbl : List Cond := k2_sels lw_privs ++ tables_1
theorem lw_privs_ok : ∀ q ∈ lw_privs, lw_okq q := by
  show ∀ q ∈ lw_privs_1 ++ (lw_privs_2 ++ (lw_privs_3 ++ (lw_privs_4 ++ (lw_privs_5)))), lw_okq q
  exact List.forall_mem_append.mpr ⟨lw_r1, List.forall_mem_append.mpr ⟨lw_r2, List.forall_mem_append.mpr ⟨lw_r3, List.forall_mem_append.mpr ⟨lw_r4, lw_r5⟩⟩⟩⟩
def RX0 : String := "AimDesk$Page"
def TX0 : u_T := fun k => match k with
  | 0 => ("AimDesk$Page", "codes", "[I", true)
  | _ => ("AimDesk$Page", "length", "I", false)
def tyX0 : Nat → FieldType := fun k => match k with
  | 0 => .array .int
  | _ => .int
abbrev wsX00 : List Cond := u_ws RX0 TX0 2
theorem nmX0 : ∀ a, a < 2 → ∀ b, b < 2 → a ≠ b → (TX0 a).2.1 ≠ (TX0 b).2.1 := by decide +kernel
theorem tyX0_ok : ∀ k, k < 2 → parseFieldDescriptor (TX0 k).2.2.1 = some (tyX0 k) := by decide +kernel
abbrev cX0_init : ByteArray := prog_2_method_1_code
def yX0_init : MethodName := ⟨RX0, "<init>", "()V"⟩
abbrev cX0_append : ByteArray := prog_2_method_2_code
def yX0_append : MethodName := ⟨RX0, "append", "(I)V"⟩
abbrev cX0_codeAt : ByteArray := prog_2_method_3_code
def yX0_codeAt : MethodName := ⟨RX0, "codeAt", "(I)I"⟩
abbrev cX0_figureAt : ByteArray := prog_2_method_4_code
def yX0_figureAt : MethodName := ⟨RX0, "figureAt", "(I)I"⟩
abbrev cX0_firstFault : ByteArray := prog_2_method_5_code
def yX0_firstFault : MethodName := ⟨RX0, "firstFault", "()I"⟩
abbrev cX0_fits : ByteArray := prog_2_method_6_code
def yX0_fits : MethodName := ⟨RX0, "fits", "(I)Z"⟩
abbrev cX0_isField : ByteArray := prog_2_method_7_code
def yX0_isField : MethodName := ⟨RX0, "isField", "()Z"⟩
def RX1 : String := "AimDesk$Plan"
def TX1 : u_T := fun k => match k with
  | 0 => ("AimDesk$Plan", "steady", "Z", true)
  | 1 => ("AimDesk$Plan", "firstMoves", "[I", true)
  | 2 => ("AimDesk$Plan", "bestKnown", "Z", false)
  | 3 => ("AimDesk$Plan", "changeKnown", "Z", false)
  | 4 => ("AimDesk$Plan", "caught", "I", false)
  | 5 => ("AimDesk$Plan", "place", "I", false)
  | _ => ("AimDesk$Plan", "moves", "I", false)
def tyX1 : Nat → FieldType := fun k => match k with
  | 0 => .boolean
  | 1 => .array .int
  | 2 => .boolean
  | 3 => .boolean
  | 4 => .int
  | 5 => .int
  | _ => .int
abbrev wsX10 : List Cond := u_ws RX1 TX1 7
theorem nmX1 : ∀ a, a < 7 → ∀ b, b < 7 → a ≠ b → (TX1 a).2.1 ≠ (TX1 b).2.1 := by decide +kernel
theorem tyX1_ok : ∀ k, k < 7 → parseFieldDescriptor (TX1 k).2.2.1 = some (tyX1 k) := by decide +kernel
abbrev cX1_init : ByteArray := prog_3_method_1_code
def yX1_init : MethodName := ⟨RX1, "<init>", "(Z)V"⟩
abbrev cX1_moveAt : ByteArray := prog_3_method_2_code
def yX1_moveAt : MethodName := ⟨RX1, "moveAt", "(I)I"⟩
def RX2 : String := "AimDesk$Planner"
def TX2 : u_T := fun k => match k with
  | 0 => ("AimDesk$Planner", "loosePlan", "LAimDesk$Plan;", true)
  | 1 => ("AimDesk$Planner", "steadyPlan", "LAimDesk$Plan;", true)
  | _ => ("AimDesk$Planner", "ways", "[I", true)
def tyX2 : Nat → FieldType := fun k => match k with
  | 0 => .object "AimDesk$Plan"
  | 1 => .object "AimDesk$Plan"
  | _ => .array .int
abbrev wsX20 : List Cond := u_ws RX2 TX2 3
theorem nmX2 : ∀ a, a < 3 → ∀ b, b < 3 → a ≠ b → (TX2 a).2.1 ≠ (TX2 b).2.1 := by decide +kernel
theorem tyX2_ok : ∀ k, k < 3 → parseFieldDescriptor (TX2 k).2.2.1 = some (tyX2 k) := by decide +kernel
abbrev cX2_init : ByteArray := prog_4_method_1_code
def yX2_init : MethodName := ⟨RX2, "<init>", "()V"⟩
abbrev cX2_forget : ByteArray := prog_4_method_2_code
def yX2_forget : MethodName := ⟨RX2, "forget", "()V"⟩
abbrev cX2_planWithBest : ByteArray := prog_4_method_3_code
def yX2_planWithBest : MethodName := ⟨RX2, "planWithBest", "(LAimDesk$Plant;Z)LAimDesk$Plan;"⟩
abbrev cX2_planWithChange : ByteArray := prog_4_method_4_code
def yX2_planWithChange : MethodName := ⟨RX2, "planWithChange", "(LAimDesk$Plant;Z)LAimDesk$Plan;"⟩
abbrev cX2_findBest : ByteArray := prog_4_method_5_code
def yX2_findBest : MethodName := ⟨RX2, "findBest", "(LAimDesk$Plant;LAimDesk$Plan;)V"⟩
abbrev cX2_openFrom : ByteArray := prog_4_method_6_code
def yX2_openFrom : MethodName := ⟨RX2, "openFrom", "(LAimDesk$Plant;LAimDesk$Plan;[IIIII)V"⟩
abbrev cX2_findChange : ByteArray := prog_4_method_7_code
def yX2_findChange : MethodName := ⟨RX2, "findChange", "(LAimDesk$Plant;LAimDesk$Plan;)V"⟩
abbrev cX2_widen : ByteArray := prog_4_method_8_code
def yX2_widen : MethodName := ⟨RX2, "widen", "(LAimDesk$Plant;I)Z"⟩
abbrev cX2_markBeside : ByteArray := prog_4_method_9_code
def yX2_markBeside : MethodName := ⟨RX2, "markBeside", "(LAimDesk$Plant;II)Z"⟩
abbrev cX2_noteMoves : ByteArray := prog_4_method_10_code
def yX2_noteMoves : MethodName := ⟨RX2, "noteMoves", "(LAimDesk$Plant;LAimDesk$Plan;I)V"⟩
abbrev cX2_leastMove : ByteArray := prog_4_method_11_code
def yX2_leastMove : MethodName := ⟨RX2, "leastMove", "(LAimDesk$Plant;II)I"⟩
def RX3 : String := "AimDesk$Plant"
def TX3 : u_T := fun k => match k with
  | 0 => ("AimDesk$Plant", "mirrors", "I", false)
  | 1 => ("AimDesk$Plant", "patches", "I", false)
  | 2 => ("AimDesk$Plant", "places", "I", false)
  | 3 => ("AimDesk$Plant", "shadedOnes", "I", false)
  | 4 => ("AimDesk$Plant", "stuckOnes", "I", false)
  | 5 => ("AimDesk$Plant", "slack", "I", false)
  | 6 => ("AimDesk$Plant", "middles", "[I", true)
  | 7 => ("AimDesk$Plant", "sides", "[I", true)
  | 8 => ("AimDesk$Plant", "aims", "[I", true)
  | 9 => ("AimDesk$Plant", "lights", "[I", true)
  | _ => ("AimDesk$Plant", "ceilings", "[I", true)
def tyX3 : Nat → FieldType := fun k => match k with
  | 0 => .int
  | 1 => .int
  | 2 => .int
  | 3 => .int
  | 4 => .int
  | 5 => .int
  | 6 => .array .int
  | 7 => .array .int
  | 8 => .array .int
  | 9 => .array .int
  | _ => .array .int
abbrev wsX30 : List Cond := u_ws RX3 TX3 11
theorem nmX3 : ∀ a, a < 11 → ∀ b, b < 11 → a ≠ b → (TX3 a).2.1 ≠ (TX3 b).2.1 := by decide +kernel
theorem tyX3_ok : ∀ k, k < 11 → parseFieldDescriptor (TX3 k).2.2.1 = some (tyX3 k) := by decide +kernel
abbrev cX3_init : ByteArray := prog_5_method_1_code
def yX3_init : MethodName := ⟨RX3, "<init>", "()V"⟩
abbrev cX3_isRead : ByteArray := prog_5_method_2_code
def yX3_isRead : MethodName := ⟨RX3, "isRead", "()Z"⟩
abbrev cX3_hasMirror : ByteArray := prog_5_method_3_code
def yX3_hasMirror : MethodName := ⟨RX3, "hasMirror", "(I)Z"⟩
abbrev cX3_hasPatch : ByteArray := prog_5_method_4_code
def yX3_hasPatch : MethodName := ⟨RX3, "hasPatch", "(I)Z"⟩
abbrev cX3_isShaded : ByteArray := prog_5_method_5_code
def yX3_isShaded : MethodName := ⟨RX3, "isShaded", "(I)Z"⟩
abbrev cX3_isStuck : ByteArray := prog_5_method_6_code
def yX3_isStuck : MethodName := ⟨RX3, "isStuck", "(I)Z"⟩
abbrev cX3_read : ByteArray := prog_5_method_7_code
def yX3_read : MethodName := ⟨RX3, "read", "(LAimDesk$Page;)V"⟩
abbrev cX3_lightOf : ByteArray := prog_5_method_8_code
def yX3_lightOf : MethodName := ⟨RX3, "lightOf", "(III)I"⟩
abbrev cX3_light : ByteArray := prog_5_method_9_code
def yX3_light : MethodName := ⟨RX3, "light", "(II)I"⟩
abbrev cX3_measureSlack : ByteArray := prog_5_method_10_code
def yX3_measureSlack : MethodName := ⟨RX3, "measureSlack", "()V"⟩
abbrev cX3_isSafe : ByteArray := prog_5_method_11_code
def yX3_isSafe : MethodName := ⟨RX3, "isSafe", "(I)Z"⟩
abbrev cX3_heats : ByteArray := prog_5_method_12_code
def yX3_heats : MethodName := ⟨RX3, "heats", "()I"⟩
abbrev cX3_heatsWithout : ByteArray := prog_5_method_13_code
def yX3_heatsWithout : MethodName := ⟨RX3, "heatsWithout", "(I)I"⟩
abbrev cX3_aimingAt : ByteArray := prog_5_method_14_code
def yX3_aimingAt : MethodName := ⟨RX3, "aimingAt", "(I)I"⟩
abbrev cX3_bound : ByteArray := prog_5_method_15_code
def yX3_bound : MethodName := ⟨RX3, "bound", "()I"⟩
abbrev cX3_mostLight : ByteArray := prog_5_method_16_code
def yX3_mostLight : MethodName := ⟨RX3, "mostLight", "(I)I"⟩
abbrev cX3_placeNow : ByteArray := prog_5_method_17_code
def yX3_placeNow : MethodName := ⟨RX3, "placeNow", "()I"⟩
abbrev cX3_bestTrade : ByteArray := prog_5_method_18_code
def yX3_bestTrade : MethodName := ⟨RX3, "bestTrade", "()I"⟩
abbrev cX3_heatsByTrade : ByteArray := prog_5_method_19_code
def yX3_heatsByTrade : MethodName := ⟨RX3, "heatsByTrade", "(II)I"⟩
abbrev cX3_swapAims : ByteArray := prog_5_method_20_code
def yX3_swapAims : MethodName := ⟨RX3, "swapAims", "(II)V"⟩
abbrev cX3_bestRelief : ByteArray := prog_5_method_21_code
def yX3_bestRelief : MethodName := ⟨RX3, "bestRelief", "()I"⟩
def RX4 : String := "AimDesk"
def TX4 : u_T := fun k => match k with
  | 0 => ("AimDesk", "page", "LAimDesk$Page;", true)
  | 1 => ("AimDesk", "plant", "LAimDesk$Plant;", true)
  | 2 => ("AimDesk", "planner", "LAimDesk$Planner;", true)
  | 3 => ("AimDesk", "fieldsRead", "I", false)
  | _ => ("AimDesk", "aimsGiven", "I", false)
def tyX4 : Nat → FieldType := fun k => match k with
  | 0 => .object "AimDesk$Page"
  | 1 => .object "AimDesk$Plant"
  | 2 => .object "AimDesk$Planner"
  | 3 => .int
  | _ => .int
abbrev wsX40 : List Cond := u_ws RX4 TX4 5
theorem nmX4 : ∀ a, a < 5 → ∀ b, b < 5 → a ≠ b → (TX4 a).2.1 ≠ (TX4 b).2.1 := by decide +kernel
theorem tyX4_ok : ∀ k, k < 5 → parseFieldDescriptor (TX4 k).2.2.1 = some (tyX4 k) := by decide +kernel
abbrev cX4_init : ByteArray := prog_1_method_1_code
def yX4_init : MethodName := ⟨RX4, "<init>", "()V"⟩
abbrev cX4_letter : ByteArray := prog_1_method_2_code
def yX4_letter : MethodName := ⟨RX4, "letter", "(I)I"⟩
abbrev cX4_blank : ByteArray := prog_1_method_3_code
def yX4_blank : MethodName := ⟨RX4, "blank", "()I"⟩
abbrev cX4_fault : ByteArray := prog_1_method_4_code
def yX4_fault : MethodName := ⟨RX4, "fault", "()I"⟩
abbrev cX4_field : ByteArray := prog_1_method_5_code
def yX4_field : MethodName := ⟨RX4, "field", "()I"⟩
abbrev cX4_ceiling : ByteArray := prog_1_method_6_code
def yX4_ceiling : MethodName := ⟨RX4, "ceiling", "(II)I"⟩
abbrev cX4_shade : ByteArray := prog_1_method_7_code
def yX4_shade : MethodName := ⟨RX4, "shade", "(I)I"⟩
abbrev cX4_stuck : ByteArray := prog_1_method_8_code
def yX4_stuck : MethodName := ⟨RX4, "stuck", "(IZ)I"⟩
abbrev cX4_aim : ByteArray := prog_1_method_9_code
def yX4_aim : MethodName := ⟨RX4, "aim", "(II)I"⟩
abbrev cX4_mirror : ByteArray := prog_1_method_10_code
def yX4_mirror : MethodName := ⟨RX4, "mirror", "(II)I"⟩
abbrev cX4_patch : ByteArray := prog_1_method_11_code
def yX4_patch : MethodName := ⟨RX4, "patch", "(II)I"⟩
abbrev cX4_best : ByteArray := prog_1_method_12_code
def yX4_best : MethodName := ⟨RX4, "best", "(ZI)I"⟩
abbrev cX4_change : ByteArray := prog_1_method_13_code
def yX4_change : MethodName := ⟨RX4, "change", "(ZI)I"⟩
abbrev cX4_go : ByteArray := prog_1_method_14_code
def yX4_go : MethodName := ⟨RX4, "go", "(Z)I"⟩
abbrev cX4_trade : ByteArray := prog_1_method_15_code
def yX4_trade : MethodName := ⟨RX4, "trade", "(I)I"⟩
abbrev cX4_relief : ByteArray := prog_1_method_16_code
def yX4_relief : MethodName := ⟨RX4, "relief", "()I"⟩
abbrev cX4_count : ByteArray := prog_1_method_17_code
def yX4_count : MethodName := ⟨RX4, "count", "(I)I"⟩
abbrev cX4_digest : ByteArray := prog_1_method_18_code
def yX4_digest : MethodName := ⟨RX4, "digest", "()J"⟩
abbrev cX4_digestOfParts : ByteArray := prog_1_method_19_code
def yX4_digestOfParts : MethodName := ⟨RX4, "digestOfParts", "(J)J"⟩
abbrev cX4_bit : ByteArray := prog_1_method_20_code
def yX4_bit : MethodName := ⟨RX4, "bit", "(II)I"⟩
abbrev cX4_heatOf : ByteArray := prog_1_method_21_code
def yX4_heatOf : MethodName := ⟨RX4, "heatOf", "(II)I"⟩
abbrev cX4_sum : ByteArray := prog_1_method_22_code
def yX4_sum : MethodName := ⟨RX4, "sum", "(I)I"⟩
abbrev cX4_aimIn : ByteArray := prog_1_method_23_code
def yX4_aimIn : MethodName := ⟨RX4, "aimIn", "(II)I"⟩
def RX5 : String := "AimDeskModel"
def TX5 : u_T := fun k => match k with
  | 0 => ("AimDeskModel", "pageLength", "I", false)
  | 1 => ("AimDeskModel", "page", "[I", true)
  | 2 => ("AimDeskModel", "mirrors", "I", false)
  | 3 => ("AimDeskModel", "patches", "I", false)
  | 4 => ("AimDeskModel", "middleOf", "[I", true)
  | 5 => ("AimDeskModel", "sideOf", "[I", true)
  | 6 => ("AimDeskModel", "aimOf", "[I", true)
  | 7 => ("AimDeskModel", "ceilingOf", "[I", true)
  | 8 => ("AimDeskModel", "shaded", "I", false)
  | 9 => ("AimDeskModel", "held", "I", false)
  | 10 => ("AimDeskModel", "fieldsRead", "I", false)
  | 11 => ("AimDeskModel", "given", "I", false)
  | 12 => ("AimDeskModel", "now", "[I", true)
  | 13 => ("AimDeskModel", "may", "[Z", true)
  | 14 => ("AimDeskModel", "far", "[I", true)
  | 15 => ("AimDeskModel", "bestCode", "I", false)
  | 16 => ("AimDeskModel", "bestCaught", "I", false)
  | 17 => ("AimDeskModel", "queue", "[I", true)
  | 18 => ("AimDeskModel", "changeMany", "I", false)
  | 19 => ("AimDeskModel", "moves", "[I", true)
  | 20 => ("AimDeskModel", "tradeGain", "I", false)
  | 21 => ("AimDeskModel", "tradeFirst", "I", false)
  | 22 => ("AimDeskModel", "tradeSecond", "I", false)
  | _ => ("AimDeskModel", "h", "J", false)
def tyX5 : Nat → FieldType := fun k => match k with
  | 0 => .int
  | 1 => .array .int
  | 2 => .int
  | 3 => .int
  | 4 => .array .int
  | 5 => .array .int
  | 6 => .array .int
  | 7 => .array .int
  | 8 => .int
  | 9 => .int
  | 10 => .int
  | 11 => .int
  | 12 => .array .int
  | 13 => .array .boolean
  | 14 => .array .int
  | 15 => .int
  | 16 => .int
  | 17 => .array .int
  | 18 => .int
  | 19 => .array .int
  | 20 => .int
  | 21 => .int
  | 22 => .int
  | _ => .long
abbrev wsX50 : List Cond := u_ws RX5 TX5 24
theorem nmX5 : ∀ a, a < 24 → ∀ b, b < 24 → a ≠ b → (TX5 a).2.1 ≠ (TX5 b).2.1 := by decide +kernel
theorem tyX5_ok : ∀ k, k < 24 → parseFieldDescriptor (TX5 k).2.2.1 = some (tyX5 k) := by decide +kernel
abbrev cX5_init : ByteArray := prog_7_method_1_code
def yX5_init : MethodName := ⟨RX5, "<init>", "()V"⟩
abbrev cX5_within : ByteArray := prog_7_method_3_code
def yX5_within : MethodName := ⟨RX5, "within", "(III)Z"⟩
abbrev cX5_has : ByteArray := prog_7_method_4_code
def yX5_has : MethodName := ⟨RX5, "has", "(II)Z"⟩
abbrev cX5_letter : ByteArray := prog_7_method_5_code
def yX5_letter : MethodName := ⟨RX5, "letter", "(I)I"⟩
abbrev cX5_blank : ByteArray := prog_7_method_6_code
def yX5_blank : MethodName := ⟨RX5, "blank", "()I"⟩
abbrev cX5_isRight : ByteArray := prog_7_method_7_code
def yX5_isRight : MethodName := ⟨RX5, "isRight", "(I)Z"⟩
abbrev cX5_rightLetters : ByteArray := prog_7_method_8_code
def yX5_rightLetters : MethodName := ⟨RX5, "rightLetters", "()I"⟩
abbrev cX5_fault : ByteArray := prog_7_method_9_code
def yX5_fault : MethodName := ⟨RX5, "fault", "()I"⟩
abbrev cX5_field : ByteArray := prog_7_method_10_code
def yX5_field : MethodName := ⟨RX5, "field", "()I"⟩
abbrev cX5_isMirror : ByteArray := prog_7_method_11_code
def yX5_isMirror : MethodName := ⟨RX5, "isMirror", "(I)Z"⟩
abbrev cX5_isPatch : ByteArray := prog_7_method_12_code
def yX5_isPatch : MethodName := ⟨RX5, "isPatch", "(I)Z"⟩
abbrev cX5_gives : ByteArray := prog_7_method_13_code
def yX5_gives : MethodName := ⟨RX5, "gives", "(III)I"⟩
abbrev cX5_givesAll : ByteArray := prog_7_method_14_code
def yX5_givesAll : MethodName := ⟨RX5, "givesAll", "(II)I"⟩
abbrev cX5_asTheyAre : ByteArray := prog_7_method_15_code
def yX5_asTheyAre : MethodName := ⟨RX5, "asTheyAre", "()V"⟩
abbrev cX5_heatAt : ByteArray := prog_7_method_16_code
def yX5_heatAt : MethodName := ⟨RX5, "heatAt", "(IZ)I"⟩
abbrev cX5_isGood : ByteArray := prog_7_method_17_code
def yX5_isGood : MethodName := ⟨RX5, "isGood", "(Z)Z"⟩
abbrev cX5_caught : ByteArray := prog_7_method_18_code
def yX5_caught : MethodName := ⟨RX5, "caught", "()I"⟩
abbrev cX5_ceiling : ByteArray := prog_7_method_19_code
def yX5_ceiling : MethodName := ⟨RX5, "ceiling", "(II)I"⟩
abbrev cX5_shade : ByteArray := prog_7_method_20_code
def yX5_shade : MethodName := ⟨RX5, "shade", "(I)I"⟩
abbrev cX5_stuck : ByteArray := prog_7_method_21_code
def yX5_stuck : MethodName := ⟨RX5, "stuck", "(IZ)I"⟩
abbrev cX5_aim : ByteArray := prog_7_method_22_code
def yX5_aim : MethodName := ⟨RX5, "aim", "(II)I"⟩
abbrev cX5_ofMirror : ByteArray := prog_7_method_23_code
def yX5_ofMirror : MethodName := ⟨RX5, "ofMirror", "(II)I"⟩
abbrev cX5_mirror : ByteArray := prog_7_method_24_code
def yX5_mirror : MethodName := ⟨RX5, "mirror", "(II)I"⟩
abbrev cX5_aimedAt : ByteArray := prog_7_method_25_code
def yX5_aimedAt : MethodName := ⟨RX5, "aimedAt", "(I)I"⟩
abbrev cX5_ofPatch : ByteArray := prog_7_method_26_code
def yX5_ofPatch : MethodName := ⟨RX5, "ofPatch", "(II)I"⟩
abbrev cX5_patch : ByteArray := prog_7_method_27_code
def yX5_patch : MethodName := ⟨RX5, "patch", "(II)I"⟩
abbrev cX5_unitOf : ByteArray := prog_7_method_28_code
def yX5_unitOf : MethodName := ⟨RX5, "unitOf", "(I)I"⟩
abbrev cX5_codeNow : ByteArray := prog_7_method_29_code
def yX5_codeNow : MethodName := ⟨RX5, "codeNow", "()I"⟩
abbrev cX5_layCode : ByteArray := prog_7_method_30_code
def yX5_layCode : MethodName := ⟨RX5, "layCode", "(I)V"⟩
abbrev cX5_areThere : ByteArray := prog_7_method_31_code
def yX5_areThere : MethodName := ⟨RX5, "areThere", "()Z"⟩
abbrev cX5_layBest : ByteArray := prog_7_method_32_code
def yX5_layBest : MethodName := ⟨RX5, "layBest", "(Z)V"⟩
abbrev cX5_boundNow : ByteArray := prog_7_method_33_code
def yX5_boundNow : MethodName := ⟨RX5, "boundNow", "()I"⟩
abbrev cX5_bestNow : ByteArray := prog_7_method_34_code
def yX5_bestNow : MethodName := ⟨RX5, "bestNow", "(I)I"⟩
abbrev cX5_best : ByteArray := prog_7_method_35_code
def yX5_best : MethodName := ⟨RX5, "best", "(ZI)I"⟩
abbrev cX5_figure : ByteArray := prog_7_method_36_code
def yX5_figure : MethodName := ⟨RX5, "figure", "(II)I"⟩
abbrev cX5_layFar : ByteArray := prog_7_method_37_code
def yX5_layFar : MethodName := ⟨RX5, "layFar", "()V"⟩
abbrev cX5_moveFrom : ByteArray := prog_7_method_38_code
def yX5_moveFrom : MethodName := ⟨RX5, "moveFrom", "(II)I"⟩
abbrev cX5_moved : ByteArray := prog_7_method_39_code
def yX5_moved : MethodName := ⟨RX5, "moved", "(II)I"⟩
abbrev cX5_layChange : ByteArray := prog_7_method_40_code
def yX5_layChange : MethodName := ⟨RX5, "layChange", "(Z)V"⟩
abbrev cX5_changeNow : ByteArray := prog_7_method_41_code
def yX5_changeNow : MethodName := ⟨RX5, "changeNow", "(I)I"⟩
abbrev cX5_change : ByteArray := prog_7_method_42_code
def yX5_change : MethodName := ⟨RX5, "change", "(ZI)I"⟩
abbrev cX5_go : ByteArray := prog_7_method_43_code
def yX5_go : MethodName := ⟨RX5, "go", "(Z)I"⟩
abbrev cX5_layTrade : ByteArray := prog_7_method_44_code
def yX5_layTrade : MethodName := ⟨RX5, "layTrade", "()V"⟩
abbrev cX5_tradeNow : ByteArray := prog_7_method_45_code
def yX5_tradeNow : MethodName := ⟨RX5, "tradeNow", "(I)I"⟩
abbrev cX5_trade : ByteArray := prog_7_method_46_code
def yX5_trade : MethodName := ⟨RX5, "trade", "(I)I"⟩
abbrev cX5_ones : ByteArray := prog_7_method_47_code
def yX5_ones : MethodName := ⟨RX5, "ones", "(I)I"⟩
abbrev cX5_reliefNow : ByteArray := prog_7_method_48_code
def yX5_reliefNow : MethodName := ⟨RX5, "reliefNow", "()I"⟩
abbrev cX5_relief : ByteArray := prog_7_method_49_code
def yX5_relief : MethodName := ⟨RX5, "relief", "()I"⟩
abbrev cX5_howMany : ByteArray := prog_7_method_50_code
def yX5_howMany : MethodName := ⟨RX5, "howMany", "(I)I"⟩
abbrev cX5_count : ByteArray := prog_7_method_51_code
def yX5_count : MethodName := ⟨RX5, "count", "(I)I"⟩
abbrev cX5_mix : ByteArray := prog_7_method_52_code
def yX5_mix : MethodName := ⟨RX5, "mix", "(J)V"⟩
abbrev cX5_mixPlans : ByteArray := prog_7_method_53_code
def yX5_mixPlans : MethodName := ⟨RX5, "mixPlans", "(Z)V"⟩
abbrev cX5_mixField : ByteArray := prog_7_method_54_code
def yX5_mixField : MethodName := ⟨RX5, "mixField", "()V"⟩
abbrev cX5_digest : ByteArray := prog_7_method_55_code
def yX5_digest : MethodName := ⟨RX5, "digest", "()J"⟩
def RJ6 : String := "java/lang/Integer"
def TJ6 : u_T := fun k => match k with
  | _ => ("", "", "", false)
def tyJ6 : Nat → FieldType := fun k => match k with
  | _ => .int
abbrev wsJ60 : List Cond := u_ws RJ6 TJ6 0
theorem nmJ6 : ∀ a, a < 0 → ∀ b, b < 0 → a ≠ b → (TJ6 a).2.1 ≠ (TJ6 b).2.1 := by decide +kernel
theorem tyJ6_ok : ∀ k, k < 0 → parseFieldDescriptor (TJ6 k).2.2.1 = some (tyJ6 k) := by decide +kernel
abbrev cJ6_bitCount_0f7a4 : ByteArray := prog_8_method_49_code
def yJ6_bitCount_0f7a4 : MethodName := ⟨RJ6, "bitCount", "(I)I"⟩
def RJ9 : String := "java/lang/Math"
def TJ9 : u_T := fun k => match k with
  | _ => ("", "", "", false)
def tyJ9 : Nat → FieldType := fun k => match k with
  | _ => .int
abbrev wsJ90 : List Cond := u_ws RJ9 TJ9 0
theorem nmJ9 : ∀ a, a < 0 → ∀ b, b < 0 → a ≠ b → (TJ9 a).2.1 ≠ (TJ9 b).2.1 := by decide +kernel
theorem tyJ9_ok : ∀ k, k < 0 → parseFieldDescriptor (TJ9 k).2.2.1 = some (tyJ9 k) := by decide +kernel
abbrev cJ9_max_7cf53 : ByteArray := prog_9_method_65_code
def yJ9_max_7cf53 : MethodName := ⟨RJ9, "max", "(II)I"⟩
abbrev cJ9_min_7cf53 : ByteArray := prog_9_method_69_code
def yJ9_min_7cf53 : MethodName := ⟨RJ9, "min", "(II)I"⟩
def RJ7 : String := "java/util/Arrays"
def TJ7 : u_T := fun k => match k with
  | _ => ("", "", "", false)
def tyJ7 : Nat → FieldType := fun k => match k with
  | _ => .int
abbrev wsJ70 : List Cond := u_ws RJ7 TJ7 0
theorem nmJ7 : ∀ a, a < 0 → ∀ b, b < 0 → a ≠ b → (TJ7 a).2.1 ≠ (TJ7 b).2.1 := by decide +kernel
theorem tyJ7_ok : ∀ k, k < 0 → parseFieldDescriptor (TJ7 k).2.2.1 = some (tyJ7 k) := by decide +kernel
abbrev cJ7_fill_53178 : ByteArray := prog_10_method_103_code
def yJ7_fill_53178 : MethodName := ⟨RJ7, "fill", "([II)V"⟩
def RL : String := "AimDeskLaw"
abbrev cL_law : ByteArray := code
def yL_law : MethodName := ⟨RL, "law", "([I)Z"⟩
abbrev vwCl : List vw_C := [(RX0, TX0, 2), (RX1, TX1, 7), (RX2, TX2, 3), (RX3, TX3, 11), (RX4, TX4, 5), (RX5, TX5, 24)]
end
section
theorem dX0_init_0 : decode cX0_init 0 = .ok (.aload_n 0, 1) := by decide +kernel
theorem dX0_init_1 : decode cX0_init 1 = .ok (.invokespecial 3, 3) := by decide +kernel
theorem dX0_init_4 : decode cX0_init 4 = .ok (.aload_n 0, 1) := by decide +kernel
theorem dX0_init_5 : decode cX0_init 5 = .ok (.bipush 21, 2) := by decide +kernel
theorem dX0_init_7 : decode cX0_init 7 = .ok (.newarray .int, 2) := by decide +kernel
theorem dX0_init_9 : decode cX0_init 9 = .ok (.putfield 9, 3) := by decide +kernel
theorem dX0_init_12 : decode cX0_init 12 = .ok (.return_, 1) := by decide +kernel
theorem dX0_append_0 : decode cX0_append 0 = .ok (.aload_n 0, 1) := by decide +kernel
theorem dX0_append_1 : decode cX0_append 1 = .ok (.getfield 15, 3) := by decide +kernel
theorem dX0_append_4 : decode cX0_append 4 = .ok (.aload_n 0, 1) := by decide +kernel
theorem dX0_append_5 : decode cX0_append 5 = .ok (.getfield 9, 3) := by decide +kernel
theorem dX0_append_8 : decode cX0_append 8 = .ok (.arraylength, 1) := by decide +kernel
theorem dX0_append_9 : decode cX0_append 9 = .ok (.if_icmp .ge 23, 3) := by decide +kernel
theorem dX0_append_12 : decode cX0_append 12 = .ok (.aload_n 0, 1) := by decide +kernel
theorem dX0_append_13 : decode cX0_append 13 = .ok (.getfield 9, 3) := by decide +kernel
theorem dX0_append_16 : decode cX0_append 16 = .ok (.aload_n 0, 1) := by decide +kernel
theorem dX0_append_17 : decode cX0_append 17 = .ok (.getfield 15, 3) := by decide +kernel
theorem dX0_append_20 : decode cX0_append 20 = .ok (.iload_n 1, 1) := by decide +kernel
theorem dX0_append_21 : decode cX0_append 21 = .ok (.iastore, 1) := by decide +kernel
theorem dX0_append_22 : decode cX0_append 22 = .ok (.aload_n 0, 1) := by decide +kernel
theorem dX0_append_23 : decode cX0_append 23 = .ok (.dup, 1) := by decide +kernel
theorem dX0_append_24 : decode cX0_append 24 = .ok (.getfield 15, 3) := by decide +kernel
theorem dX0_append_27 : decode cX0_append 27 = .ok (.iconst 1, 1) := by decide +kernel
theorem dX0_append_28 : decode cX0_append 28 = .ok (.iadd, 1) := by decide +kernel
theorem dX0_append_29 : decode cX0_append 29 = .ok (.putfield 15, 3) := by decide +kernel
theorem dX0_append_32 : decode cX0_append 32 = .ok (.return_, 1) := by decide +kernel
theorem dX0_codeAt_0 : decode cX0_codeAt 0 = .ok (.iload_n 1, 1) := by decide +kernel
theorem dX0_codeAt_1 : decode cX0_codeAt 1 = .ok (.ifCond .lt 20, 3) := by decide +kernel
theorem dX0_codeAt_4 : decode cX0_codeAt 4 = .ok (.iload_n 1, 1) := by decide +kernel
theorem dX0_codeAt_5 : decode cX0_codeAt 5 = .ok (.aload_n 0, 1) := by decide +kernel
theorem dX0_codeAt_6 : decode cX0_codeAt 6 = .ok (.getfield 15, 3) := by decide +kernel
theorem dX0_codeAt_9 : decode cX0_codeAt 9 = .ok (.if_icmp .ge 12, 3) := by decide +kernel
theorem dX0_codeAt_12 : decode cX0_codeAt 12 = .ok (.aload_n 0, 1) := by decide +kernel
theorem dX0_codeAt_13 : decode cX0_codeAt 13 = .ok (.getfield 9, 3) := by decide +kernel
theorem dX0_codeAt_16 : decode cX0_codeAt 16 = .ok (.iload_n 1, 1) := by decide +kernel
theorem dX0_codeAt_17 : decode cX0_codeAt 17 = .ok (.iaload, 1) := by decide +kernel
theorem dX0_codeAt_18 : decode cX0_codeAt 18 = .ok (.goto 6, 3) := by decide +kernel
theorem dX0_codeAt_21 : decode cX0_codeAt 21 = .ok (.sipush (-1001), 3) := by decide +kernel
theorem dX0_codeAt_24 : decode cX0_codeAt 24 = .ok (.ireturn, 1) := by decide +kernel
theorem dX0_figureAt_0 : decode cX0_figureAt 0 = .ok (.aload_n 0, 1) := by decide +kernel
theorem dX0_figureAt_1 : decode cX0_figureAt 1 = .ok (.iload_n 1, 1) := by decide +kernel
theorem dX0_figureAt_2 : decode cX0_figureAt 2 = .ok (.invokevirtual 19, 3) := by decide +kernel
theorem dX0_figureAt_5 : decode cX0_figureAt 5 = .ok (.bipush 48, 2) := by decide +kernel
theorem dX0_figureAt_7 : decode cX0_figureAt 7 = .ok (.isub, 1) := by decide +kernel
theorem dX0_figureAt_8 : decode cX0_figureAt 8 = .ok (.ireturn, 1) := by decide +kernel
theorem dX0_firstFault_0 : decode cX0_firstFault 0 = .ok (.iconst 0, 1) := by decide +kernel
theorem dX0_firstFault_1 : decode cX0_firstFault 1 = .ok (.istore_n 1, 1) := by decide +kernel
theorem dX0_firstFault_2 : decode cX0_firstFault 2 = .ok (.iload_n 1, 1) := by decide +kernel
theorem dX0_firstFault_3 : decode cX0_firstFault 3 = .ok (.aload_n 0, 1) := by decide +kernel
theorem dX0_firstFault_4 : decode cX0_firstFault 4 = .ok (.getfield 15, 3) := by decide +kernel
theorem dX0_firstFault_7 : decode cX0_firstFault 7 = .ok (.if_icmp .ge 17, 3) := by decide +kernel
theorem dX0_firstFault_10 : decode cX0_firstFault 10 = .ok (.aload_n 0, 1) := by decide +kernel
theorem dX0_firstFault_11 : decode cX0_firstFault 11 = .ok (.iload_n 1, 1) := by decide +kernel
theorem dX0_firstFault_12 : decode cX0_firstFault 12 = .ok (.invokevirtual 23, 3) := by decide +kernel
theorem dX0_firstFault_15 : decode cX0_firstFault 15 = .ok (.ifCond .eq 9, 3) := by decide +kernel
theorem dX0_firstFault_18 : decode cX0_firstFault 18 = .ok (.iinc 1 1, 3) := by decide +kernel
theorem dX0_firstFault_21 : decode cX0_firstFault 21 = .ok (.goto (-19), 3) := by decide +kernel
theorem dX0_firstFault_24 : decode cX0_firstFault 24 = .ok (.iload_n 1, 1) := by decide +kernel
theorem dX0_firstFault_25 : decode cX0_firstFault 25 = .ok (.ireturn, 1) := by decide +kernel
theorem dX0_fits_0 : decode cX0_fits 0 = .ok (.aload_n 0, 1) := by decide +kernel
theorem dX0_fits_1 : decode cX0_fits 1 = .ok (.iload_n 1, 1) := by decide +kernel
theorem dX0_fits_2 : decode cX0_fits 2 = .ok (.invokevirtual 19, 3) := by decide +kernel
theorem dX0_fits_5 : decode cX0_fits 5 = .ok (.istore_n 2, 1) := by decide +kernel
theorem dX0_fits_6 : decode cX0_fits 6 = .ok (.iload_n 1, 1) := by decide +kernel
theorem dX0_fits_7 : decode cX0_fits 7 = .ok (.ifCond .ne 21, 3) := by decide +kernel
theorem dX0_fits_10 : decode cX0_fits 10 = .ok (.iload_n 2, 1) := by decide +kernel
theorem dX0_fits_11 : decode cX0_fits 11 = .ok (.bipush 49, 2) := by decide +kernel
theorem dX0_fits_13 : decode cX0_fits 13 = .ok (.if_icmp .lt 13, 3) := by decide +kernel
theorem dX0_fits_16 : decode cX0_fits 16 = .ok (.iload_n 2, 1) := by decide +kernel
theorem dX0_fits_17 : decode cX0_fits 17 = .ok (.bipush 52, 2) := by decide +kernel
theorem dX0_fits_19 : decode cX0_fits 19 = .ok (.if_icmp .gt 7, 3) := by decide +kernel
theorem dX0_fits_22 : decode cX0_fits 22 = .ok (.iconst 1, 1) := by decide +kernel
theorem dX0_fits_23 : decode cX0_fits 23 = .ok (.goto 4, 3) := by decide +kernel
theorem dX0_fits_26 : decode cX0_fits 26 = .ok (.iconst 0, 1) := by decide +kernel
theorem dX0_fits_27 : decode cX0_fits 27 = .ok (.ireturn, 1) := by decide +kernel
theorem dX0_fits_28 : decode cX0_fits 28 = .ok (.iload_n 1, 1) := by decide +kernel
theorem dX0_fits_29 : decode cX0_fits 29 = .ok (.iconst 4, 1) := by decide +kernel
theorem dX0_fits_30 : decode cX0_fits 30 = .ok (.irem, 1) := by decide +kernel
theorem dX0_fits_31 : decode cX0_fits 31 = .ok (.tableswitch 67 1 3 #[25, 37, 55], 25) := by decide +kernel
theorem dX0_fits_56 : decode cX0_fits 56 = .ok (.iload_n 2, 1) := by decide +kernel
theorem dX0_fits_57 : decode cX0_fits 57 = .ok (.bipush 59, 2) := by decide +kernel
theorem dX0_fits_59 : decode cX0_fits 59 = .ok (.if_icmp .ne 7, 3) := by decide +kernel
theorem dX0_fits_62 : decode cX0_fits 62 = .ok (.iconst 1, 1) := by decide +kernel
theorem dX0_fits_63 : decode cX0_fits 63 = .ok (.goto 4, 3) := by decide +kernel
theorem dX0_fits_66 : decode cX0_fits 66 = .ok (.iconst 0, 1) := by decide +kernel
theorem dX0_fits_67 : decode cX0_fits 67 = .ok (.ireturn, 1) := by decide +kernel
theorem dX0_fits_68 : decode cX0_fits 68 = .ok (.iload_n 2, 1) := by decide +kernel
theorem dX0_fits_69 : decode cX0_fits 69 = .ok (.bipush 49, 2) := by decide +kernel
theorem dX0_fits_71 : decode cX0_fits 71 = .ok (.if_icmp .lt 13, 3) := by decide +kernel
theorem dX0_fits_74 : decode cX0_fits 74 = .ok (.iload_n 2, 1) := by decide +kernel
theorem dX0_fits_75 : decode cX0_fits 75 = .ok (.bipush 57, 2) := by decide +kernel
theorem dX0_fits_77 : decode cX0_fits 77 = .ok (.if_icmp .gt 7, 3) := by decide +kernel
theorem dX0_fits_80 : decode cX0_fits 80 = .ok (.iconst 1, 1) := by decide +kernel
theorem dX0_fits_81 : decode cX0_fits 81 = .ok (.goto 4, 3) := by decide +kernel
theorem dX0_fits_84 : decode cX0_fits 84 = .ok (.iconst 0, 1) := by decide +kernel
theorem dX0_fits_85 : decode cX0_fits 85 = .ok (.ireturn, 1) := by decide +kernel
theorem dX0_fits_86 : decode cX0_fits 86 = .ok (.iload_n 2, 1) := by decide +kernel
theorem dX0_fits_87 : decode cX0_fits 87 = .ok (.bipush 44, 2) := by decide +kernel
theorem dX0_fits_89 : decode cX0_fits 89 = .ok (.if_icmp .ne 7, 3) := by decide +kernel
theorem dX0_fits_92 : decode cX0_fits 92 = .ok (.iconst 1, 1) := by decide +kernel
theorem dX0_fits_93 : decode cX0_fits 93 = .ok (.goto 4, 3) := by decide +kernel
theorem dX0_fits_96 : decode cX0_fits 96 = .ok (.iconst 0, 1) := by decide +kernel
theorem dX0_fits_97 : decode cX0_fits 97 = .ok (.ireturn, 1) := by decide +kernel
theorem dX0_fits_98 : decode cX0_fits 98 = .ok (.iload_n 2, 1) := by decide +kernel
theorem dX0_fits_99 : decode cX0_fits 99 = .ok (.bipush 48, 2) := by decide +kernel
theorem dX0_fits_101 : decode cX0_fits 101 = .ok (.if_icmp .lt 13, 3) := by decide +kernel
theorem dX0_fits_104 : decode cX0_fits 104 = .ok (.iload_n 2, 1) := by decide +kernel
theorem dX0_fits_105 : decode cX0_fits 105 = .ok (.bipush 57, 2) := by decide +kernel
theorem dX0_fits_107 : decode cX0_fits 107 = .ok (.if_icmp .gt 7, 3) := by decide +kernel
theorem dX0_fits_110 : decode cX0_fits 110 = .ok (.iconst 1, 1) := by decide +kernel
theorem dX0_fits_111 : decode cX0_fits 111 = .ok (.goto 4, 3) := by decide +kernel
theorem dX0_fits_114 : decode cX0_fits 114 = .ok (.iconst 0, 1) := by decide +kernel
theorem dX0_fits_115 : decode cX0_fits 115 = .ok (.ireturn, 1) := by decide +kernel
theorem dX0_isField_0 : decode cX0_isField 0 = .ok (.aload_n 0, 1) := by decide +kernel
theorem dX0_isField_1 : decode cX0_isField 1 = .ok (.getfield 15, 3) := by decide +kernel
theorem dX0_isField_4 : decode cX0_isField 4 = .ok (.iconst 1, 1) := by decide +kernel
theorem dX0_isField_5 : decode cX0_isField 5 = .ok (.if_icmp .le 28, 3) := by decide +kernel
theorem dX0_isField_8 : decode cX0_isField 8 = .ok (.aload_n 0, 1) := by decide +kernel
theorem dX0_isField_9 : decode cX0_isField 9 = .ok (.getfield 15, 3) := by decide +kernel
theorem dX0_isField_12 : decode cX0_isField 12 = .ok (.iconst 4, 1) := by decide +kernel
theorem dX0_isField_13 : decode cX0_isField 13 = .ok (.irem, 1) := by decide +kernel
theorem dX0_isField_14 : decode cX0_isField 14 = .ok (.iconst 1, 1) := by decide +kernel
theorem dX0_isField_15 : decode cX0_isField 15 = .ok (.if_icmp .ne 18, 3) := by decide +kernel
theorem dX0_isField_18 : decode cX0_isField 18 = .ok (.aload_n 0, 1) := by decide +kernel
theorem dX0_isField_19 : decode cX0_isField 19 = .ok (.invokevirtual 27, 3) := by decide +kernel
theorem dX0_isField_22 : decode cX0_isField 22 = .ok (.aload_n 0, 1) := by decide +kernel
theorem dX0_isField_23 : decode cX0_isField 23 = .ok (.getfield 15, 3) := by decide +kernel
theorem dX0_isField_26 : decode cX0_isField 26 = .ok (.if_icmp .ne 7, 3) := by decide +kernel
theorem dX0_isField_29 : decode cX0_isField 29 = .ok (.iconst 1, 1) := by decide +kernel
theorem dX0_isField_30 : decode cX0_isField 30 = .ok (.goto 4, 3) := by decide +kernel
theorem dX0_isField_33 : decode cX0_isField 33 = .ok (.iconst 0, 1) := by decide +kernel
theorem dX0_isField_34 : decode cX0_isField 34 = .ok (.ireturn, 1) := by decide +kernel
theorem dX1_init_0 : decode cX1_init 0 = .ok (.aload_n 0, 1) := by decide +kernel
theorem dX1_init_1 : decode cX1_init 1 = .ok (.invokespecial 3, 3) := by decide +kernel
theorem dX1_init_4 : decode cX1_init 4 = .ok (.aload_n 0, 1) := by decide +kernel
theorem dX1_init_5 : decode cX1_init 5 = .ok (.bipush 15, 2) := by decide +kernel
theorem dX1_init_7 : decode cX1_init 7 = .ok (.newarray .int, 2) := by decide +kernel
theorem dX1_init_9 : decode cX1_init 9 = .ok (.putfield 9, 3) := by decide +kernel
theorem dX1_init_12 : decode cX1_init 12 = .ok (.aload_n 0, 1) := by decide +kernel
theorem dX1_init_13 : decode cX1_init 13 = .ok (.iload_n 1, 1) := by decide +kernel
theorem dX1_init_14 : decode cX1_init 14 = .ok (.putfield 15, 3) := by decide +kernel
theorem dX1_init_17 : decode cX1_init 17 = .ok (.return_, 1) := by decide +kernel
theorem dX1_moveAt_0 : decode cX1_moveAt 0 = .ok (.iload_n 1, 1) := by decide +kernel
theorem dX1_moveAt_1 : decode cX1_moveAt 1 = .ok (.ifCond .lt 29, 3) := by decide +kernel
theorem dX1_moveAt_4 : decode cX1_moveAt 4 = .ok (.iload_n 1, 1) := by decide +kernel
theorem dX1_moveAt_5 : decode cX1_moveAt 5 = .ok (.aload_n 0, 1) := by decide +kernel
theorem dX1_moveAt_6 : decode cX1_moveAt 6 = .ok (.getfield 19, 3) := by decide +kernel
theorem dX1_moveAt_9 : decode cX1_moveAt 9 = .ok (.if_icmp .ge 21, 3) := by decide +kernel
theorem dX1_moveAt_12 : decode cX1_moveAt 12 = .ok (.iload_n 1, 1) := by decide +kernel
theorem dX1_moveAt_13 : decode cX1_moveAt 13 = .ok (.aload_n 0, 1) := by decide +kernel
theorem dX1_moveAt_14 : decode cX1_moveAt 14 = .ok (.getfield 9, 3) := by decide +kernel
theorem dX1_moveAt_17 : decode cX1_moveAt 17 = .ok (.arraylength, 1) := by decide +kernel
theorem dX1_moveAt_18 : decode cX1_moveAt 18 = .ok (.if_icmp .ge 12, 3) := by decide +kernel
theorem dX1_moveAt_21 : decode cX1_moveAt 21 = .ok (.aload_n 0, 1) := by decide +kernel
theorem dX1_moveAt_22 : decode cX1_moveAt 22 = .ok (.getfield 9, 3) := by decide +kernel
theorem dX1_moveAt_25 : decode cX1_moveAt 25 = .ok (.iload_n 1, 1) := by decide +kernel
theorem dX1_moveAt_26 : decode cX1_moveAt 26 = .ok (.iaload, 1) := by decide +kernel
theorem dX1_moveAt_27 : decode cX1_moveAt 27 = .ok (.goto 6, 3) := by decide +kernel
theorem dX1_moveAt_30 : decode cX1_moveAt 30 = .ok (.sipush (-1001), 3) := by decide +kernel
theorem dX1_moveAt_33 : decode cX1_moveAt 33 = .ok (.ireturn, 1) := by decide +kernel
theorem dX2_init_0 : decode cX2_init 0 = .ok (.aload_n 0, 1) := by decide +kernel
theorem dX2_init_1 : decode cX2_init 1 = .ok (.invokespecial 3, 3) := by decide +kernel
theorem dX2_init_4 : decode cX2_init 4 = .ok (.aload_n 0, 1) := by decide +kernel
theorem dX2_init_5 : decode cX2_init 5 = .ok (.new 9, 3) := by decide +kernel
theorem dX2_init_8 : decode cX2_init 8 = .ok (.dup, 1) := by decide +kernel
theorem dX2_init_9 : decode cX2_init 9 = .ok (.iconst 0, 1) := by decide +kernel
theorem dX2_init_10 : decode cX2_init 10 = .ok (.invokespecial 11, 3) := by decide +kernel
theorem dX2_init_13 : decode cX2_init 13 = .ok (.putfield 14, 3) := by decide +kernel
theorem dX2_init_16 : decode cX2_init 16 = .ok (.aload_n 0, 1) := by decide +kernel
theorem dX2_init_17 : decode cX2_init 17 = .ok (.new 9, 3) := by decide +kernel
theorem dX2_init_20 : decode cX2_init 20 = .ok (.dup, 1) := by decide +kernel
theorem dX2_init_21 : decode cX2_init 21 = .ok (.iconst 1, 1) := by decide +kernel
theorem dX2_init_22 : decode cX2_init 22 = .ok (.invokespecial 11, 3) := by decide +kernel
theorem dX2_init_25 : decode cX2_init 25 = .ok (.putfield 20, 3) := by decide +kernel
theorem dX2_init_28 : decode cX2_init 28 = .ok (.aload_n 0, 1) := by decide +kernel
theorem dX2_init_29 : decode cX2_init 29 = .ok (.sipush 3125, 3) := by decide +kernel
theorem dX2_init_32 : decode cX2_init 32 = .ok (.newarray .int, 2) := by decide +kernel
theorem dX2_init_34 : decode cX2_init 34 = .ok (.putfield 23, 3) := by decide +kernel
theorem dX2_init_37 : decode cX2_init 37 = .ok (.return_, 1) := by decide +kernel
theorem dX2_forget_0 : decode cX2_forget 0 = .ok (.aload_n 0, 1) := by decide +kernel
theorem dX2_forget_1 : decode cX2_forget 1 = .ok (.getfield 14, 3) := by decide +kernel
theorem dX2_forget_4 : decode cX2_forget 4 = .ok (.iconst 0, 1) := by decide +kernel
theorem dX2_forget_5 : decode cX2_forget 5 = .ok (.putfield 27, 3) := by decide +kernel
theorem dX2_forget_8 : decode cX2_forget 8 = .ok (.aload_n 0, 1) := by decide +kernel
theorem dX2_forget_9 : decode cX2_forget 9 = .ok (.getfield 14, 3) := by decide +kernel
theorem dX2_forget_12 : decode cX2_forget 12 = .ok (.iconst 0, 1) := by decide +kernel
theorem dX2_forget_13 : decode cX2_forget 13 = .ok (.putfield 31, 3) := by decide +kernel
theorem dX2_forget_16 : decode cX2_forget 16 = .ok (.aload_n 0, 1) := by decide +kernel
theorem dX2_forget_17 : decode cX2_forget 17 = .ok (.getfield 20, 3) := by decide +kernel
theorem dX2_forget_20 : decode cX2_forget 20 = .ok (.iconst 0, 1) := by decide +kernel
theorem dX2_forget_21 : decode cX2_forget 21 = .ok (.putfield 27, 3) := by decide +kernel
theorem dX2_forget_24 : decode cX2_forget 24 = .ok (.aload_n 0, 1) := by decide +kernel
theorem dX2_forget_25 : decode cX2_forget 25 = .ok (.getfield 20, 3) := by decide +kernel
theorem dX2_forget_28 : decode cX2_forget 28 = .ok (.iconst 0, 1) := by decide +kernel
theorem dX2_forget_29 : decode cX2_forget 29 = .ok (.putfield 31, 3) := by decide +kernel
theorem dX2_forget_32 : decode cX2_forget 32 = .ok (.return_, 1) := by decide +kernel
theorem dX2_planWithBest_0 : decode cX2_planWithBest 0 = .ok (.iload_n 2, 1) := by decide +kernel
theorem dX2_planWithBest_1 : decode cX2_planWithBest 1 = .ok (.ifCond .eq 10, 3) := by decide +kernel
theorem dX2_planWithBest_4 : decode cX2_planWithBest 4 = .ok (.aload_n 0, 1) := by decide +kernel
theorem dX2_planWithBest_5 : decode cX2_planWithBest 5 = .ok (.getfield 20, 3) := by decide +kernel
theorem dX2_planWithBest_8 : decode cX2_planWithBest 8 = .ok (.goto 7, 3) := by decide +kernel
theorem dX2_planWithBest_11 : decode cX2_planWithBest 11 = .ok (.aload_n 0, 1) := by decide +kernel
theorem dX2_planWithBest_12 : decode cX2_planWithBest 12 = .ok (.getfield 14, 3) := by decide +kernel
theorem dX2_planWithBest_15 : decode cX2_planWithBest 15 = .ok (.astore_n 3, 1) := by decide +kernel
theorem dX2_planWithBest_16 : decode cX2_planWithBest 16 = .ok (.aload_n 3, 1) := by decide +kernel
theorem dX2_planWithBest_17 : decode cX2_planWithBest 17 = .ok (.getfield 27, 3) := by decide +kernel
theorem dX2_planWithBest_20 : decode cX2_planWithBest 20 = .ok (.ifCond .ne 14, 3) := by decide +kernel
theorem dX2_planWithBest_23 : decode cX2_planWithBest 23 = .ok (.aload_n 0, 1) := by decide +kernel
theorem dX2_planWithBest_24 : decode cX2_planWithBest 24 = .ok (.aload_n 1, 1) := by decide +kernel
theorem dX2_planWithBest_25 : decode cX2_planWithBest 25 = .ok (.aload_n 3, 1) := by decide +kernel
theorem dX2_planWithBest_26 : decode cX2_planWithBest 26 = .ok (.invokevirtual 34, 3) := by decide +kernel
theorem dX2_planWithBest_29 : decode cX2_planWithBest 29 = .ok (.aload_n 3, 1) := by decide +kernel
theorem dX2_planWithBest_30 : decode cX2_planWithBest 30 = .ok (.iconst 1, 1) := by decide +kernel
theorem dX2_planWithBest_31 : decode cX2_planWithBest 31 = .ok (.putfield 27, 3) := by decide +kernel
theorem dX2_planWithBest_34 : decode cX2_planWithBest 34 = .ok (.aload_n 3, 1) := by decide +kernel
theorem dX2_planWithBest_35 : decode cX2_planWithBest 35 = .ok (.areturn, 1) := by decide +kernel
theorem dX2_planWithChange_0 : decode cX2_planWithChange 0 = .ok (.iload_n 2, 1) := by decide +kernel
theorem dX2_planWithChange_1 : decode cX2_planWithChange 1 = .ok (.ifCond .eq 10, 3) := by decide +kernel
theorem dX2_planWithChange_4 : decode cX2_planWithChange 4 = .ok (.aload_n 0, 1) := by decide +kernel
theorem dX2_planWithChange_5 : decode cX2_planWithChange 5 = .ok (.getfield 20, 3) := by decide +kernel
theorem dX2_planWithChange_8 : decode cX2_planWithChange 8 = .ok (.goto 7, 3) := by decide +kernel
theorem dX2_planWithChange_11 : decode cX2_planWithChange 11 = .ok (.aload_n 0, 1) := by decide +kernel
theorem dX2_planWithChange_12 : decode cX2_planWithChange 12 = .ok (.getfield 14, 3) := by decide +kernel
theorem dX2_planWithChange_15 : decode cX2_planWithChange 15 = .ok (.astore_n 3, 1) := by decide +kernel
theorem dX2_planWithChange_16 : decode cX2_planWithChange 16 = .ok (.aload_n 3, 1) := by decide +kernel
theorem dX2_planWithChange_17 : decode cX2_planWithChange 17 = .ok (.getfield 31, 3) := by decide +kernel
theorem dX2_planWithChange_20 : decode cX2_planWithChange 20 = .ok (.ifCond .ne 25, 3) := by decide +kernel
theorem dX2_planWithChange_23 : decode cX2_planWithChange 23 = .ok (.aload_n 0, 1) := by decide +kernel
theorem dX2_planWithChange_24 : decode cX2_planWithChange 24 = .ok (.aload_n 1, 1) := by decide +kernel
theorem dX2_planWithChange_25 : decode cX2_planWithChange 25 = .ok (.aload_n 3, 1) := by decide +kernel
theorem dX2_planWithChange_26 : decode cX2_planWithChange 26 = .ok (.invokevirtual 34, 3) := by decide +kernel
theorem dX2_planWithChange_29 : decode cX2_planWithChange 29 = .ok (.aload_n 0, 1) := by decide +kernel
theorem dX2_planWithChange_30 : decode cX2_planWithChange 30 = .ok (.aload_n 1, 1) := by decide +kernel
theorem dX2_planWithChange_31 : decode cX2_planWithChange 31 = .ok (.aload_n 3, 1) := by decide +kernel
theorem dX2_planWithChange_32 : decode cX2_planWithChange 32 = .ok (.invokevirtual 38, 3) := by decide +kernel
theorem dX2_planWithChange_35 : decode cX2_planWithChange 35 = .ok (.aload_n 3, 1) := by decide +kernel
theorem dX2_planWithChange_36 : decode cX2_planWithChange 36 = .ok (.iconst 1, 1) := by decide +kernel
theorem dX2_planWithChange_37 : decode cX2_planWithChange 37 = .ok (.putfield 27, 3) := by decide +kernel
theorem dX2_planWithChange_40 : decode cX2_planWithChange 40 = .ok (.aload_n 3, 1) := by decide +kernel
theorem dX2_planWithChange_41 : decode cX2_planWithChange 41 = .ok (.iconst 1, 1) := by decide +kernel
theorem dX2_planWithChange_42 : decode cX2_planWithChange 42 = .ok (.putfield 31, 3) := by decide +kernel
theorem dX2_planWithChange_45 : decode cX2_planWithChange 45 = .ok (.aload_n 3, 1) := by decide +kernel
theorem dX2_planWithChange_46 : decode cX2_planWithChange 46 = .ok (.areturn, 1) := by decide +kernel
theorem dX2_findBest_0 : decode cX2_findBest 0 = .ok (.aload_n 0, 1) := by decide +kernel
theorem dX2_findBest_1 : decode cX2_findBest 1 = .ok (.getfield 23, 3) := by decide +kernel
theorem dX2_findBest_4 : decode cX2_findBest 4 = .ok (.bipush (-2), 2) := by decide +kernel
theorem dX2_findBest_6 : decode cX2_findBest 6 = .ok (.invokestatic 41, 3) := by decide +kernel
theorem dX2_findBest_9 : decode cX2_findBest 9 = .ok (.aload_n 2, 1) := by decide +kernel
theorem dX2_findBest_10 : decode cX2_findBest 10 = .ok (.sipush (-1001), 3) := by decide +kernel
theorem dX2_findBest_13 : decode cX2_findBest 13 = .ok (.putfield 47, 3) := by decide +kernel
theorem dX2_findBest_16 : decode cX2_findBest 16 = .ok (.aload_n 2, 1) := by decide +kernel
theorem dX2_findBest_17 : decode cX2_findBest 17 = .ok (.iconst 0, 1) := by decide +kernel
theorem dX2_findBest_18 : decode cX2_findBest 18 = .ok (.putfield 51, 3) := by decide +kernel
theorem dX2_findBest_21 : decode cX2_findBest 21 = .ok (.aload_n 1, 1) := by decide +kernel
theorem dX2_findBest_22 : decode cX2_findBest 22 = .ok (.aload_n 2, 1) := by decide +kernel
theorem dX2_findBest_23 : decode cX2_findBest 23 = .ok (.aload_n 0, 1) := by decide +kernel
theorem dX2_findBest_24 : decode cX2_findBest 24 = .ok (.getfield 23, 3) := by decide +kernel
theorem dX2_findBest_27 : decode cX2_findBest 27 = .ok (.iconst 0, 1) := by decide +kernel
theorem dX2_findBest_28 : decode cX2_findBest 28 = .ok (.iconst 0, 1) := by decide +kernel
theorem dX2_findBest_29 : decode cX2_findBest 29 = .ok (.iconst 0, 1) := by decide +kernel
theorem dX2_findBest_30 : decode cX2_findBest 30 = .ok (.iconst 0, 1) := by decide +kernel
theorem dX2_findBest_31 : decode cX2_findBest 31 = .ok (.invokestatic 54, 3) := by decide +kernel
theorem dX2_findBest_34 : decode cX2_findBest 34 = .ok (.return_, 1) := by decide +kernel
theorem dX2_openFrom_0 : decode cX2_openFrom 0 = .ok (.aload_n 0, 1) := by decide +kernel
theorem dX2_openFrom_1 : decode cX2_openFrom 1 = .ok (.iload 5, 2) := by decide +kernel
theorem dX2_openFrom_3 : decode cX2_openFrom 3 = .ok (.invokevirtual 58, 3) := by decide +kernel
theorem dX2_openFrom_6 : decode cX2_openFrom 6 = .ok (.ifCond .ne 4, 3) := by decide +kernel
theorem dX2_openFrom_9 : decode cX2_openFrom 9 = .ok (.return_, 1) := by decide +kernel
theorem dX2_openFrom_10 : decode cX2_openFrom 10 = .ok (.aload_n 0, 1) := by decide +kernel
theorem dX2_openFrom_11 : decode cX2_openFrom 11 = .ok (.iload_n 3, 1) := by decide +kernel
theorem dX2_openFrom_12 : decode cX2_openFrom 12 = .ok (.invokevirtual 64, 3) := by decide +kernel
theorem dX2_openFrom_15 : decode cX2_openFrom 15 = .ok (.ifCond .ne 30, 3) := by decide +kernel
theorem dX2_openFrom_18 : decode cX2_openFrom 18 = .ok (.aload_n 2, 1) := by decide +kernel
theorem dX2_openFrom_19 : decode cX2_openFrom 19 = .ok (.iload 4, 2) := by decide +kernel
theorem dX2_openFrom_21 : decode cX2_openFrom 21 = .ok (.iconst (-1), 1) := by decide +kernel
theorem dX2_openFrom_22 : decode cX2_openFrom 22 = .ok (.iastore, 1) := by decide +kernel
theorem dX2_openFrom_23 : decode cX2_openFrom 23 = .ok (.iload 6, 2) := by decide +kernel
theorem dX2_openFrom_25 : decode cX2_openFrom 25 = .ok (.aload_n 1, 1) := by decide +kernel
theorem dX2_openFrom_26 : decode cX2_openFrom 26 = .ok (.getfield 47, 3) := by decide +kernel
theorem dX2_openFrom_29 : decode cX2_openFrom 29 = .ok (.if_icmp .le 15, 3) := by decide +kernel
theorem dX2_openFrom_32 : decode cX2_openFrom 32 = .ok (.aload_n 1, 1) := by decide +kernel
theorem dX2_openFrom_33 : decode cX2_openFrom 33 = .ok (.iload 6, 2) := by decide +kernel
theorem dX2_openFrom_35 : decode cX2_openFrom 35 = .ok (.putfield 47, 3) := by decide +kernel
theorem dX2_openFrom_38 : decode cX2_openFrom 38 = .ok (.aload_n 1, 1) := by decide +kernel
theorem dX2_openFrom_39 : decode cX2_openFrom 39 = .ok (.iload 4, 2) := by decide +kernel
theorem dX2_openFrom_41 : decode cX2_openFrom 41 = .ok (.putfield 51, 3) := by decide +kernel
theorem dX2_openFrom_44 : decode cX2_openFrom 44 = .ok (.return_, 1) := by decide +kernel
theorem dX2_openFrom_45 : decode cX2_openFrom 45 = .ok (.aload_n 0, 1) := by decide +kernel
theorem dX2_openFrom_46 : decode cX2_openFrom 46 = .ok (.iload_n 3, 1) := by decide +kernel
theorem dX2_openFrom_47 : decode cX2_openFrom 47 = .ok (.invokevirtual 67, 3) := by decide +kernel
theorem dX2_openFrom_50 : decode cX2_openFrom 50 = .ok (.istore 7, 2) := by decide +kernel
theorem dX2_openFrom_52 : decode cX2_openFrom 52 = .ok (.iconst (-1), 1) := by decide +kernel
theorem dX2_openFrom_53 : decode cX2_openFrom 53 = .ok (.istore 8, 2) := by decide +kernel
theorem dX2_openFrom_55 : decode cX2_openFrom 55 = .ok (.iload 8, 2) := by decide +kernel
theorem dX2_openFrom_57 : decode cX2_openFrom 57 = .ok (.aload_n 0, 1) := by decide +kernel
theorem dX2_openFrom_58 : decode cX2_openFrom 58 = .ok (.getfield 70, 3) := by decide +kernel
theorem dX2_openFrom_61 : decode cX2_openFrom 61 = .ok (.if_icmp .ge 110, 3) := by decide +kernel
theorem dX2_openFrom_64 : decode cX2_openFrom 64 = .ok (.aload_n 0, 1) := by decide +kernel
theorem dX2_openFrom_65 : decode cX2_openFrom 65 = .ok (.iload_n 3, 1) := by decide +kernel
theorem dX2_openFrom_66 : decode cX2_openFrom 66 = .ok (.invokevirtual 73, 3) := by decide +kernel
theorem dX2_openFrom_69 : decode cX2_openFrom 69 = .ok (.ifCond .eq 17, 3) := by decide +kernel
theorem dX2_openFrom_72 : decode cX2_openFrom 72 = .ok (.iload 8, 2) := by decide +kernel
theorem dX2_openFrom_74 : decode cX2_openFrom 74 = .ok (.aload_n 0, 1) := by decide +kernel
theorem dX2_openFrom_75 : decode cX2_openFrom 75 = .ok (.getfield 76, 3) := by decide +kernel
theorem dX2_openFrom_78 : decode cX2_openFrom 78 = .ok (.iload_n 3, 1) := by decide +kernel
theorem dX2_openFrom_79 : decode cX2_openFrom 79 = .ok (.iaload, 1) := by decide +kernel
theorem dX2_openFrom_80 : decode cX2_openFrom 80 = .ok (.if_icmp .eq 6, 3) := by decide +kernel
theorem dX2_openFrom_83 : decode cX2_openFrom 83 = .ok (.goto 82, 3) := by decide +kernel
theorem dX2_openFrom_86 : decode cX2_openFrom 86 = .ok (.aload_n 0, 1) := by decide +kernel
theorem dX2_openFrom_87 : decode cX2_openFrom 87 = .ok (.iload_n 3, 1) := by decide +kernel
theorem dX2_openFrom_88 : decode cX2_openFrom 88 = .ok (.iload 8, 2) := by decide +kernel
theorem dX2_openFrom_90 : decode cX2_openFrom 90 = .ok (.invokevirtual 79, 3) := by decide +kernel
theorem dX2_openFrom_93 : decode cX2_openFrom 93 = .ok (.istore 9, 2) := by decide +kernel
theorem dX2_openFrom_95 : decode cX2_openFrom 95 = .ok (.iload 7, 2) := by decide +kernel
theorem dX2_openFrom_97 : decode cX2_openFrom 97 = .ok (.ifCond .eq 15, 3) := by decide +kernel
theorem dX2_openFrom_100 : decode cX2_openFrom 100 = .ok (.aload_n 1, 1) := by decide +kernel
theorem dX2_openFrom_101 : decode cX2_openFrom 101 = .ok (.getfield 83, 3) := by decide +kernel
theorem dX2_openFrom_104 : decode cX2_openFrom 104 = .ok (.ifCond .ne 8, 3) := by decide +kernel
theorem dX2_openFrom_107 : decode cX2_openFrom 107 = .ok (.iload 5, 2) := by decide +kernel
theorem dX2_openFrom_109 : decode cX2_openFrom 109 = .ok (.goto 8, 3) := by decide +kernel
theorem dX2_openFrom_112 : decode cX2_openFrom 112 = .ok (.iload 5, 2) := by decide +kernel
theorem dX2_openFrom_114 : decode cX2_openFrom 114 = .ok (.iload 9, 2) := by decide +kernel
theorem dX2_openFrom_116 : decode cX2_openFrom 116 = .ok (.iadd, 1) := by decide +kernel
theorem dX2_openFrom_117 : decode cX2_openFrom 117 = .ok (.istore 10, 2) := by decide +kernel
theorem dX2_openFrom_119 : decode cX2_openFrom 119 = .ok (.iload 7, 2) := by decide +kernel
theorem dX2_openFrom_121 : decode cX2_openFrom 121 = .ok (.ifCond .eq 8, 3) := by decide +kernel
theorem dX2_openFrom_124 : decode cX2_openFrom 124 = .ok (.iload 6, 2) := by decide +kernel
theorem dX2_openFrom_126 : decode cX2_openFrom 126 = .ok (.goto 11, 3) := by decide +kernel
theorem dX2_openFrom_129 : decode cX2_openFrom 129 = .ok (.iload 6, 2) := by decide +kernel
theorem dX2_openFrom_131 : decode cX2_openFrom 131 = .ok (.iload 9, 2) := by decide +kernel
theorem dX2_openFrom_133 : decode cX2_openFrom 133 = .ok (.invokestatic 86, 3) := by decide +kernel
theorem dX2_openFrom_136 : decode cX2_openFrom 136 = .ok (.iadd, 1) := by decide +kernel
theorem dX2_openFrom_137 : decode cX2_openFrom 137 = .ok (.istore 11, 2) := by decide +kernel
theorem dX2_openFrom_139 : decode cX2_openFrom 139 = .ok (.aload_n 0, 1) := by decide +kernel
theorem dX2_openFrom_140 : decode cX2_openFrom 140 = .ok (.aload_n 1, 1) := by decide +kernel
theorem dX2_openFrom_141 : decode cX2_openFrom 141 = .ok (.aload_n 2, 1) := by decide +kernel
theorem dX2_openFrom_142 : decode cX2_openFrom 142 = .ok (.iload_n 3, 1) := by decide +kernel
theorem dX2_openFrom_143 : decode cX2_openFrom 143 = .ok (.iconst 1, 1) := by decide +kernel
theorem dX2_openFrom_144 : decode cX2_openFrom 144 = .ok (.iadd, 1) := by decide +kernel
theorem dX2_openFrom_145 : decode cX2_openFrom 145 = .ok (.iload 4, 2) := by decide +kernel
theorem dX2_openFrom_147 : decode cX2_openFrom 147 = .ok (.iload 8, 2) := by decide +kernel
theorem dX2_openFrom_149 : decode cX2_openFrom 149 = .ok (.iconst 1, 1) := by decide +kernel
theorem dX2_openFrom_150 : decode cX2_openFrom 150 = .ok (.iadd, 1) := by decide +kernel
theorem dX2_openFrom_151 : decode cX2_openFrom 151 = .ok (.getstatic 90, 3) := by decide +kernel
theorem dX2_openFrom_154 : decode cX2_openFrom 154 = .ok (.iload_n 3, 1) := by decide +kernel
theorem dX2_openFrom_155 : decode cX2_openFrom 155 = .ok (.iaload, 1) := by decide +kernel
theorem dX2_openFrom_156 : decode cX2_openFrom 156 = .ok (.imul, 1) := by decide +kernel
theorem dX2_openFrom_157 : decode cX2_openFrom 157 = .ok (.iadd, 1) := by decide +kernel
theorem dX2_openFrom_158 : decode cX2_openFrom 158 = .ok (.iload 10, 2) := by decide +kernel
theorem dX2_openFrom_160 : decode cX2_openFrom 160 = .ok (.iload 11, 2) := by decide +kernel
theorem dX2_openFrom_162 : decode cX2_openFrom 162 = .ok (.invokestatic 54, 3) := by decide +kernel
theorem dX2_openFrom_165 : decode cX2_openFrom 165 = .ok (.iinc 8 1, 3) := by decide +kernel
theorem dX2_openFrom_168 : decode cX2_openFrom 168 = .ok (.goto (-113), 3) := by decide +kernel
theorem dX2_openFrom_171 : decode cX2_openFrom 171 = .ok (.return_, 1) := by decide +kernel
theorem dX2_findChange_0 : decode cX2_findChange 0 = .ok (.aload_n 2, 1) := by decide +kernel
theorem dX2_findChange_1 : decode cX2_findChange 1 = .ok (.sipush (-1001), 3) := by decide +kernel
theorem dX2_findChange_4 : decode cX2_findChange 4 = .ok (.putfield 93, 3) := by decide +kernel
theorem dX2_findChange_7 : decode cX2_findChange 7 = .ok (.aload_n 2, 1) := by decide +kernel
theorem dX2_findChange_8 : decode cX2_findChange 8 = .ok (.getfield 47, 3) := by decide +kernel
theorem dX2_findChange_11 : decode cX2_findChange 11 = .ok (.sipush (-1001), 3) := by decide +kernel
theorem dX2_findChange_14 : decode cX2_findChange 14 = .ok (.if_icmp .ne 4, 3) := by decide +kernel
theorem dX2_findChange_17 : decode cX2_findChange 17 = .ok (.return_, 1) := by decide +kernel
theorem dX2_findChange_18 : decode cX2_findChange 18 = .ok (.aload_n 1, 1) := by decide +kernel
theorem dX2_findChange_19 : decode cX2_findChange 19 = .ok (.invokevirtual 96, 3) := by decide +kernel
theorem dX2_findChange_22 : decode cX2_findChange 22 = .ok (.istore_n 3, 1) := by decide +kernel
theorem dX2_findChange_23 : decode cX2_findChange 23 = .ok (.aload_n 0, 1) := by decide +kernel
theorem dX2_findChange_24 : decode cX2_findChange 24 = .ok (.getfield 23, 3) := by decide +kernel
theorem dX2_findChange_27 : decode cX2_findChange 27 = .ok (.iload_n 3, 1) := by decide +kernel
theorem dX2_findChange_28 : decode cX2_findChange 28 = .ok (.iconst (-1), 1) := by decide +kernel
theorem dX2_findChange_29 : decode cX2_findChange 29 = .ok (.iastore, 1) := by decide +kernel
theorem dX2_findChange_30 : decode cX2_findChange 30 = .ok (.aload_n 0, 1) := by decide +kernel
theorem dX2_findChange_31 : decode cX2_findChange 31 = .ok (.getfield 23, 3) := by decide +kernel
theorem dX2_findChange_34 : decode cX2_findChange 34 = .ok (.aload_n 2, 1) := by decide +kernel
theorem dX2_findChange_35 : decode cX2_findChange 35 = .ok (.getfield 51, 3) := by decide +kernel
theorem dX2_findChange_38 : decode cX2_findChange 38 = .ok (.iconst 0, 1) := by decide +kernel
theorem dX2_findChange_39 : decode cX2_findChange 39 = .ok (.iastore, 1) := by decide +kernel
theorem dX2_findChange_40 : decode cX2_findChange 40 = .ok (.iconst 1, 1) := by decide +kernel
theorem dX2_findChange_41 : decode cX2_findChange 41 = .ok (.istore 4, 2) := by decide +kernel
theorem dX2_findChange_43 : decode cX2_findChange 43 = .ok (.iconst 0, 1) := by decide +kernel
theorem dX2_findChange_44 : decode cX2_findChange 44 = .ok (.istore 5, 2) := by decide +kernel
theorem dX2_findChange_46 : decode cX2_findChange 46 = .ok (.iload 5, 2) := by decide +kernel
theorem dX2_findChange_48 : decode cX2_findChange 48 = .ok (.aload_n 1, 1) := by decide +kernel
theorem dX2_findChange_49 : decode cX2_findChange 49 = .ok (.getfield 100, 3) := by decide +kernel
theorem dX2_findChange_52 : decode cX2_findChange 52 = .ok (.if_icmp .ge 33, 3) := by decide +kernel
theorem dX2_findChange_55 : decode cX2_findChange 55 = .ok (.iload 4, 2) := by decide +kernel
theorem dX2_findChange_57 : decode cX2_findChange 57 = .ok (.ifCond .eq 28, 3) := by decide +kernel
theorem dX2_findChange_60 : decode cX2_findChange 60 = .ok (.aload_n 0, 1) := by decide +kernel
theorem dX2_findChange_61 : decode cX2_findChange 61 = .ok (.getfield 23, 3) := by decide +kernel
theorem dX2_findChange_64 : decode cX2_findChange 64 = .ok (.iload_n 3, 1) := by decide +kernel
theorem dX2_findChange_65 : decode cX2_findChange 65 = .ok (.iaload, 1) := by decide +kernel
theorem dX2_findChange_66 : decode cX2_findChange 66 = .ok (.iconst (-1), 1) := by decide +kernel
theorem dX2_findChange_67 : decode cX2_findChange 67 = .ok (.if_icmp .ne 18, 3) := by decide +kernel
theorem dX2_findChange_70 : decode cX2_findChange 70 = .ok (.aload_n 0, 1) := by decide +kernel
theorem dX2_findChange_71 : decode cX2_findChange 71 = .ok (.aload_n 1, 1) := by decide +kernel
theorem dX2_findChange_72 : decode cX2_findChange 72 = .ok (.iload 5, 2) := by decide +kernel
theorem dX2_findChange_74 : decode cX2_findChange 74 = .ok (.invokevirtual 103, 3) := by decide +kernel
theorem dX2_findChange_77 : decode cX2_findChange 77 = .ok (.istore 4, 2) := by decide +kernel
theorem dX2_findChange_79 : decode cX2_findChange 79 = .ok (.iinc 5 1, 3) := by decide +kernel
theorem dX2_findChange_82 : decode cX2_findChange 82 = .ok (.goto (-36), 3) := by decide +kernel
theorem dX2_findChange_85 : decode cX2_findChange 85 = .ok (.aload_n 0, 1) := by decide +kernel
theorem dX2_findChange_86 : decode cX2_findChange 86 = .ok (.getfield 23, 3) := by decide +kernel
theorem dX2_findChange_89 : decode cX2_findChange 89 = .ok (.iload_n 3, 1) := by decide +kernel
theorem dX2_findChange_90 : decode cX2_findChange 90 = .ok (.iaload, 1) := by decide +kernel
theorem dX2_findChange_91 : decode cX2_findChange 91 = .ok (.iconst (-1), 1) := by decide +kernel
theorem dX2_findChange_92 : decode cX2_findChange 92 = .ok (.if_icmp .eq 20, 3) := by decide +kernel
theorem dX2_findChange_95 : decode cX2_findChange 95 = .ok (.aload_n 2, 1) := by decide +kernel
theorem dX2_findChange_96 : decode cX2_findChange 96 = .ok (.aload_n 0, 1) := by decide +kernel
theorem dX2_findChange_97 : decode cX2_findChange 97 = .ok (.getfield 23, 3) := by decide +kernel
theorem dX2_findChange_100 : decode cX2_findChange 100 = .ok (.iload_n 3, 1) := by decide +kernel
theorem dX2_findChange_101 : decode cX2_findChange 101 = .ok (.iaload, 1) := by decide +kernel
theorem dX2_findChange_102 : decode cX2_findChange 102 = .ok (.putfield 93, 3) := by decide +kernel
theorem dX2_findChange_105 : decode cX2_findChange 105 = .ok (.aload_n 0, 1) := by decide +kernel
theorem dX2_findChange_106 : decode cX2_findChange 106 = .ok (.aload_n 1, 1) := by decide +kernel
theorem dX2_findChange_107 : decode cX2_findChange 107 = .ok (.aload_n 2, 1) := by decide +kernel
theorem dX2_findChange_108 : decode cX2_findChange 108 = .ok (.iload_n 3, 1) := by decide +kernel
theorem dX2_findChange_109 : decode cX2_findChange 109 = .ok (.invokevirtual 107, 3) := by decide +kernel
theorem dX2_findChange_112 : decode cX2_findChange 112 = .ok (.return_, 1) := by decide +kernel
theorem dX2_widen_0 : decode cX2_widen 0 = .ok (.iconst 0, 1) := by decide +kernel
theorem dX2_widen_1 : decode cX2_widen 1 = .ok (.istore_n 3, 1) := by decide +kernel
theorem dX2_widen_2 : decode cX2_widen 2 = .ok (.iconst 0, 1) := by decide +kernel
theorem dX2_widen_3 : decode cX2_widen 3 = .ok (.istore 4, 2) := by decide +kernel
theorem dX2_widen_5 : decode cX2_widen 5 = .ok (.iload 4, 2) := by decide +kernel
theorem dX2_widen_7 : decode cX2_widen 7 = .ok (.aload_n 1, 1) := by decide +kernel
theorem dX2_widen_8 : decode cX2_widen 8 = .ok (.getfield 100, 3) := by decide +kernel
theorem dX2_widen_11 : decode cX2_widen 11 = .ok (.if_icmp .ge 35, 3) := by decide +kernel
theorem dX2_widen_14 : decode cX2_widen 14 = .ok (.aload_n 0, 1) := by decide +kernel
theorem dX2_widen_15 : decode cX2_widen 15 = .ok (.getfield 23, 3) := by decide +kernel
theorem dX2_widen_18 : decode cX2_widen 18 = .ok (.iload 4, 2) := by decide +kernel
theorem dX2_widen_20 : decode cX2_widen 20 = .ok (.iaload, 1) := by decide +kernel
theorem dX2_widen_21 : decode cX2_widen 21 = .ok (.iload_n 2, 1) := by decide +kernel
theorem dX2_widen_22 : decode cX2_widen 22 = .ok (.if_icmp .ne 18, 3) := by decide +kernel
theorem dX2_widen_25 : decode cX2_widen 25 = .ok (.aload_n 0, 1) := by decide +kernel
theorem dX2_widen_26 : decode cX2_widen 26 = .ok (.aload_n 1, 1) := by decide +kernel
theorem dX2_widen_27 : decode cX2_widen 27 = .ok (.iload 4, 2) := by decide +kernel
theorem dX2_widen_29 : decode cX2_widen 29 = .ok (.iload_n 2, 1) := by decide +kernel
theorem dX2_widen_30 : decode cX2_widen 30 = .ok (.iconst 1, 1) := by decide +kernel
theorem dX2_widen_31 : decode cX2_widen 31 = .ok (.iadd, 1) := by decide +kernel
theorem dX2_widen_32 : decode cX2_widen 32 = .ok (.invokevirtual 111, 3) := by decide +kernel
theorem dX2_widen_35 : decode cX2_widen 35 = .ok (.ifCond .eq 5, 3) := by decide +kernel
theorem dX2_widen_38 : decode cX2_widen 38 = .ok (.iconst 1, 1) := by decide +kernel
theorem dX2_widen_39 : decode cX2_widen 39 = .ok (.istore_n 3, 1) := by decide +kernel
theorem dX2_widen_40 : decode cX2_widen 40 = .ok (.iinc 4 1, 3) := by decide +kernel
theorem dX2_widen_43 : decode cX2_widen 43 = .ok (.goto (-38), 3) := by decide +kernel
theorem dX2_widen_46 : decode cX2_widen 46 = .ok (.iload_n 3, 1) := by decide +kernel
theorem dX2_widen_47 : decode cX2_widen 47 = .ok (.ireturn, 1) := by decide +kernel
theorem dX2_markBeside_0 : decode cX2_markBeside 0 = .ok (.iconst 0, 1) := by decide +kernel
theorem dX2_markBeside_1 : decode cX2_markBeside 1 = .ok (.istore 4, 2) := by decide +kernel
theorem dX2_markBeside_3 : decode cX2_markBeside 3 = .ok (.iload_n 2, 1) := by decide +kernel
theorem dX2_markBeside_4 : decode cX2_markBeside 4 = .ok (.istore 5, 2) := by decide +kernel
theorem dX2_markBeside_6 : decode cX2_markBeside 6 = .ok (.iconst 0, 1) := by decide +kernel
theorem dX2_markBeside_7 : decode cX2_markBeside 7 = .ok (.istore 6, 2) := by decide +kernel
theorem dX2_markBeside_9 : decode cX2_markBeside 9 = .ok (.iload 6, 2) := by decide +kernel
theorem dX2_markBeside_11 : decode cX2_markBeside 11 = .ok (.aload_n 1, 1) := by decide +kernel
theorem dX2_markBeside_12 : decode cX2_markBeside 12 = .ok (.getfield 115, 3) := by decide +kernel
theorem dX2_markBeside_15 : decode cX2_markBeside 15 = .ok (.if_icmp .ge 81, 3) := by decide +kernel
theorem dX2_markBeside_18 : decode cX2_markBeside 18 = .ok (.iload_n 2, 1) := by decide +kernel
theorem dX2_markBeside_19 : decode cX2_markBeside 19 = .ok (.iload 5, 2) := by decide +kernel
theorem dX2_markBeside_21 : decode cX2_markBeside 21 = .ok (.iconst 5, 1) := by decide +kernel
theorem dX2_markBeside_22 : decode cX2_markBeside 22 = .ok (.irem, 1) := by decide +kernel
theorem dX2_markBeside_23 : decode cX2_markBeside 23 = .ok (.getstatic 90, 3) := by decide +kernel
theorem dX2_markBeside_26 : decode cX2_markBeside 26 = .ok (.iload 6, 2) := by decide +kernel
theorem dX2_markBeside_28 : decode cX2_markBeside 28 = .ok (.iaload, 1) := by decide +kernel
theorem dX2_markBeside_29 : decode cX2_markBeside 29 = .ok (.imul, 1) := by decide +kernel
theorem dX2_markBeside_30 : decode cX2_markBeside 30 = .ok (.isub, 1) := by decide +kernel
theorem dX2_markBeside_31 : decode cX2_markBeside 31 = .ok (.istore 7, 2) := by decide +kernel
theorem dX2_markBeside_33 : decode cX2_markBeside 33 = .ok (.iconst (-1), 1) := by decide +kernel
theorem dX2_markBeside_34 : decode cX2_markBeside 34 = .ok (.istore 8, 2) := by decide +kernel
theorem dX2_markBeside_36 : decode cX2_markBeside 36 = .ok (.iload 8, 2) := by decide +kernel
theorem dX2_markBeside_38 : decode cX2_markBeside 38 = .ok (.aload_n 1, 1) := by decide +kernel
theorem dX2_markBeside_39 : decode cX2_markBeside 39 = .ok (.getfield 70, 3) := by decide +kernel
theorem dX2_markBeside_42 : decode cX2_markBeside 42 = .ok (.if_icmp .ge 42, 3) := by decide +kernel
theorem dX2_markBeside_45 : decode cX2_markBeside 45 = .ok (.aload_n 0, 1) := by decide +kernel
theorem dX2_markBeside_46 : decode cX2_markBeside 46 = .ok (.getfield 23, 3) := by decide +kernel
theorem dX2_markBeside_49 : decode cX2_markBeside 49 = .ok (.iload 7, 2) := by decide +kernel
theorem dX2_markBeside_51 : decode cX2_markBeside 51 = .ok (.iaload, 1) := by decide +kernel
theorem dX2_markBeside_52 : decode cX2_markBeside 52 = .ok (.iconst (-1), 1) := by decide +kernel
theorem dX2_markBeside_53 : decode cX2_markBeside 53 = .ok (.if_icmp .ne 14, 3) := by decide +kernel
theorem dX2_markBeside_56 : decode cX2_markBeside 56 = .ok (.aload_n 0, 1) := by decide +kernel
theorem dX2_markBeside_57 : decode cX2_markBeside 57 = .ok (.getfield 23, 3) := by decide +kernel
theorem dX2_markBeside_60 : decode cX2_markBeside 60 = .ok (.iload 7, 2) := by decide +kernel
theorem dX2_markBeside_62 : decode cX2_markBeside 62 = .ok (.iload_n 3, 1) := by decide +kernel
theorem dX2_markBeside_63 : decode cX2_markBeside 63 = .ok (.iastore, 1) := by decide +kernel
theorem dX2_markBeside_64 : decode cX2_markBeside 64 = .ok (.iconst 1, 1) := by decide +kernel
theorem dX2_markBeside_65 : decode cX2_markBeside 65 = .ok (.istore 4, 2) := by decide +kernel
theorem dX2_markBeside_67 : decode cX2_markBeside 67 = .ok (.iload 7, 2) := by decide +kernel
theorem dX2_markBeside_69 : decode cX2_markBeside 69 = .ok (.getstatic 90, 3) := by decide +kernel
theorem dX2_markBeside_72 : decode cX2_markBeside 72 = .ok (.iload 6, 2) := by decide +kernel
theorem dX2_markBeside_74 : decode cX2_markBeside 74 = .ok (.iaload, 1) := by decide +kernel
theorem dX2_markBeside_75 : decode cX2_markBeside 75 = .ok (.iadd, 1) := by decide +kernel
theorem dX2_markBeside_76 : decode cX2_markBeside 76 = .ok (.istore 7, 2) := by decide +kernel
theorem dX2_markBeside_78 : decode cX2_markBeside 78 = .ok (.iinc 8 1, 3) := by decide +kernel
theorem dX2_markBeside_81 : decode cX2_markBeside 81 = .ok (.goto (-45), 3) := by decide +kernel
theorem dX2_markBeside_84 : decode cX2_markBeside 84 = .ok (.iload 5, 2) := by decide +kernel
theorem dX2_markBeside_86 : decode cX2_markBeside 86 = .ok (.iconst 5, 1) := by decide +kernel
theorem dX2_markBeside_87 : decode cX2_markBeside 87 = .ok (.idiv, 1) := by decide +kernel
theorem dX2_markBeside_88 : decode cX2_markBeside 88 = .ok (.istore 5, 2) := by decide +kernel
theorem dX2_markBeside_90 : decode cX2_markBeside 90 = .ok (.iinc 6 1, 3) := by decide +kernel
theorem dX2_markBeside_93 : decode cX2_markBeside 93 = .ok (.goto (-84), 3) := by decide +kernel
theorem dX2_markBeside_96 : decode cX2_markBeside 96 = .ok (.iload 4, 2) := by decide +kernel
theorem dX2_markBeside_98 : decode cX2_markBeside 98 = .ok (.ireturn, 1) := by decide +kernel
theorem dX2_noteMoves_0 : decode cX2_noteMoves 0 = .ok (.iload_n 3, 1) := by decide +kernel
theorem dX2_noteMoves_1 : decode cX2_noteMoves 1 = .ok (.istore 4, 2) := by decide +kernel
theorem dX2_noteMoves_3 : decode cX2_noteMoves 3 = .ok (.aload_n 2, 1) := by decide +kernel
theorem dX2_noteMoves_4 : decode cX2_noteMoves 4 = .ok (.getfield 93, 3) := by decide +kernel
theorem dX2_noteMoves_7 : decode cX2_noteMoves 7 = .ok (.bipush 15, 2) := by decide +kernel
theorem dX2_noteMoves_9 : decode cX2_noteMoves 9 = .ok (.invokestatic 118, 3) := by decide +kernel
theorem dX2_noteMoves_12 : decode cX2_noteMoves 12 = .ok (.istore 5, 2) := by decide +kernel
theorem dX2_noteMoves_14 : decode cX2_noteMoves 14 = .ok (.iconst 0, 1) := by decide +kernel
theorem dX2_noteMoves_15 : decode cX2_noteMoves 15 = .ok (.istore 6, 2) := by decide +kernel
theorem dX2_noteMoves_17 : decode cX2_noteMoves 17 = .ok (.iload 6, 2) := by decide +kernel
theorem dX2_noteMoves_19 : decode cX2_noteMoves 19 = .ok (.iload 5, 2) := by decide +kernel
theorem dX2_noteMoves_21 : decode cX2_noteMoves 21 = .ok (.if_icmp .ge 78, 3) := by decide +kernel
theorem dX2_noteMoves_24 : decode cX2_noteMoves 24 = .ok (.aload_n 0, 1) := by decide +kernel
theorem dX2_noteMoves_25 : decode cX2_noteMoves 25 = .ok (.aload_n 1, 1) := by decide +kernel
theorem dX2_noteMoves_26 : decode cX2_noteMoves 26 = .ok (.iload 4, 2) := by decide +kernel
theorem dX2_noteMoves_28 : decode cX2_noteMoves 28 = .ok (.aload_n 2, 1) := by decide +kernel
theorem dX2_noteMoves_29 : decode cX2_noteMoves 29 = .ok (.getfield 93, 3) := by decide +kernel
theorem dX2_noteMoves_32 : decode cX2_noteMoves 32 = .ok (.iload 6, 2) := by decide +kernel
theorem dX2_noteMoves_34 : decode cX2_noteMoves 34 = .ok (.isub, 1) := by decide +kernel
theorem dX2_noteMoves_35 : decode cX2_noteMoves 35 = .ok (.iconst 1, 1) := by decide +kernel
theorem dX2_noteMoves_36 : decode cX2_noteMoves 36 = .ok (.isub, 1) := by decide +kernel
theorem dX2_noteMoves_37 : decode cX2_noteMoves 37 = .ok (.invokevirtual 123, 3) := by decide +kernel
theorem dX2_noteMoves_40 : decode cX2_noteMoves 40 = .ok (.istore 7, 2) := by decide +kernel
theorem dX2_noteMoves_42 : decode cX2_noteMoves 42 = .ok (.iload 7, 2) := by decide +kernel
theorem dX2_noteMoves_44 : decode cX2_noteMoves 44 = .ok (.iconst 3, 1) := by decide +kernel
theorem dX2_noteMoves_45 : decode cX2_noteMoves 45 = .ok (.ishr, 1) := by decide +kernel
theorem dX2_noteMoves_46 : decode cX2_noteMoves 46 = .ok (.istore 8, 2) := by decide +kernel
theorem dX2_noteMoves_48 : decode cX2_noteMoves 48 = .ok (.aload_n 2, 1) := by decide +kernel
theorem dX2_noteMoves_49 : decode cX2_noteMoves 49 = .ok (.getfield 127, 3) := by decide +kernel
theorem dX2_noteMoves_52 : decode cX2_noteMoves 52 = .ok (.iload 6, 2) := by decide +kernel
theorem dX2_noteMoves_54 : decode cX2_noteMoves 54 = .ok (.iload 7, 2) := by decide +kernel
theorem dX2_noteMoves_56 : decode cX2_noteMoves 56 = .ok (.iastore, 1) := by decide +kernel
theorem dX2_noteMoves_57 : decode cX2_noteMoves 57 = .ok (.aload_n 1, 1) := by decide +kernel
theorem dX2_noteMoves_58 : decode cX2_noteMoves 58 = .ok (.iload 8, 2) := by decide +kernel
theorem dX2_noteMoves_60 : decode cX2_noteMoves 60 = .ok (.invokevirtual 64, 3) := by decide +kernel
theorem dX2_noteMoves_63 : decode cX2_noteMoves 63 = .ok (.ifCond .eq 30, 3) := by decide +kernel
theorem dX2_noteMoves_66 : decode cX2_noteMoves 66 = .ok (.iload 4, 2) := by decide +kernel
theorem dX2_noteMoves_68 : decode cX2_noteMoves 68 = .ok (.iload 7, 2) := by decide +kernel
theorem dX2_noteMoves_70 : decode cX2_noteMoves 70 = .ok (.bipush 7, 2) := by decide +kernel
theorem dX2_noteMoves_72 : decode cX2_noteMoves 72 = .ok (.iand, 1) := by decide +kernel
theorem dX2_noteMoves_73 : decode cX2_noteMoves 73 = .ok (.iconst 1, 1) := by decide +kernel
theorem dX2_noteMoves_74 : decode cX2_noteMoves 74 = .ok (.isub, 1) := by decide +kernel
theorem dX2_noteMoves_75 : decode cX2_noteMoves 75 = .ok (.iload 4, 2) := by decide +kernel
theorem dX2_noteMoves_77 : decode cX2_noteMoves 77 = .ok (.iload 8, 2) := by decide +kernel
theorem dX2_noteMoves_79 : decode cX2_noteMoves 79 = .ok (.invokestatic 130, 3) := by decide +kernel
theorem dX2_noteMoves_82 : decode cX2_noteMoves 82 = .ok (.isub, 1) := by decide +kernel
theorem dX2_noteMoves_83 : decode cX2_noteMoves 83 = .ok (.getstatic 90, 3) := by decide +kernel
theorem dX2_noteMoves_86 : decode cX2_noteMoves 86 = .ok (.iload 8, 2) := by decide +kernel
theorem dX2_noteMoves_88 : decode cX2_noteMoves 88 = .ok (.iaload, 1) := by decide +kernel
theorem dX2_noteMoves_89 : decode cX2_noteMoves 89 = .ok (.imul, 1) := by decide +kernel
theorem dX2_noteMoves_90 : decode cX2_noteMoves 90 = .ok (.iadd, 1) := by decide +kernel
theorem dX2_noteMoves_91 : decode cX2_noteMoves 91 = .ok (.istore 4, 2) := by decide +kernel
theorem dX2_noteMoves_93 : decode cX2_noteMoves 93 = .ok (.iinc 6 1, 3) := by decide +kernel
theorem dX2_noteMoves_96 : decode cX2_noteMoves 96 = .ok (.goto (-79), 3) := by decide +kernel
theorem dX2_noteMoves_99 : decode cX2_noteMoves 99 = .ok (.return_, 1) := by decide +kernel
theorem dX2_leastMove_0 : decode cX2_leastMove 0 = .ok (.iload_n 2, 1) := by decide +kernel
theorem dX2_leastMove_1 : decode cX2_leastMove 1 = .ok (.istore 4, 2) := by decide +kernel
theorem dX2_leastMove_3 : decode cX2_leastMove 3 = .ok (.iconst 0, 1) := by decide +kernel
theorem dX2_leastMove_4 : decode cX2_leastMove 4 = .ok (.istore 5, 2) := by decide +kernel
theorem dX2_leastMove_6 : decode cX2_leastMove 6 = .ok (.iload 5, 2) := by decide +kernel
theorem dX2_leastMove_8 : decode cX2_leastMove 8 = .ok (.aload_n 1, 1) := by decide +kernel
theorem dX2_leastMove_9 : decode cX2_leastMove 9 = .ok (.getfield 115, 3) := by decide +kernel
theorem dX2_leastMove_12 : decode cX2_leastMove 12 = .ok (.if_icmp .ge 81, 3) := by decide +kernel
theorem dX2_leastMove_15 : decode cX2_leastMove 15 = .ok (.iload_n 2, 1) := by decide +kernel
theorem dX2_leastMove_16 : decode cX2_leastMove 16 = .ok (.iload 4, 2) := by decide +kernel
theorem dX2_leastMove_18 : decode cX2_leastMove 18 = .ok (.iconst 5, 1) := by decide +kernel
theorem dX2_leastMove_19 : decode cX2_leastMove 19 = .ok (.irem, 1) := by decide +kernel
theorem dX2_leastMove_20 : decode cX2_leastMove 20 = .ok (.getstatic 90, 3) := by decide +kernel
theorem dX2_leastMove_23 : decode cX2_leastMove 23 = .ok (.iload 5, 2) := by decide +kernel
theorem dX2_leastMove_25 : decode cX2_leastMove 25 = .ok (.iaload, 1) := by decide +kernel
theorem dX2_leastMove_26 : decode cX2_leastMove 26 = .ok (.imul, 1) := by decide +kernel
theorem dX2_leastMove_27 : decode cX2_leastMove 27 = .ok (.isub, 1) := by decide +kernel
theorem dX2_leastMove_28 : decode cX2_leastMove 28 = .ok (.istore 6, 2) := by decide +kernel
theorem dX2_leastMove_30 : decode cX2_leastMove 30 = .ok (.iconst (-1), 1) := by decide +kernel
theorem dX2_leastMove_31 : decode cX2_leastMove 31 = .ok (.istore 7, 2) := by decide +kernel
theorem dX2_leastMove_33 : decode cX2_leastMove 33 = .ok (.iload 7, 2) := by decide +kernel
theorem dX2_leastMove_35 : decode cX2_leastMove 35 = .ok (.aload_n 1, 1) := by decide +kernel
theorem dX2_leastMove_36 : decode cX2_leastMove 36 = .ok (.getfield 70, 3) := by decide +kernel
theorem dX2_leastMove_39 : decode cX2_leastMove 39 = .ok (.if_icmp .ge 42, 3) := by decide +kernel
theorem dX2_leastMove_42 : decode cX2_leastMove 42 = .ok (.aload_n 0, 1) := by decide +kernel
theorem dX2_leastMove_43 : decode cX2_leastMove 43 = .ok (.getfield 23, 3) := by decide +kernel
theorem dX2_leastMove_46 : decode cX2_leastMove 46 = .ok (.iload 6, 2) := by decide +kernel
theorem dX2_leastMove_48 : decode cX2_leastMove 48 = .ok (.iaload, 1) := by decide +kernel
theorem dX2_leastMove_49 : decode cX2_leastMove 49 = .ok (.iload_n 3, 1) := by decide +kernel
theorem dX2_leastMove_50 : decode cX2_leastMove 50 = .ok (.if_icmp .ne 14, 3) := by decide +kernel
theorem dX2_leastMove_53 : decode cX2_leastMove 53 = .ok (.bipush 8, 2) := by decide +kernel
theorem dX2_leastMove_55 : decode cX2_leastMove 55 = .ok (.iload 5, 2) := by decide +kernel
theorem dX2_leastMove_57 : decode cX2_leastMove 57 = .ok (.imul, 1) := by decide +kernel
theorem dX2_leastMove_58 : decode cX2_leastMove 58 = .ok (.iload 7, 2) := by decide +kernel
theorem dX2_leastMove_60 : decode cX2_leastMove 60 = .ok (.iadd, 1) := by decide +kernel
theorem dX2_leastMove_61 : decode cX2_leastMove 61 = .ok (.iconst 1, 1) := by decide +kernel
theorem dX2_leastMove_62 : decode cX2_leastMove 62 = .ok (.iadd, 1) := by decide +kernel
theorem dX2_leastMove_63 : decode cX2_leastMove 63 = .ok (.ireturn, 1) := by decide +kernel
theorem dX2_leastMove_64 : decode cX2_leastMove 64 = .ok (.iload 6, 2) := by decide +kernel
theorem dX2_leastMove_66 : decode cX2_leastMove 66 = .ok (.getstatic 90, 3) := by decide +kernel
theorem dX2_leastMove_69 : decode cX2_leastMove 69 = .ok (.iload 5, 2) := by decide +kernel
theorem dX2_leastMove_71 : decode cX2_leastMove 71 = .ok (.iaload, 1) := by decide +kernel
theorem dX2_leastMove_72 : decode cX2_leastMove 72 = .ok (.iadd, 1) := by decide +kernel
theorem dX2_leastMove_73 : decode cX2_leastMove 73 = .ok (.istore 6, 2) := by decide +kernel
theorem dX2_leastMove_75 : decode cX2_leastMove 75 = .ok (.iinc 7 1, 3) := by decide +kernel
theorem dX2_leastMove_78 : decode cX2_leastMove 78 = .ok (.goto (-45), 3) := by decide +kernel
theorem dX2_leastMove_81 : decode cX2_leastMove 81 = .ok (.iload 4, 2) := by decide +kernel
theorem dX2_leastMove_83 : decode cX2_leastMove 83 = .ok (.iconst 5, 1) := by decide +kernel
theorem dX2_leastMove_84 : decode cX2_leastMove 84 = .ok (.idiv, 1) := by decide +kernel
theorem dX2_leastMove_85 : decode cX2_leastMove 85 = .ok (.istore 4, 2) := by decide +kernel
theorem dX2_leastMove_87 : decode cX2_leastMove 87 = .ok (.iinc 5 1, 3) := by decide +kernel
theorem dX2_leastMove_90 : decode cX2_leastMove 90 = .ok (.goto (-84), 3) := by decide +kernel
theorem dX2_leastMove_93 : decode cX2_leastMove 93 = .ok (.sipush (-1001), 3) := by decide +kernel
theorem dX2_leastMove_96 : decode cX2_leastMove 96 = .ok (.ireturn, 1) := by decide +kernel
theorem dX3_init_0 : decode cX3_init 0 = .ok (.aload_n 0, 1) := by decide +kernel
theorem dX3_init_1 : decode cX3_init 1 = .ok (.invokespecial 3, 3) := by decide +kernel
theorem dX3_init_4 : decode cX3_init 4 = .ok (.aload_n 0, 1) := by decide +kernel
theorem dX3_init_5 : decode cX3_init 5 = .ok (.iconst 5, 1) := by decide +kernel
theorem dX3_init_6 : decode cX3_init 6 = .ok (.newarray .int, 2) := by decide +kernel
theorem dX3_init_8 : decode cX3_init 8 = .ok (.putfield 9, 3) := by decide +kernel
theorem dX3_init_11 : decode cX3_init 11 = .ok (.aload_n 0, 1) := by decide +kernel
theorem dX3_init_12 : decode cX3_init 12 = .ok (.iconst 5, 1) := by decide +kernel
theorem dX3_init_13 : decode cX3_init 13 = .ok (.newarray .int, 2) := by decide +kernel
theorem dX3_init_15 : decode cX3_init 15 = .ok (.putfield 15, 3) := by decide +kernel
theorem dX3_init_18 : decode cX3_init 18 = .ok (.aload_n 0, 1) := by decide +kernel
theorem dX3_init_19 : decode cX3_init 19 = .ok (.iconst 5, 1) := by decide +kernel
theorem dX3_init_20 : decode cX3_init 20 = .ok (.newarray .int, 2) := by decide +kernel
theorem dX3_init_22 : decode cX3_init 22 = .ok (.putfield 18, 3) := by decide +kernel
theorem dX3_init_25 : decode cX3_init 25 = .ok (.aload_n 0, 1) := by decide +kernel
theorem dX3_init_26 : decode cX3_init 26 = .ok (.bipush 25, 2) := by decide +kernel
theorem dX3_init_28 : decode cX3_init 28 = .ok (.newarray .int, 2) := by decide +kernel
theorem dX3_init_30 : decode cX3_init 30 = .ok (.putfield 21, 3) := by decide +kernel
theorem dX3_init_33 : decode cX3_init 33 = .ok (.aload_n 0, 1) := by decide +kernel
theorem dX3_init_34 : decode cX3_init 34 = .ok (.iconst 4, 1) := by decide +kernel
theorem dX3_init_35 : decode cX3_init 35 = .ok (.newarray .int, 2) := by decide +kernel
theorem dX3_init_37 : decode cX3_init 37 = .ok (.putfield 24, 3) := by decide +kernel
theorem dX3_init_40 : decode cX3_init 40 = .ok (.return_, 1) := by decide +kernel
theorem dX3_isRead_0 : decode cX3_isRead 0 = .ok (.aload_n 0, 1) := by decide +kernel
theorem dX3_isRead_1 : decode cX3_isRead 1 = .ok (.getfield 27, 3) := by decide +kernel
theorem dX3_isRead_4 : decode cX3_isRead 4 = .ok (.ifCond .le 7, 3) := by decide +kernel
theorem dX3_isRead_7 : decode cX3_isRead 7 = .ok (.iconst 1, 1) := by decide +kernel
theorem dX3_isRead_8 : decode cX3_isRead 8 = .ok (.goto 4, 3) := by decide +kernel
theorem dX3_isRead_11 : decode cX3_isRead 11 = .ok (.iconst 0, 1) := by decide +kernel
theorem dX3_isRead_12 : decode cX3_isRead 12 = .ok (.ireturn, 1) := by decide +kernel
theorem dX3_hasMirror_0 : decode cX3_hasMirror 0 = .ok (.iload_n 1, 1) := by decide +kernel
theorem dX3_hasMirror_1 : decode cX3_hasMirror 1 = .ok (.ifCond .lt 15, 3) := by decide +kernel
theorem dX3_hasMirror_4 : decode cX3_hasMirror 4 = .ok (.iload_n 1, 1) := by decide +kernel
theorem dX3_hasMirror_5 : decode cX3_hasMirror 5 = .ok (.aload_n 0, 1) := by decide +kernel
theorem dX3_hasMirror_6 : decode cX3_hasMirror 6 = .ok (.getfield 27, 3) := by decide +kernel
theorem dX3_hasMirror_9 : decode cX3_hasMirror 9 = .ok (.if_icmp .ge 7, 3) := by decide +kernel
theorem dX3_hasMirror_12 : decode cX3_hasMirror 12 = .ok (.iconst 1, 1) := by decide +kernel
theorem dX3_hasMirror_13 : decode cX3_hasMirror 13 = .ok (.goto 4, 3) := by decide +kernel
theorem dX3_hasMirror_16 : decode cX3_hasMirror 16 = .ok (.iconst 0, 1) := by decide +kernel
theorem dX3_hasMirror_17 : decode cX3_hasMirror 17 = .ok (.ireturn, 1) := by decide +kernel
theorem dX3_hasPatch_0 : decode cX3_hasPatch 0 = .ok (.iload_n 1, 1) := by decide +kernel
theorem dX3_hasPatch_1 : decode cX3_hasPatch 1 = .ok (.ifCond .lt 15, 3) := by decide +kernel
theorem dX3_hasPatch_4 : decode cX3_hasPatch 4 = .ok (.iload_n 1, 1) := by decide +kernel
theorem dX3_hasPatch_5 : decode cX3_hasPatch 5 = .ok (.aload_n 0, 1) := by decide +kernel
theorem dX3_hasPatch_6 : decode cX3_hasPatch 6 = .ok (.getfield 31, 3) := by decide +kernel
theorem dX3_hasPatch_9 : decode cX3_hasPatch 9 = .ok (.if_icmp .ge 7, 3) := by decide +kernel
theorem dX3_hasPatch_12 : decode cX3_hasPatch 12 = .ok (.iconst 1, 1) := by decide +kernel
theorem dX3_hasPatch_13 : decode cX3_hasPatch 13 = .ok (.goto 4, 3) := by decide +kernel
theorem dX3_hasPatch_16 : decode cX3_hasPatch 16 = .ok (.iconst 0, 1) := by decide +kernel
theorem dX3_hasPatch_17 : decode cX3_hasPatch 17 = .ok (.ireturn, 1) := by decide +kernel
theorem dX3_isShaded_0 : decode cX3_isShaded 0 = .ok (.aload_n 0, 1) := by decide +kernel
theorem dX3_isShaded_1 : decode cX3_isShaded 1 = .ok (.getfield 34, 3) := by decide +kernel
theorem dX3_isShaded_4 : decode cX3_isShaded 4 = .ok (.iload_n 1, 1) := by decide +kernel
theorem dX3_isShaded_5 : decode cX3_isShaded 5 = .ok (.invokestatic 37, 3) := by decide +kernel
theorem dX3_isShaded_8 : decode cX3_isShaded 8 = .ok (.iconst 1, 1) := by decide +kernel
theorem dX3_isShaded_9 : decode cX3_isShaded 9 = .ok (.if_icmp .ne 7, 3) := by decide +kernel
theorem dX3_isShaded_12 : decode cX3_isShaded 12 = .ok (.iconst 1, 1) := by decide +kernel
theorem dX3_isShaded_13 : decode cX3_isShaded 13 = .ok (.goto 4, 3) := by decide +kernel
theorem dX3_isShaded_16 : decode cX3_isShaded 16 = .ok (.iconst 0, 1) := by decide +kernel
theorem dX3_isShaded_17 : decode cX3_isShaded 17 = .ok (.ireturn, 1) := by decide +kernel
theorem dX3_isStuck_0 : decode cX3_isStuck 0 = .ok (.aload_n 0, 1) := by decide +kernel
theorem dX3_isStuck_1 : decode cX3_isStuck 1 = .ok (.getfield 41, 3) := by decide +kernel
theorem dX3_isStuck_4 : decode cX3_isStuck 4 = .ok (.iload_n 1, 1) := by decide +kernel
theorem dX3_isStuck_5 : decode cX3_isStuck 5 = .ok (.invokestatic 37, 3) := by decide +kernel
theorem dX3_isStuck_8 : decode cX3_isStuck 8 = .ok (.iconst 1, 1) := by decide +kernel
theorem dX3_isStuck_9 : decode cX3_isStuck 9 = .ok (.if_icmp .ne 7, 3) := by decide +kernel
theorem dX3_isStuck_12 : decode cX3_isStuck 12 = .ok (.iconst 1, 1) := by decide +kernel
theorem dX3_isStuck_13 : decode cX3_isStuck 13 = .ok (.goto 4, 3) := by decide +kernel
theorem dX3_isStuck_16 : decode cX3_isStuck 16 = .ok (.iconst 0, 1) := by decide +kernel
theorem dX3_isStuck_17 : decode cX3_isStuck 17 = .ok (.ireturn, 1) := by decide +kernel
theorem dX3_read_0 : decode cX3_read 0 = .ok (.aload_n 0, 1) := by decide +kernel
theorem dX3_read_1 : decode cX3_read 1 = .ok (.aload_n 1, 1) := by decide +kernel
theorem dX3_read_2 : decode cX3_read 2 = .ok (.iconst 0, 1) := by decide +kernel
theorem dX3_read_3 : decode cX3_read 3 = .ok (.invokevirtual 44, 3) := by decide +kernel
theorem dX3_read_6 : decode cX3_read 6 = .ok (.iconst 4, 1) := by decide +kernel
theorem dX3_read_7 : decode cX3_read 7 = .ok (.invokestatic 50, 3) := by decide +kernel
theorem dX3_read_10 : decode cX3_read 10 = .ok (.putfield 31, 3) := by decide +kernel
theorem dX3_read_13 : decode cX3_read 13 = .ok (.aload_n 0, 1) := by decide +kernel
theorem dX3_read_14 : decode cX3_read 14 = .ok (.aload_n 1, 1) := by decide +kernel
theorem dX3_read_15 : decode cX3_read 15 = .ok (.getfield 55, 3) := by decide +kernel
theorem dX3_read_18 : decode cX3_read 18 = .ok (.iconst 4, 1) := by decide +kernel
theorem dX3_read_19 : decode cX3_read 19 = .ok (.idiv, 1) := by decide +kernel
theorem dX3_read_20 : decode cX3_read 20 = .ok (.iconst 5, 1) := by decide +kernel
theorem dX3_read_21 : decode cX3_read 21 = .ok (.invokestatic 50, 3) := by decide +kernel
theorem dX3_read_24 : decode cX3_read 24 = .ok (.putfield 27, 3) := by decide +kernel
theorem dX3_read_27 : decode cX3_read 27 = .ok (.aload_n 0, 1) := by decide +kernel
theorem dX3_read_28 : decode cX3_read 28 = .ok (.iconst 1, 1) := by decide +kernel
theorem dX3_read_29 : decode cX3_read 29 = .ok (.putfield 58, 3) := by decide +kernel
theorem dX3_read_32 : decode cX3_read 32 = .ok (.aload_n 0, 1) := by decide +kernel
theorem dX3_read_33 : decode cX3_read 33 = .ok (.iconst 0, 1) := by decide +kernel
theorem dX3_read_34 : decode cX3_read 34 = .ok (.putfield 34, 3) := by decide +kernel
theorem dX3_read_37 : decode cX3_read 37 = .ok (.aload_n 0, 1) := by decide +kernel
theorem dX3_read_38 : decode cX3_read 38 = .ok (.iconst 0, 1) := by decide +kernel
theorem dX3_read_39 : decode cX3_read 39 = .ok (.putfield 41, 3) := by decide +kernel
theorem dX3_read_42 : decode cX3_read 42 = .ok (.iconst 0, 1) := by decide +kernel
theorem dX3_read_43 : decode cX3_read 43 = .ok (.istore_n 2, 1) := by decide +kernel
theorem dX3_read_44 : decode cX3_read 44 = .ok (.iload_n 2, 1) := by decide +kernel
theorem dX3_read_45 : decode cX3_read 45 = .ok (.aload_n 0, 1) := by decide +kernel
theorem dX3_read_46 : decode cX3_read 46 = .ok (.getfield 27, 3) := by decide +kernel
theorem dX3_read_49 : decode cX3_read 49 = .ok (.if_icmp .ge 101, 3) := by decide +kernel
theorem dX3_read_52 : decode cX3_read 52 = .ok (.aload_n 0, 1) := by decide +kernel
theorem dX3_read_53 : decode cX3_read 53 = .ok (.dup, 1) := by decide +kernel
theorem dX3_read_54 : decode cX3_read 54 = .ok (.getfield 58, 3) := by decide +kernel
theorem dX3_read_57 : decode cX3_read 57 = .ok (.iconst 5, 1) := by decide +kernel
theorem dX3_read_58 : decode cX3_read 58 = .ok (.imul, 1) := by decide +kernel
theorem dX3_read_59 : decode cX3_read 59 = .ok (.putfield 58, 3) := by decide +kernel
theorem dX3_read_62 : decode cX3_read 62 = .ok (.aload_n 0, 1) := by decide +kernel
theorem dX3_read_63 : decode cX3_read 63 = .ok (.getfield 9, 3) := by decide +kernel
theorem dX3_read_66 : decode cX3_read 66 = .ok (.iload_n 2, 1) := by decide +kernel
theorem dX3_read_67 : decode cX3_read 67 = .ok (.aload_n 1, 1) := by decide +kernel
theorem dX3_read_68 : decode cX3_read 68 = .ok (.iconst 4, 1) := by decide +kernel
theorem dX3_read_69 : decode cX3_read 69 = .ok (.iload_n 2, 1) := by decide +kernel
theorem dX3_read_70 : decode cX3_read 70 = .ok (.imul, 1) := by decide +kernel
theorem dX3_read_71 : decode cX3_read 71 = .ok (.iconst 2, 1) := by decide +kernel
theorem dX3_read_72 : decode cX3_read 72 = .ok (.iadd, 1) := by decide +kernel
theorem dX3_read_73 : decode cX3_read 73 = .ok (.invokevirtual 44, 3) := by decide +kernel
theorem dX3_read_76 : decode cX3_read 76 = .ok (.iastore, 1) := by decide +kernel
theorem dX3_read_77 : decode cX3_read 77 = .ok (.aload_n 0, 1) := by decide +kernel
theorem dX3_read_78 : decode cX3_read 78 = .ok (.getfield 15, 3) := by decide +kernel
theorem dX3_read_81 : decode cX3_read 81 = .ok (.iload_n 2, 1) := by decide +kernel
theorem dX3_read_82 : decode cX3_read 82 = .ok (.aload_n 1, 1) := by decide +kernel
theorem dX3_read_83 : decode cX3_read 83 = .ok (.iconst 4, 1) := by decide +kernel
theorem dX3_read_84 : decode cX3_read 84 = .ok (.iload_n 2, 1) := by decide +kernel
theorem dX3_read_85 : decode cX3_read 85 = .ok (.imul, 1) := by decide +kernel
theorem dX3_read_86 : decode cX3_read 86 = .ok (.iconst 4, 1) := by decide +kernel
theorem dX3_read_87 : decode cX3_read 87 = .ok (.iadd, 1) := by decide +kernel
theorem dX3_read_88 : decode cX3_read 88 = .ok (.invokevirtual 44, 3) := by decide +kernel
theorem dX3_read_91 : decode cX3_read 91 = .ok (.iastore, 1) := by decide +kernel
theorem dX3_read_92 : decode cX3_read 92 = .ok (.aload_n 0, 1) := by decide +kernel
theorem dX3_read_93 : decode cX3_read 93 = .ok (.getfield 18, 3) := by decide +kernel
theorem dX3_read_96 : decode cX3_read 96 = .ok (.iload_n 2, 1) := by decide +kernel
theorem dX3_read_97 : decode cX3_read 97 = .ok (.iconst (-1), 1) := by decide +kernel
theorem dX3_read_98 : decode cX3_read 98 = .ok (.iastore, 1) := by decide +kernel
theorem dX3_read_99 : decode cX3_read 99 = .ok (.iconst (-1), 1) := by decide +kernel
theorem dX3_read_100 : decode cX3_read 100 = .ok (.istore_n 3, 1) := by decide +kernel
theorem dX3_read_101 : decode cX3_read 101 = .ok (.iload_n 3, 1) := by decide +kernel
theorem dX3_read_102 : decode cX3_read 102 = .ok (.aload_n 0, 1) := by decide +kernel
theorem dX3_read_103 : decode cX3_read 103 = .ok (.getfield 31, 3) := by decide +kernel
theorem dX3_read_106 : decode cX3_read 106 = .ok (.if_icmp .ge 38, 3) := by decide +kernel
theorem dX3_read_109 : decode cX3_read 109 = .ok (.aload_n 0, 1) := by decide +kernel
theorem dX3_read_110 : decode cX3_read 110 = .ok (.getfield 21, 3) := by decide +kernel
theorem dX3_read_113 : decode cX3_read 113 = .ok (.iload_n 2, 1) := by decide +kernel
theorem dX3_read_114 : decode cX3_read 114 = .ok (.iconst 5, 1) := by decide +kernel
theorem dX3_read_115 : decode cX3_read 115 = .ok (.imul, 1) := by decide +kernel
theorem dX3_read_116 : decode cX3_read 116 = .ok (.iload_n 3, 1) := by decide +kernel
theorem dX3_read_117 : decode cX3_read 117 = .ok (.iadd, 1) := by decide +kernel
theorem dX3_read_118 : decode cX3_read 118 = .ok (.iconst 1, 1) := by decide +kernel
theorem dX3_read_119 : decode cX3_read 119 = .ok (.iadd, 1) := by decide +kernel
theorem dX3_read_120 : decode cX3_read 120 = .ok (.aload_n 0, 1) := by decide +kernel
theorem dX3_read_121 : decode cX3_read 121 = .ok (.aload_n 0, 1) := by decide +kernel
theorem dX3_read_122 : decode cX3_read 122 = .ok (.getfield 9, 3) := by decide +kernel
theorem dX3_read_125 : decode cX3_read 125 = .ok (.iload_n 2, 1) := by decide +kernel
theorem dX3_read_126 : decode cX3_read 126 = .ok (.iaload, 1) := by decide +kernel
theorem dX3_read_127 : decode cX3_read 127 = .ok (.aload_n 0, 1) := by decide +kernel
theorem dX3_read_128 : decode cX3_read 128 = .ok (.getfield 15, 3) := by decide +kernel
theorem dX3_read_131 : decode cX3_read 131 = .ok (.iload_n 2, 1) := by decide +kernel
theorem dX3_read_132 : decode cX3_read 132 = .ok (.iaload, 1) := by decide +kernel
theorem dX3_read_133 : decode cX3_read 133 = .ok (.iload_n 3, 1) := by decide +kernel
theorem dX3_read_134 : decode cX3_read 134 = .ok (.invokevirtual 61, 3) := by decide +kernel
theorem dX3_read_137 : decode cX3_read 137 = .ok (.iastore, 1) := by decide +kernel
theorem dX3_read_138 : decode cX3_read 138 = .ok (.iinc 3 1, 3) := by decide +kernel
theorem dX3_read_141 : decode cX3_read 141 = .ok (.goto (-40), 3) := by decide +kernel
theorem dX3_read_144 : decode cX3_read 144 = .ok (.iinc 2 1, 3) := by decide +kernel
theorem dX3_read_147 : decode cX3_read 147 = .ok (.goto (-103), 3) := by decide +kernel
theorem dX3_read_150 : decode cX3_read 150 = .ok (.aload_n 0, 1) := by decide +kernel
theorem dX3_read_151 : decode cX3_read 151 = .ok (.getfield 24, 3) := by decide +kernel
theorem dX3_read_154 : decode cX3_read 154 = .ok (.bipush 20, 2) := by decide +kernel
theorem dX3_read_156 : decode cX3_read 156 = .ok (.invokestatic 65, 3) := by decide +kernel
theorem dX3_read_159 : decode cX3_read 159 = .ok (.aload_n 0, 1) := by decide +kernel
theorem dX3_read_160 : decode cX3_read 160 = .ok (.invokevirtual 71, 3) := by decide +kernel
theorem dX3_read_163 : decode cX3_read 163 = .ok (.return_, 1) := by decide +kernel
theorem dX3_lightOf_0 : decode cX3_lightOf 0 = .ok (.aload_n 0, 1) := by decide +kernel
theorem dX3_lightOf_1 : decode cX3_lightOf 1 = .ok (.iload_n 3, 1) := by decide +kernel
theorem dX3_lightOf_2 : decode cX3_lightOf 2 = .ok (.invokevirtual 74, 3) := by decide +kernel
theorem dX3_lightOf_5 : decode cX3_lightOf 5 = .ok (.ifCond .ne 5, 3) := by decide +kernel
theorem dX3_lightOf_8 : decode cX3_lightOf 8 = .ok (.iconst 0, 1) := by decide +kernel
theorem dX3_lightOf_9 : decode cX3_lightOf 9 = .ok (.ireturn, 1) := by decide +kernel
theorem dX3_lightOf_10 : decode cX3_lightOf 10 = .ok (.iload_n 1, 1) := by decide +kernel
theorem dX3_lightOf_11 : decode cX3_lightOf 11 = .ok (.bipush 8, 2) := by decide +kernel
theorem dX3_lightOf_13 : decode cX3_lightOf 13 = .ok (.iload_n 3, 1) := by decide +kernel
theorem dX3_lightOf_14 : decode cX3_lightOf 14 = .ok (.imul, 1) := by decide +kernel
theorem dX3_lightOf_15 : decode cX3_lightOf 15 = .ok (.ishl, 1) := by decide +kernel
theorem dX3_lightOf_16 : decode cX3_lightOf 16 = .ok (.istore 4, 2) := by decide +kernel
theorem dX3_lightOf_18 : decode cX3_lightOf 18 = .ok (.aload_n 0, 1) := by decide +kernel
theorem dX3_lightOf_19 : decode cX3_lightOf 19 = .ok (.iload_n 3, 1) := by decide +kernel
theorem dX3_lightOf_20 : decode cX3_lightOf 20 = .ok (.iconst 1, 1) := by decide +kernel
theorem dX3_lightOf_21 : decode cX3_lightOf 21 = .ok (.isub, 1) := by decide +kernel
theorem dX3_lightOf_22 : decode cX3_lightOf 22 = .ok (.invokevirtual 74, 3) := by decide +kernel
theorem dX3_lightOf_25 : decode cX3_lightOf 25 = .ok (.ifCond .eq 16, 3) := by decide +kernel
theorem dX3_lightOf_28 : decode cX3_lightOf 28 = .ok (.iload 4, 2) := by decide +kernel
theorem dX3_lightOf_30 : decode cX3_lightOf 30 = .ok (.iload_n 2, 1) := by decide +kernel
theorem dX3_lightOf_31 : decode cX3_lightOf 31 = .ok (.bipush 8, 2) := by decide +kernel
theorem dX3_lightOf_33 : decode cX3_lightOf 33 = .ok (.iload_n 3, 1) := by decide +kernel
theorem dX3_lightOf_34 : decode cX3_lightOf 34 = .ok (.iconst 1, 1) := by decide +kernel
theorem dX3_lightOf_35 : decode cX3_lightOf 35 = .ok (.isub, 1) := by decide +kernel
theorem dX3_lightOf_36 : decode cX3_lightOf 36 = .ok (.imul, 1) := by decide +kernel
theorem dX3_lightOf_37 : decode cX3_lightOf 37 = .ok (.ishl, 1) := by decide +kernel
theorem dX3_lightOf_38 : decode cX3_lightOf 38 = .ok (.iadd, 1) := by decide +kernel
theorem dX3_lightOf_39 : decode cX3_lightOf 39 = .ok (.istore 4, 2) := by decide +kernel
theorem dX3_lightOf_41 : decode cX3_lightOf 41 = .ok (.aload_n 0, 1) := by decide +kernel
theorem dX3_lightOf_42 : decode cX3_lightOf 42 = .ok (.iload_n 3, 1) := by decide +kernel
theorem dX3_lightOf_43 : decode cX3_lightOf 43 = .ok (.iconst 1, 1) := by decide +kernel
theorem dX3_lightOf_44 : decode cX3_lightOf 44 = .ok (.iadd, 1) := by decide +kernel
theorem dX3_lightOf_45 : decode cX3_lightOf 45 = .ok (.invokevirtual 74, 3) := by decide +kernel
theorem dX3_lightOf_48 : decode cX3_lightOf 48 = .ok (.ifCond .eq 16, 3) := by decide +kernel
theorem dX3_lightOf_51 : decode cX3_lightOf 51 = .ok (.iload 4, 2) := by decide +kernel
theorem dX3_lightOf_53 : decode cX3_lightOf 53 = .ok (.iload_n 2, 1) := by decide +kernel
theorem dX3_lightOf_54 : decode cX3_lightOf 54 = .ok (.bipush 8, 2) := by decide +kernel
theorem dX3_lightOf_56 : decode cX3_lightOf 56 = .ok (.iload_n 3, 1) := by decide +kernel
theorem dX3_lightOf_57 : decode cX3_lightOf 57 = .ok (.iconst 1, 1) := by decide +kernel
theorem dX3_lightOf_58 : decode cX3_lightOf 58 = .ok (.iadd, 1) := by decide +kernel
theorem dX3_lightOf_59 : decode cX3_lightOf 59 = .ok (.imul, 1) := by decide +kernel
theorem dX3_lightOf_60 : decode cX3_lightOf 60 = .ok (.ishl, 1) := by decide +kernel
theorem dX3_lightOf_61 : decode cX3_lightOf 61 = .ok (.iadd, 1) := by decide +kernel
theorem dX3_lightOf_62 : decode cX3_lightOf 62 = .ok (.istore 4, 2) := by decide +kernel
theorem dX3_lightOf_64 : decode cX3_lightOf 64 = .ok (.iload 4, 2) := by decide +kernel
theorem dX3_lightOf_66 : decode cX3_lightOf 66 = .ok (.ireturn, 1) := by decide +kernel
theorem dX3_light_0 : decode cX3_light 0 = .ok (.aload_n 0, 1) := by decide +kernel
theorem dX3_light_1 : decode cX3_light 1 = .ok (.getfield 21, 3) := by decide +kernel
theorem dX3_light_4 : decode cX3_light 4 = .ok (.iload_n 1, 1) := by decide +kernel
theorem dX3_light_5 : decode cX3_light 5 = .ok (.iconst 5, 1) := by decide +kernel
theorem dX3_light_6 : decode cX3_light 6 = .ok (.imul, 1) := by decide +kernel
theorem dX3_light_7 : decode cX3_light 7 = .ok (.iload_n 2, 1) := by decide +kernel
theorem dX3_light_8 : decode cX3_light 8 = .ok (.iadd, 1) := by decide +kernel
theorem dX3_light_9 : decode cX3_light 9 = .ok (.iconst 1, 1) := by decide +kernel
theorem dX3_light_10 : decode cX3_light 10 = .ok (.iadd, 1) := by decide +kernel
theorem dX3_light_11 : decode cX3_light 11 = .ok (.iaload, 1) := by decide +kernel
theorem dX3_light_12 : decode cX3_light 12 = .ok (.ireturn, 1) := by decide +kernel
theorem dX3_measureSlack_0 : decode cX3_measureSlack 0 = .ok (.aload_n 0, 1) := by decide +kernel
theorem dX3_measureSlack_1 : decode cX3_measureSlack 1 = .ok (.iconst 0, 1) := by decide +kernel
theorem dX3_measureSlack_2 : decode cX3_measureSlack 2 = .ok (.putfield 78, 3) := by decide +kernel
theorem dX3_measureSlack_5 : decode cX3_measureSlack 5 = .ok (.iconst 0, 1) := by decide +kernel
theorem dX3_measureSlack_6 : decode cX3_measureSlack 6 = .ok (.istore_n 1, 1) := by decide +kernel
theorem dX3_measureSlack_7 : decode cX3_measureSlack 7 = .ok (.iload_n 1, 1) := by decide +kernel
theorem dX3_measureSlack_8 : decode cX3_measureSlack 8 = .ok (.aload_n 0, 1) := by decide +kernel
theorem dX3_measureSlack_9 : decode cX3_measureSlack 9 = .ok (.getfield 31, 3) := by decide +kernel
theorem dX3_measureSlack_12 : decode cX3_measureSlack 12 = .ok (.if_icmp .ge 32, 3) := by decide +kernel
theorem dX3_measureSlack_15 : decode cX3_measureSlack 15 = .ok (.aload_n 0, 1) := by decide +kernel
theorem dX3_measureSlack_16 : decode cX3_measureSlack 16 = .ok (.dup, 1) := by decide +kernel
theorem dX3_measureSlack_17 : decode cX3_measureSlack 17 = .ok (.getfield 78, 3) := by decide +kernel
theorem dX3_measureSlack_20 : decode cX3_measureSlack 20 = .ok (.bipush 127, 2) := by decide +kernel
theorem dX3_measureSlack_22 : decode cX3_measureSlack 22 = .ok (.aload_n 0, 1) := by decide +kernel
theorem dX3_measureSlack_23 : decode cX3_measureSlack 23 = .ok (.getfield 24, 3) := by decide +kernel
theorem dX3_measureSlack_26 : decode cX3_measureSlack 26 = .ok (.iload_n 1, 1) := by decide +kernel
theorem dX3_measureSlack_27 : decode cX3_measureSlack 27 = .ok (.iaload, 1) := by decide +kernel
theorem dX3_measureSlack_28 : decode cX3_measureSlack 28 = .ok (.isub, 1) := by decide +kernel
theorem dX3_measureSlack_29 : decode cX3_measureSlack 29 = .ok (.bipush 8, 2) := by decide +kernel
theorem dX3_measureSlack_31 : decode cX3_measureSlack 31 = .ok (.iload_n 1, 1) := by decide +kernel
theorem dX3_measureSlack_32 : decode cX3_measureSlack 32 = .ok (.imul, 1) := by decide +kernel
theorem dX3_measureSlack_33 : decode cX3_measureSlack 33 = .ok (.ishl, 1) := by decide +kernel
theorem dX3_measureSlack_34 : decode cX3_measureSlack 34 = .ok (.iadd, 1) := by decide +kernel
theorem dX3_measureSlack_35 : decode cX3_measureSlack 35 = .ok (.putfield 78, 3) := by decide +kernel
theorem dX3_measureSlack_38 : decode cX3_measureSlack 38 = .ok (.iinc 1 1, 3) := by decide +kernel
theorem dX3_measureSlack_41 : decode cX3_measureSlack 41 = .ok (.goto (-34), 3) := by decide +kernel
theorem dX3_measureSlack_44 : decode cX3_measureSlack 44 = .ok (.return_, 1) := by decide +kernel
theorem dX3_isSafe_0 : decode cX3_isSafe 0 = .ok (.iload_n 1, 1) := by decide +kernel
theorem dX3_isSafe_1 : decode cX3_isSafe 1 = .ok (.aload_n 0, 1) := by decide +kernel
theorem dX3_isSafe_2 : decode cX3_isSafe 2 = .ok (.getfield 78, 3) := by decide +kernel
theorem dX3_isSafe_5 : decode cX3_isSafe 5 = .ok (.iadd, 1) := by decide +kernel
theorem dX3_isSafe_6 : decode cX3_isSafe 6 = .ok (.ldc 81, 2) := by decide +kernel
theorem dX3_isSafe_8 : decode cX3_isSafe 8 = .ok (.iand, 1) := by decide +kernel
theorem dX3_isSafe_9 : decode cX3_isSafe 9 = .ok (.ifCond .ne 7, 3) := by decide +kernel
theorem dX3_isSafe_12 : decode cX3_isSafe 12 = .ok (.iconst 1, 1) := by decide +kernel
theorem dX3_isSafe_13 : decode cX3_isSafe 13 = .ok (.goto 4, 3) := by decide +kernel
theorem dX3_isSafe_16 : decode cX3_isSafe 16 = .ok (.iconst 0, 1) := by decide +kernel
theorem dX3_isSafe_17 : decode cX3_isSafe 17 = .ok (.ireturn, 1) := by decide +kernel
theorem dX3_heats_0 : decode cX3_heats 0 = .ok (.aload_n 0, 1) := by decide +kernel
theorem dX3_heats_1 : decode cX3_heats 1 = .ok (.aload_n 0, 1) := by decide +kernel
theorem dX3_heats_2 : decode cX3_heats 2 = .ok (.getfield 34, 3) := by decide +kernel
theorem dX3_heats_5 : decode cX3_heats 5 = .ok (.invokevirtual 82, 3) := by decide +kernel
theorem dX3_heats_8 : decode cX3_heats 8 = .ok (.ireturn, 1) := by decide +kernel
theorem dX3_heatsWithout_0 : decode cX3_heatsWithout 0 = .ok (.iconst 0, 1) := by decide +kernel
theorem dX3_heatsWithout_1 : decode cX3_heatsWithout 1 = .ok (.istore_n 2, 1) := by decide +kernel
theorem dX3_heatsWithout_2 : decode cX3_heatsWithout 2 = .ok (.iconst 0, 1) := by decide +kernel
theorem dX3_heatsWithout_3 : decode cX3_heatsWithout 3 = .ok (.istore_n 3, 1) := by decide +kernel
theorem dX3_heatsWithout_4 : decode cX3_heatsWithout 4 = .ok (.iload_n 3, 1) := by decide +kernel
theorem dX3_heatsWithout_5 : decode cX3_heatsWithout 5 = .ok (.aload_n 0, 1) := by decide +kernel
theorem dX3_heatsWithout_6 : decode cX3_heatsWithout 6 = .ok (.getfield 27, 3) := by decide +kernel
theorem dX3_heatsWithout_9 : decode cX3_heatsWithout 9 = .ok (.if_icmp .ge 31, 3) := by decide +kernel
theorem dX3_heatsWithout_12 : decode cX3_heatsWithout 12 = .ok (.iload_n 1, 1) := by decide +kernel
theorem dX3_heatsWithout_13 : decode cX3_heatsWithout 13 = .ok (.iload_n 3, 1) := by decide +kernel
theorem dX3_heatsWithout_14 : decode cX3_heatsWithout 14 = .ok (.invokestatic 37, 3) := by decide +kernel
theorem dX3_heatsWithout_17 : decode cX3_heatsWithout 17 = .ok (.ifCond .ne 17, 3) := by decide +kernel
theorem dX3_heatsWithout_20 : decode cX3_heatsWithout 20 = .ok (.iload_n 2, 1) := by decide +kernel
theorem dX3_heatsWithout_21 : decode cX3_heatsWithout 21 = .ok (.aload_n 0, 1) := by decide +kernel
theorem dX3_heatsWithout_22 : decode cX3_heatsWithout 22 = .ok (.iload_n 3, 1) := by decide +kernel
theorem dX3_heatsWithout_23 : decode cX3_heatsWithout 23 = .ok (.aload_n 0, 1) := by decide +kernel
theorem dX3_heatsWithout_24 : decode cX3_heatsWithout 24 = .ok (.getfield 18, 3) := by decide +kernel
theorem dX3_heatsWithout_27 : decode cX3_heatsWithout 27 = .ok (.iload_n 3, 1) := by decide +kernel
theorem dX3_heatsWithout_28 : decode cX3_heatsWithout 28 = .ok (.iaload, 1) := by decide +kernel
theorem dX3_heatsWithout_29 : decode cX3_heatsWithout 29 = .ok (.invokevirtual 85, 3) := by decide +kernel
end
section
theorem dX3_heatsWithout_32 : decode cX3_heatsWithout 32 = .ok (.iadd, 1) := by decide +kernel
theorem dX3_heatsWithout_33 : decode cX3_heatsWithout 33 = .ok (.istore_n 2, 1) := by decide +kernel
theorem dX3_heatsWithout_34 : decode cX3_heatsWithout 34 = .ok (.iinc 3 1, 3) := by decide +kernel
theorem dX3_heatsWithout_37 : decode cX3_heatsWithout 37 = .ok (.goto (-33), 3) := by decide +kernel
theorem dX3_heatsWithout_40 : decode cX3_heatsWithout 40 = .ok (.iload_n 2, 1) := by decide +kernel
theorem dX3_heatsWithout_41 : decode cX3_heatsWithout 41 = .ok (.ireturn, 1) := by decide +kernel
theorem dX3_aimingAt_0 : decode cX3_aimingAt 0 = .ok (.iconst 0, 1) := by decide +kernel
theorem dX3_aimingAt_1 : decode cX3_aimingAt 1 = .ok (.istore_n 2, 1) := by decide +kernel
theorem dX3_aimingAt_2 : decode cX3_aimingAt 2 = .ok (.iconst 0, 1) := by decide +kernel
theorem dX3_aimingAt_3 : decode cX3_aimingAt 3 = .ok (.istore_n 3, 1) := by decide +kernel
theorem dX3_aimingAt_4 : decode cX3_aimingAt 4 = .ok (.iload_n 3, 1) := by decide +kernel
theorem dX3_aimingAt_5 : decode cX3_aimingAt 5 = .ok (.aload_n 0, 1) := by decide +kernel
theorem dX3_aimingAt_6 : decode cX3_aimingAt 6 = .ok (.getfield 27, 3) := by decide +kernel
theorem dX3_aimingAt_9 : decode cX3_aimingAt 9 = .ok (.if_icmp .ge 22, 3) := by decide +kernel
theorem dX3_aimingAt_12 : decode cX3_aimingAt 12 = .ok (.aload_n 0, 1) := by decide +kernel
theorem dX3_aimingAt_13 : decode cX3_aimingAt 13 = .ok (.getfield 18, 3) := by decide +kernel
theorem dX3_aimingAt_16 : decode cX3_aimingAt 16 = .ok (.iload_n 3, 1) := by decide +kernel
theorem dX3_aimingAt_17 : decode cX3_aimingAt 17 = .ok (.iaload, 1) := by decide +kernel
theorem dX3_aimingAt_18 : decode cX3_aimingAt 18 = .ok (.iload_n 1, 1) := by decide +kernel
theorem dX3_aimingAt_19 : decode cX3_aimingAt 19 = .ok (.if_icmp .ne 6, 3) := by decide +kernel
theorem dX3_aimingAt_22 : decode cX3_aimingAt 22 = .ok (.iinc 2 1, 3) := by decide +kernel
theorem dX3_aimingAt_25 : decode cX3_aimingAt 25 = .ok (.iinc 3 1, 3) := by decide +kernel
theorem dX3_aimingAt_28 : decode cX3_aimingAt 28 = .ok (.goto (-24), 3) := by decide +kernel
theorem dX3_aimingAt_31 : decode cX3_aimingAt 31 = .ok (.iload_n 2, 1) := by decide +kernel
theorem dX3_aimingAt_32 : decode cX3_aimingAt 32 = .ok (.ireturn, 1) := by decide +kernel
theorem dX3_bound_0 : decode cX3_bound 0 = .ok (.iconst 0, 1) := by decide +kernel
theorem dX3_bound_1 : decode cX3_bound 1 = .ok (.istore_n 1, 1) := by decide +kernel
theorem dX3_bound_2 : decode cX3_bound 2 = .ok (.iconst 0, 1) := by decide +kernel
theorem dX3_bound_3 : decode cX3_bound 3 = .ok (.istore_n 2, 1) := by decide +kernel
theorem dX3_bound_4 : decode cX3_bound 4 = .ok (.iload_n 2, 1) := by decide +kernel
theorem dX3_bound_5 : decode cX3_bound 5 = .ok (.aload_n 0, 1) := by decide +kernel
theorem dX3_bound_6 : decode cX3_bound 6 = .ok (.getfield 27, 3) := by decide +kernel
theorem dX3_bound_9 : decode cX3_bound 9 = .ok (.if_icmp .ge 50, 3) := by decide +kernel
theorem dX3_bound_12 : decode cX3_bound 12 = .ok (.aload_n 0, 1) := by decide +kernel
theorem dX3_bound_13 : decode cX3_bound 13 = .ok (.iload_n 2, 1) := by decide +kernel
theorem dX3_bound_14 : decode cX3_bound 14 = .ok (.invokevirtual 88, 3) := by decide +kernel
theorem dX3_bound_17 : decode cX3_bound 17 = .ok (.ifCond .ne 36, 3) := by decide +kernel
theorem dX3_bound_20 : decode cX3_bound 20 = .ok (.iload_n 1, 1) := by decide +kernel
theorem dX3_bound_21 : decode cX3_bound 21 = .ok (.aload_n 0, 1) := by decide +kernel
theorem dX3_bound_22 : decode cX3_bound 22 = .ok (.iload_n 2, 1) := by decide +kernel
theorem dX3_bound_23 : decode cX3_bound 23 = .ok (.invokevirtual 91, 3) := by decide +kernel
theorem dX3_bound_26 : decode cX3_bound 26 = .ok (.ifCond .eq 20, 3) := by decide +kernel
theorem dX3_bound_29 : decode cX3_bound 29 = .ok (.aload_n 0, 1) := by decide +kernel
theorem dX3_bound_30 : decode cX3_bound 30 = .ok (.iload_n 2, 1) := by decide +kernel
theorem dX3_bound_31 : decode cX3_bound 31 = .ok (.aload_n 0, 1) := by decide +kernel
theorem dX3_bound_32 : decode cX3_bound 32 = .ok (.getfield 18, 3) := by decide +kernel
theorem dX3_bound_35 : decode cX3_bound 35 = .ok (.iload_n 2, 1) := by decide +kernel
theorem dX3_bound_36 : decode cX3_bound 36 = .ok (.iaload, 1) := by decide +kernel
theorem dX3_bound_37 : decode cX3_bound 37 = .ok (.invokevirtual 85, 3) := by decide +kernel
theorem dX3_bound_40 : decode cX3_bound 40 = .ok (.invokestatic 94, 3) := by decide +kernel
theorem dX3_bound_43 : decode cX3_bound 43 = .ok (.goto 8, 3) := by decide +kernel
theorem dX3_bound_46 : decode cX3_bound 46 = .ok (.aload_n 0, 1) := by decide +kernel
theorem dX3_bound_47 : decode cX3_bound 47 = .ok (.iload_n 2, 1) := by decide +kernel
theorem dX3_bound_48 : decode cX3_bound 48 = .ok (.invokevirtual 97, 3) := by decide +kernel
theorem dX3_bound_51 : decode cX3_bound 51 = .ok (.iadd, 1) := by decide +kernel
theorem dX3_bound_52 : decode cX3_bound 52 = .ok (.istore_n 1, 1) := by decide +kernel
theorem dX3_bound_53 : decode cX3_bound 53 = .ok (.iinc 2 1, 3) := by decide +kernel
theorem dX3_bound_56 : decode cX3_bound 56 = .ok (.goto (-52), 3) := by decide +kernel
theorem dX3_bound_59 : decode cX3_bound 59 = .ok (.iconst 0, 1) := by decide +kernel
theorem dX3_bound_60 : decode cX3_bound 60 = .ok (.istore_n 2, 1) := by decide +kernel
theorem dX3_bound_61 : decode cX3_bound 61 = .ok (.iconst 0, 1) := by decide +kernel
theorem dX3_bound_62 : decode cX3_bound 62 = .ok (.istore_n 3, 1) := by decide +kernel
theorem dX3_bound_63 : decode cX3_bound 63 = .ok (.iload_n 3, 1) := by decide +kernel
theorem dX3_bound_64 : decode cX3_bound 64 = .ok (.aload_n 0, 1) := by decide +kernel
theorem dX3_bound_65 : decode cX3_bound 65 = .ok (.getfield 31, 3) := by decide +kernel
theorem dX3_bound_68 : decode cX3_bound 68 = .ok (.if_icmp .ge 18, 3) := by decide +kernel
theorem dX3_bound_71 : decode cX3_bound 71 = .ok (.iload_n 2, 1) := by decide +kernel
theorem dX3_bound_72 : decode cX3_bound 72 = .ok (.aload_n 0, 1) := by decide +kernel
theorem dX3_bound_73 : decode cX3_bound 73 = .ok (.getfield 24, 3) := by decide +kernel
theorem dX3_bound_76 : decode cX3_bound 76 = .ok (.iload_n 3, 1) := by decide +kernel
theorem dX3_bound_77 : decode cX3_bound 77 = .ok (.iaload, 1) := by decide +kernel
theorem dX3_bound_78 : decode cX3_bound 78 = .ok (.iadd, 1) := by decide +kernel
theorem dX3_bound_79 : decode cX3_bound 79 = .ok (.istore_n 2, 1) := by decide +kernel
theorem dX3_bound_80 : decode cX3_bound 80 = .ok (.iinc 3 1, 3) := by decide +kernel
theorem dX3_bound_83 : decode cX3_bound 83 = .ok (.goto (-20), 3) := by decide +kernel
theorem dX3_bound_86 : decode cX3_bound 86 = .ok (.iload_n 1, 1) := by decide +kernel
theorem dX3_bound_87 : decode cX3_bound 87 = .ok (.iload_n 2, 1) := by decide +kernel
theorem dX3_bound_88 : decode cX3_bound 88 = .ok (.invokestatic 50, 3) := by decide +kernel
theorem dX3_bound_91 : decode cX3_bound 91 = .ok (.ireturn, 1) := by decide +kernel
theorem dX3_mostLight_0 : decode cX3_mostLight 0 = .ok (.iconst 0, 1) := by decide +kernel
theorem dX3_mostLight_1 : decode cX3_mostLight 1 = .ok (.istore_n 2, 1) := by decide +kernel
theorem dX3_mostLight_2 : decode cX3_mostLight 2 = .ok (.iconst 0, 1) := by decide +kernel
theorem dX3_mostLight_3 : decode cX3_mostLight 3 = .ok (.istore_n 3, 1) := by decide +kernel
theorem dX3_mostLight_4 : decode cX3_mostLight 4 = .ok (.iload_n 3, 1) := by decide +kernel
theorem dX3_mostLight_5 : decode cX3_mostLight 5 = .ok (.aload_n 0, 1) := by decide +kernel
theorem dX3_mostLight_6 : decode cX3_mostLight 6 = .ok (.getfield 31, 3) := by decide +kernel
theorem dX3_mostLight_9 : decode cX3_mostLight 9 = .ok (.if_icmp .ge 23, 3) := by decide +kernel
theorem dX3_mostLight_12 : decode cX3_mostLight 12 = .ok (.iload_n 2, 1) := by decide +kernel
theorem dX3_mostLight_13 : decode cX3_mostLight 13 = .ok (.aload_n 0, 1) := by decide +kernel
theorem dX3_mostLight_14 : decode cX3_mostLight 14 = .ok (.iload_n 1, 1) := by decide +kernel
theorem dX3_mostLight_15 : decode cX3_mostLight 15 = .ok (.iload_n 3, 1) := by decide +kernel
theorem dX3_mostLight_16 : decode cX3_mostLight 16 = .ok (.invokevirtual 85, 3) := by decide +kernel
theorem dX3_mostLight_19 : decode cX3_mostLight 19 = .ok (.invokestatic 94, 3) := by decide +kernel
theorem dX3_mostLight_22 : decode cX3_mostLight 22 = .ok (.invokestatic 100, 3) := by decide +kernel
theorem dX3_mostLight_25 : decode cX3_mostLight 25 = .ok (.istore_n 2, 1) := by decide +kernel
theorem dX3_mostLight_26 : decode cX3_mostLight 26 = .ok (.iinc 3 1, 3) := by decide +kernel
theorem dX3_mostLight_29 : decode cX3_mostLight 29 = .ok (.goto (-25), 3) := by decide +kernel
theorem dX3_mostLight_32 : decode cX3_mostLight 32 = .ok (.iload_n 2, 1) := by decide +kernel
theorem dX3_mostLight_33 : decode cX3_mostLight 33 = .ok (.ireturn, 1) := by decide +kernel
theorem dX3_placeNow_0 : decode cX3_placeNow 0 = .ok (.iconst 0, 1) := by decide +kernel
theorem dX3_placeNow_1 : decode cX3_placeNow 1 = .ok (.istore_n 1, 1) := by decide +kernel
theorem dX3_placeNow_2 : decode cX3_placeNow 2 = .ok (.iconst 0, 1) := by decide +kernel
theorem dX3_placeNow_3 : decode cX3_placeNow 3 = .ok (.istore_n 2, 1) := by decide +kernel
theorem dX3_placeNow_4 : decode cX3_placeNow 4 = .ok (.iload_n 2, 1) := by decide +kernel
theorem dX3_placeNow_5 : decode cX3_placeNow 5 = .ok (.aload_n 0, 1) := by decide +kernel
theorem dX3_placeNow_6 : decode cX3_placeNow 6 = .ok (.getfield 27, 3) := by decide +kernel
theorem dX3_placeNow_9 : decode cX3_placeNow 9 = .ok (.if_icmp .ge 26, 3) := by decide +kernel
theorem dX3_placeNow_12 : decode cX3_placeNow 12 = .ok (.iload_n 1, 1) := by decide +kernel
theorem dX3_placeNow_13 : decode cX3_placeNow 13 = .ok (.aload_n 0, 1) := by decide +kernel
theorem dX3_placeNow_14 : decode cX3_placeNow 14 = .ok (.getfield 18, 3) := by decide +kernel
theorem dX3_placeNow_17 : decode cX3_placeNow 17 = .ok (.iload_n 2, 1) := by decide +kernel
theorem dX3_placeNow_18 : decode cX3_placeNow 18 = .ok (.iaload, 1) := by decide +kernel
theorem dX3_placeNow_19 : decode cX3_placeNow 19 = .ok (.iconst 1, 1) := by decide +kernel
theorem dX3_placeNow_20 : decode cX3_placeNow 20 = .ok (.iadd, 1) := by decide +kernel
theorem dX3_placeNow_21 : decode cX3_placeNow 21 = .ok (.getstatic 103, 3) := by decide +kernel
theorem dX3_placeNow_24 : decode cX3_placeNow 24 = .ok (.iload_n 2, 1) := by decide +kernel
theorem dX3_placeNow_25 : decode cX3_placeNow 25 = .ok (.iaload, 1) := by decide +kernel
theorem dX3_placeNow_26 : decode cX3_placeNow 26 = .ok (.imul, 1) := by decide +kernel
theorem dX3_placeNow_27 : decode cX3_placeNow 27 = .ok (.iadd, 1) := by decide +kernel
theorem dX3_placeNow_28 : decode cX3_placeNow 28 = .ok (.istore_n 1, 1) := by decide +kernel
theorem dX3_placeNow_29 : decode cX3_placeNow 29 = .ok (.iinc 2 1, 3) := by decide +kernel
theorem dX3_placeNow_32 : decode cX3_placeNow 32 = .ok (.goto (-28), 3) := by decide +kernel
theorem dX3_placeNow_35 : decode cX3_placeNow 35 = .ok (.iload_n 1, 1) := by decide +kernel
theorem dX3_placeNow_36 : decode cX3_placeNow 36 = .ok (.ireturn, 1) := by decide +kernel
theorem dX3_bestTrade_0 : decode cX3_bestTrade 0 = .ok (.sipush (-1001), 3) := by decide +kernel
theorem dX3_bestTrade_3 : decode cX3_bestTrade 3 = .ok (.istore_n 1, 1) := by decide +kernel
theorem dX3_bestTrade_4 : decode cX3_bestTrade 4 = .ok (.aload_n 0, 1) := by decide +kernel
theorem dX3_bestTrade_5 : decode cX3_bestTrade 5 = .ok (.invokevirtual 106, 3) := by decide +kernel
theorem dX3_bestTrade_8 : decode cX3_bestTrade 8 = .ok (.invokestatic 94, 3) := by decide +kernel
theorem dX3_bestTrade_11 : decode cX3_bestTrade 11 = .ok (.istore_n 2, 1) := by decide +kernel
theorem dX3_bestTrade_12 : decode cX3_bestTrade 12 = .ok (.iconst 0, 1) := by decide +kernel
theorem dX3_bestTrade_13 : decode cX3_bestTrade 13 = .ok (.istore_n 3, 1) := by decide +kernel
theorem dX3_bestTrade_14 : decode cX3_bestTrade 14 = .ok (.iload_n 3, 1) := by decide +kernel
theorem dX3_bestTrade_15 : decode cX3_bestTrade 15 = .ok (.aload_n 0, 1) := by decide +kernel
theorem dX3_bestTrade_16 : decode cX3_bestTrade 16 = .ok (.getfield 27, 3) := by decide +kernel
theorem dX3_bestTrade_19 : decode cX3_bestTrade 19 = .ok (.if_icmp .ge 106, 3) := by decide +kernel
theorem dX3_bestTrade_22 : decode cX3_bestTrade 22 = .ok (.iload_n 3, 1) := by decide +kernel
theorem dX3_bestTrade_23 : decode cX3_bestTrade 23 = .ok (.iconst 1, 1) := by decide +kernel
theorem dX3_bestTrade_24 : decode cX3_bestTrade 24 = .ok (.iadd, 1) := by decide +kernel
theorem dX3_bestTrade_25 : decode cX3_bestTrade 25 = .ok (.istore 4, 2) := by decide +kernel
theorem dX3_bestTrade_27 : decode cX3_bestTrade 27 = .ok (.iload 4, 2) := by decide +kernel
theorem dX3_bestTrade_29 : decode cX3_bestTrade 29 = .ok (.aload_n 0, 1) := by decide +kernel
theorem dX3_bestTrade_30 : decode cX3_bestTrade 30 = .ok (.getfield 27, 3) := by decide +kernel
theorem dX3_bestTrade_33 : decode cX3_bestTrade 33 = .ok (.if_icmp .ge 86, 3) := by decide +kernel
theorem dX3_bestTrade_36 : decode cX3_bestTrade 36 = .ok (.aload_n 0, 1) := by decide +kernel
theorem dX3_bestTrade_37 : decode cX3_bestTrade 37 = .ok (.iload_n 3, 1) := by decide +kernel
theorem dX3_bestTrade_38 : decode cX3_bestTrade 38 = .ok (.invokevirtual 91, 3) := by decide +kernel
theorem dX3_bestTrade_41 : decode cX3_bestTrade 41 = .ok (.ifCond .ne 72, 3) := by decide +kernel
theorem dX3_bestTrade_44 : decode cX3_bestTrade 44 = .ok (.aload_n 0, 1) := by decide +kernel
theorem dX3_bestTrade_45 : decode cX3_bestTrade 45 = .ok (.iload 4, 2) := by decide +kernel
theorem dX3_bestTrade_47 : decode cX3_bestTrade 47 = .ok (.invokevirtual 91, 3) := by decide +kernel
theorem dX3_bestTrade_50 : decode cX3_bestTrade 50 = .ok (.ifCond .ne 63, 3) := by decide +kernel
theorem dX3_bestTrade_53 : decode cX3_bestTrade 53 = .ok (.aload_n 0, 1) := by decide +kernel
theorem dX3_bestTrade_54 : decode cX3_bestTrade 54 = .ok (.getfield 18, 3) := by decide +kernel
theorem dX3_bestTrade_57 : decode cX3_bestTrade 57 = .ok (.iload_n 3, 1) := by decide +kernel
theorem dX3_bestTrade_58 : decode cX3_bestTrade 58 = .ok (.iaload, 1) := by decide +kernel
theorem dX3_bestTrade_59 : decode cX3_bestTrade 59 = .ok (.aload_n 0, 1) := by decide +kernel
theorem dX3_bestTrade_60 : decode cX3_bestTrade 60 = .ok (.getfield 18, 3) := by decide +kernel
theorem dX3_bestTrade_63 : decode cX3_bestTrade 63 = .ok (.iload 4, 2) := by decide +kernel
theorem dX3_bestTrade_65 : decode cX3_bestTrade 65 = .ok (.iaload, 1) := by decide +kernel
theorem dX3_bestTrade_66 : decode cX3_bestTrade 66 = .ok (.if_icmp .ne 6, 3) := by decide +kernel
theorem dX3_bestTrade_69 : decode cX3_bestTrade 69 = .ok (.goto 44, 3) := by decide +kernel
theorem dX3_bestTrade_72 : decode cX3_bestTrade 72 = .ok (.aload_n 0, 1) := by decide +kernel
theorem dX3_bestTrade_73 : decode cX3_bestTrade 73 = .ok (.iload_n 3, 1) := by decide +kernel
theorem dX3_bestTrade_74 : decode cX3_bestTrade 74 = .ok (.iload 4, 2) := by decide +kernel
theorem dX3_bestTrade_76 : decode cX3_bestTrade 76 = .ok (.invokevirtual 110, 3) := by decide +kernel
theorem dX3_bestTrade_79 : decode cX3_bestTrade 79 = .ok (.istore 5, 2) := by decide +kernel
theorem dX3_bestTrade_81 : decode cX3_bestTrade 81 = .ok (.aload_n 0, 1) := by decide +kernel
theorem dX3_bestTrade_82 : decode cX3_bestTrade 82 = .ok (.iload 5, 2) := by decide +kernel
theorem dX3_bestTrade_84 : decode cX3_bestTrade 84 = .ok (.invokevirtual 113, 3) := by decide +kernel
theorem dX3_bestTrade_87 : decode cX3_bestTrade 87 = .ok (.ifCond .eq 26, 3) := by decide +kernel
theorem dX3_bestTrade_90 : decode cX3_bestTrade 90 = .ok (.iload 5, 2) := by decide +kernel
theorem dX3_bestTrade_92 : decode cX3_bestTrade 92 = .ok (.invokestatic 94, 3) := by decide +kernel
theorem dX3_bestTrade_95 : decode cX3_bestTrade 95 = .ok (.iload_n 2, 1) := by decide +kernel
theorem dX3_bestTrade_96 : decode cX3_bestTrade 96 = .ok (.if_icmp .le 17, 3) := by decide +kernel
theorem dX3_bestTrade_99 : decode cX3_bestTrade 99 = .ok (.iload 5, 2) := by decide +kernel
theorem dX3_bestTrade_101 : decode cX3_bestTrade 101 = .ok (.invokestatic 94, 3) := by decide +kernel
theorem dX3_bestTrade_104 : decode cX3_bestTrade 104 = .ok (.istore_n 2, 1) := by decide +kernel
theorem dX3_bestTrade_105 : decode cX3_bestTrade 105 = .ok (.bipush 8, 2) := by decide +kernel
theorem dX3_bestTrade_107 : decode cX3_bestTrade 107 = .ok (.iload_n 3, 1) := by decide +kernel
theorem dX3_bestTrade_108 : decode cX3_bestTrade 108 = .ok (.imul, 1) := by decide +kernel
theorem dX3_bestTrade_109 : decode cX3_bestTrade 109 = .ok (.iload 4, 2) := by decide +kernel
theorem dX3_bestTrade_111 : decode cX3_bestTrade 111 = .ok (.iadd, 1) := by decide +kernel
theorem dX3_bestTrade_112 : decode cX3_bestTrade 112 = .ok (.istore_n 1, 1) := by decide +kernel
theorem dX3_bestTrade_113 : decode cX3_bestTrade 113 = .ok (.iinc 4 1, 3) := by decide +kernel
theorem dX3_bestTrade_116 : decode cX3_bestTrade 116 = .ok (.goto (-89), 3) := by decide +kernel
theorem dX3_bestTrade_119 : decode cX3_bestTrade 119 = .ok (.iinc 3 1, 3) := by decide +kernel
theorem dX3_bestTrade_122 : decode cX3_bestTrade 122 = .ok (.goto (-108), 3) := by decide +kernel
theorem dX3_bestTrade_125 : decode cX3_bestTrade 125 = .ok (.iload_n 1, 1) := by decide +kernel
theorem dX3_bestTrade_126 : decode cX3_bestTrade 126 = .ok (.ireturn, 1) := by decide +kernel
theorem dX3_heatsByTrade_0 : decode cX3_heatsByTrade 0 = .ok (.aload_n 0, 1) := by decide +kernel
theorem dX3_heatsByTrade_1 : decode cX3_heatsByTrade 1 = .ok (.iload_n 1, 1) := by decide +kernel
theorem dX3_heatsByTrade_2 : decode cX3_heatsByTrade 2 = .ok (.invokevirtual 116, 3) := by decide +kernel
theorem dX3_heatsByTrade_5 : decode cX3_heatsByTrade 5 = .ok (.ifCond .eq 11, 3) := by decide +kernel
theorem dX3_heatsByTrade_8 : decode cX3_heatsByTrade 8 = .ok (.aload_n 0, 1) := by decide +kernel
theorem dX3_heatsByTrade_9 : decode cX3_heatsByTrade 9 = .ok (.iload_n 2, 1) := by decide +kernel
theorem dX3_heatsByTrade_10 : decode cX3_heatsByTrade 10 = .ok (.invokevirtual 116, 3) := by decide +kernel
theorem dX3_heatsByTrade_13 : decode cX3_heatsByTrade 13 = .ok (.ifCond .ne 8, 3) := by decide +kernel
theorem dX3_heatsByTrade_16 : decode cX3_heatsByTrade 16 = .ok (.aload_n 0, 1) := by decide +kernel
theorem dX3_heatsByTrade_17 : decode cX3_heatsByTrade 17 = .ok (.invokevirtual 106, 3) := by decide +kernel
theorem dX3_heatsByTrade_20 : decode cX3_heatsByTrade 20 = .ok (.ireturn, 1) := by decide +kernel
theorem dX3_heatsByTrade_21 : decode cX3_heatsByTrade 21 = .ok (.aload_n 0, 1) := by decide +kernel
theorem dX3_heatsByTrade_22 : decode cX3_heatsByTrade 22 = .ok (.iload_n 1, 1) := by decide +kernel
theorem dX3_heatsByTrade_23 : decode cX3_heatsByTrade 23 = .ok (.iload_n 2, 1) := by decide +kernel
theorem dX3_heatsByTrade_24 : decode cX3_heatsByTrade 24 = .ok (.invokevirtual 119, 3) := by decide +kernel
theorem dX3_heatsByTrade_27 : decode cX3_heatsByTrade 27 = .ok (.aload_n 0, 1) := by decide +kernel
theorem dX3_heatsByTrade_28 : decode cX3_heatsByTrade 28 = .ok (.invokevirtual 106, 3) := by decide +kernel
theorem dX3_heatsByTrade_31 : decode cX3_heatsByTrade 31 = .ok (.istore_n 3, 1) := by decide +kernel
theorem dX3_heatsByTrade_32 : decode cX3_heatsByTrade 32 = .ok (.aload_n 0, 1) := by decide +kernel
theorem dX3_heatsByTrade_33 : decode cX3_heatsByTrade 33 = .ok (.iload_n 1, 1) := by decide +kernel
theorem dX3_heatsByTrade_34 : decode cX3_heatsByTrade 34 = .ok (.iload_n 2, 1) := by decide +kernel
theorem dX3_heatsByTrade_35 : decode cX3_heatsByTrade 35 = .ok (.invokevirtual 119, 3) := by decide +kernel
theorem dX3_heatsByTrade_38 : decode cX3_heatsByTrade 38 = .ok (.iload_n 3, 1) := by decide +kernel
theorem dX3_heatsByTrade_39 : decode cX3_heatsByTrade 39 = .ok (.ireturn, 1) := by decide +kernel
theorem dX3_swapAims_0 : decode cX3_swapAims 0 = .ok (.aload_n 0, 1) := by decide +kernel
theorem dX3_swapAims_1 : decode cX3_swapAims 1 = .ok (.getfield 18, 3) := by decide +kernel
theorem dX3_swapAims_4 : decode cX3_swapAims 4 = .ok (.iload_n 1, 1) := by decide +kernel
theorem dX3_swapAims_5 : decode cX3_swapAims 5 = .ok (.iaload, 1) := by decide +kernel
theorem dX3_swapAims_6 : decode cX3_swapAims 6 = .ok (.istore_n 3, 1) := by decide +kernel
theorem dX3_swapAims_7 : decode cX3_swapAims 7 = .ok (.aload_n 0, 1) := by decide +kernel
theorem dX3_swapAims_8 : decode cX3_swapAims 8 = .ok (.getfield 18, 3) := by decide +kernel
theorem dX3_swapAims_11 : decode cX3_swapAims 11 = .ok (.iload_n 1, 1) := by decide +kernel
theorem dX3_swapAims_12 : decode cX3_swapAims 12 = .ok (.aload_n 0, 1) := by decide +kernel
theorem dX3_swapAims_13 : decode cX3_swapAims 13 = .ok (.getfield 18, 3) := by decide +kernel
theorem dX3_swapAims_16 : decode cX3_swapAims 16 = .ok (.iload_n 2, 1) := by decide +kernel
theorem dX3_swapAims_17 : decode cX3_swapAims 17 = .ok (.iaload, 1) := by decide +kernel
theorem dX3_swapAims_18 : decode cX3_swapAims 18 = .ok (.iastore, 1) := by decide +kernel
theorem dX3_swapAims_19 : decode cX3_swapAims 19 = .ok (.aload_n 0, 1) := by decide +kernel
theorem dX3_swapAims_20 : decode cX3_swapAims 20 = .ok (.getfield 18, 3) := by decide +kernel
theorem dX3_swapAims_23 : decode cX3_swapAims 23 = .ok (.iload_n 2, 1) := by decide +kernel
theorem dX3_swapAims_24 : decode cX3_swapAims 24 = .ok (.iload_n 3, 1) := by decide +kernel
theorem dX3_swapAims_25 : decode cX3_swapAims 25 = .ok (.iastore, 1) := by decide +kernel
theorem dX3_swapAims_26 : decode cX3_swapAims 26 = .ok (.return_, 1) := by decide +kernel
theorem dX3_bestRelief_0 : decode cX3_bestRelief 0 = .ok (.sipush (-1001), 3) := by decide +kernel
theorem dX3_bestRelief_3 : decode cX3_bestRelief 3 = .ok (.istore_n 1, 1) := by decide +kernel
theorem dX3_bestRelief_4 : decode cX3_bestRelief 4 = .ok (.bipush 6, 2) := by decide +kernel
theorem dX3_bestRelief_6 : decode cX3_bestRelief 6 = .ok (.istore_n 2, 1) := by decide +kernel
theorem dX3_bestRelief_7 : decode cX3_bestRelief 7 = .ok (.iconst 0, 1) := by decide +kernel
theorem dX3_bestRelief_8 : decode cX3_bestRelief 8 = .ok (.istore_n 3, 1) := by decide +kernel
theorem dX3_bestRelief_9 : decode cX3_bestRelief 9 = .ok (.iconst 0, 1) := by decide +kernel
theorem dX3_bestRelief_10 : decode cX3_bestRelief 10 = .ok (.istore 4, 2) := by decide +kernel
theorem dX3_bestRelief_12 : decode cX3_bestRelief 12 = .ok (.iload 4, 2) := by decide +kernel
theorem dX3_bestRelief_14 : decode cX3_bestRelief 14 = .ok (.iconst 1, 1) := by decide +kernel
theorem dX3_bestRelief_15 : decode cX3_bestRelief 15 = .ok (.aload_n 0, 1) := by decide +kernel
theorem dX3_bestRelief_16 : decode cX3_bestRelief 16 = .ok (.getfield 27, 3) := by decide +kernel
theorem dX3_bestRelief_19 : decode cX3_bestRelief 19 = .ok (.ishl, 1) := by decide +kernel
theorem dX3_bestRelief_20 : decode cX3_bestRelief 20 = .ok (.if_icmp .ge 84, 3) := by decide +kernel
theorem dX3_bestRelief_23 : decode cX3_bestRelief 23 = .ok (.aload_n 0, 1) := by decide +kernel
theorem dX3_bestRelief_24 : decode cX3_bestRelief 24 = .ok (.aload_n 0, 1) := by decide +kernel
theorem dX3_bestRelief_25 : decode cX3_bestRelief 25 = .ok (.getfield 34, 3) := by decide +kernel
theorem dX3_bestRelief_28 : decode cX3_bestRelief 28 = .ok (.iload 4, 2) := by decide +kernel
theorem dX3_bestRelief_30 : decode cX3_bestRelief 30 = .ok (.ior, 1) := by decide +kernel
theorem dX3_bestRelief_31 : decode cX3_bestRelief 31 = .ok (.invokevirtual 82, 3) := by decide +kernel
theorem dX3_bestRelief_34 : decode cX3_bestRelief 34 = .ok (.istore 5, 2) := by decide +kernel
theorem dX3_bestRelief_36 : decode cX3_bestRelief 36 = .ok (.iload 4, 2) := by decide +kernel
theorem dX3_bestRelief_38 : decode cX3_bestRelief 38 = .ok (.aload_n 0, 1) := by decide +kernel
theorem dX3_bestRelief_39 : decode cX3_bestRelief 39 = .ok (.getfield 41, 3) := by decide +kernel
theorem dX3_bestRelief_42 : decode cX3_bestRelief 42 = .ok (.iand, 1) := by decide +kernel
theorem dX3_bestRelief_43 : decode cX3_bestRelief 43 = .ok (.ifCond .ne 55, 3) := by decide +kernel
theorem dX3_bestRelief_46 : decode cX3_bestRelief 46 = .ok (.aload_n 0, 1) := by decide +kernel
theorem dX3_bestRelief_47 : decode cX3_bestRelief 47 = .ok (.iload 5, 2) := by decide +kernel
theorem dX3_bestRelief_49 : decode cX3_bestRelief 49 = .ok (.invokevirtual 113, 3) := by decide +kernel
theorem dX3_bestRelief_52 : decode cX3_bestRelief 52 = .ok (.ifCond .ne 6, 3) := by decide +kernel
theorem dX3_bestRelief_55 : decode cX3_bestRelief 55 = .ok (.goto 43, 3) := by decide +kernel
theorem dX3_bestRelief_58 : decode cX3_bestRelief 58 = .ok (.iload 4, 2) := by decide +kernel
theorem dX3_bestRelief_60 : decode cX3_bestRelief 60 = .ok (.invokestatic 123, 3) := by decide +kernel
theorem dX3_bestRelief_63 : decode cX3_bestRelief 63 = .ok (.istore 6, 2) := by decide +kernel
theorem dX3_bestRelief_65 : decode cX3_bestRelief 65 = .ok (.iload 6, 2) := by decide +kernel
theorem dX3_bestRelief_67 : decode cX3_bestRelief 67 = .ok (.iload_n 2, 1) := by decide +kernel
theorem dX3_bestRelief_68 : decode cX3_bestRelief 68 = .ok (.if_icmp .lt 18, 3) := by decide +kernel
theorem dX3_bestRelief_71 : decode cX3_bestRelief 71 = .ok (.iload 6, 2) := by decide +kernel
theorem dX3_bestRelief_73 : decode cX3_bestRelief 73 = .ok (.iload_n 2, 1) := by decide +kernel
theorem dX3_bestRelief_74 : decode cX3_bestRelief 74 = .ok (.if_icmp .ne 24, 3) := by decide +kernel
theorem dX3_bestRelief_77 : decode cX3_bestRelief 77 = .ok (.iload 5, 2) := by decide +kernel
theorem dX3_bestRelief_79 : decode cX3_bestRelief 79 = .ok (.invokestatic 94, 3) := by decide +kernel
theorem dX3_bestRelief_82 : decode cX3_bestRelief 82 = .ok (.iload_n 3, 1) := by decide +kernel
theorem dX3_bestRelief_83 : decode cX3_bestRelief 83 = .ok (.if_icmp .le 15, 3) := by decide +kernel
theorem dX3_bestRelief_86 : decode cX3_bestRelief 86 = .ok (.iload 4, 2) := by decide +kernel
theorem dX3_bestRelief_88 : decode cX3_bestRelief 88 = .ok (.istore_n 1, 1) := by decide +kernel
theorem dX3_bestRelief_89 : decode cX3_bestRelief 89 = .ok (.iload 6, 2) := by decide +kernel
theorem dX3_bestRelief_91 : decode cX3_bestRelief 91 = .ok (.istore_n 2, 1) := by decide +kernel
theorem dX3_bestRelief_92 : decode cX3_bestRelief 92 = .ok (.iload 5, 2) := by decide +kernel
theorem dX3_bestRelief_94 : decode cX3_bestRelief 94 = .ok (.invokestatic 94, 3) := by decide +kernel
theorem dX3_bestRelief_97 : decode cX3_bestRelief 97 = .ok (.istore_n 3, 1) := by decide +kernel
theorem dX3_bestRelief_98 : decode cX3_bestRelief 98 = .ok (.iinc 4 1, 3) := by decide +kernel
theorem dX3_bestRelief_101 : decode cX3_bestRelief 101 = .ok (.goto (-89), 3) := by decide +kernel
theorem dX3_bestRelief_104 : decode cX3_bestRelief 104 = .ok (.iload_n 1, 1) := by decide +kernel
theorem dX3_bestRelief_105 : decode cX3_bestRelief 105 = .ok (.ireturn, 1) := by decide +kernel
theorem dX4_init_0 : decode cX4_init 0 = .ok (.aload_n 0, 1) := by decide +kernel
theorem dX4_init_1 : decode cX4_init 1 = .ok (.invokespecial 1, 3) := by decide +kernel
theorem dX4_init_4 : decode cX4_init 4 = .ok (.aload_n 0, 1) := by decide +kernel
theorem dX4_init_5 : decode cX4_init 5 = .ok (.new 7, 3) := by decide +kernel
theorem dX4_init_8 : decode cX4_init 8 = .ok (.dup, 1) := by decide +kernel
theorem dX4_init_9 : decode cX4_init 9 = .ok (.invokespecial 9, 3) := by decide +kernel
theorem dX4_init_12 : decode cX4_init 12 = .ok (.putfield 10, 3) := by decide +kernel
theorem dX4_init_15 : decode cX4_init 15 = .ok (.aload_n 0, 1) := by decide +kernel
theorem dX4_init_16 : decode cX4_init 16 = .ok (.new 16, 3) := by decide +kernel
theorem dX4_init_19 : decode cX4_init 19 = .ok (.dup, 1) := by decide +kernel
theorem dX4_init_20 : decode cX4_init 20 = .ok (.invokespecial 18, 3) := by decide +kernel
theorem dX4_init_23 : decode cX4_init 23 = .ok (.putfield 19, 3) := by decide +kernel
theorem dX4_init_26 : decode cX4_init 26 = .ok (.aload_n 0, 1) := by decide +kernel
theorem dX4_init_27 : decode cX4_init 27 = .ok (.new 23, 3) := by decide +kernel
theorem dX4_init_30 : decode cX4_init 30 = .ok (.dup, 1) := by decide +kernel
theorem dX4_init_31 : decode cX4_init 31 = .ok (.invokespecial 25, 3) := by decide +kernel
theorem dX4_init_34 : decode cX4_init 34 = .ok (.putfield 26, 3) := by decide +kernel
theorem dX4_init_37 : decode cX4_init 37 = .ok (.return_, 1) := by decide +kernel
theorem dX4_letter_0 : decode cX4_letter 0 = .ok (.iload_n 1, 1) := by decide +kernel
theorem dX4_letter_1 : decode cX4_letter 1 = .ok (.bipush 32, 2) := by decide +kernel
theorem dX4_letter_3 : decode cX4_letter 3 = .ok (.if_icmp .lt 9, 3) := by decide +kernel
theorem dX4_letter_6 : decode cX4_letter 6 = .ok (.iload_n 1, 1) := by decide +kernel
theorem dX4_letter_7 : decode cX4_letter 7 = .ok (.bipush 126, 2) := by decide +kernel
theorem dX4_letter_9 : decode cX4_letter 9 = .ok (.if_icmp .le 7, 3) := by decide +kernel
theorem dX4_letter_12 : decode cX4_letter 12 = .ok (.sipush (-1003), 3) := by decide +kernel
theorem dX4_letter_15 : decode cX4_letter 15 = .ok (.ireturn, 1) := by decide +kernel
theorem dX4_letter_16 : decode cX4_letter 16 = .ok (.aload_n 0, 1) := by decide +kernel
theorem dX4_letter_17 : decode cX4_letter 17 = .ok (.getfield 10, 3) := by decide +kernel
theorem dX4_letter_20 : decode cX4_letter 20 = .ok (.getfield 30, 3) := by decide +kernel
theorem dX4_letter_23 : decode cX4_letter 23 = .ok (.bipush 21, 2) := by decide +kernel
theorem dX4_letter_25 : decode cX4_letter 25 = .ok (.if_icmp .lt 7, 3) := by decide +kernel
theorem dX4_letter_28 : decode cX4_letter 28 = .ok (.sipush (-1005), 3) := by decide +kernel
theorem dX4_letter_31 : decode cX4_letter 31 = .ok (.ireturn, 1) := by decide +kernel
theorem dX4_letter_32 : decode cX4_letter 32 = .ok (.aload_n 0, 1) := by decide +kernel
theorem dX4_letter_33 : decode cX4_letter 33 = .ok (.getfield 10, 3) := by decide +kernel
theorem dX4_letter_36 : decode cX4_letter 36 = .ok (.iload_n 1, 1) := by decide +kernel
theorem dX4_letter_37 : decode cX4_letter 37 = .ok (.invokevirtual 34, 3) := by decide +kernel
theorem dX4_letter_40 : decode cX4_letter 40 = .ok (.aload_n 0, 1) := by decide +kernel
theorem dX4_letter_41 : decode cX4_letter 41 = .ok (.getfield 10, 3) := by decide +kernel
theorem dX4_letter_44 : decode cX4_letter 44 = .ok (.getfield 30, 3) := by decide +kernel
theorem dX4_letter_47 : decode cX4_letter 47 = .ok (.ireturn, 1) := by decide +kernel
theorem dX4_blank_0 : decode cX4_blank 0 = .ok (.aload_n 0, 1) := by decide +kernel
theorem dX4_blank_1 : decode cX4_blank 1 = .ok (.getfield 10, 3) := by decide +kernel
theorem dX4_blank_4 : decode cX4_blank 4 = .ok (.getfield 30, 3) := by decide +kernel
theorem dX4_blank_7 : decode cX4_blank 7 = .ok (.istore_n 1, 1) := by decide +kernel
theorem dX4_blank_8 : decode cX4_blank 8 = .ok (.aload_n 0, 1) := by decide +kernel
theorem dX4_blank_9 : decode cX4_blank 9 = .ok (.getfield 10, 3) := by decide +kernel
theorem dX4_blank_12 : decode cX4_blank 12 = .ok (.iconst 0, 1) := by decide +kernel
theorem dX4_blank_13 : decode cX4_blank 13 = .ok (.putfield 30, 3) := by decide +kernel
theorem dX4_blank_16 : decode cX4_blank 16 = .ok (.iload_n 1, 1) := by decide +kernel
theorem dX4_blank_17 : decode cX4_blank 17 = .ok (.ireturn, 1) := by decide +kernel
theorem dX4_fault_0 : decode cX4_fault 0 = .ok (.aload_n 0, 1) := by decide +kernel
theorem dX4_fault_1 : decode cX4_fault 1 = .ok (.getfield 10, 3) := by decide +kernel
theorem dX4_fault_4 : decode cX4_fault 4 = .ok (.invokevirtual 38, 3) := by decide +kernel
theorem dX4_fault_7 : decode cX4_fault 7 = .ok (.ireturn, 1) := by decide +kernel
theorem dX4_field_0 : decode cX4_field 0 = .ok (.aload_n 0, 1) := by decide +kernel
theorem dX4_field_1 : decode cX4_field 1 = .ok (.getfield 10, 3) := by decide +kernel
theorem dX4_field_4 : decode cX4_field 4 = .ok (.invokevirtual 42, 3) := by decide +kernel
theorem dX4_field_7 : decode cX4_field 7 = .ok (.ifCond .ne 7, 3) := by decide +kernel
theorem dX4_field_10 : decode cX4_field 10 = .ok (.sipush (-1004), 3) := by decide +kernel
theorem dX4_field_13 : decode cX4_field 13 = .ok (.ireturn, 1) := by decide +kernel
theorem dX4_field_14 : decode cX4_field 14 = .ok (.aload_n 0, 1) := by decide +kernel
theorem dX4_field_15 : decode cX4_field 15 = .ok (.getfield 19, 3) := by decide +kernel
theorem dX4_field_18 : decode cX4_field 18 = .ok (.aload_n 0, 1) := by decide +kernel
theorem dX4_field_19 : decode cX4_field 19 = .ok (.getfield 10, 3) := by decide +kernel
theorem dX4_field_22 : decode cX4_field 22 = .ok (.invokevirtual 46, 3) := by decide +kernel
theorem dX4_field_25 : decode cX4_field 25 = .ok (.aload_n 0, 1) := by decide +kernel
theorem dX4_field_26 : decode cX4_field 26 = .ok (.getfield 10, 3) := by decide +kernel
theorem dX4_field_29 : decode cX4_field 29 = .ok (.iconst 0, 1) := by decide +kernel
theorem dX4_field_30 : decode cX4_field 30 = .ok (.putfield 30, 3) := by decide +kernel
theorem dX4_field_33 : decode cX4_field 33 = .ok (.aload_n 0, 1) := by decide +kernel
theorem dX4_field_34 : decode cX4_field 34 = .ok (.getfield 26, 3) := by decide +kernel
theorem dX4_field_37 : decode cX4_field 37 = .ok (.invokevirtual 50, 3) := by decide +kernel
theorem dX4_field_40 : decode cX4_field 40 = .ok (.aload_n 0, 1) := by decide +kernel
theorem dX4_field_41 : decode cX4_field 41 = .ok (.dup, 1) := by decide +kernel
theorem dX4_field_42 : decode cX4_field 42 = .ok (.getfield 53, 3) := by decide +kernel
theorem dX4_field_45 : decode cX4_field 45 = .ok (.iconst 1, 1) := by decide +kernel
theorem dX4_field_46 : decode cX4_field 46 = .ok (.iadd, 1) := by decide +kernel
theorem dX4_field_47 : decode cX4_field 47 = .ok (.putfield 53, 3) := by decide +kernel
theorem dX4_field_50 : decode cX4_field 50 = .ok (.aload_n 0, 1) := by decide +kernel
theorem dX4_field_51 : decode cX4_field 51 = .ok (.getfield 19, 3) := by decide +kernel
theorem dX4_field_54 : decode cX4_field 54 = .ok (.getfield 56, 3) := by decide +kernel
theorem dX4_field_57 : decode cX4_field 57 = .ok (.ireturn, 1) := by decide +kernel
theorem dX4_ceiling_0 : decode cX4_ceiling 0 = .ok (.aload_n 0, 1) := by decide +kernel
theorem dX4_ceiling_1 : decode cX4_ceiling 1 = .ok (.getfield 19, 3) := by decide +kernel
theorem dX4_ceiling_4 : decode cX4_ceiling 4 = .ok (.iload_n 1, 1) := by decide +kernel
theorem dX4_ceiling_5 : decode cX4_ceiling 5 = .ok (.invokevirtual 59, 3) := by decide +kernel
theorem dX4_ceiling_8 : decode cX4_ceiling 8 = .ok (.ifCond .ne 7, 3) := by decide +kernel
theorem dX4_ceiling_11 : decode cX4_ceiling 11 = .ok (.sipush (-1002), 3) := by decide +kernel
theorem dX4_ceiling_14 : decode cX4_ceiling 14 = .ok (.ireturn, 1) := by decide +kernel
theorem dX4_ceiling_15 : decode cX4_ceiling 15 = .ok (.iload_n 2, 1) := by decide +kernel
theorem dX4_ceiling_16 : decode cX4_ceiling 16 = .ok (.ifCond .lt 9, 3) := by decide +kernel
theorem dX4_ceiling_19 : decode cX4_ceiling 19 = .ok (.iload_n 2, 1) := by decide +kernel
theorem dX4_ceiling_20 : decode cX4_ceiling 20 = .ok (.bipush 60, 2) := by decide +kernel
theorem dX4_ceiling_22 : decode cX4_ceiling 22 = .ok (.if_icmp .le 7, 3) := by decide +kernel
theorem dX4_ceiling_25 : decode cX4_ceiling 25 = .ok (.sipush (-1003), 3) := by decide +kernel
theorem dX4_ceiling_28 : decode cX4_ceiling 28 = .ok (.ireturn, 1) := by decide +kernel
theorem dX4_ceiling_29 : decode cX4_ceiling 29 = .ok (.aload_n 0, 1) := by decide +kernel
theorem dX4_ceiling_30 : decode cX4_ceiling 30 = .ok (.getfield 19, 3) := by decide +kernel
theorem dX4_ceiling_33 : decode cX4_ceiling 33 = .ok (.getfield 63, 3) := by decide +kernel
theorem dX4_ceiling_36 : decode cX4_ceiling 36 = .ok (.iload_n 1, 1) := by decide +kernel
theorem dX4_ceiling_37 : decode cX4_ceiling 37 = .ok (.iaload, 1) := by decide +kernel
theorem dX4_ceiling_38 : decode cX4_ceiling 38 = .ok (.istore_n 3, 1) := by decide +kernel
theorem dX4_ceiling_39 : decode cX4_ceiling 39 = .ok (.aload_n 0, 1) := by decide +kernel
theorem dX4_ceiling_40 : decode cX4_ceiling 40 = .ok (.getfield 19, 3) := by decide +kernel
theorem dX4_ceiling_43 : decode cX4_ceiling 43 = .ok (.getfield 63, 3) := by decide +kernel
theorem dX4_ceiling_46 : decode cX4_ceiling 46 = .ok (.iload_n 1, 1) := by decide +kernel
theorem dX4_ceiling_47 : decode cX4_ceiling 47 = .ok (.iload_n 2, 1) := by decide +kernel
theorem dX4_ceiling_48 : decode cX4_ceiling 48 = .ok (.iastore, 1) := by decide +kernel
theorem dX4_ceiling_49 : decode cX4_ceiling 49 = .ok (.aload_n 0, 1) := by decide +kernel
theorem dX4_ceiling_50 : decode cX4_ceiling 50 = .ok (.getfield 19, 3) := by decide +kernel
theorem dX4_ceiling_53 : decode cX4_ceiling 53 = .ok (.invokevirtual 67, 3) := by decide +kernel
theorem dX4_ceiling_56 : decode cX4_ceiling 56 = .ok (.aload_n 0, 1) := by decide +kernel
theorem dX4_ceiling_57 : decode cX4_ceiling 57 = .ok (.getfield 26, 3) := by decide +kernel
theorem dX4_ceiling_60 : decode cX4_ceiling 60 = .ok (.invokevirtual 50, 3) := by decide +kernel
theorem dX4_ceiling_63 : decode cX4_ceiling 63 = .ok (.iload_n 3, 1) := by decide +kernel
theorem dX4_ceiling_64 : decode cX4_ceiling 64 = .ok (.ireturn, 1) := by decide +kernel
theorem dX4_shade_0 : decode cX4_shade 0 = .ok (.aload_n 0, 1) := by decide +kernel
theorem dX4_shade_1 : decode cX4_shade 1 = .ok (.getfield 19, 3) := by decide +kernel
theorem dX4_shade_4 : decode cX4_shade 4 = .ok (.invokevirtual 70, 3) := by decide +kernel
theorem dX4_shade_7 : decode cX4_shade 7 = .ok (.ifCond .ne 7, 3) := by decide +kernel
theorem dX4_shade_10 : decode cX4_shade 10 = .ok (.sipush (-1004), 3) := by decide +kernel
theorem dX4_shade_13 : decode cX4_shade 13 = .ok (.ireturn, 1) := by decide +kernel
theorem dX4_shade_14 : decode cX4_shade 14 = .ok (.iload_n 1, 1) := by decide +kernel
theorem dX4_shade_15 : decode cX4_shade 15 = .ok (.ifCond .lt 16, 3) := by decide +kernel
theorem dX4_shade_18 : decode cX4_shade 18 = .ok (.iload_n 1, 1) := by decide +kernel
theorem dX4_shade_19 : decode cX4_shade 19 = .ok (.iconst 1, 1) := by decide +kernel
theorem dX4_shade_20 : decode cX4_shade 20 = .ok (.aload_n 0, 1) := by decide +kernel
theorem dX4_shade_21 : decode cX4_shade 21 = .ok (.getfield 19, 3) := by decide +kernel
theorem dX4_shade_24 : decode cX4_shade 24 = .ok (.getfield 56, 3) := by decide +kernel
theorem dX4_shade_27 : decode cX4_shade 27 = .ok (.ishl, 1) := by decide +kernel
theorem dX4_shade_28 : decode cX4_shade 28 = .ok (.if_icmp .lt 7, 3) := by decide +kernel
theorem dX4_shade_31 : decode cX4_shade 31 = .ok (.sipush (-1003), 3) := by decide +kernel
theorem dX4_shade_34 : decode cX4_shade 34 = .ok (.ireturn, 1) := by decide +kernel
theorem dX4_shade_35 : decode cX4_shade 35 = .ok (.aload_n 0, 1) := by decide +kernel
theorem dX4_shade_36 : decode cX4_shade 36 = .ok (.getfield 19, 3) := by decide +kernel
theorem dX4_shade_39 : decode cX4_shade 39 = .ok (.getfield 73, 3) := by decide +kernel
theorem dX4_shade_42 : decode cX4_shade 42 = .ok (.istore_n 2, 1) := by decide +kernel
theorem dX4_shade_43 : decode cX4_shade 43 = .ok (.aload_n 0, 1) := by decide +kernel
theorem dX4_shade_44 : decode cX4_shade 44 = .ok (.getfield 19, 3) := by decide +kernel
theorem dX4_shade_47 : decode cX4_shade 47 = .ok (.iload_n 1, 1) := by decide +kernel
theorem dX4_shade_48 : decode cX4_shade 48 = .ok (.putfield 73, 3) := by decide +kernel
theorem dX4_shade_51 : decode cX4_shade 51 = .ok (.aload_n 0, 1) := by decide +kernel
theorem dX4_shade_52 : decode cX4_shade 52 = .ok (.getfield 26, 3) := by decide +kernel
theorem dX4_shade_55 : decode cX4_shade 55 = .ok (.invokevirtual 50, 3) := by decide +kernel
theorem dX4_shade_58 : decode cX4_shade 58 = .ok (.iload_n 2, 1) := by decide +kernel
theorem dX4_shade_59 : decode cX4_shade 59 = .ok (.ireturn, 1) := by decide +kernel
theorem dX4_stuck_0 : decode cX4_stuck 0 = .ok (.aload_n 0, 1) := by decide +kernel
theorem dX4_stuck_1 : decode cX4_stuck 1 = .ok (.getfield 19, 3) := by decide +kernel
theorem dX4_stuck_4 : decode cX4_stuck 4 = .ok (.iload_n 1, 1) := by decide +kernel
theorem dX4_stuck_5 : decode cX4_stuck 5 = .ok (.invokevirtual 76, 3) := by decide +kernel
theorem dX4_stuck_8 : decode cX4_stuck 8 = .ok (.ifCond .ne 7, 3) := by decide +kernel
theorem dX4_stuck_11 : decode cX4_stuck 11 = .ok (.sipush (-1002), 3) := by decide +kernel
theorem dX4_stuck_14 : decode cX4_stuck 14 = .ok (.ireturn, 1) := by decide +kernel
theorem dX4_stuck_15 : decode cX4_stuck 15 = .ok (.aload_n 0, 1) := by decide +kernel
theorem dX4_stuck_16 : decode cX4_stuck 16 = .ok (.getfield 19, 3) := by decide +kernel
theorem dX4_stuck_19 : decode cX4_stuck 19 = .ok (.getfield 79, 3) := by decide +kernel
theorem dX4_stuck_22 : decode cX4_stuck 22 = .ok (.iload_n 1, 1) := by decide +kernel
theorem dX4_stuck_23 : decode cX4_stuck 23 = .ok (.invokestatic 82, 3) := by decide +kernel
theorem dX4_stuck_26 : decode cX4_stuck 26 = .ok (.istore_n 3, 1) := by decide +kernel
theorem dX4_stuck_27 : decode cX4_stuck 27 = .ok (.aload_n 0, 1) := by decide +kernel
theorem dX4_stuck_28 : decode cX4_stuck 28 = .ok (.getfield 19, 3) := by decide +kernel
theorem dX4_stuck_31 : decode cX4_stuck 31 = .ok (.getfield 79, 3) := by decide +kernel
theorem dX4_stuck_34 : decode cX4_stuck 34 = .ok (.iconst 1, 1) := by decide +kernel
theorem dX4_stuck_35 : decode cX4_stuck 35 = .ok (.iload_n 1, 1) := by decide +kernel
theorem dX4_stuck_36 : decode cX4_stuck 36 = .ok (.ishl, 1) := by decide +kernel
theorem dX4_stuck_37 : decode cX4_stuck 37 = .ok (.iconst (-1), 1) := by decide +kernel
theorem dX4_stuck_38 : decode cX4_stuck 38 = .ok (.ixor, 1) := by decide +kernel
theorem dX4_stuck_39 : decode cX4_stuck 39 = .ok (.iand, 1) := by decide +kernel
theorem dX4_stuck_40 : decode cX4_stuck 40 = .ok (.istore 4, 2) := by decide +kernel
theorem dX4_stuck_42 : decode cX4_stuck 42 = .ok (.aload_n 0, 1) := by decide +kernel
theorem dX4_stuck_43 : decode cX4_stuck 43 = .ok (.getfield 19, 3) := by decide +kernel
theorem dX4_stuck_46 : decode cX4_stuck 46 = .ok (.iload_n 2, 1) := by decide +kernel
theorem dX4_stuck_47 : decode cX4_stuck 47 = .ok (.ifCond .eq 12, 3) := by decide +kernel
theorem dX4_stuck_50 : decode cX4_stuck 50 = .ok (.iload 4, 2) := by decide +kernel
theorem dX4_stuck_52 : decode cX4_stuck 52 = .ok (.iconst 1, 1) := by decide +kernel
theorem dX4_stuck_53 : decode cX4_stuck 53 = .ok (.iload_n 1, 1) := by decide +kernel
theorem dX4_stuck_54 : decode cX4_stuck 54 = .ok (.ishl, 1) := by decide +kernel
theorem dX4_stuck_55 : decode cX4_stuck 55 = .ok (.ior, 1) := by decide +kernel
theorem dX4_stuck_56 : decode cX4_stuck 56 = .ok (.goto 5, 3) := by decide +kernel
theorem dX4_stuck_59 : decode cX4_stuck 59 = .ok (.iload 4, 2) := by decide +kernel
theorem dX4_stuck_61 : decode cX4_stuck 61 = .ok (.putfield 79, 3) := by decide +kernel
theorem dX4_stuck_64 : decode cX4_stuck 64 = .ok (.aload_n 0, 1) := by decide +kernel
theorem dX4_stuck_65 : decode cX4_stuck 65 = .ok (.getfield 26, 3) := by decide +kernel
theorem dX4_stuck_68 : decode cX4_stuck 68 = .ok (.invokevirtual 50, 3) := by decide +kernel
theorem dX4_stuck_71 : decode cX4_stuck 71 = .ok (.iload_n 3, 1) := by decide +kernel
theorem dX4_stuck_72 : decode cX4_stuck 72 = .ok (.ireturn, 1) := by decide +kernel
theorem dX4_aim_0 : decode cX4_aim 0 = .ok (.aload_n 0, 1) := by decide +kernel
theorem dX4_aim_1 : decode cX4_aim 1 = .ok (.getfield 19, 3) := by decide +kernel
theorem dX4_aim_4 : decode cX4_aim 4 = .ok (.iload_n 1, 1) := by decide +kernel
theorem dX4_aim_5 : decode cX4_aim 5 = .ok (.invokevirtual 76, 3) := by decide +kernel
theorem dX4_aim_8 : decode cX4_aim 8 = .ok (.ifCond .ne 7, 3) := by decide +kernel
theorem dX4_aim_11 : decode cX4_aim 11 = .ok (.sipush (-1002), 3) := by decide +kernel
theorem dX4_aim_14 : decode cX4_aim 14 = .ok (.ireturn, 1) := by decide +kernel
theorem dX4_aim_15 : decode cX4_aim 15 = .ok (.iload_n 2, 1) := by decide +kernel
theorem dX4_aim_16 : decode cX4_aim 16 = .ok (.iconst (-1), 1) := by decide +kernel
theorem dX4_aim_17 : decode cX4_aim 17 = .ok (.if_icmp .eq 18, 3) := by decide +kernel
theorem dX4_aim_20 : decode cX4_aim 20 = .ok (.aload_n 0, 1) := by decide +kernel
theorem dX4_aim_21 : decode cX4_aim 21 = .ok (.getfield 19, 3) := by decide +kernel
theorem dX4_aim_24 : decode cX4_aim 24 = .ok (.iload_n 2, 1) := by decide +kernel
theorem dX4_aim_25 : decode cX4_aim 25 = .ok (.invokevirtual 59, 3) := by decide +kernel
theorem dX4_aim_28 : decode cX4_aim 28 = .ok (.ifCond .ne 7, 3) := by decide +kernel
theorem dX4_aim_31 : decode cX4_aim 31 = .ok (.sipush (-1003), 3) := by decide +kernel
theorem dX4_aim_34 : decode cX4_aim 34 = .ok (.ireturn, 1) := by decide +kernel
theorem dX4_aim_35 : decode cX4_aim 35 = .ok (.aload_n 0, 1) := by decide +kernel
theorem dX4_aim_36 : decode cX4_aim 36 = .ok (.getfield 19, 3) := by decide +kernel
theorem dX4_aim_39 : decode cX4_aim 39 = .ok (.iload_n 1, 1) := by decide +kernel
theorem dX4_aim_40 : decode cX4_aim 40 = .ok (.invokevirtual 86, 3) := by decide +kernel
theorem dX4_aim_43 : decode cX4_aim 43 = .ok (.ifCond .eq 7, 3) := by decide +kernel
theorem dX4_aim_46 : decode cX4_aim 46 = .ok (.sipush (-1004), 3) := by decide +kernel
theorem dX4_aim_49 : decode cX4_aim 49 = .ok (.ireturn, 1) := by decide +kernel
theorem dX4_aim_50 : decode cX4_aim 50 = .ok (.aload_n 0, 1) := by decide +kernel
theorem dX4_aim_51 : decode cX4_aim 51 = .ok (.getfield 19, 3) := by decide +kernel
theorem dX4_aim_54 : decode cX4_aim 54 = .ok (.getfield 89, 3) := by decide +kernel
theorem dX4_aim_57 : decode cX4_aim 57 = .ok (.iload_n 1, 1) := by decide +kernel
theorem dX4_aim_58 : decode cX4_aim 58 = .ok (.iaload, 1) := by decide +kernel
theorem dX4_aim_59 : decode cX4_aim 59 = .ok (.istore_n 3, 1) := by decide +kernel
theorem dX4_aim_60 : decode cX4_aim 60 = .ok (.aload_n 0, 1) := by decide +kernel
theorem dX4_aim_61 : decode cX4_aim 61 = .ok (.getfield 19, 3) := by decide +kernel
theorem dX4_aim_64 : decode cX4_aim 64 = .ok (.getfield 89, 3) := by decide +kernel
theorem dX4_aim_67 : decode cX4_aim 67 = .ok (.iload_n 1, 1) := by decide +kernel
theorem dX4_aim_68 : decode cX4_aim 68 = .ok (.iload_n 2, 1) := by decide +kernel
theorem dX4_aim_69 : decode cX4_aim 69 = .ok (.iastore, 1) := by decide +kernel
theorem dX4_aim_70 : decode cX4_aim 70 = .ok (.iload_n 2, 1) := by decide +kernel
theorem dX4_aim_71 : decode cX4_aim 71 = .ok (.iconst (-1), 1) := by decide +kernel
theorem dX4_aim_72 : decode cX4_aim 72 = .ok (.if_icmp .eq 34, 3) := by decide +kernel
theorem dX4_aim_75 : decode cX4_aim 75 = .ok (.aload_n 0, 1) := by decide +kernel
theorem dX4_aim_76 : decode cX4_aim 76 = .ok (.getfield 19, 3) := by decide +kernel
theorem dX4_aim_79 : decode cX4_aim 79 = .ok (.aload_n 0, 1) := by decide +kernel
theorem dX4_aim_80 : decode cX4_aim 80 = .ok (.getfield 19, 3) := by decide +kernel
theorem dX4_aim_83 : decode cX4_aim 83 = .ok (.invokevirtual 92, 3) := by decide +kernel
theorem dX4_aim_86 : decode cX4_aim 86 = .ok (.invokevirtual 95, 3) := by decide +kernel
theorem dX4_aim_89 : decode cX4_aim 89 = .ok (.ifCond .ne 17, 3) := by decide +kernel
theorem dX4_aim_92 : decode cX4_aim 92 = .ok (.aload_n 0, 1) := by decide +kernel
theorem dX4_aim_93 : decode cX4_aim 93 = .ok (.getfield 19, 3) := by decide +kernel
theorem dX4_aim_96 : decode cX4_aim 96 = .ok (.getfield 89, 3) := by decide +kernel
theorem dX4_aim_99 : decode cX4_aim 99 = .ok (.iload_n 1, 1) := by decide +kernel
theorem dX4_aim_100 : decode cX4_aim 100 = .ok (.iload_n 3, 1) := by decide +kernel
theorem dX4_aim_101 : decode cX4_aim 101 = .ok (.iastore, 1) := by decide +kernel
theorem dX4_aim_102 : decode cX4_aim 102 = .ok (.sipush (-1004), 3) := by decide +kernel
theorem dX4_aim_105 : decode cX4_aim 105 = .ok (.ireturn, 1) := by decide +kernel
theorem dX4_aim_106 : decode cX4_aim 106 = .ok (.aload_n 0, 1) := by decide +kernel
theorem dX4_aim_107 : decode cX4_aim 107 = .ok (.getfield 26, 3) := by decide +kernel
theorem dX4_aim_110 : decode cX4_aim 110 = .ok (.invokevirtual 50, 3) := by decide +kernel
theorem dX4_aim_113 : decode cX4_aim 113 = .ok (.aload_n 0, 1) := by decide +kernel
theorem dX4_aim_114 : decode cX4_aim 114 = .ok (.dup, 1) := by decide +kernel
theorem dX4_aim_115 : decode cX4_aim 115 = .ok (.getfield 98, 3) := by decide +kernel
theorem dX4_aim_118 : decode cX4_aim 118 = .ok (.iconst 1, 1) := by decide +kernel
theorem dX4_aim_119 : decode cX4_aim 119 = .ok (.iadd, 1) := by decide +kernel
theorem dX4_aim_120 : decode cX4_aim 120 = .ok (.putfield 98, 3) := by decide +kernel
theorem dX4_aim_123 : decode cX4_aim 123 = .ok (.iload_n 3, 1) := by decide +kernel
theorem dX4_aim_124 : decode cX4_aim 124 = .ok (.ireturn, 1) := by decide +kernel
theorem dX4_mirror_0 : decode cX4_mirror 0 = .ok (.aload_n 0, 1) := by decide +kernel
theorem dX4_mirror_1 : decode cX4_mirror 1 = .ok (.getfield 19, 3) := by decide +kernel
theorem dX4_mirror_4 : decode cX4_mirror 4 = .ok (.iload_n 1, 1) := by decide +kernel
theorem dX4_mirror_5 : decode cX4_mirror 5 = .ok (.invokevirtual 76, 3) := by decide +kernel
theorem dX4_mirror_8 : decode cX4_mirror 8 = .ok (.ifCond .ne 7, 3) := by decide +kernel
theorem dX4_mirror_11 : decode cX4_mirror 11 = .ok (.sipush (-1002), 3) := by decide +kernel
theorem dX4_mirror_14 : decode cX4_mirror 14 = .ok (.ireturn, 1) := by decide +kernel
theorem dX4_mirror_15 : decode cX4_mirror 15 = .ok (.iload_n 2, 1) := by decide +kernel
theorem dX4_mirror_16 : decode cX4_mirror 16 = .ok (.tableswitch 130 0 5 #[40, 50, 60, 70, 82, 94], 40) := by decide +kernel
theorem dX4_mirror_56 : decode cX4_mirror 56 = .ok (.aload_n 0, 1) := by decide +kernel
theorem dX4_mirror_57 : decode cX4_mirror 57 = .ok (.getfield 19, 3) := by decide +kernel
theorem dX4_mirror_60 : decode cX4_mirror 60 = .ok (.getfield 101, 3) := by decide +kernel
theorem dX4_mirror_63 : decode cX4_mirror 63 = .ok (.iload_n 1, 1) := by decide +kernel
theorem dX4_mirror_64 : decode cX4_mirror 64 = .ok (.iaload, 1) := by decide +kernel
theorem dX4_mirror_65 : decode cX4_mirror 65 = .ok (.ireturn, 1) := by decide +kernel
theorem dX4_mirror_66 : decode cX4_mirror 66 = .ok (.aload_n 0, 1) := by decide +kernel
theorem dX4_mirror_67 : decode cX4_mirror 67 = .ok (.getfield 19, 3) := by decide +kernel
theorem dX4_mirror_70 : decode cX4_mirror 70 = .ok (.getfield 104, 3) := by decide +kernel
theorem dX4_mirror_73 : decode cX4_mirror 73 = .ok (.iload_n 1, 1) := by decide +kernel
theorem dX4_mirror_74 : decode cX4_mirror 74 = .ok (.iaload, 1) := by decide +kernel
theorem dX4_mirror_75 : decode cX4_mirror 75 = .ok (.ireturn, 1) := by decide +kernel
theorem dX4_mirror_76 : decode cX4_mirror 76 = .ok (.aload_n 0, 1) := by decide +kernel
theorem dX4_mirror_77 : decode cX4_mirror 77 = .ok (.getfield 19, 3) := by decide +kernel
theorem dX4_mirror_80 : decode cX4_mirror 80 = .ok (.getfield 89, 3) := by decide +kernel
theorem dX4_mirror_83 : decode cX4_mirror 83 = .ok (.iload_n 1, 1) := by decide +kernel
theorem dX4_mirror_84 : decode cX4_mirror 84 = .ok (.iaload, 1) := by decide +kernel
theorem dX4_mirror_85 : decode cX4_mirror 85 = .ok (.ireturn, 1) := by decide +kernel
theorem dX4_mirror_86 : decode cX4_mirror 86 = .ok (.aload_n 0, 1) := by decide +kernel
theorem dX4_mirror_87 : decode cX4_mirror 87 = .ok (.getfield 19, 3) := by decide +kernel
theorem dX4_mirror_90 : decode cX4_mirror 90 = .ok (.getfield 73, 3) := by decide +kernel
theorem dX4_mirror_93 : decode cX4_mirror 93 = .ok (.iload_n 1, 1) := by decide +kernel
theorem dX4_mirror_94 : decode cX4_mirror 94 = .ok (.invokestatic 82, 3) := by decide +kernel
theorem dX4_mirror_97 : decode cX4_mirror 97 = .ok (.ireturn, 1) := by decide +kernel
theorem dX4_mirror_98 : decode cX4_mirror 98 = .ok (.aload_n 0, 1) := by decide +kernel
theorem dX4_mirror_99 : decode cX4_mirror 99 = .ok (.getfield 19, 3) := by decide +kernel
theorem dX4_mirror_102 : decode cX4_mirror 102 = .ok (.getfield 79, 3) := by decide +kernel
theorem dX4_mirror_105 : decode cX4_mirror 105 = .ok (.iload_n 1, 1) := by decide +kernel
theorem dX4_mirror_106 : decode cX4_mirror 106 = .ok (.invokestatic 82, 3) := by decide +kernel
theorem dX4_mirror_109 : decode cX4_mirror 109 = .ok (.ireturn, 1) := by decide +kernel
theorem dX4_mirror_110 : decode cX4_mirror 110 = .ok (.aload_n 0, 1) := by decide +kernel
theorem dX4_mirror_111 : decode cX4_mirror 111 = .ok (.getfield 19, 3) := by decide +kernel
theorem dX4_mirror_114 : decode cX4_mirror 114 = .ok (.iload_n 1, 1) := by decide +kernel
theorem dX4_mirror_115 : decode cX4_mirror 115 = .ok (.invokevirtual 107, 3) := by decide +kernel
theorem dX4_mirror_118 : decode cX4_mirror 118 = .ok (.ifCond .eq 7, 3) := by decide +kernel
theorem dX4_mirror_121 : decode cX4_mirror 121 = .ok (.iconst 0, 1) := by decide +kernel
theorem dX4_mirror_122 : decode cX4_mirror 122 = .ok (.goto 23, 3) := by decide +kernel
theorem dX4_mirror_125 : decode cX4_mirror 125 = .ok (.aload_n 0, 1) := by decide +kernel
theorem dX4_mirror_126 : decode cX4_mirror 126 = .ok (.getfield 19, 3) := by decide +kernel
theorem dX4_mirror_129 : decode cX4_mirror 129 = .ok (.iload_n 1, 1) := by decide +kernel
theorem dX4_mirror_130 : decode cX4_mirror 130 = .ok (.aload_n 0, 1) := by decide +kernel
theorem dX4_mirror_131 : decode cX4_mirror 131 = .ok (.getfield 19, 3) := by decide +kernel
theorem dX4_mirror_134 : decode cX4_mirror 134 = .ok (.getfield 89, 3) := by decide +kernel
theorem dX4_mirror_137 : decode cX4_mirror 137 = .ok (.iload_n 1, 1) := by decide +kernel
theorem dX4_mirror_138 : decode cX4_mirror 138 = .ok (.iaload, 1) := by decide +kernel
theorem dX4_mirror_139 : decode cX4_mirror 139 = .ok (.invokevirtual 110, 3) := by decide +kernel
theorem dX4_mirror_142 : decode cX4_mirror 142 = .ok (.invokestatic 113, 3) := by decide +kernel
theorem dX4_mirror_145 : decode cX4_mirror 145 = .ok (.ireturn, 1) := by decide +kernel
theorem dX4_mirror_146 : decode cX4_mirror 146 = .ok (.sipush (-1003), 3) := by decide +kernel
theorem dX4_mirror_149 : decode cX4_mirror 149 = .ok (.ireturn, 1) := by decide +kernel
theorem dX4_patch_0 : decode cX4_patch 0 = .ok (.aload_n 0, 1) := by decide +kernel
theorem dX4_patch_1 : decode cX4_patch 1 = .ok (.getfield 19, 3) := by decide +kernel
theorem dX4_patch_4 : decode cX4_patch 4 = .ok (.iload_n 1, 1) := by decide +kernel
theorem dX4_patch_5 : decode cX4_patch 5 = .ok (.invokevirtual 59, 3) := by decide +kernel
theorem dX4_patch_8 : decode cX4_patch 8 = .ok (.ifCond .ne 7, 3) := by decide +kernel
theorem dX4_patch_11 : decode cX4_patch 11 = .ok (.sipush (-1002), 3) := by decide +kernel
theorem dX4_patch_14 : decode cX4_patch 14 = .ok (.ireturn, 1) := by decide +kernel
theorem dX4_patch_15 : decode cX4_patch 15 = .ok (.iload_n 2, 1) := by decide +kernel
theorem dX4_patch_16 : decode cX4_patch 16 = .ok (.tableswitch 76 0 3 #[32, 44, 54, 67], 32) := by decide +kernel
theorem dX4_patch_48 : decode cX4_patch 48 = .ok (.aload_n 0, 1) := by decide +kernel
theorem dX4_patch_49 : decode cX4_patch 49 = .ok (.getfield 19, 3) := by decide +kernel
theorem dX4_patch_52 : decode cX4_patch 52 = .ok (.invokevirtual 92, 3) := by decide +kernel
theorem dX4_patch_55 : decode cX4_patch 55 = .ok (.iload_n 1, 1) := by decide +kernel
theorem dX4_patch_56 : decode cX4_patch 56 = .ok (.invokestatic 117, 3) := by decide +kernel
theorem dX4_patch_59 : decode cX4_patch 59 = .ok (.ireturn, 1) := by decide +kernel
theorem dX4_patch_60 : decode cX4_patch 60 = .ok (.aload_n 0, 1) := by decide +kernel
theorem dX4_patch_61 : decode cX4_patch 61 = .ok (.getfield 19, 3) := by decide +kernel
theorem dX4_patch_64 : decode cX4_patch 64 = .ok (.getfield 63, 3) := by decide +kernel
theorem dX4_patch_67 : decode cX4_patch 67 = .ok (.iload_n 1, 1) := by decide +kernel
theorem dX4_patch_68 : decode cX4_patch 68 = .ok (.iaload, 1) := by decide +kernel
theorem dX4_patch_69 : decode cX4_patch 69 = .ok (.ireturn, 1) := by decide +kernel
theorem dX4_patch_70 : decode cX4_patch 70 = .ok (.aload_n 0, 1) := by decide +kernel
theorem dX4_patch_71 : decode cX4_patch 71 = .ok (.getfield 19, 3) := by decide +kernel
theorem dX4_patch_74 : decode cX4_patch 74 = .ok (.iconst 0, 1) := by decide +kernel
theorem dX4_patch_75 : decode cX4_patch 75 = .ok (.invokevirtual 120, 3) := by decide +kernel
theorem dX4_patch_78 : decode cX4_patch 78 = .ok (.iload_n 1, 1) := by decide +kernel
theorem dX4_patch_79 : decode cX4_patch 79 = .ok (.invokestatic 117, 3) := by decide +kernel
theorem dX4_patch_82 : decode cX4_patch 82 = .ok (.ireturn, 1) := by decide +kernel
theorem dX4_patch_83 : decode cX4_patch 83 = .ok (.aload_n 0, 1) := by decide +kernel
theorem dX4_patch_84 : decode cX4_patch 84 = .ok (.getfield 19, 3) := by decide +kernel
theorem dX4_patch_87 : decode cX4_patch 87 = .ok (.iload_n 1, 1) := by decide +kernel
theorem dX4_patch_88 : decode cX4_patch 88 = .ok (.invokevirtual 123, 3) := by decide +kernel
theorem dX4_patch_91 : decode cX4_patch 91 = .ok (.ireturn, 1) := by decide +kernel
theorem dX4_patch_92 : decode cX4_patch 92 = .ok (.sipush (-1003), 3) := by decide +kernel
theorem dX4_patch_95 : decode cX4_patch 95 = .ok (.ireturn, 1) := by decide +kernel
theorem dX4_best_0 : decode cX4_best 0 = .ok (.aload_n 0, 1) := by decide +kernel
theorem dX4_best_1 : decode cX4_best 1 = .ok (.getfield 19, 3) := by decide +kernel
theorem dX4_best_4 : decode cX4_best 4 = .ok (.invokevirtual 70, 3) := by decide +kernel
theorem dX4_best_7 : decode cX4_best 7 = .ok (.ifCond .ne 7, 3) := by decide +kernel
theorem dX4_best_10 : decode cX4_best 10 = .ok (.sipush (-1004), 3) := by decide +kernel
theorem dX4_best_13 : decode cX4_best 13 = .ok (.ireturn, 1) := by decide +kernel
theorem dX4_best_14 : decode cX4_best 14 = .ok (.iload_n 2, 1) := by decide +kernel
theorem dX4_best_15 : decode cX4_best 15 = .ok (.ifCond .eq 24, 3) := by decide +kernel
theorem dX4_best_18 : decode cX4_best 18 = .ok (.iload_n 2, 1) := by decide +kernel
theorem dX4_best_19 : decode cX4_best 19 = .ok (.iconst 1, 1) := by decide +kernel
theorem dX4_best_20 : decode cX4_best 20 = .ok (.if_icmp .eq 19, 3) := by decide +kernel
theorem dX4_best_23 : decode cX4_best 23 = .ok (.iload_n 2, 1) := by decide +kernel
theorem dX4_best_24 : decode cX4_best 24 = .ok (.bipush 10, 2) := by decide +kernel
theorem dX4_best_26 : decode cX4_best 26 = .ok (.if_icmp .lt 9, 3) := by decide +kernel
theorem dX4_best_29 : decode cX4_best 29 = .ok (.iload_n 2, 1) := by decide +kernel
theorem dX4_best_30 : decode cX4_best 30 = .ok (.bipush 14, 2) := by decide +kernel
theorem dX4_best_32 : decode cX4_best 32 = .ok (.if_icmp .le 7, 3) := by decide +kernel
theorem dX4_best_35 : decode cX4_best 35 = .ok (.sipush (-1003), 3) := by decide +kernel
theorem dX4_best_38 : decode cX4_best 38 = .ok (.ireturn, 1) := by decide +kernel
theorem dX4_best_39 : decode cX4_best 39 = .ok (.aload_n 0, 1) := by decide +kernel
theorem dX4_best_40 : decode cX4_best 40 = .ok (.getfield 26, 3) := by decide +kernel
theorem dX4_best_43 : decode cX4_best 43 = .ok (.aload_n 0, 1) := by decide +kernel
theorem dX4_best_44 : decode cX4_best 44 = .ok (.getfield 19, 3) := by decide +kernel
theorem dX4_best_47 : decode cX4_best 47 = .ok (.iload_n 1, 1) := by decide +kernel
theorem dX4_best_48 : decode cX4_best 48 = .ok (.invokevirtual 126, 3) := by decide +kernel
theorem dX4_best_51 : decode cX4_best 51 = .ok (.astore_n 3, 1) := by decide +kernel
theorem dX4_best_52 : decode cX4_best 52 = .ok (.aload_n 3, 1) := by decide +kernel
theorem dX4_best_53 : decode cX4_best 53 = .ok (.getfield 130, 3) := by decide +kernel
theorem dX4_best_56 : decode cX4_best 56 = .ok (.sipush (-1001), 3) := by decide +kernel
theorem dX4_best_59 : decode cX4_best 59 = .ok (.if_icmp .eq 7, 3) := by decide +kernel
theorem dX4_best_62 : decode cX4_best 62 = .ok (.iload_n 2, 1) := by decide +kernel
theorem dX4_best_63 : decode cX4_best 63 = .ok (.ifCond .ne 8, 3) := by decide +kernel
theorem dX4_best_66 : decode cX4_best 66 = .ok (.aload_n 3, 1) := by decide +kernel
theorem dX4_best_67 : decode cX4_best 67 = .ok (.getfield 130, 3) := by decide +kernel
theorem dX4_best_70 : decode cX4_best 70 = .ok (.ireturn, 1) := by decide +kernel
theorem dX4_best_71 : decode cX4_best 71 = .ok (.iload_n 2, 1) := by decide +kernel
theorem dX4_best_72 : decode cX4_best 72 = .ok (.iconst 1, 1) := by decide +kernel
theorem dX4_best_73 : decode cX4_best 73 = .ok (.if_icmp .ne 16, 3) := by decide +kernel
theorem dX4_best_76 : decode cX4_best 76 = .ok (.aload_n 0, 1) := by decide +kernel
theorem dX4_best_77 : decode cX4_best 77 = .ok (.getfield 19, 3) := by decide +kernel
theorem dX4_best_80 : decode cX4_best 80 = .ok (.invokevirtual 135, 3) := by decide +kernel
theorem dX4_best_83 : decode cX4_best 83 = .ok (.aload_n 3, 1) := by decide +kernel
theorem dX4_best_84 : decode cX4_best 84 = .ok (.getfield 130, 3) := by decide +kernel
theorem dX4_best_87 : decode cX4_best 87 = .ok (.isub, 1) := by decide +kernel
theorem dX4_best_88 : decode cX4_best 88 = .ok (.ireturn, 1) := by decide +kernel
theorem dX4_best_89 : decode cX4_best 89 = .ok (.aload_n 0, 1) := by decide +kernel
theorem dX4_best_90 : decode cX4_best 90 = .ok (.getfield 19, 3) := by decide +kernel
theorem dX4_best_93 : decode cX4_best 93 = .ok (.iload_n 2, 1) := by decide +kernel
theorem dX4_best_94 : decode cX4_best 94 = .ok (.bipush 10, 2) := by decide +kernel
theorem dX4_best_96 : decode cX4_best 96 = .ok (.isub, 1) := by decide +kernel
theorem dX4_best_97 : decode cX4_best 97 = .ok (.invokevirtual 76, 3) := by decide +kernel
theorem dX4_best_100 : decode cX4_best 100 = .ok (.ifCond .eq 17, 3) := by decide +kernel
theorem dX4_best_103 : decode cX4_best 103 = .ok (.aload_n 3, 1) := by decide +kernel
theorem dX4_best_104 : decode cX4_best 104 = .ok (.getfield 138, 3) := by decide +kernel
theorem dX4_best_107 : decode cX4_best 107 = .ok (.iload_n 2, 1) := by decide +kernel
theorem dX4_best_108 : decode cX4_best 108 = .ok (.bipush 10, 2) := by decide +kernel
theorem dX4_best_110 : decode cX4_best 110 = .ok (.isub, 1) := by decide +kernel
theorem dX4_best_111 : decode cX4_best 111 = .ok (.invokestatic 141, 3) := by decide +kernel
theorem dX4_best_114 : decode cX4_best 114 = .ok (.goto 6, 3) := by decide +kernel
theorem dX4_best_117 : decode cX4_best 117 = .ok (.sipush (-1001), 3) := by decide +kernel
theorem dX4_best_120 : decode cX4_best 120 = .ok (.ireturn, 1) := by decide +kernel
theorem dX4_change_0 : decode cX4_change 0 = .ok (.aload_n 0, 1) := by decide +kernel
theorem dX4_change_1 : decode cX4_change 1 = .ok (.getfield 19, 3) := by decide +kernel
theorem dX4_change_4 : decode cX4_change 4 = .ok (.invokevirtual 70, 3) := by decide +kernel
theorem dX4_change_7 : decode cX4_change 7 = .ok (.ifCond .ne 7, 3) := by decide +kernel
theorem dX4_change_10 : decode cX4_change 10 = .ok (.sipush (-1004), 3) := by decide +kernel
theorem dX4_change_13 : decode cX4_change 13 = .ok (.ireturn, 1) := by decide +kernel
theorem dX4_change_14 : decode cX4_change 14 = .ok (.iload_n 2, 1) := by decide +kernel
theorem dX4_change_15 : decode cX4_change 15 = .ok (.ifCond .eq 19, 3) := by decide +kernel
theorem dX4_change_18 : decode cX4_change 18 = .ok (.iload_n 2, 1) := by decide +kernel
theorem dX4_change_19 : decode cX4_change 19 = .ok (.bipush 10, 2) := by decide +kernel
theorem dX4_change_21 : decode cX4_change 21 = .ok (.if_icmp .lt 9, 3) := by decide +kernel
theorem dX4_change_24 : decode cX4_change 24 = .ok (.iload_n 2, 1) := by decide +kernel
theorem dX4_change_25 : decode cX4_change 25 = .ok (.bipush 24, 2) := by decide +kernel
theorem dX4_change_27 : decode cX4_change 27 = .ok (.if_icmp .le 7, 3) := by decide +kernel
theorem dX4_change_30 : decode cX4_change 30 = .ok (.sipush (-1003), 3) := by decide +kernel
theorem dX4_change_33 : decode cX4_change 33 = .ok (.ireturn, 1) := by decide +kernel
theorem dX4_change_34 : decode cX4_change 34 = .ok (.aload_n 0, 1) := by decide +kernel
theorem dX4_change_35 : decode cX4_change 35 = .ok (.getfield 26, 3) := by decide +kernel
theorem dX4_change_38 : decode cX4_change 38 = .ok (.aload_n 0, 1) := by decide +kernel
theorem dX4_change_39 : decode cX4_change 39 = .ok (.getfield 19, 3) := by decide +kernel
theorem dX4_change_42 : decode cX4_change 42 = .ok (.iload_n 1, 1) := by decide +kernel
theorem dX4_change_43 : decode cX4_change 43 = .ok (.invokevirtual 144, 3) := by decide +kernel
theorem dX4_change_46 : decode cX4_change 46 = .ok (.astore_n 3, 1) := by decide +kernel
theorem dX4_change_47 : decode cX4_change 47 = .ok (.iload_n 2, 1) := by decide +kernel
theorem dX4_change_48 : decode cX4_change 48 = .ok (.ifCond .ne 10, 3) := by decide +kernel
theorem dX4_change_51 : decode cX4_change 51 = .ok (.aload_n 3, 1) := by decide +kernel
theorem dX4_change_52 : decode cX4_change 52 = .ok (.getfield 147, 3) := by decide +kernel
theorem dX4_change_55 : decode cX4_change 55 = .ok (.goto 11, 3) := by decide +kernel
theorem dX4_change_58 : decode cX4_change 58 = .ok (.aload_n 3, 1) := by decide +kernel
theorem dX4_change_59 : decode cX4_change 59 = .ok (.iload_n 2, 1) := by decide +kernel
theorem dX4_change_60 : decode cX4_change 60 = .ok (.bipush 10, 2) := by decide +kernel
theorem dX4_change_62 : decode cX4_change 62 = .ok (.isub, 1) := by decide +kernel
theorem dX4_change_63 : decode cX4_change 63 = .ok (.invokevirtual 150, 3) := by decide +kernel
theorem dX4_change_66 : decode cX4_change 66 = .ok (.ireturn, 1) := by decide +kernel
theorem dX4_go_0 : decode cX4_go 0 = .ok (.aload_n 0, 1) := by decide +kernel
theorem dX4_go_1 : decode cX4_go 1 = .ok (.getfield 19, 3) := by decide +kernel
theorem dX4_go_4 : decode cX4_go 4 = .ok (.invokevirtual 70, 3) := by decide +kernel
theorem dX4_go_7 : decode cX4_go 7 = .ok (.ifCond .ne 7, 3) := by decide +kernel
theorem dX4_go_10 : decode cX4_go 10 = .ok (.sipush (-1004), 3) := by decide +kernel
theorem dX4_go_13 : decode cX4_go 13 = .ok (.ireturn, 1) := by decide +kernel
theorem dX4_go_14 : decode cX4_go 14 = .ok (.aload_n 0, 1) := by decide +kernel
theorem dX4_go_15 : decode cX4_go 15 = .ok (.getfield 26, 3) := by decide +kernel
theorem dX4_go_18 : decode cX4_go 18 = .ok (.aload_n 0, 1) := by decide +kernel
theorem dX4_go_19 : decode cX4_go 19 = .ok (.getfield 19, 3) := by decide +kernel
theorem dX4_go_22 : decode cX4_go 22 = .ok (.iload_n 1, 1) := by decide +kernel
theorem dX4_go_23 : decode cX4_go 23 = .ok (.invokevirtual 144, 3) := by decide +kernel
theorem dX4_go_26 : decode cX4_go 26 = .ok (.astore_n 2, 1) := by decide +kernel
theorem dX4_go_27 : decode cX4_go 27 = .ok (.aload_n 2, 1) := by decide +kernel
theorem dX4_go_28 : decode cX4_go 28 = .ok (.iconst 0, 1) := by decide +kernel
theorem dX4_go_29 : decode cX4_go 29 = .ok (.invokevirtual 150, 3) := by decide +kernel
theorem dX4_go_32 : decode cX4_go 32 = .ok (.istore_n 3, 1) := by decide +kernel
theorem dX4_go_33 : decode cX4_go 33 = .ok (.iload_n 3, 1) := by decide +kernel
theorem dX4_go_34 : decode cX4_go 34 = .ok (.sipush (-1001), 3) := by decide +kernel
theorem dX4_go_37 : decode cX4_go 37 = .ok (.if_icmp .eq 16, 3) := by decide +kernel
theorem dX4_go_40 : decode cX4_go 40 = .ok (.aload_n 0, 1) := by decide +kernel
theorem dX4_go_41 : decode cX4_go 41 = .ok (.getfield 19, 3) := by decide +kernel
theorem dX4_go_44 : decode cX4_go 44 = .ok (.iload_n 3, 1) := by decide +kernel
theorem dX4_go_45 : decode cX4_go 45 = .ok (.iconst 3, 1) := by decide +kernel
theorem dX4_go_46 : decode cX4_go 46 = .ok (.ishr, 1) := by decide +kernel
theorem dX4_go_47 : decode cX4_go 47 = .ok (.invokevirtual 76, 3) := by decide +kernel
theorem dX4_go_50 : decode cX4_go 50 = .ok (.ifCond .ne 7, 3) := by decide +kernel
theorem dX4_go_53 : decode cX4_go 53 = .ok (.sipush (-1004), 3) := by decide +kernel
theorem dX4_go_56 : decode cX4_go 56 = .ok (.ireturn, 1) := by decide +kernel
theorem dX4_go_57 : decode cX4_go 57 = .ok (.aload_n 0, 1) := by decide +kernel
theorem dX4_go_58 : decode cX4_go 58 = .ok (.getfield 19, 3) := by decide +kernel
theorem dX4_go_61 : decode cX4_go 61 = .ok (.getfield 89, 3) := by decide +kernel
theorem dX4_go_64 : decode cX4_go 64 = .ok (.iload_n 3, 1) := by decide +kernel
theorem dX4_go_65 : decode cX4_go 65 = .ok (.iconst 3, 1) := by decide +kernel
theorem dX4_go_66 : decode cX4_go 66 = .ok (.ishr, 1) := by decide +kernel
theorem dX4_go_67 : decode cX4_go 67 = .ok (.iload_n 3, 1) := by decide +kernel
theorem dX4_go_68 : decode cX4_go 68 = .ok (.bipush 7, 2) := by decide +kernel
theorem dX4_go_70 : decode cX4_go 70 = .ok (.iand, 1) := by decide +kernel
theorem dX4_go_71 : decode cX4_go 71 = .ok (.iconst 1, 1) := by decide +kernel
theorem dX4_go_72 : decode cX4_go 72 = .ok (.isub, 1) := by decide +kernel
theorem dX4_go_73 : decode cX4_go 73 = .ok (.iastore, 1) := by decide +kernel
theorem dX4_go_74 : decode cX4_go 74 = .ok (.aload_n 0, 1) := by decide +kernel
theorem dX4_go_75 : decode cX4_go 75 = .ok (.getfield 26, 3) := by decide +kernel
theorem dX4_go_78 : decode cX4_go 78 = .ok (.invokevirtual 50, 3) := by decide +kernel
theorem dX4_go_81 : decode cX4_go 81 = .ok (.aload_n 0, 1) := by decide +kernel
theorem dX4_go_82 : decode cX4_go 82 = .ok (.dup, 1) := by decide +kernel
theorem dX4_go_83 : decode cX4_go 83 = .ok (.getfield 98, 3) := by decide +kernel
theorem dX4_go_86 : decode cX4_go 86 = .ok (.iconst 1, 1) := by decide +kernel
theorem dX4_go_87 : decode cX4_go 87 = .ok (.iadd, 1) := by decide +kernel
theorem dX4_go_88 : decode cX4_go 88 = .ok (.putfield 98, 3) := by decide +kernel
theorem dX4_go_91 : decode cX4_go 91 = .ok (.aload_n 2, 1) := by decide +kernel
theorem dX4_go_92 : decode cX4_go 92 = .ok (.getfield 147, 3) := by decide +kernel
theorem dX4_go_95 : decode cX4_go 95 = .ok (.iconst 1, 1) := by decide +kernel
theorem dX4_go_96 : decode cX4_go 96 = .ok (.isub, 1) := by decide +kernel
theorem dX4_go_97 : decode cX4_go 97 = .ok (.ireturn, 1) := by decide +kernel
theorem dX4_trade_0 : decode cX4_trade 0 = .ok (.aload_n 0, 1) := by decide +kernel
theorem dX4_trade_1 : decode cX4_trade 1 = .ok (.getfield 19, 3) := by decide +kernel
theorem dX4_trade_4 : decode cX4_trade 4 = .ok (.invokevirtual 70, 3) := by decide +kernel
theorem dX4_trade_7 : decode cX4_trade 7 = .ok (.ifCond .ne 7, 3) := by decide +kernel
theorem dX4_trade_10 : decode cX4_trade 10 = .ok (.sipush (-1004), 3) := by decide +kernel
theorem dX4_trade_13 : decode cX4_trade 13 = .ok (.ireturn, 1) := by decide +kernel
theorem dX4_trade_14 : decode cX4_trade 14 = .ok (.iload_n 1, 1) := by decide +kernel
theorem dX4_trade_15 : decode cX4_trade 15 = .ok (.ifCond .lt 8, 3) := by decide +kernel
theorem dX4_trade_18 : decode cX4_trade 18 = .ok (.iload_n 1, 1) := by decide +kernel
theorem dX4_trade_19 : decode cX4_trade 19 = .ok (.iconst 2, 1) := by decide +kernel
theorem dX4_trade_20 : decode cX4_trade 20 = .ok (.if_icmp .le 7, 3) := by decide +kernel
theorem dX4_trade_23 : decode cX4_trade 23 = .ok (.sipush (-1003), 3) := by decide +kernel
theorem dX4_trade_26 : decode cX4_trade 26 = .ok (.ireturn, 1) := by decide +kernel
theorem dX4_trade_27 : decode cX4_trade 27 = .ok (.aload_n 0, 1) := by decide +kernel
theorem dX4_trade_28 : decode cX4_trade 28 = .ok (.getfield 19, 3) := by decide +kernel
theorem dX4_trade_31 : decode cX4_trade 31 = .ok (.invokevirtual 153, 3) := by decide +kernel
theorem dX4_trade_34 : decode cX4_trade 34 = .ok (.istore_n 2, 1) := by decide +kernel
theorem dX4_trade_35 : decode cX4_trade 35 = .ok (.iload_n 2, 1) := by decide +kernel
theorem dX4_trade_36 : decode cX4_trade 36 = .ok (.sipush (-1001), 3) := by decide +kernel
theorem dX4_trade_39 : decode cX4_trade 39 = .ok (.if_icmp .ne 7, 3) := by decide +kernel
theorem dX4_trade_42 : decode cX4_trade 42 = .ok (.sipush (-1001), 3) := by decide +kernel
theorem dX4_trade_45 : decode cX4_trade 45 = .ok (.ireturn, 1) := by decide +kernel
theorem dX4_trade_46 : decode cX4_trade 46 = .ok (.iload_n 2, 1) := by decide +kernel
theorem dX4_trade_47 : decode cX4_trade 47 = .ok (.iconst 3, 1) := by decide +kernel
theorem dX4_trade_48 : decode cX4_trade 48 = .ok (.ishr, 1) := by decide +kernel
theorem dX4_trade_49 : decode cX4_trade 49 = .ok (.istore_n 3, 1) := by decide +kernel
theorem dX4_trade_50 : decode cX4_trade 50 = .ok (.iload_n 2, 1) := by decide +kernel
theorem dX4_trade_51 : decode cX4_trade 51 = .ok (.bipush 7, 2) := by decide +kernel
theorem dX4_trade_53 : decode cX4_trade 53 = .ok (.iand, 1) := by decide +kernel
theorem dX4_trade_54 : decode cX4_trade 54 = .ok (.istore 4, 2) := by decide +kernel
theorem dX4_trade_56 : decode cX4_trade 56 = .ok (.iload_n 1, 1) := by decide +kernel
theorem dX4_trade_57 : decode cX4_trade 57 = .ok (.ifCond .ne 28, 3) := by decide +kernel
theorem dX4_trade_60 : decode cX4_trade 60 = .ok (.aload_n 0, 1) := by decide +kernel
theorem dX4_trade_61 : decode cX4_trade 61 = .ok (.getfield 19, 3) := by decide +kernel
theorem dX4_trade_64 : decode cX4_trade 64 = .ok (.iload_n 3, 1) := by decide +kernel
theorem dX4_trade_65 : decode cX4_trade 65 = .ok (.iload 4, 2) := by decide +kernel
theorem dX4_trade_67 : decode cX4_trade 67 = .ok (.invokevirtual 156, 3) := by decide +kernel
theorem dX4_trade_70 : decode cX4_trade 70 = .ok (.invokestatic 113, 3) := by decide +kernel
theorem dX4_trade_73 : decode cX4_trade 73 = .ok (.aload_n 0, 1) := by decide +kernel
theorem dX4_trade_74 : decode cX4_trade 74 = .ok (.getfield 19, 3) := by decide +kernel
theorem dX4_trade_77 : decode cX4_trade 77 = .ok (.invokevirtual 92, 3) := by decide +kernel
theorem dX4_trade_80 : decode cX4_trade 80 = .ok (.invokestatic 113, 3) := by decide +kernel
theorem dX4_trade_83 : decode cX4_trade 83 = .ok (.isub, 1) := by decide +kernel
theorem dX4_trade_84 : decode cX4_trade 84 = .ok (.ireturn, 1) := by decide +kernel
theorem dX4_trade_85 : decode cX4_trade 85 = .ok (.iload_n 1, 1) := by decide +kernel
theorem dX4_trade_86 : decode cX4_trade 86 = .ok (.iconst 1, 1) := by decide +kernel
theorem dX4_trade_87 : decode cX4_trade 87 = .ok (.if_icmp .ne 7, 3) := by decide +kernel
theorem dX4_trade_90 : decode cX4_trade 90 = .ok (.iload_n 3, 1) := by decide +kernel
theorem dX4_trade_91 : decode cX4_trade 91 = .ok (.goto 5, 3) := by decide +kernel
theorem dX4_trade_94 : decode cX4_trade 94 = .ok (.iload 4, 2) := by decide +kernel
theorem dX4_trade_96 : decode cX4_trade 96 = .ok (.ireturn, 1) := by decide +kernel
theorem dX4_relief_0 : decode cX4_relief 0 = .ok (.aload_n 0, 1) := by decide +kernel
theorem dX4_relief_1 : decode cX4_relief 1 = .ok (.getfield 19, 3) := by decide +kernel
theorem dX4_relief_4 : decode cX4_relief 4 = .ok (.invokevirtual 70, 3) := by decide +kernel
theorem dX4_relief_7 : decode cX4_relief 7 = .ok (.ifCond .eq 13, 3) := by decide +kernel
theorem dX4_relief_10 : decode cX4_relief 10 = .ok (.aload_n 0, 1) := by decide +kernel
theorem dX4_relief_11 : decode cX4_relief 11 = .ok (.getfield 19, 3) := by decide +kernel
theorem dX4_relief_14 : decode cX4_relief 14 = .ok (.invokevirtual 159, 3) := by decide +kernel
theorem dX4_relief_17 : decode cX4_relief 17 = .ok (.goto 6, 3) := by decide +kernel
theorem dX4_relief_20 : decode cX4_relief 20 = .ok (.sipush (-1004), 3) := by decide +kernel
theorem dX4_relief_23 : decode cX4_relief 23 = .ok (.ireturn, 1) := by decide +kernel
theorem dX4_count_0 : decode cX4_count 0 = .ok (.iload_n 1, 1) := by decide +kernel
theorem dX4_count_1 : decode cX4_count 1 = .ok (.tableswitch 163 0 9 #[55, 63, 71, 79, 90, 113, 137, 145, 153, 158], 55) := by decide +kernel
theorem dX4_count_56 : decode cX4_count 56 = .ok (.aload_n 0, 1) := by decide +kernel
theorem dX4_count_57 : decode cX4_count 57 = .ok (.getfield 19, 3) := by decide +kernel
theorem dX4_count_60 : decode cX4_count 60 = .ok (.getfield 56, 3) := by decide +kernel
theorem dX4_count_63 : decode cX4_count 63 = .ok (.ireturn, 1) := by decide +kernel
theorem dX4_count_64 : decode cX4_count 64 = .ok (.aload_n 0, 1) := by decide +kernel
theorem dX4_count_65 : decode cX4_count 65 = .ok (.getfield 19, 3) := by decide +kernel
theorem dX4_count_68 : decode cX4_count 68 = .ok (.getfield 162, 3) := by decide +kernel
theorem dX4_count_71 : decode cX4_count 71 = .ok (.ireturn, 1) := by decide +kernel
theorem dX4_count_72 : decode cX4_count 72 = .ok (.aload_n 0, 1) := by decide +kernel
theorem dX4_count_73 : decode cX4_count 73 = .ok (.getfield 10, 3) := by decide +kernel
theorem dX4_count_76 : decode cX4_count 76 = .ok (.getfield 30, 3) := by decide +kernel
theorem dX4_count_79 : decode cX4_count 79 = .ok (.ireturn, 1) := by decide +kernel
theorem dX4_count_80 : decode cX4_count 80 = .ok (.aload_n 0, 1) := by decide +kernel
theorem dX4_count_81 : decode cX4_count 81 = .ok (.getfield 19, 3) := by decide +kernel
theorem dX4_count_84 : decode cX4_count 84 = .ok (.invokevirtual 92, 3) := by decide +kernel
theorem dX4_count_87 : decode cX4_count 87 = .ok (.invokestatic 113, 3) := by decide +kernel
theorem dX4_count_90 : decode cX4_count 90 = .ok (.ireturn, 1) := by decide +kernel
theorem dX4_count_91 : decode cX4_count 91 = .ok (.aload_n 0, 1) := by decide +kernel
theorem dX4_count_92 : decode cX4_count 92 = .ok (.getfield 19, 3) := by decide +kernel
theorem dX4_count_95 : decode cX4_count 95 = .ok (.aload_n 0, 1) := by decide +kernel
theorem dX4_count_96 : decode cX4_count 96 = .ok (.getfield 19, 3) := by decide +kernel
theorem dX4_count_99 : decode cX4_count 99 = .ok (.invokevirtual 92, 3) := by decide +kernel
theorem dX4_count_102 : decode cX4_count 102 = .ok (.invokevirtual 95, 3) := by decide +kernel
theorem dX4_count_105 : decode cX4_count 105 = .ok (.ifCond .eq 7, 3) := by decide +kernel
theorem dX4_count_108 : decode cX4_count 108 = .ok (.iconst 1, 1) := by decide +kernel
theorem dX4_count_109 : decode cX4_count 109 = .ok (.goto 4, 3) := by decide +kernel
theorem dX4_count_112 : decode cX4_count 112 = .ok (.iconst 0, 1) := by decide +kernel
theorem dX4_count_113 : decode cX4_count 113 = .ok (.ireturn, 1) := by decide +kernel
theorem dX4_count_114 : decode cX4_count 114 = .ok (.aload_n 0, 1) := by decide +kernel
theorem dX4_count_115 : decode cX4_count 115 = .ok (.getfield 19, 3) := by decide +kernel
theorem dX4_count_118 : decode cX4_count 118 = .ok (.aload_n 0, 1) := by decide +kernel
theorem dX4_count_119 : decode cX4_count 119 = .ok (.getfield 19, 3) := by decide +kernel
theorem dX4_count_122 : decode cX4_count 122 = .ok (.iconst 0, 1) := by decide +kernel
theorem dX4_count_123 : decode cX4_count 123 = .ok (.invokevirtual 120, 3) := by decide +kernel
theorem dX4_count_126 : decode cX4_count 126 = .ok (.invokevirtual 95, 3) := by decide +kernel
theorem dX4_count_129 : decode cX4_count 129 = .ok (.ifCond .eq 7, 3) := by decide +kernel
theorem dX4_count_132 : decode cX4_count 132 = .ok (.iconst 1, 1) := by decide +kernel
theorem dX4_count_133 : decode cX4_count 133 = .ok (.goto 4, 3) := by decide +kernel
theorem dX4_count_136 : decode cX4_count 136 = .ok (.iconst 0, 1) := by decide +kernel
theorem dX4_count_137 : decode cX4_count 137 = .ok (.ireturn, 1) := by decide +kernel
theorem dX4_count_138 : decode cX4_count 138 = .ok (.aload_n 0, 1) := by decide +kernel
theorem dX4_count_139 : decode cX4_count 139 = .ok (.getfield 19, 3) := by decide +kernel
theorem dX4_count_142 : decode cX4_count 142 = .ok (.getfield 73, 3) := by decide +kernel
theorem dX4_count_145 : decode cX4_count 145 = .ok (.ireturn, 1) := by decide +kernel
theorem dX4_count_146 : decode cX4_count 146 = .ok (.aload_n 0, 1) := by decide +kernel
theorem dX4_count_147 : decode cX4_count 147 = .ok (.getfield 19, 3) := by decide +kernel
theorem dX4_count_150 : decode cX4_count 150 = .ok (.getfield 79, 3) := by decide +kernel
theorem dX4_count_153 : decode cX4_count 153 = .ok (.ireturn, 1) := by decide +kernel
theorem dX4_count_154 : decode cX4_count 154 = .ok (.aload_n 0, 1) := by decide +kernel
theorem dX4_count_155 : decode cX4_count 155 = .ok (.getfield 53, 3) := by decide +kernel
theorem dX4_count_158 : decode cX4_count 158 = .ok (.ireturn, 1) := by decide +kernel
theorem dX4_count_159 : decode cX4_count 159 = .ok (.aload_n 0, 1) := by decide +kernel
theorem dX4_count_160 : decode cX4_count 160 = .ok (.getfield 98, 3) := by decide +kernel
end
section
theorem dX4_count_163 : decode cX4_count 163 = .ok (.ireturn, 1) := by decide +kernel
theorem dX4_count_164 : decode cX4_count 164 = .ok (.sipush (-1003), 3) := by decide +kernel
theorem dX4_count_167 : decode cX4_count 167 = .ok (.ireturn, 1) := by decide +kernel
theorem dX4_digest_0 : decode cX4_digest 0 = .ok (.aload_n 0, 1) := by decide +kernel
theorem dX4_digest_1 : decode cX4_digest 1 = .ok (.ldc2_w 165, 3) := by decide +kernel
theorem dX4_digest_4 : decode cX4_digest 4 = .ok (.invokevirtual 167, 3) := by decide +kernel
theorem dX4_digest_7 : decode cX4_digest 7 = .ok (.lstore_n 1, 1) := by decide +kernel
theorem dX4_digest_8 : decode cX4_digest 8 = .ok (.aload_n 0, 1) := by decide +kernel
theorem dX4_digest_9 : decode cX4_digest 9 = .ok (.getfield 19, 3) := by decide +kernel
theorem dX4_digest_12 : decode cX4_digest 12 = .ok (.invokevirtual 70, 3) := by decide +kernel
theorem dX4_digest_15 : decode cX4_digest 15 = .ok (.ifCond .eq 177, 3) := by decide +kernel
theorem dX4_digest_18 : decode cX4_digest 18 = .ok (.iconst 0, 1) := by decide +kernel
theorem dX4_digest_19 : decode cX4_digest 19 = .ok (.istore_n 3, 1) := by decide +kernel
theorem dX4_digest_20 : decode cX4_digest 20 = .ok (.iload_n 3, 1) := by decide +kernel
theorem dX4_digest_21 : decode cX4_digest 21 = .ok (.iconst 1, 1) := by decide +kernel
theorem dX4_digest_22 : decode cX4_digest 22 = .ok (.if_icmp .gt 132, 3) := by decide +kernel
theorem dX4_digest_25 : decode cX4_digest 25 = .ok (.iload_n 3, 1) := by decide +kernel
theorem dX4_digest_26 : decode cX4_digest 26 = .ok (.iconst 1, 1) := by decide +kernel
theorem dX4_digest_27 : decode cX4_digest 27 = .ok (.if_icmp .ne 7, 3) := by decide +kernel
theorem dX4_digest_30 : decode cX4_digest 30 = .ok (.iconst 1, 1) := by decide +kernel
theorem dX4_digest_31 : decode cX4_digest 31 = .ok (.goto 4, 3) := by decide +kernel
theorem dX4_digest_34 : decode cX4_digest 34 = .ok (.iconst 0, 1) := by decide +kernel
theorem dX4_digest_35 : decode cX4_digest 35 = .ok (.istore 4, 2) := by decide +kernel
theorem dX4_digest_37 : decode cX4_digest 37 = .ok (.ldc2_w 171, 3) := by decide +kernel
theorem dX4_digest_40 : decode cX4_digest 40 = .ok (.lload_n 1, 1) := by decide +kernel
theorem dX4_digest_41 : decode cX4_digest 41 = .ok (.lmul, 1) := by decide +kernel
theorem dX4_digest_42 : decode cX4_digest 42 = .ok (.aload_n 0, 1) := by decide +kernel
theorem dX4_digest_43 : decode cX4_digest 43 = .ok (.iload 4, 2) := by decide +kernel
theorem dX4_digest_45 : decode cX4_digest 45 = .ok (.iconst 0, 1) := by decide +kernel
theorem dX4_digest_46 : decode cX4_digest 46 = .ok (.invokevirtual 173, 3) := by decide +kernel
theorem dX4_digest_49 : decode cX4_digest 49 = .ok (.i2l, 1) := by decide +kernel
theorem dX4_digest_50 : decode cX4_digest 50 = .ok (.ladd, 1) := by decide +kernel
theorem dX4_digest_51 : decode cX4_digest 51 = .ok (.lstore_n 1, 1) := by decide +kernel
theorem dX4_digest_52 : decode cX4_digest 52 = .ok (.ldc2_w 171, 3) := by decide +kernel
theorem dX4_digest_55 : decode cX4_digest 55 = .ok (.lload_n 1, 1) := by decide +kernel
theorem dX4_digest_56 : decode cX4_digest 56 = .ok (.lmul, 1) := by decide +kernel
theorem dX4_digest_57 : decode cX4_digest 57 = .ok (.aload_n 0, 1) := by decide +kernel
theorem dX4_digest_58 : decode cX4_digest 58 = .ok (.iload 4, 2) := by decide +kernel
theorem dX4_digest_60 : decode cX4_digest 60 = .ok (.iconst 1, 1) := by decide +kernel
theorem dX4_digest_61 : decode cX4_digest 61 = .ok (.invokevirtual 173, 3) := by decide +kernel
theorem dX4_digest_64 : decode cX4_digest 64 = .ok (.i2l, 1) := by decide +kernel
theorem dX4_digest_65 : decode cX4_digest 65 = .ok (.ladd, 1) := by decide +kernel
theorem dX4_digest_66 : decode cX4_digest 66 = .ok (.lstore_n 1, 1) := by decide +kernel
theorem dX4_digest_67 : decode cX4_digest 67 = .ok (.bipush 10, 2) := by decide +kernel
theorem dX4_digest_69 : decode cX4_digest 69 = .ok (.istore 5, 2) := by decide +kernel
theorem dX4_digest_71 : decode cX4_digest 71 = .ok (.iload 5, 2) := by decide +kernel
theorem dX4_digest_73 : decode cX4_digest 73 = .ok (.bipush 14, 2) := by decide +kernel
theorem dX4_digest_75 : decode cX4_digest 75 = .ok (.if_icmp .gt 25, 3) := by decide +kernel
theorem dX4_digest_78 : decode cX4_digest 78 = .ok (.ldc2_w 171, 3) := by decide +kernel
theorem dX4_digest_81 : decode cX4_digest 81 = .ok (.lload_n 1, 1) := by decide +kernel
theorem dX4_digest_82 : decode cX4_digest 82 = .ok (.lmul, 1) := by decide +kernel
theorem dX4_digest_83 : decode cX4_digest 83 = .ok (.aload_n 0, 1) := by decide +kernel
theorem dX4_digest_84 : decode cX4_digest 84 = .ok (.iload 4, 2) := by decide +kernel
theorem dX4_digest_86 : decode cX4_digest 86 = .ok (.iload 5, 2) := by decide +kernel
theorem dX4_digest_88 : decode cX4_digest 88 = .ok (.invokevirtual 173, 3) := by decide +kernel
theorem dX4_digest_91 : decode cX4_digest 91 = .ok (.i2l, 1) := by decide +kernel
theorem dX4_digest_92 : decode cX4_digest 92 = .ok (.ladd, 1) := by decide +kernel
theorem dX4_digest_93 : decode cX4_digest 93 = .ok (.lstore_n 1, 1) := by decide +kernel
theorem dX4_digest_94 : decode cX4_digest 94 = .ok (.iinc 5 1, 3) := by decide +kernel
theorem dX4_digest_97 : decode cX4_digest 97 = .ok (.goto (-26), 3) := by decide +kernel
theorem dX4_digest_100 : decode cX4_digest 100 = .ok (.ldc2_w 171, 3) := by decide +kernel
theorem dX4_digest_103 : decode cX4_digest 103 = .ok (.lload_n 1, 1) := by decide +kernel
theorem dX4_digest_104 : decode cX4_digest 104 = .ok (.lmul, 1) := by decide +kernel
theorem dX4_digest_105 : decode cX4_digest 105 = .ok (.aload_n 0, 1) := by decide +kernel
theorem dX4_digest_106 : decode cX4_digest 106 = .ok (.iload 4, 2) := by decide +kernel
theorem dX4_digest_108 : decode cX4_digest 108 = .ok (.iconst 0, 1) := by decide +kernel
theorem dX4_digest_109 : decode cX4_digest 109 = .ok (.invokevirtual 177, 3) := by decide +kernel
theorem dX4_digest_112 : decode cX4_digest 112 = .ok (.i2l, 1) := by decide +kernel
theorem dX4_digest_113 : decode cX4_digest 113 = .ok (.ladd, 1) := by decide +kernel
theorem dX4_digest_114 : decode cX4_digest 114 = .ok (.lstore_n 1, 1) := by decide +kernel
theorem dX4_digest_115 : decode cX4_digest 115 = .ok (.bipush 10, 2) := by decide +kernel
theorem dX4_digest_117 : decode cX4_digest 117 = .ok (.istore 5, 2) := by decide +kernel
theorem dX4_digest_119 : decode cX4_digest 119 = .ok (.iload 5, 2) := by decide +kernel
theorem dX4_digest_121 : decode cX4_digest 121 = .ok (.bipush 12, 2) := by decide +kernel
theorem dX4_digest_123 : decode cX4_digest 123 = .ok (.if_icmp .gt 25, 3) := by decide +kernel
theorem dX4_digest_126 : decode cX4_digest 126 = .ok (.ldc2_w 171, 3) := by decide +kernel
theorem dX4_digest_129 : decode cX4_digest 129 = .ok (.lload_n 1, 1) := by decide +kernel
theorem dX4_digest_130 : decode cX4_digest 130 = .ok (.lmul, 1) := by decide +kernel
theorem dX4_digest_131 : decode cX4_digest 131 = .ok (.aload_n 0, 1) := by decide +kernel
theorem dX4_digest_132 : decode cX4_digest 132 = .ok (.iload 4, 2) := by decide +kernel
theorem dX4_digest_134 : decode cX4_digest 134 = .ok (.iload 5, 2) := by decide +kernel
theorem dX4_digest_136 : decode cX4_digest 136 = .ok (.invokevirtual 177, 3) := by decide +kernel
theorem dX4_digest_139 : decode cX4_digest 139 = .ok (.i2l, 1) := by decide +kernel
theorem dX4_digest_140 : decode cX4_digest 140 = .ok (.ladd, 1) := by decide +kernel
theorem dX4_digest_141 : decode cX4_digest 141 = .ok (.lstore_n 1, 1) := by decide +kernel
theorem dX4_digest_142 : decode cX4_digest 142 = .ok (.iinc 5 1, 3) := by decide +kernel
theorem dX4_digest_145 : decode cX4_digest 145 = .ok (.goto (-26), 3) := by decide +kernel
theorem dX4_digest_148 : decode cX4_digest 148 = .ok (.iinc 3 1, 3) := by decide +kernel
theorem dX4_digest_151 : decode cX4_digest 151 = .ok (.goto (-131), 3) := by decide +kernel
theorem dX4_digest_154 : decode cX4_digest 154 = .ok (.iconst 0, 1) := by decide +kernel
theorem dX4_digest_155 : decode cX4_digest 155 = .ok (.istore_n 3, 1) := by decide +kernel
theorem dX4_digest_156 : decode cX4_digest 156 = .ok (.iload_n 3, 1) := by decide +kernel
theorem dX4_digest_157 : decode cX4_digest 157 = .ok (.iconst 2, 1) := by decide +kernel
theorem dX4_digest_158 : decode cX4_digest 158 = .ok (.if_icmp .gt 22, 3) := by decide +kernel
theorem dX4_digest_161 : decode cX4_digest 161 = .ok (.ldc2_w 171, 3) := by decide +kernel
theorem dX4_digest_164 : decode cX4_digest 164 = .ok (.lload_n 1, 1) := by decide +kernel
theorem dX4_digest_165 : decode cX4_digest 165 = .ok (.lmul, 1) := by decide +kernel
theorem dX4_digest_166 : decode cX4_digest 166 = .ok (.aload_n 0, 1) := by decide +kernel
theorem dX4_digest_167 : decode cX4_digest 167 = .ok (.iload_n 3, 1) := by decide +kernel
theorem dX4_digest_168 : decode cX4_digest 168 = .ok (.invokevirtual 180, 3) := by decide +kernel
theorem dX4_digest_171 : decode cX4_digest 171 = .ok (.i2l, 1) := by decide +kernel
theorem dX4_digest_172 : decode cX4_digest 172 = .ok (.ladd, 1) := by decide +kernel
theorem dX4_digest_173 : decode cX4_digest 173 = .ok (.lstore_n 1, 1) := by decide +kernel
theorem dX4_digest_174 : decode cX4_digest 174 = .ok (.iinc 3 1, 3) := by decide +kernel
theorem dX4_digest_177 : decode cX4_digest 177 = .ok (.goto (-21), 3) := by decide +kernel
theorem dX4_digest_180 : decode cX4_digest 180 = .ok (.ldc2_w 171, 3) := by decide +kernel
theorem dX4_digest_183 : decode cX4_digest 183 = .ok (.lload_n 1, 1) := by decide +kernel
theorem dX4_digest_184 : decode cX4_digest 184 = .ok (.lmul, 1) := by decide +kernel
theorem dX4_digest_185 : decode cX4_digest 185 = .ok (.aload_n 0, 1) := by decide +kernel
theorem dX4_digest_186 : decode cX4_digest 186 = .ok (.invokevirtual 183, 3) := by decide +kernel
theorem dX4_digest_189 : decode cX4_digest 189 = .ok (.i2l, 1) := by decide +kernel
theorem dX4_digest_190 : decode cX4_digest 190 = .ok (.ladd, 1) := by decide +kernel
theorem dX4_digest_191 : decode cX4_digest 191 = .ok (.lstore_n 1, 1) := by decide +kernel
theorem dX4_digest_192 : decode cX4_digest 192 = .ok (.iconst 0, 1) := by decide +kernel
theorem dX4_digest_193 : decode cX4_digest 193 = .ok (.istore_n 3, 1) := by decide +kernel
theorem dX4_digest_194 : decode cX4_digest 194 = .ok (.iload_n 3, 1) := by decide +kernel
theorem dX4_digest_195 : decode cX4_digest 195 = .ok (.aload_n 0, 1) := by decide +kernel
theorem dX4_digest_196 : decode cX4_digest 196 = .ok (.getfield 10, 3) := by decide +kernel
theorem dX4_digest_199 : decode cX4_digest 199 = .ok (.getfield 30, 3) := by decide +kernel
theorem dX4_digest_202 : decode cX4_digest 202 = .ok (.if_icmp .ge 25, 3) := by decide +kernel
theorem dX4_digest_205 : decode cX4_digest 205 = .ok (.ldc2_w 171, 3) := by decide +kernel
theorem dX4_digest_208 : decode cX4_digest 208 = .ok (.lload_n 1, 1) := by decide +kernel
theorem dX4_digest_209 : decode cX4_digest 209 = .ok (.lmul, 1) := by decide +kernel
theorem dX4_digest_210 : decode cX4_digest 210 = .ok (.aload_n 0, 1) := by decide +kernel
theorem dX4_digest_211 : decode cX4_digest 211 = .ok (.getfield 10, 3) := by decide +kernel
theorem dX4_digest_214 : decode cX4_digest 214 = .ok (.iload_n 3, 1) := by decide +kernel
theorem dX4_digest_215 : decode cX4_digest 215 = .ok (.invokevirtual 186, 3) := by decide +kernel
theorem dX4_digest_218 : decode cX4_digest 218 = .ok (.i2l, 1) := by decide +kernel
theorem dX4_digest_219 : decode cX4_digest 219 = .ok (.ladd, 1) := by decide +kernel
theorem dX4_digest_220 : decode cX4_digest 220 = .ok (.lstore_n 1, 1) := by decide +kernel
theorem dX4_digest_221 : decode cX4_digest 221 = .ok (.iinc 3 1, 3) := by decide +kernel
theorem dX4_digest_224 : decode cX4_digest 224 = .ok (.goto (-30), 3) := by decide +kernel
theorem dX4_digest_227 : decode cX4_digest 227 = .ok (.iconst 0, 1) := by decide +kernel
theorem dX4_digest_228 : decode cX4_digest 228 = .ok (.istore_n 3, 1) := by decide +kernel
theorem dX4_digest_229 : decode cX4_digest 229 = .ok (.iload_n 3, 1) := by decide +kernel
theorem dX4_digest_230 : decode cX4_digest 230 = .ok (.bipush 9, 2) := by decide +kernel
theorem dX4_digest_232 : decode cX4_digest 232 = .ok (.if_icmp .gt 22, 3) := by decide +kernel
theorem dX4_digest_235 : decode cX4_digest 235 = .ok (.ldc2_w 171, 3) := by decide +kernel
theorem dX4_digest_238 : decode cX4_digest 238 = .ok (.lload_n 1, 1) := by decide +kernel
theorem dX4_digest_239 : decode cX4_digest 239 = .ok (.lmul, 1) := by decide +kernel
theorem dX4_digest_240 : decode cX4_digest 240 = .ok (.aload_n 0, 1) := by decide +kernel
theorem dX4_digest_241 : decode cX4_digest 241 = .ok (.iload_n 3, 1) := by decide +kernel
theorem dX4_digest_242 : decode cX4_digest 242 = .ok (.invokevirtual 189, 3) := by decide +kernel
theorem dX4_digest_245 : decode cX4_digest 245 = .ok (.i2l, 1) := by decide +kernel
theorem dX4_digest_246 : decode cX4_digest 246 = .ok (.ladd, 1) := by decide +kernel
theorem dX4_digest_247 : decode cX4_digest 247 = .ok (.lstore_n 1, 1) := by decide +kernel
theorem dX4_digest_248 : decode cX4_digest 248 = .ok (.iinc 3 1, 3) := by decide +kernel
theorem dX4_digest_251 : decode cX4_digest 251 = .ok (.goto (-22), 3) := by decide +kernel
theorem dX4_digest_254 : decode cX4_digest 254 = .ok (.lload_n 1, 1) := by decide +kernel
theorem dX4_digest_255 : decode cX4_digest 255 = .ok (.lreturn, 1) := by decide +kernel
theorem dX4_digestOfParts_0 : decode cX4_digestOfParts 0 = .ok (.lload_n 1, 1) := by decide +kernel
theorem dX4_digestOfParts_1 : decode cX4_digestOfParts 1 = .ok (.lstore_n 3, 1) := by decide +kernel
theorem dX4_digestOfParts_2 : decode cX4_digestOfParts 2 = .ok (.iconst 0, 1) := by decide +kernel
theorem dX4_digestOfParts_3 : decode cX4_digestOfParts 3 = .ok (.istore 5, 2) := by decide +kernel
theorem dX4_digestOfParts_5 : decode cX4_digestOfParts 5 = .ok (.iload 5, 2) := by decide +kernel
theorem dX4_digestOfParts_7 : decode cX4_digestOfParts 7 = .ok (.aload_n 0, 1) := by decide +kernel
theorem dX4_digestOfParts_8 : decode cX4_digestOfParts 8 = .ok (.getfield 19, 3) := by decide +kernel
theorem dX4_digestOfParts_11 : decode cX4_digestOfParts 11 = .ok (.getfield 56, 3) := by decide +kernel
theorem dX4_digestOfParts_14 : decode cX4_digestOfParts 14 = .ok (.if_icmp .ge 40, 3) := by decide +kernel
theorem dX4_digestOfParts_17 : decode cX4_digestOfParts 17 = .ok (.iconst 0, 1) := by decide +kernel
theorem dX4_digestOfParts_18 : decode cX4_digestOfParts 18 = .ok (.istore 6, 2) := by decide +kernel
theorem dX4_digestOfParts_20 : decode cX4_digestOfParts 20 = .ok (.iload 6, 2) := by decide +kernel
theorem dX4_digestOfParts_22 : decode cX4_digestOfParts 22 = .ok (.iconst 5, 1) := by decide +kernel
theorem dX4_digestOfParts_23 : decode cX4_digestOfParts 23 = .ok (.if_icmp .gt 25, 3) := by decide +kernel
theorem dX4_digestOfParts_26 : decode cX4_digestOfParts 26 = .ok (.ldc2_w 171, 3) := by decide +kernel
theorem dX4_digestOfParts_29 : decode cX4_digestOfParts 29 = .ok (.lload_n 3, 1) := by decide +kernel
theorem dX4_digestOfParts_30 : decode cX4_digestOfParts 30 = .ok (.lmul, 1) := by decide +kernel
theorem dX4_digestOfParts_31 : decode cX4_digestOfParts 31 = .ok (.aload_n 0, 1) := by decide +kernel
theorem dX4_digestOfParts_32 : decode cX4_digestOfParts 32 = .ok (.iload 5, 2) := by decide +kernel
theorem dX4_digestOfParts_34 : decode cX4_digestOfParts 34 = .ok (.iload 6, 2) := by decide +kernel
theorem dX4_digestOfParts_36 : decode cX4_digestOfParts 36 = .ok (.invokevirtual 192, 3) := by decide +kernel
theorem dX4_digestOfParts_39 : decode cX4_digestOfParts 39 = .ok (.i2l, 1) := by decide +kernel
theorem dX4_digestOfParts_40 : decode cX4_digestOfParts 40 = .ok (.ladd, 1) := by decide +kernel
theorem dX4_digestOfParts_41 : decode cX4_digestOfParts 41 = .ok (.lstore_n 3, 1) := by decide +kernel
theorem dX4_digestOfParts_42 : decode cX4_digestOfParts 42 = .ok (.iinc 6 1, 3) := by decide +kernel
theorem dX4_digestOfParts_45 : decode cX4_digestOfParts 45 = .ok (.goto (-25), 3) := by decide +kernel
theorem dX4_digestOfParts_48 : decode cX4_digestOfParts 48 = .ok (.iinc 5 1, 3) := by decide +kernel
theorem dX4_digestOfParts_51 : decode cX4_digestOfParts 51 = .ok (.goto (-46), 3) := by decide +kernel
theorem dX4_digestOfParts_54 : decode cX4_digestOfParts 54 = .ok (.iconst 0, 1) := by decide +kernel
theorem dX4_digestOfParts_55 : decode cX4_digestOfParts 55 = .ok (.istore 5, 2) := by decide +kernel
theorem dX4_digestOfParts_57 : decode cX4_digestOfParts 57 = .ok (.iload 5, 2) := by decide +kernel
theorem dX4_digestOfParts_59 : decode cX4_digestOfParts 59 = .ok (.aload_n 0, 1) := by decide +kernel
theorem dX4_digestOfParts_60 : decode cX4_digestOfParts 60 = .ok (.getfield 19, 3) := by decide +kernel
theorem dX4_digestOfParts_63 : decode cX4_digestOfParts 63 = .ok (.getfield 162, 3) := by decide +kernel
theorem dX4_digestOfParts_66 : decode cX4_digestOfParts 66 = .ok (.if_icmp .ge 40, 3) := by decide +kernel
theorem dX4_digestOfParts_69 : decode cX4_digestOfParts 69 = .ok (.iconst 0, 1) := by decide +kernel
theorem dX4_digestOfParts_70 : decode cX4_digestOfParts 70 = .ok (.istore 6, 2) := by decide +kernel
theorem dX4_digestOfParts_72 : decode cX4_digestOfParts 72 = .ok (.iload 6, 2) := by decide +kernel
theorem dX4_digestOfParts_74 : decode cX4_digestOfParts 74 = .ok (.iconst 3, 1) := by decide +kernel
theorem dX4_digestOfParts_75 : decode cX4_digestOfParts 75 = .ok (.if_icmp .gt 25, 3) := by decide +kernel
theorem dX4_digestOfParts_78 : decode cX4_digestOfParts 78 = .ok (.ldc2_w 171, 3) := by decide +kernel
theorem dX4_digestOfParts_81 : decode cX4_digestOfParts 81 = .ok (.lload_n 3, 1) := by decide +kernel
theorem dX4_digestOfParts_82 : decode cX4_digestOfParts 82 = .ok (.lmul, 1) := by decide +kernel
theorem dX4_digestOfParts_83 : decode cX4_digestOfParts 83 = .ok (.aload_n 0, 1) := by decide +kernel
theorem dX4_digestOfParts_84 : decode cX4_digestOfParts 84 = .ok (.iload 5, 2) := by decide +kernel
theorem dX4_digestOfParts_86 : decode cX4_digestOfParts 86 = .ok (.iload 6, 2) := by decide +kernel
theorem dX4_digestOfParts_88 : decode cX4_digestOfParts 88 = .ok (.invokevirtual 195, 3) := by decide +kernel
theorem dX4_digestOfParts_91 : decode cX4_digestOfParts 91 = .ok (.i2l, 1) := by decide +kernel
theorem dX4_digestOfParts_92 : decode cX4_digestOfParts 92 = .ok (.ladd, 1) := by decide +kernel
theorem dX4_digestOfParts_93 : decode cX4_digestOfParts 93 = .ok (.lstore_n 3, 1) := by decide +kernel
theorem dX4_digestOfParts_94 : decode cX4_digestOfParts 94 = .ok (.iinc 6 1, 3) := by decide +kernel
theorem dX4_digestOfParts_97 : decode cX4_digestOfParts 97 = .ok (.goto (-25), 3) := by decide +kernel
theorem dX4_digestOfParts_100 : decode cX4_digestOfParts 100 = .ok (.iinc 5 1, 3) := by decide +kernel
theorem dX4_digestOfParts_103 : decode cX4_digestOfParts 103 = .ok (.goto (-46), 3) := by decide +kernel
theorem dX4_digestOfParts_106 : decode cX4_digestOfParts 106 = .ok (.lload_n 3, 1) := by decide +kernel
theorem dX4_digestOfParts_107 : decode cX4_digestOfParts 107 = .ok (.lreturn, 1) := by decide +kernel
theorem dX4_bit_0 : decode cX4_bit 0 = .ok (.iload_n 0, 1) := by decide +kernel
theorem dX4_bit_1 : decode cX4_bit 1 = .ok (.iload_n 1, 1) := by decide +kernel
theorem dX4_bit_2 : decode cX4_bit 2 = .ok (.ishr, 1) := by decide +kernel
theorem dX4_bit_3 : decode cX4_bit 3 = .ok (.iconst 1, 1) := by decide +kernel
theorem dX4_bit_4 : decode cX4_bit 4 = .ok (.iand, 1) := by decide +kernel
theorem dX4_bit_5 : decode cX4_bit 5 = .ok (.ireturn, 1) := by decide +kernel
theorem dX4_heatOf_0 : decode cX4_heatOf 0 = .ok (.iload_n 0, 1) := by decide +kernel
theorem dX4_heatOf_1 : decode cX4_heatOf 1 = .ok (.bipush 8, 2) := by decide +kernel
theorem dX4_heatOf_3 : decode cX4_heatOf 3 = .ok (.iload_n 1, 1) := by decide +kernel
theorem dX4_heatOf_4 : decode cX4_heatOf 4 = .ok (.imul, 1) := by decide +kernel
theorem dX4_heatOf_5 : decode cX4_heatOf 5 = .ok (.iushr, 1) := by decide +kernel
theorem dX4_heatOf_6 : decode cX4_heatOf 6 = .ok (.sipush 255, 3) := by decide +kernel
theorem dX4_heatOf_9 : decode cX4_heatOf 9 = .ok (.iand, 1) := by decide +kernel
theorem dX4_heatOf_10 : decode cX4_heatOf 10 = .ok (.ireturn, 1) := by decide +kernel
theorem dX4_sum_0 : decode cX4_sum 0 = .ok (.iload_n 0, 1) := by decide +kernel
theorem dX4_sum_1 : decode cX4_sum 1 = .ok (.iconst 0, 1) := by decide +kernel
theorem dX4_sum_2 : decode cX4_sum 2 = .ok (.invokestatic 117, 3) := by decide +kernel
theorem dX4_sum_5 : decode cX4_sum 5 = .ok (.iload_n 0, 1) := by decide +kernel
theorem dX4_sum_6 : decode cX4_sum 6 = .ok (.iconst 1, 1) := by decide +kernel
theorem dX4_sum_7 : decode cX4_sum 7 = .ok (.invokestatic 117, 3) := by decide +kernel
theorem dX4_sum_10 : decode cX4_sum 10 = .ok (.iadd, 1) := by decide +kernel
theorem dX4_sum_11 : decode cX4_sum 11 = .ok (.iload_n 0, 1) := by decide +kernel
theorem dX4_sum_12 : decode cX4_sum 12 = .ok (.iconst 2, 1) := by decide +kernel
theorem dX4_sum_13 : decode cX4_sum 13 = .ok (.invokestatic 117, 3) := by decide +kernel
theorem dX4_sum_16 : decode cX4_sum 16 = .ok (.iadd, 1) := by decide +kernel
theorem dX4_sum_17 : decode cX4_sum 17 = .ok (.iload_n 0, 1) := by decide +kernel
theorem dX4_sum_18 : decode cX4_sum 18 = .ok (.iconst 3, 1) := by decide +kernel
theorem dX4_sum_19 : decode cX4_sum 19 = .ok (.invokestatic 117, 3) := by decide +kernel
theorem dX4_sum_22 : decode cX4_sum 22 = .ok (.iadd, 1) := by decide +kernel
theorem dX4_sum_23 : decode cX4_sum 23 = .ok (.ireturn, 1) := by decide +kernel
theorem dX4_aimIn_0 : decode cX4_aimIn 0 = .ok (.iload_n 0, 1) := by decide +kernel
theorem dX4_aimIn_1 : decode cX4_aimIn 1 = .ok (.istore_n 2, 1) := by decide +kernel
theorem dX4_aimIn_2 : decode cX4_aimIn 2 = .ok (.iconst 0, 1) := by decide +kernel
theorem dX4_aimIn_3 : decode cX4_aimIn 3 = .ok (.istore_n 3, 1) := by decide +kernel
theorem dX4_aimIn_4 : decode cX4_aimIn 4 = .ok (.iload_n 3, 1) := by decide +kernel
theorem dX4_aimIn_5 : decode cX4_aimIn 5 = .ok (.iload_n 1, 1) := by decide +kernel
theorem dX4_aimIn_6 : decode cX4_aimIn 6 = .ok (.if_icmp .ge 13, 3) := by decide +kernel
theorem dX4_aimIn_9 : decode cX4_aimIn 9 = .ok (.iload_n 2, 1) := by decide +kernel
theorem dX4_aimIn_10 : decode cX4_aimIn 10 = .ok (.iconst 5, 1) := by decide +kernel
theorem dX4_aimIn_11 : decode cX4_aimIn 11 = .ok (.idiv, 1) := by decide +kernel
theorem dX4_aimIn_12 : decode cX4_aimIn 12 = .ok (.istore_n 2, 1) := by decide +kernel
theorem dX4_aimIn_13 : decode cX4_aimIn 13 = .ok (.iinc 3 1, 3) := by decide +kernel
theorem dX4_aimIn_16 : decode cX4_aimIn 16 = .ok (.goto (-12), 3) := by decide +kernel
theorem dX4_aimIn_19 : decode cX4_aimIn 19 = .ok (.iload_n 2, 1) := by decide +kernel
theorem dX4_aimIn_20 : decode cX4_aimIn 20 = .ok (.iconst 5, 1) := by decide +kernel
theorem dX4_aimIn_21 : decode cX4_aimIn 21 = .ok (.irem, 1) := by decide +kernel
theorem dX4_aimIn_22 : decode cX4_aimIn 22 = .ok (.iconst 1, 1) := by decide +kernel
theorem dX4_aimIn_23 : decode cX4_aimIn 23 = .ok (.isub, 1) := by decide +kernel
theorem dX4_aimIn_24 : decode cX4_aimIn 24 = .ok (.ireturn, 1) := by decide +kernel
theorem dX5_init_0 : decode cX5_init 0 = .ok (.aload_n 0, 1) := by decide +kernel
theorem dX5_init_1 : decode cX5_init 1 = .ok (.invokespecial 1, 3) := by decide +kernel
theorem dX5_init_4 : decode cX5_init 4 = .ok (.aload_n 0, 1) := by decide +kernel
theorem dX5_init_5 : decode cX5_init 5 = .ok (.bipush 21, 2) := by decide +kernel
theorem dX5_init_7 : decode cX5_init 7 = .ok (.newarray .int, 2) := by decide +kernel
theorem dX5_init_9 : decode cX5_init 9 = .ok (.putfield 7, 3) := by decide +kernel
theorem dX5_init_12 : decode cX5_init 12 = .ok (.aload_n 0, 1) := by decide +kernel
theorem dX5_init_13 : decode cX5_init 13 = .ok (.iconst 5, 1) := by decide +kernel
theorem dX5_init_14 : decode cX5_init 14 = .ok (.newarray .int, 2) := by decide +kernel
theorem dX5_init_16 : decode cX5_init 16 = .ok (.putfield 13, 3) := by decide +kernel
theorem dX5_init_19 : decode cX5_init 19 = .ok (.aload_n 0, 1) := by decide +kernel
theorem dX5_init_20 : decode cX5_init 20 = .ok (.iconst 5, 1) := by decide +kernel
theorem dX5_init_21 : decode cX5_init 21 = .ok (.newarray .int, 2) := by decide +kernel
theorem dX5_init_23 : decode cX5_init 23 = .ok (.putfield 16, 3) := by decide +kernel
theorem dX5_init_26 : decode cX5_init 26 = .ok (.aload_n 0, 1) := by decide +kernel
theorem dX5_init_27 : decode cX5_init 27 = .ok (.iconst 5, 1) := by decide +kernel
theorem dX5_init_28 : decode cX5_init 28 = .ok (.newarray .int, 2) := by decide +kernel
theorem dX5_init_30 : decode cX5_init 30 = .ok (.putfield 19, 3) := by decide +kernel
theorem dX5_init_33 : decode cX5_init 33 = .ok (.aload_n 0, 1) := by decide +kernel
theorem dX5_init_34 : decode cX5_init 34 = .ok (.iconst 4, 1) := by decide +kernel
theorem dX5_init_35 : decode cX5_init 35 = .ok (.newarray .int, 2) := by decide +kernel
theorem dX5_init_37 : decode cX5_init 37 = .ok (.putfield 22, 3) := by decide +kernel
theorem dX5_init_40 : decode cX5_init 40 = .ok (.aload_n 0, 1) := by decide +kernel
theorem dX5_init_41 : decode cX5_init 41 = .ok (.iconst 5, 1) := by decide +kernel
theorem dX5_init_42 : decode cX5_init 42 = .ok (.newarray .int, 2) := by decide +kernel
theorem dX5_init_44 : decode cX5_init 44 = .ok (.putfield 25, 3) := by decide +kernel
theorem dX5_init_47 : decode cX5_init 47 = .ok (.aload_n 0, 1) := by decide +kernel
theorem dX5_init_48 : decode cX5_init 48 = .ok (.sipush 3125, 3) := by decide +kernel
theorem dX5_init_51 : decode cX5_init 51 = .ok (.newarray .boolean, 2) := by decide +kernel
theorem dX5_init_53 : decode cX5_init 53 = .ok (.putfield 28, 3) := by decide +kernel
theorem dX5_init_56 : decode cX5_init 56 = .ok (.aload_n 0, 1) := by decide +kernel
theorem dX5_init_57 : decode cX5_init 57 = .ok (.sipush 3125, 3) := by decide +kernel
theorem dX5_init_60 : decode cX5_init 60 = .ok (.newarray .int, 2) := by decide +kernel
theorem dX5_init_62 : decode cX5_init 62 = .ok (.putfield 32, 3) := by decide +kernel
theorem dX5_init_65 : decode cX5_init 65 = .ok (.aload_n 0, 1) := by decide +kernel
theorem dX5_init_66 : decode cX5_init 66 = .ok (.sipush 3125, 3) := by decide +kernel
theorem dX5_init_69 : decode cX5_init 69 = .ok (.newarray .int, 2) := by decide +kernel
theorem dX5_init_71 : decode cX5_init 71 = .ok (.putfield 35, 3) := by decide +kernel
theorem dX5_init_74 : decode cX5_init 74 = .ok (.aload_n 0, 1) := by decide +kernel
theorem dX5_init_75 : decode cX5_init 75 = .ok (.bipush 15, 2) := by decide +kernel
theorem dX5_init_77 : decode cX5_init 77 = .ok (.newarray .int, 2) := by decide +kernel
theorem dX5_init_79 : decode cX5_init 79 = .ok (.putfield 38, 3) := by decide +kernel
theorem dX5_init_82 : decode cX5_init 82 = .ok (.return_, 1) := by decide +kernel
theorem dX5_within_0 : decode cX5_within 0 = .ok (.iload_n 0, 1) := by decide +kernel
theorem dX5_within_1 : decode cX5_within 1 = .ok (.iload_n 1, 1) := by decide +kernel
theorem dX5_within_2 : decode cX5_within 2 = .ok (.if_icmp .lt 12, 3) := by decide +kernel
theorem dX5_within_5 : decode cX5_within 5 = .ok (.iload_n 0, 1) := by decide +kernel
theorem dX5_within_6 : decode cX5_within 6 = .ok (.iload_n 2, 1) := by decide +kernel
theorem dX5_within_7 : decode cX5_within 7 = .ok (.if_icmp .gt 7, 3) := by decide +kernel
theorem dX5_within_10 : decode cX5_within 10 = .ok (.iconst 1, 1) := by decide +kernel
theorem dX5_within_11 : decode cX5_within 11 = .ok (.goto 4, 3) := by decide +kernel
theorem dX5_within_14 : decode cX5_within 14 = .ok (.iconst 0, 1) := by decide +kernel
theorem dX5_within_15 : decode cX5_within 15 = .ok (.ireturn, 1) := by decide +kernel
theorem dX5_has_0 : decode cX5_has 0 = .ok (.iload_n 0, 1) := by decide +kernel
theorem dX5_has_1 : decode cX5_has 1 = .ok (.iload_n 1, 1) := by decide +kernel
theorem dX5_has_2 : decode cX5_has 2 = .ok (.ishr, 1) := by decide +kernel
theorem dX5_has_3 : decode cX5_has 3 = .ok (.iconst 1, 1) := by decide +kernel
theorem dX5_has_4 : decode cX5_has 4 = .ok (.iand, 1) := by decide +kernel
theorem dX5_has_5 : decode cX5_has 5 = .ok (.iconst 1, 1) := by decide +kernel
theorem dX5_has_6 : decode cX5_has 6 = .ok (.if_icmp .ne 7, 3) := by decide +kernel
theorem dX5_has_9 : decode cX5_has 9 = .ok (.iconst 1, 1) := by decide +kernel
theorem dX5_has_10 : decode cX5_has 10 = .ok (.goto 4, 3) := by decide +kernel
theorem dX5_has_13 : decode cX5_has 13 = .ok (.iconst 0, 1) := by decide +kernel
theorem dX5_has_14 : decode cX5_has 14 = .ok (.ireturn, 1) := by decide +kernel
theorem dX5_letter_0 : decode cX5_letter 0 = .ok (.iload_n 1, 1) := by decide +kernel
theorem dX5_letter_1 : decode cX5_letter 1 = .ok (.bipush 32, 2) := by decide +kernel
theorem dX5_letter_3 : decode cX5_letter 3 = .ok (.bipush 126, 2) := by decide +kernel
theorem dX5_letter_5 : decode cX5_letter 5 = .ok (.invokestatic 41, 3) := by decide +kernel
theorem dX5_letter_8 : decode cX5_letter 8 = .ok (.ifCond .ne 7, 3) := by decide +kernel
theorem dX5_letter_11 : decode cX5_letter 11 = .ok (.sipush (-1003), 3) := by decide +kernel
theorem dX5_letter_14 : decode cX5_letter 14 = .ok (.ireturn, 1) := by decide +kernel
theorem dX5_letter_15 : decode cX5_letter 15 = .ok (.aload_n 0, 1) := by decide +kernel
theorem dX5_letter_16 : decode cX5_letter 16 = .ok (.getfield 45, 3) := by decide +kernel
theorem dX5_letter_19 : decode cX5_letter 19 = .ok (.bipush 21, 2) := by decide +kernel
theorem dX5_letter_21 : decode cX5_letter 21 = .ok (.if_icmp .ne 7, 3) := by decide +kernel
theorem dX5_letter_24 : decode cX5_letter 24 = .ok (.sipush (-1005), 3) := by decide +kernel
theorem dX5_letter_27 : decode cX5_letter 27 = .ok (.ireturn, 1) := by decide +kernel
theorem dX5_letter_28 : decode cX5_letter 28 = .ok (.aload_n 0, 1) := by decide +kernel
theorem dX5_letter_29 : decode cX5_letter 29 = .ok (.getfield 7, 3) := by decide +kernel
theorem dX5_letter_32 : decode cX5_letter 32 = .ok (.aload_n 0, 1) := by decide +kernel
theorem dX5_letter_33 : decode cX5_letter 33 = .ok (.getfield 45, 3) := by decide +kernel
theorem dX5_letter_36 : decode cX5_letter 36 = .ok (.iload_n 1, 1) := by decide +kernel
theorem dX5_letter_37 : decode cX5_letter 37 = .ok (.iastore, 1) := by decide +kernel
theorem dX5_letter_38 : decode cX5_letter 38 = .ok (.aload_n 0, 1) := by decide +kernel
theorem dX5_letter_39 : decode cX5_letter 39 = .ok (.dup, 1) := by decide +kernel
theorem dX5_letter_40 : decode cX5_letter 40 = .ok (.getfield 45, 3) := by decide +kernel
theorem dX5_letter_43 : decode cX5_letter 43 = .ok (.iconst 1, 1) := by decide +kernel
theorem dX5_letter_44 : decode cX5_letter 44 = .ok (.iadd, 1) := by decide +kernel
theorem dX5_letter_45 : decode cX5_letter 45 = .ok (.putfield 45, 3) := by decide +kernel
theorem dX5_letter_48 : decode cX5_letter 48 = .ok (.aload_n 0, 1) := by decide +kernel
theorem dX5_letter_49 : decode cX5_letter 49 = .ok (.getfield 45, 3) := by decide +kernel
theorem dX5_letter_52 : decode cX5_letter 52 = .ok (.ireturn, 1) := by decide +kernel
theorem dX5_blank_0 : decode cX5_blank 0 = .ok (.aload_n 0, 1) := by decide +kernel
theorem dX5_blank_1 : decode cX5_blank 1 = .ok (.getfield 45, 3) := by decide +kernel
theorem dX5_blank_4 : decode cX5_blank 4 = .ok (.istore_n 1, 1) := by decide +kernel
theorem dX5_blank_5 : decode cX5_blank 5 = .ok (.aload_n 0, 1) := by decide +kernel
theorem dX5_blank_6 : decode cX5_blank 6 = .ok (.iconst 0, 1) := by decide +kernel
theorem dX5_blank_7 : decode cX5_blank 7 = .ok (.putfield 45, 3) := by decide +kernel
theorem dX5_blank_10 : decode cX5_blank 10 = .ok (.iload_n 1, 1) := by decide +kernel
theorem dX5_blank_11 : decode cX5_blank 11 = .ok (.ireturn, 1) := by decide +kernel
theorem dX5_isRight_0 : decode cX5_isRight 0 = .ok (.aload_n 0, 1) := by decide +kernel
theorem dX5_isRight_1 : decode cX5_isRight 1 = .ok (.getfield 7, 3) := by decide +kernel
theorem dX5_isRight_4 : decode cX5_isRight 4 = .ok (.iload_n 1, 1) := by decide +kernel
theorem dX5_isRight_5 : decode cX5_isRight 5 = .ok (.iaload, 1) := by decide +kernel
theorem dX5_isRight_6 : decode cX5_isRight 6 = .ok (.istore_n 2, 1) := by decide +kernel
theorem dX5_isRight_7 : decode cX5_isRight 7 = .ok (.iload_n 1, 1) := by decide +kernel
theorem dX5_isRight_8 : decode cX5_isRight 8 = .ok (.ifCond .ne 12, 3) := by decide +kernel
theorem dX5_isRight_11 : decode cX5_isRight 11 = .ok (.iload_n 2, 1) := by decide +kernel
theorem dX5_isRight_12 : decode cX5_isRight 12 = .ok (.bipush 49, 2) := by decide +kernel
theorem dX5_isRight_14 : decode cX5_isRight 14 = .ok (.bipush 52, 2) := by decide +kernel
theorem dX5_isRight_16 : decode cX5_isRight 16 = .ok (.invokestatic 41, 3) := by decide +kernel
theorem dX5_isRight_19 : decode cX5_isRight 19 = .ok (.ireturn, 1) := by decide +kernel
theorem dX5_isRight_20 : decode cX5_isRight 20 = .ok (.iload_n 1, 1) := by decide +kernel
theorem dX5_isRight_21 : decode cX5_isRight 21 = .ok (.iconst 4, 1) := by decide +kernel
theorem dX5_isRight_22 : decode cX5_isRight 22 = .ok (.irem, 1) := by decide +kernel
theorem dX5_isRight_23 : decode cX5_isRight 23 = .ok (.tableswitch 58 1 3 #[25, 37, 46], 25) := by decide +kernel
theorem dX5_isRight_48 : decode cX5_isRight 48 = .ok (.iload_n 2, 1) := by decide +kernel
theorem dX5_isRight_49 : decode cX5_isRight 49 = .ok (.bipush 59, 2) := by decide +kernel
theorem dX5_isRight_51 : decode cX5_isRight 51 = .ok (.if_icmp .ne 7, 3) := by decide +kernel
theorem dX5_isRight_54 : decode cX5_isRight 54 = .ok (.iconst 1, 1) := by decide +kernel
theorem dX5_isRight_55 : decode cX5_isRight 55 = .ok (.goto 4, 3) := by decide +kernel
theorem dX5_isRight_58 : decode cX5_isRight 58 = .ok (.iconst 0, 1) := by decide +kernel
theorem dX5_isRight_59 : decode cX5_isRight 59 = .ok (.ireturn, 1) := by decide +kernel
theorem dX5_isRight_60 : decode cX5_isRight 60 = .ok (.iload_n 2, 1) := by decide +kernel
theorem dX5_isRight_61 : decode cX5_isRight 61 = .ok (.bipush 49, 2) := by decide +kernel
theorem dX5_isRight_63 : decode cX5_isRight 63 = .ok (.bipush 57, 2) := by decide +kernel
theorem dX5_isRight_65 : decode cX5_isRight 65 = .ok (.invokestatic 41, 3) := by decide +kernel
theorem dX5_isRight_68 : decode cX5_isRight 68 = .ok (.ireturn, 1) := by decide +kernel
theorem dX5_isRight_69 : decode cX5_isRight 69 = .ok (.iload_n 2, 1) := by decide +kernel
theorem dX5_isRight_70 : decode cX5_isRight 70 = .ok (.bipush 44, 2) := by decide +kernel
theorem dX5_isRight_72 : decode cX5_isRight 72 = .ok (.if_icmp .ne 7, 3) := by decide +kernel
theorem dX5_isRight_75 : decode cX5_isRight 75 = .ok (.iconst 1, 1) := by decide +kernel
theorem dX5_isRight_76 : decode cX5_isRight 76 = .ok (.goto 4, 3) := by decide +kernel
theorem dX5_isRight_79 : decode cX5_isRight 79 = .ok (.iconst 0, 1) := by decide +kernel
theorem dX5_isRight_80 : decode cX5_isRight 80 = .ok (.ireturn, 1) := by decide +kernel
theorem dX5_isRight_81 : decode cX5_isRight 81 = .ok (.iload_n 2, 1) := by decide +kernel
theorem dX5_isRight_82 : decode cX5_isRight 82 = .ok (.bipush 48, 2) := by decide +kernel
theorem dX5_isRight_84 : decode cX5_isRight 84 = .ok (.bipush 57, 2) := by decide +kernel
theorem dX5_isRight_86 : decode cX5_isRight 86 = .ok (.invokestatic 41, 3) := by decide +kernel
theorem dX5_isRight_89 : decode cX5_isRight 89 = .ok (.ireturn, 1) := by decide +kernel
theorem dX5_rightLetters_0 : decode cX5_rightLetters 0 = .ok (.iconst 0, 1) := by decide +kernel
theorem dX5_rightLetters_1 : decode cX5_rightLetters 1 = .ok (.istore_n 1, 1) := by decide +kernel
theorem dX5_rightLetters_2 : decode cX5_rightLetters 2 = .ok (.iload_n 1, 1) := by decide +kernel
theorem dX5_rightLetters_3 : decode cX5_rightLetters 3 = .ok (.aload_n 0, 1) := by decide +kernel
theorem dX5_rightLetters_4 : decode cX5_rightLetters 4 = .ok (.getfield 45, 3) := by decide +kernel
theorem dX5_rightLetters_7 : decode cX5_rightLetters 7 = .ok (.if_icmp .ge 17, 3) := by decide +kernel
theorem dX5_rightLetters_10 : decode cX5_rightLetters 10 = .ok (.aload_n 0, 1) := by decide +kernel
theorem dX5_rightLetters_11 : decode cX5_rightLetters 11 = .ok (.iload_n 1, 1) := by decide +kernel
theorem dX5_rightLetters_12 : decode cX5_rightLetters 12 = .ok (.invokevirtual 49, 3) := by decide +kernel
theorem dX5_rightLetters_15 : decode cX5_rightLetters 15 = .ok (.ifCond .eq 9, 3) := by decide +kernel
theorem dX5_rightLetters_18 : decode cX5_rightLetters 18 = .ok (.iinc 1 1, 3) := by decide +kernel
theorem dX5_rightLetters_21 : decode cX5_rightLetters 21 = .ok (.goto (-19), 3) := by decide +kernel
theorem dX5_rightLetters_24 : decode cX5_rightLetters 24 = .ok (.iload_n 1, 1) := by decide +kernel
theorem dX5_rightLetters_25 : decode cX5_rightLetters 25 = .ok (.ireturn, 1) := by decide +kernel
theorem dX5_fault_0 : decode cX5_fault 0 = .ok (.aload_n 0, 1) := by decide +kernel
theorem dX5_fault_1 : decode cX5_fault 1 = .ok (.invokevirtual 53, 3) := by decide +kernel
theorem dX5_fault_4 : decode cX5_fault 4 = .ok (.ireturn, 1) := by decide +kernel
theorem dX5_field_0 : decode cX5_field 0 = .ok (.aload_n 0, 1) := by decide +kernel
theorem dX5_field_1 : decode cX5_field 1 = .ok (.getfield 45, 3) := by decide +kernel
theorem dX5_field_4 : decode cX5_field 4 = .ok (.iconst 5, 1) := by decide +kernel
theorem dX5_field_5 : decode cX5_field 5 = .ok (.if_icmp .lt 24, 3) := by decide +kernel
theorem dX5_field_8 : decode cX5_field 8 = .ok (.aload_n 0, 1) := by decide +kernel
theorem dX5_field_9 : decode cX5_field 9 = .ok (.getfield 45, 3) := by decide +kernel
theorem dX5_field_12 : decode cX5_field 12 = .ok (.iconst 4, 1) := by decide +kernel
theorem dX5_field_13 : decode cX5_field 13 = .ok (.irem, 1) := by decide +kernel
theorem dX5_field_14 : decode cX5_field 14 = .ok (.iconst 1, 1) := by decide +kernel
theorem dX5_field_15 : decode cX5_field 15 = .ok (.if_icmp .ne 14, 3) := by decide +kernel
theorem dX5_field_18 : decode cX5_field 18 = .ok (.aload_n 0, 1) := by decide +kernel
theorem dX5_field_19 : decode cX5_field 19 = .ok (.invokevirtual 53, 3) := by decide +kernel
theorem dX5_field_22 : decode cX5_field 22 = .ok (.aload_n 0, 1) := by decide +kernel
theorem dX5_field_23 : decode cX5_field 23 = .ok (.getfield 45, 3) := by decide +kernel
theorem dX5_field_26 : decode cX5_field 26 = .ok (.if_icmp .ge 7, 3) := by decide +kernel
theorem dX5_field_29 : decode cX5_field 29 = .ok (.sipush (-1004), 3) := by decide +kernel
theorem dX5_field_32 : decode cX5_field 32 = .ok (.ireturn, 1) := by decide +kernel
theorem dX5_field_33 : decode cX5_field 33 = .ok (.aload_n 0, 1) := by decide +kernel
theorem dX5_field_34 : decode cX5_field 34 = .ok (.aload_n 0, 1) := by decide +kernel
theorem dX5_field_35 : decode cX5_field 35 = .ok (.getfield 7, 3) := by decide +kernel
theorem dX5_field_38 : decode cX5_field 38 = .ok (.iconst 0, 1) := by decide +kernel
theorem dX5_field_39 : decode cX5_field 39 = .ok (.iaload, 1) := by decide +kernel
theorem dX5_field_40 : decode cX5_field 40 = .ok (.bipush 48, 2) := by decide +kernel
theorem dX5_field_42 : decode cX5_field 42 = .ok (.isub, 1) := by decide +kernel
theorem dX5_field_43 : decode cX5_field 43 = .ok (.putfield 57, 3) := by decide +kernel
theorem dX5_field_46 : decode cX5_field 46 = .ok (.aload_n 0, 1) := by decide +kernel
theorem dX5_field_47 : decode cX5_field 47 = .ok (.aload_n 0, 1) := by decide +kernel
theorem dX5_field_48 : decode cX5_field 48 = .ok (.getfield 45, 3) := by decide +kernel
theorem dX5_field_51 : decode cX5_field 51 = .ok (.iconst 4, 1) := by decide +kernel
theorem dX5_field_52 : decode cX5_field 52 = .ok (.idiv, 1) := by decide +kernel
theorem dX5_field_53 : decode cX5_field 53 = .ok (.putfield 60, 3) := by decide +kernel
theorem dX5_field_56 : decode cX5_field 56 = .ok (.iconst 0, 1) := by decide +kernel
theorem dX5_field_57 : decode cX5_field 57 = .ok (.istore_n 1, 1) := by decide +kernel
theorem dX5_field_58 : decode cX5_field 58 = .ok (.iload_n 1, 1) := by decide +kernel
theorem dX5_field_59 : decode cX5_field 59 = .ok (.iconst 5, 1) := by decide +kernel
theorem dX5_field_60 : decode cX5_field 60 = .ok (.if_icmp .ge 78, 3) := by decide +kernel
theorem dX5_field_63 : decode cX5_field 63 = .ok (.aload_n 0, 1) := by decide +kernel
theorem dX5_field_64 : decode cX5_field 64 = .ok (.getfield 13, 3) := by decide +kernel
theorem dX5_field_67 : decode cX5_field 67 = .ok (.iload_n 1, 1) := by decide +kernel
theorem dX5_field_68 : decode cX5_field 68 = .ok (.iload_n 1, 1) := by decide +kernel
theorem dX5_field_69 : decode cX5_field 69 = .ok (.aload_n 0, 1) := by decide +kernel
theorem dX5_field_70 : decode cX5_field 70 = .ok (.getfield 60, 3) := by decide +kernel
theorem dX5_field_73 : decode cX5_field 73 = .ok (.if_icmp .ge 19, 3) := by decide +kernel
theorem dX5_field_76 : decode cX5_field 76 = .ok (.aload_n 0, 1) := by decide +kernel
theorem dX5_field_77 : decode cX5_field 77 = .ok (.getfield 7, 3) := by decide +kernel
theorem dX5_field_80 : decode cX5_field 80 = .ok (.iconst 4, 1) := by decide +kernel
theorem dX5_field_81 : decode cX5_field 81 = .ok (.iload_n 1, 1) := by decide +kernel
theorem dX5_field_82 : decode cX5_field 82 = .ok (.imul, 1) := by decide +kernel
theorem dX5_field_83 : decode cX5_field 83 = .ok (.iconst 2, 1) := by decide +kernel
theorem dX5_field_84 : decode cX5_field 84 = .ok (.iadd, 1) := by decide +kernel
theorem dX5_field_85 : decode cX5_field 85 = .ok (.iaload, 1) := by decide +kernel
theorem dX5_field_86 : decode cX5_field 86 = .ok (.bipush 48, 2) := by decide +kernel
theorem dX5_field_88 : decode cX5_field 88 = .ok (.isub, 1) := by decide +kernel
theorem dX5_field_89 : decode cX5_field 89 = .ok (.goto 4, 3) := by decide +kernel
theorem dX5_field_92 : decode cX5_field 92 = .ok (.iconst 0, 1) := by decide +kernel
theorem dX5_field_93 : decode cX5_field 93 = .ok (.iastore, 1) := by decide +kernel
theorem dX5_field_94 : decode cX5_field 94 = .ok (.aload_n 0, 1) := by decide +kernel
theorem dX5_field_95 : decode cX5_field 95 = .ok (.getfield 16, 3) := by decide +kernel
theorem dX5_field_98 : decode cX5_field 98 = .ok (.iload_n 1, 1) := by decide +kernel
theorem dX5_field_99 : decode cX5_field 99 = .ok (.iload_n 1, 1) := by decide +kernel
theorem dX5_field_100 : decode cX5_field 100 = .ok (.aload_n 0, 1) := by decide +kernel
theorem dX5_field_101 : decode cX5_field 101 = .ok (.getfield 60, 3) := by decide +kernel
theorem dX5_field_104 : decode cX5_field 104 = .ok (.if_icmp .ge 19, 3) := by decide +kernel
theorem dX5_field_107 : decode cX5_field 107 = .ok (.aload_n 0, 1) := by decide +kernel
theorem dX5_field_108 : decode cX5_field 108 = .ok (.getfield 7, 3) := by decide +kernel
theorem dX5_field_111 : decode cX5_field 111 = .ok (.iconst 4, 1) := by decide +kernel
theorem dX5_field_112 : decode cX5_field 112 = .ok (.iload_n 1, 1) := by decide +kernel
theorem dX5_field_113 : decode cX5_field 113 = .ok (.imul, 1) := by decide +kernel
theorem dX5_field_114 : decode cX5_field 114 = .ok (.iconst 4, 1) := by decide +kernel
theorem dX5_field_115 : decode cX5_field 115 = .ok (.iadd, 1) := by decide +kernel
theorem dX5_field_116 : decode cX5_field 116 = .ok (.iaload, 1) := by decide +kernel
theorem dX5_field_117 : decode cX5_field 117 = .ok (.bipush 48, 2) := by decide +kernel
theorem dX5_field_119 : decode cX5_field 119 = .ok (.isub, 1) := by decide +kernel
theorem dX5_field_120 : decode cX5_field 120 = .ok (.goto 4, 3) := by decide +kernel
theorem dX5_field_123 : decode cX5_field 123 = .ok (.iconst 0, 1) := by decide +kernel
theorem dX5_field_124 : decode cX5_field 124 = .ok (.iastore, 1) := by decide +kernel
theorem dX5_field_125 : decode cX5_field 125 = .ok (.aload_n 0, 1) := by decide +kernel
theorem dX5_field_126 : decode cX5_field 126 = .ok (.getfield 19, 3) := by decide +kernel
theorem dX5_field_129 : decode cX5_field 129 = .ok (.iload_n 1, 1) := by decide +kernel
theorem dX5_field_130 : decode cX5_field 130 = .ok (.iconst (-1), 1) := by decide +kernel
theorem dX5_field_131 : decode cX5_field 131 = .ok (.iastore, 1) := by decide +kernel
theorem dX5_field_132 : decode cX5_field 132 = .ok (.iinc 1 1, 3) := by decide +kernel
theorem dX5_field_135 : decode cX5_field 135 = .ok (.goto (-77), 3) := by decide +kernel
theorem dX5_field_138 : decode cX5_field 138 = .ok (.iconst 0, 1) := by decide +kernel
theorem dX5_field_139 : decode cX5_field 139 = .ok (.istore_n 1, 1) := by decide +kernel
theorem dX5_field_140 : decode cX5_field 140 = .ok (.iload_n 1, 1) := by decide +kernel
theorem dX5_field_141 : decode cX5_field 141 = .ok (.iconst 4, 1) := by decide +kernel
theorem dX5_field_142 : decode cX5_field 142 = .ok (.if_icmp .ge 17, 3) := by decide +kernel
theorem dX5_field_145 : decode cX5_field 145 = .ok (.aload_n 0, 1) := by decide +kernel
theorem dX5_field_146 : decode cX5_field 146 = .ok (.getfield 22, 3) := by decide +kernel
theorem dX5_field_149 : decode cX5_field 149 = .ok (.iload_n 1, 1) := by decide +kernel
theorem dX5_field_150 : decode cX5_field 150 = .ok (.bipush 20, 2) := by decide +kernel
theorem dX5_field_152 : decode cX5_field 152 = .ok (.iastore, 1) := by decide +kernel
theorem dX5_field_153 : decode cX5_field 153 = .ok (.iinc 1 1, 3) := by decide +kernel
theorem dX5_field_156 : decode cX5_field 156 = .ok (.goto (-16), 3) := by decide +kernel
theorem dX5_field_159 : decode cX5_field 159 = .ok (.aload_n 0, 1) := by decide +kernel
theorem dX5_field_160 : decode cX5_field 160 = .ok (.iconst 0, 1) := by decide +kernel
theorem dX5_field_161 : decode cX5_field 161 = .ok (.putfield 63, 3) := by decide +kernel
theorem dX5_field_164 : decode cX5_field 164 = .ok (.aload_n 0, 1) := by decide +kernel
theorem dX5_field_165 : decode cX5_field 165 = .ok (.iconst 0, 1) := by decide +kernel
theorem dX5_field_166 : decode cX5_field 166 = .ok (.putfield 66, 3) := by decide +kernel
theorem dX5_field_169 : decode cX5_field 169 = .ok (.aload_n 0, 1) := by decide +kernel
theorem dX5_field_170 : decode cX5_field 170 = .ok (.dup, 1) := by decide +kernel
theorem dX5_field_171 : decode cX5_field 171 = .ok (.getfield 69, 3) := by decide +kernel
theorem dX5_field_174 : decode cX5_field 174 = .ok (.iconst 1, 1) := by decide +kernel
theorem dX5_field_175 : decode cX5_field 175 = .ok (.iadd, 1) := by decide +kernel
theorem dX5_field_176 : decode cX5_field 176 = .ok (.putfield 69, 3) := by decide +kernel
theorem dX5_field_179 : decode cX5_field 179 = .ok (.aload_n 0, 1) := by decide +kernel
theorem dX5_field_180 : decode cX5_field 180 = .ok (.iconst 0, 1) := by decide +kernel
theorem dX5_field_181 : decode cX5_field 181 = .ok (.putfield 45, 3) := by decide +kernel
theorem dX5_field_184 : decode cX5_field 184 = .ok (.aload_n 0, 1) := by decide +kernel
theorem dX5_field_185 : decode cX5_field 185 = .ok (.getfield 60, 3) := by decide +kernel
theorem dX5_field_188 : decode cX5_field 188 = .ok (.ireturn, 1) := by decide +kernel
theorem dX5_isMirror_0 : decode cX5_isMirror 0 = .ok (.iload_n 1, 1) := by decide +kernel
theorem dX5_isMirror_1 : decode cX5_isMirror 1 = .ok (.iconst 0, 1) := by decide +kernel
theorem dX5_isMirror_2 : decode cX5_isMirror 2 = .ok (.aload_n 0, 1) := by decide +kernel
theorem dX5_isMirror_3 : decode cX5_isMirror 3 = .ok (.getfield 60, 3) := by decide +kernel
theorem dX5_isMirror_6 : decode cX5_isMirror 6 = .ok (.iconst 1, 1) := by decide +kernel
theorem dX5_isMirror_7 : decode cX5_isMirror 7 = .ok (.isub, 1) := by decide +kernel
theorem dX5_isMirror_8 : decode cX5_isMirror 8 = .ok (.invokestatic 41, 3) := by decide +kernel
theorem dX5_isMirror_11 : decode cX5_isMirror 11 = .ok (.ireturn, 1) := by decide +kernel
theorem dX5_isPatch_0 : decode cX5_isPatch 0 = .ok (.iload_n 1, 1) := by decide +kernel
theorem dX5_isPatch_1 : decode cX5_isPatch 1 = .ok (.iconst 0, 1) := by decide +kernel
theorem dX5_isPatch_2 : decode cX5_isPatch 2 = .ok (.aload_n 0, 1) := by decide +kernel
theorem dX5_isPatch_3 : decode cX5_isPatch 3 = .ok (.getfield 57, 3) := by decide +kernel
theorem dX5_isPatch_6 : decode cX5_isPatch 6 = .ok (.iconst 1, 1) := by decide +kernel
theorem dX5_isPatch_7 : decode cX5_isPatch 7 = .ok (.isub, 1) := by decide +kernel
theorem dX5_isPatch_8 : decode cX5_isPatch 8 = .ok (.invokestatic 41, 3) := by decide +kernel
theorem dX5_isPatch_11 : decode cX5_isPatch 11 = .ok (.ireturn, 1) := by decide +kernel
theorem dX5_gives_0 : decode cX5_gives 0 = .ok (.iload_n 2, 1) := by decide +kernel
theorem dX5_gives_1 : decode cX5_gives 1 = .ok (.iconst (-1), 1) := by decide +kernel
theorem dX5_gives_2 : decode cX5_gives 2 = .ok (.if_icmp .ne 5, 3) := by decide +kernel
theorem dX5_gives_5 : decode cX5_gives 5 = .ok (.iconst 0, 1) := by decide +kernel
theorem dX5_gives_6 : decode cX5_gives 6 = .ok (.ireturn, 1) := by decide +kernel
theorem dX5_gives_7 : decode cX5_gives 7 = .ok (.iload_n 2, 1) := by decide +kernel
theorem dX5_gives_8 : decode cX5_gives 8 = .ok (.iload_n 3, 1) := by decide +kernel
theorem dX5_gives_9 : decode cX5_gives 9 = .ok (.if_icmp .ge 9, 3) := by decide +kernel
theorem dX5_gives_12 : decode cX5_gives 12 = .ok (.iload_n 3, 1) := by decide +kernel
theorem dX5_gives_13 : decode cX5_gives 13 = .ok (.iload_n 2, 1) := by decide +kernel
theorem dX5_gives_14 : decode cX5_gives 14 = .ok (.isub, 1) := by decide +kernel
theorem dX5_gives_15 : decode cX5_gives 15 = .ok (.goto 6, 3) := by decide +kernel
theorem dX5_gives_18 : decode cX5_gives 18 = .ok (.iload_n 2, 1) := by decide +kernel
theorem dX5_gives_19 : decode cX5_gives 19 = .ok (.iload_n 3, 1) := by decide +kernel
theorem dX5_gives_20 : decode cX5_gives 20 = .ok (.isub, 1) := by decide +kernel
theorem dX5_gives_21 : decode cX5_gives 21 = .ok (.istore 4, 2) := by decide +kernel
theorem dX5_gives_23 : decode cX5_gives 23 = .ok (.iload 4, 2) := by decide +kernel
theorem dX5_gives_25 : decode cX5_gives 25 = .ok (.ifCond .ne 12, 3) := by decide +kernel
theorem dX5_gives_28 : decode cX5_gives 28 = .ok (.aload_n 0, 1) := by decide +kernel
theorem dX5_gives_29 : decode cX5_gives 29 = .ok (.getfield 13, 3) := by decide +kernel
theorem dX5_gives_32 : decode cX5_gives 32 = .ok (.iload_n 1, 1) := by decide +kernel
theorem dX5_gives_33 : decode cX5_gives 33 = .ok (.iaload, 1) := by decide +kernel
theorem dX5_gives_34 : decode cX5_gives 34 = .ok (.goto 19, 3) := by decide +kernel
theorem dX5_gives_37 : decode cX5_gives 37 = .ok (.iload 4, 2) := by decide +kernel
theorem dX5_gives_39 : decode cX5_gives 39 = .ok (.iconst 1, 1) := by decide +kernel
theorem dX5_gives_40 : decode cX5_gives 40 = .ok (.if_icmp .ne 12, 3) := by decide +kernel
theorem dX5_gives_43 : decode cX5_gives 43 = .ok (.aload_n 0, 1) := by decide +kernel
theorem dX5_gives_44 : decode cX5_gives 44 = .ok (.getfield 16, 3) := by decide +kernel
theorem dX5_gives_47 : decode cX5_gives 47 = .ok (.iload_n 1, 1) := by decide +kernel
theorem dX5_gives_48 : decode cX5_gives 48 = .ok (.iaload, 1) := by decide +kernel
theorem dX5_gives_49 : decode cX5_gives 49 = .ok (.goto 4, 3) := by decide +kernel
theorem dX5_gives_52 : decode cX5_gives 52 = .ok (.iconst 0, 1) := by decide +kernel
theorem dX5_gives_53 : decode cX5_gives 53 = .ok (.ireturn, 1) := by decide +kernel
theorem dX5_givesAll_0 : decode cX5_givesAll 0 = .ok (.iconst 0, 1) := by decide +kernel
theorem dX5_givesAll_1 : decode cX5_givesAll 1 = .ok (.istore_n 3, 1) := by decide +kernel
theorem dX5_givesAll_2 : decode cX5_givesAll 2 = .ok (.iconst 0, 1) := by decide +kernel
theorem dX5_givesAll_3 : decode cX5_givesAll 3 = .ok (.istore 4, 2) := by decide +kernel
theorem dX5_givesAll_5 : decode cX5_givesAll 5 = .ok (.iload 4, 2) := by decide +kernel
theorem dX5_givesAll_7 : decode cX5_givesAll 7 = .ok (.aload_n 0, 1) := by decide +kernel
theorem dX5_givesAll_8 : decode cX5_givesAll 8 = .ok (.getfield 57, 3) := by decide +kernel
theorem dX5_givesAll_11 : decode cX5_givesAll 11 = .ok (.if_icmp .ge 20, 3) := by decide +kernel
theorem dX5_givesAll_14 : decode cX5_givesAll 14 = .ok (.iload_n 3, 1) := by decide +kernel
theorem dX5_givesAll_15 : decode cX5_givesAll 15 = .ok (.aload_n 0, 1) := by decide +kernel
theorem dX5_givesAll_16 : decode cX5_givesAll 16 = .ok (.iload_n 1, 1) := by decide +kernel
theorem dX5_givesAll_17 : decode cX5_givesAll 17 = .ok (.iload_n 2, 1) := by decide +kernel
theorem dX5_givesAll_18 : decode cX5_givesAll 18 = .ok (.iload 4, 2) := by decide +kernel
theorem dX5_givesAll_20 : decode cX5_givesAll 20 = .ok (.invokevirtual 72, 3) := by decide +kernel
theorem dX5_givesAll_23 : decode cX5_givesAll 23 = .ok (.iadd, 1) := by decide +kernel
theorem dX5_givesAll_24 : decode cX5_givesAll 24 = .ok (.istore_n 3, 1) := by decide +kernel
theorem dX5_givesAll_25 : decode cX5_givesAll 25 = .ok (.iinc 4 1, 3) := by decide +kernel
theorem dX5_givesAll_28 : decode cX5_givesAll 28 = .ok (.goto (-23), 3) := by decide +kernel
theorem dX5_givesAll_31 : decode cX5_givesAll 31 = .ok (.iload_n 3, 1) := by decide +kernel
theorem dX5_givesAll_32 : decode cX5_givesAll 32 = .ok (.ireturn, 1) := by decide +kernel
theorem dX5_asTheyAre_0 : decode cX5_asTheyAre 0 = .ok (.iconst 0, 1) := by decide +kernel
theorem dX5_asTheyAre_1 : decode cX5_asTheyAre 1 = .ok (.istore_n 1, 1) := by decide +kernel
theorem dX5_asTheyAre_2 : decode cX5_asTheyAre 2 = .ok (.iload_n 1, 1) := by decide +kernel
theorem dX5_asTheyAre_3 : decode cX5_asTheyAre 3 = .ok (.iconst 5, 1) := by decide +kernel
theorem dX5_asTheyAre_4 : decode cX5_asTheyAre 4 = .ok (.if_icmp .ge 21, 3) := by decide +kernel
theorem dX5_asTheyAre_7 : decode cX5_asTheyAre 7 = .ok (.aload_n 0, 1) := by decide +kernel
theorem dX5_asTheyAre_8 : decode cX5_asTheyAre 8 = .ok (.getfield 25, 3) := by decide +kernel
theorem dX5_asTheyAre_11 : decode cX5_asTheyAre 11 = .ok (.iload_n 1, 1) := by decide +kernel
theorem dX5_asTheyAre_12 : decode cX5_asTheyAre 12 = .ok (.aload_n 0, 1) := by decide +kernel
theorem dX5_asTheyAre_13 : decode cX5_asTheyAre 13 = .ok (.getfield 19, 3) := by decide +kernel
theorem dX5_asTheyAre_16 : decode cX5_asTheyAre 16 = .ok (.iload_n 1, 1) := by decide +kernel
theorem dX5_asTheyAre_17 : decode cX5_asTheyAre 17 = .ok (.iaload, 1) := by decide +kernel
theorem dX5_asTheyAre_18 : decode cX5_asTheyAre 18 = .ok (.iastore, 1) := by decide +kernel
theorem dX5_asTheyAre_19 : decode cX5_asTheyAre 19 = .ok (.iinc 1 1, 3) := by decide +kernel
theorem dX5_asTheyAre_22 : decode cX5_asTheyAre 22 = .ok (.goto (-20), 3) := by decide +kernel
theorem dX5_asTheyAre_25 : decode cX5_asTheyAre 25 = .ok (.return_, 1) := by decide +kernel
theorem dX5_heatAt_0 : decode cX5_heatAt 0 = .ok (.iconst 0, 1) := by decide +kernel
theorem dX5_heatAt_1 : decode cX5_heatAt 1 = .ok (.istore_n 3, 1) := by decide +kernel
theorem dX5_heatAt_2 : decode cX5_heatAt 2 = .ok (.iconst 0, 1) := by decide +kernel
theorem dX5_heatAt_3 : decode cX5_heatAt 3 = .ok (.istore 4, 2) := by decide +kernel
theorem dX5_heatAt_5 : decode cX5_heatAt 5 = .ok (.iload 4, 2) := by decide +kernel
theorem dX5_heatAt_7 : decode cX5_heatAt 7 = .ok (.aload_n 0, 1) := by decide +kernel
theorem dX5_heatAt_8 : decode cX5_heatAt 8 = .ok (.getfield 60, 3) := by decide +kernel
theorem dX5_heatAt_11 : decode cX5_heatAt 11 = .ok (.if_icmp .ge 46, 3) := by decide +kernel
theorem dX5_heatAt_14 : decode cX5_heatAt 14 = .ok (.iload_n 3, 1) := by decide +kernel
theorem dX5_heatAt_15 : decode cX5_heatAt 15 = .ok (.iload_n 2, 1) := by decide +kernel
theorem dX5_heatAt_16 : decode cX5_heatAt 16 = .ok (.ifCond .ne 15, 3) := by decide +kernel
theorem dX5_heatAt_19 : decode cX5_heatAt 19 = .ok (.aload_n 0, 1) := by decide +kernel
theorem dX5_heatAt_20 : decode cX5_heatAt 20 = .ok (.getfield 63, 3) := by decide +kernel
theorem dX5_heatAt_23 : decode cX5_heatAt 23 = .ok (.iload 4, 2) := by decide +kernel
theorem dX5_heatAt_25 : decode cX5_heatAt 25 = .ok (.invokestatic 76, 3) := by decide +kernel
theorem dX5_heatAt_28 : decode cX5_heatAt 28 = .ok (.ifCond .ne 20, 3) := by decide +kernel
theorem dX5_heatAt_31 : decode cX5_heatAt 31 = .ok (.aload_n 0, 1) := by decide +kernel
theorem dX5_heatAt_32 : decode cX5_heatAt 32 = .ok (.iload 4, 2) := by decide +kernel
theorem dX5_heatAt_34 : decode cX5_heatAt 34 = .ok (.aload_n 0, 1) := by decide +kernel
theorem dX5_heatAt_35 : decode cX5_heatAt 35 = .ok (.getfield 25, 3) := by decide +kernel
theorem dX5_heatAt_38 : decode cX5_heatAt 38 = .ok (.iload 4, 2) := by decide +kernel
theorem dX5_heatAt_40 : decode cX5_heatAt 40 = .ok (.iaload, 1) := by decide +kernel
theorem dX5_heatAt_41 : decode cX5_heatAt 41 = .ok (.iload_n 1, 1) := by decide +kernel
theorem dX5_heatAt_42 : decode cX5_heatAt 42 = .ok (.invokevirtual 72, 3) := by decide +kernel
theorem dX5_heatAt_45 : decode cX5_heatAt 45 = .ok (.goto 4, 3) := by decide +kernel
theorem dX5_heatAt_48 : decode cX5_heatAt 48 = .ok (.iconst 0, 1) := by decide +kernel
theorem dX5_heatAt_49 : decode cX5_heatAt 49 = .ok (.iadd, 1) := by decide +kernel
theorem dX5_heatAt_50 : decode cX5_heatAt 50 = .ok (.istore_n 3, 1) := by decide +kernel
theorem dX5_heatAt_51 : decode cX5_heatAt 51 = .ok (.iinc 4 1, 3) := by decide +kernel
theorem dX5_heatAt_54 : decode cX5_heatAt 54 = .ok (.goto (-49), 3) := by decide +kernel
theorem dX5_heatAt_57 : decode cX5_heatAt 57 = .ok (.iload_n 3, 1) := by decide +kernel
theorem dX5_heatAt_58 : decode cX5_heatAt 58 = .ok (.ireturn, 1) := by decide +kernel
theorem dX5_isGood_0 : decode cX5_isGood 0 = .ok (.iconst 1, 1) := by decide +kernel
theorem dX5_isGood_1 : decode cX5_isGood 1 = .ok (.istore_n 2, 1) := by decide +kernel
theorem dX5_isGood_2 : decode cX5_isGood 2 = .ok (.iconst 0, 1) := by decide +kernel
theorem dX5_isGood_3 : decode cX5_isGood 3 = .ok (.istore_n 3, 1) := by decide +kernel
theorem dX5_isGood_4 : decode cX5_isGood 4 = .ok (.iload_n 3, 1) := by decide +kernel
theorem dX5_isGood_5 : decode cX5_isGood 5 = .ok (.aload_n 0, 1) := by decide +kernel
theorem dX5_isGood_6 : decode cX5_isGood 6 = .ok (.getfield 57, 3) := by decide +kernel
theorem dX5_isGood_9 : decode cX5_isGood 9 = .ok (.if_icmp .ge 34, 3) := by decide +kernel
theorem dX5_isGood_12 : decode cX5_isGood 12 = .ok (.iload_n 2, 1) := by decide +kernel
theorem dX5_isGood_13 : decode cX5_isGood 13 = .ok (.ifCond .eq 22, 3) := by decide +kernel
theorem dX5_isGood_16 : decode cX5_isGood 16 = .ok (.aload_n 0, 1) := by decide +kernel
theorem dX5_isGood_17 : decode cX5_isGood 17 = .ok (.iload_n 3, 1) := by decide +kernel
theorem dX5_isGood_18 : decode cX5_isGood 18 = .ok (.iload_n 1, 1) := by decide +kernel
theorem dX5_isGood_19 : decode cX5_isGood 19 = .ok (.invokevirtual 80, 3) := by decide +kernel
theorem dX5_isGood_22 : decode cX5_isGood 22 = .ok (.aload_n 0, 1) := by decide +kernel
theorem dX5_isGood_23 : decode cX5_isGood 23 = .ok (.getfield 22, 3) := by decide +kernel
theorem dX5_isGood_26 : decode cX5_isGood 26 = .ok (.iload_n 3, 1) := by decide +kernel
theorem dX5_isGood_27 : decode cX5_isGood 27 = .ok (.iaload, 1) := by decide +kernel
theorem dX5_isGood_28 : decode cX5_isGood 28 = .ok (.if_icmp .gt 7, 3) := by decide +kernel
theorem dX5_isGood_31 : decode cX5_isGood 31 = .ok (.iconst 1, 1) := by decide +kernel
theorem dX5_isGood_32 : decode cX5_isGood 32 = .ok (.goto 4, 3) := by decide +kernel
theorem dX5_isGood_35 : decode cX5_isGood 35 = .ok (.iconst 0, 1) := by decide +kernel
theorem dX5_isGood_36 : decode cX5_isGood 36 = .ok (.istore_n 2, 1) := by decide +kernel
theorem dX5_isGood_37 : decode cX5_isGood 37 = .ok (.iinc 3 1, 3) := by decide +kernel
theorem dX5_isGood_40 : decode cX5_isGood 40 = .ok (.goto (-36), 3) := by decide +kernel
theorem dX5_isGood_43 : decode cX5_isGood 43 = .ok (.iload_n 2, 1) := by decide +kernel
theorem dX5_isGood_44 : decode cX5_isGood 44 = .ok (.ireturn, 1) := by decide +kernel
theorem dX5_caught_0 : decode cX5_caught 0 = .ok (.iconst 0, 1) := by decide +kernel
theorem dX5_caught_1 : decode cX5_caught 1 = .ok (.istore_n 1, 1) := by decide +kernel
theorem dX5_caught_2 : decode cX5_caught 2 = .ok (.iconst 0, 1) := by decide +kernel
theorem dX5_caught_3 : decode cX5_caught 3 = .ok (.istore_n 2, 1) := by decide +kernel
theorem dX5_caught_4 : decode cX5_caught 4 = .ok (.iload_n 2, 1) := by decide +kernel
theorem dX5_caught_5 : decode cX5_caught 5 = .ok (.aload_n 0, 1) := by decide +kernel
theorem dX5_caught_6 : decode cX5_caught 6 = .ok (.getfield 57, 3) := by decide +kernel
theorem dX5_caught_9 : decode cX5_caught 9 = .ok (.if_icmp .ge 18, 3) := by decide +kernel
theorem dX5_caught_12 : decode cX5_caught 12 = .ok (.iload_n 1, 1) := by decide +kernel
theorem dX5_caught_13 : decode cX5_caught 13 = .ok (.aload_n 0, 1) := by decide +kernel
theorem dX5_caught_14 : decode cX5_caught 14 = .ok (.iload_n 2, 1) := by decide +kernel
theorem dX5_caught_15 : decode cX5_caught 15 = .ok (.iconst 0, 1) := by decide +kernel
theorem dX5_caught_16 : decode cX5_caught 16 = .ok (.invokevirtual 80, 3) := by decide +kernel
theorem dX5_caught_19 : decode cX5_caught 19 = .ok (.iadd, 1) := by decide +kernel
theorem dX5_caught_20 : decode cX5_caught 20 = .ok (.istore_n 1, 1) := by decide +kernel
theorem dX5_caught_21 : decode cX5_caught 21 = .ok (.iinc 2 1, 3) := by decide +kernel
theorem dX5_caught_24 : decode cX5_caught 24 = .ok (.goto (-20), 3) := by decide +kernel
theorem dX5_caught_27 : decode cX5_caught 27 = .ok (.iload_n 1, 1) := by decide +kernel
theorem dX5_caught_28 : decode cX5_caught 28 = .ok (.ireturn, 1) := by decide +kernel
theorem dX5_ceiling_0 : decode cX5_ceiling 0 = .ok (.aload_n 0, 1) := by decide +kernel
theorem dX5_ceiling_1 : decode cX5_ceiling 1 = .ok (.iload_n 1, 1) := by decide +kernel
theorem dX5_ceiling_2 : decode cX5_ceiling 2 = .ok (.invokevirtual 84, 3) := by decide +kernel
theorem dX5_ceiling_5 : decode cX5_ceiling 5 = .ok (.ifCond .ne 7, 3) := by decide +kernel
theorem dX5_ceiling_8 : decode cX5_ceiling 8 = .ok (.sipush (-1002), 3) := by decide +kernel
theorem dX5_ceiling_11 : decode cX5_ceiling 11 = .ok (.ireturn, 1) := by decide +kernel
theorem dX5_ceiling_12 : decode cX5_ceiling 12 = .ok (.iload_n 2, 1) := by decide +kernel
theorem dX5_ceiling_13 : decode cX5_ceiling 13 = .ok (.iconst 0, 1) := by decide +kernel
theorem dX5_ceiling_14 : decode cX5_ceiling 14 = .ok (.bipush 60, 2) := by decide +kernel
theorem dX5_ceiling_16 : decode cX5_ceiling 16 = .ok (.invokestatic 41, 3) := by decide +kernel
theorem dX5_ceiling_19 : decode cX5_ceiling 19 = .ok (.ifCond .ne 7, 3) := by decide +kernel
theorem dX5_ceiling_22 : decode cX5_ceiling 22 = .ok (.sipush (-1003), 3) := by decide +kernel
theorem dX5_ceiling_25 : decode cX5_ceiling 25 = .ok (.ireturn, 1) := by decide +kernel
theorem dX5_ceiling_26 : decode cX5_ceiling 26 = .ok (.aload_n 0, 1) := by decide +kernel
theorem dX5_ceiling_27 : decode cX5_ceiling 27 = .ok (.getfield 22, 3) := by decide +kernel
theorem dX5_ceiling_30 : decode cX5_ceiling 30 = .ok (.iload_n 1, 1) := by decide +kernel
theorem dX5_ceiling_31 : decode cX5_ceiling 31 = .ok (.iaload, 1) := by decide +kernel
theorem dX5_ceiling_32 : decode cX5_ceiling 32 = .ok (.istore_n 3, 1) := by decide +kernel
theorem dX5_ceiling_33 : decode cX5_ceiling 33 = .ok (.aload_n 0, 1) := by decide +kernel
theorem dX5_ceiling_34 : decode cX5_ceiling 34 = .ok (.getfield 22, 3) := by decide +kernel
theorem dX5_ceiling_37 : decode cX5_ceiling 37 = .ok (.iload_n 1, 1) := by decide +kernel
theorem dX5_ceiling_38 : decode cX5_ceiling 38 = .ok (.iload_n 2, 1) := by decide +kernel
theorem dX5_ceiling_39 : decode cX5_ceiling 39 = .ok (.iastore, 1) := by decide +kernel
theorem dX5_ceiling_40 : decode cX5_ceiling 40 = .ok (.iload_n 3, 1) := by decide +kernel
theorem dX5_ceiling_41 : decode cX5_ceiling 41 = .ok (.ireturn, 1) := by decide +kernel
theorem dX5_shade_0 : decode cX5_shade 0 = .ok (.aload_n 0, 1) := by decide +kernel
theorem dX5_shade_1 : decode cX5_shade 1 = .ok (.getfield 60, 3) := by decide +kernel
theorem dX5_shade_4 : decode cX5_shade 4 = .ok (.ifCond .ne 7, 3) := by decide +kernel
theorem dX5_shade_7 : decode cX5_shade 7 = .ok (.sipush (-1004), 3) := by decide +kernel
theorem dX5_shade_10 : decode cX5_shade 10 = .ok (.ireturn, 1) := by decide +kernel
theorem dX5_shade_11 : decode cX5_shade 11 = .ok (.iload_n 1, 1) := by decide +kernel
theorem dX5_shade_12 : decode cX5_shade 12 = .ok (.iconst 0, 1) := by decide +kernel
theorem dX5_shade_13 : decode cX5_shade 13 = .ok (.iconst 1, 1) := by decide +kernel
theorem dX5_shade_14 : decode cX5_shade 14 = .ok (.aload_n 0, 1) := by decide +kernel
theorem dX5_shade_15 : decode cX5_shade 15 = .ok (.getfield 60, 3) := by decide +kernel
theorem dX5_shade_18 : decode cX5_shade 18 = .ok (.ishl, 1) := by decide +kernel
theorem dX5_shade_19 : decode cX5_shade 19 = .ok (.iconst 1, 1) := by decide +kernel
theorem dX5_shade_20 : decode cX5_shade 20 = .ok (.isub, 1) := by decide +kernel
theorem dX5_shade_21 : decode cX5_shade 21 = .ok (.invokestatic 41, 3) := by decide +kernel
theorem dX5_shade_24 : decode cX5_shade 24 = .ok (.ifCond .ne 7, 3) := by decide +kernel
theorem dX5_shade_27 : decode cX5_shade 27 = .ok (.sipush (-1003), 3) := by decide +kernel
theorem dX5_shade_30 : decode cX5_shade 30 = .ok (.ireturn, 1) := by decide +kernel
theorem dX5_shade_31 : decode cX5_shade 31 = .ok (.aload_n 0, 1) := by decide +kernel
theorem dX5_shade_32 : decode cX5_shade 32 = .ok (.getfield 63, 3) := by decide +kernel
theorem dX5_shade_35 : decode cX5_shade 35 = .ok (.istore_n 2, 1) := by decide +kernel
theorem dX5_shade_36 : decode cX5_shade 36 = .ok (.aload_n 0, 1) := by decide +kernel
theorem dX5_shade_37 : decode cX5_shade 37 = .ok (.iload_n 1, 1) := by decide +kernel
theorem dX5_shade_38 : decode cX5_shade 38 = .ok (.putfield 63, 3) := by decide +kernel
theorem dX5_shade_41 : decode cX5_shade 41 = .ok (.iload_n 2, 1) := by decide +kernel
theorem dX5_shade_42 : decode cX5_shade 42 = .ok (.ireturn, 1) := by decide +kernel
theorem dX5_stuck_0 : decode cX5_stuck 0 = .ok (.aload_n 0, 1) := by decide +kernel
theorem dX5_stuck_1 : decode cX5_stuck 1 = .ok (.iload_n 1, 1) := by decide +kernel
theorem dX5_stuck_2 : decode cX5_stuck 2 = .ok (.invokevirtual 87, 3) := by decide +kernel
theorem dX5_stuck_5 : decode cX5_stuck 5 = .ok (.ifCond .ne 7, 3) := by decide +kernel
theorem dX5_stuck_8 : decode cX5_stuck 8 = .ok (.sipush (-1002), 3) := by decide +kernel
theorem dX5_stuck_11 : decode cX5_stuck 11 = .ok (.ireturn, 1) := by decide +kernel
theorem dX5_stuck_12 : decode cX5_stuck 12 = .ok (.aload_n 0, 1) := by decide +kernel
theorem dX5_stuck_13 : decode cX5_stuck 13 = .ok (.getfield 66, 3) := by decide +kernel
theorem dX5_stuck_16 : decode cX5_stuck 16 = .ok (.iload_n 1, 1) := by decide +kernel
theorem dX5_stuck_17 : decode cX5_stuck 17 = .ok (.ishr, 1) := by decide +kernel
theorem dX5_stuck_18 : decode cX5_stuck 18 = .ok (.iconst 1, 1) := by decide +kernel
theorem dX5_stuck_19 : decode cX5_stuck 19 = .ok (.iand, 1) := by decide +kernel
theorem dX5_stuck_20 : decode cX5_stuck 20 = .ok (.istore_n 3, 1) := by decide +kernel
theorem dX5_stuck_21 : decode cX5_stuck 21 = .ok (.aload_n 0, 1) := by decide +kernel
theorem dX5_stuck_22 : decode cX5_stuck 22 = .ok (.iload_n 2, 1) := by decide +kernel
theorem dX5_stuck_23 : decode cX5_stuck 23 = .ok (.ifCond .eq 14, 3) := by decide +kernel
theorem dX5_stuck_26 : decode cX5_stuck 26 = .ok (.aload_n 0, 1) := by decide +kernel
theorem dX5_stuck_27 : decode cX5_stuck 27 = .ok (.getfield 66, 3) := by decide +kernel
theorem dX5_stuck_30 : decode cX5_stuck 30 = .ok (.iconst 1, 1) := by decide +kernel
theorem dX5_stuck_31 : decode cX5_stuck 31 = .ok (.iload_n 1, 1) := by decide +kernel
theorem dX5_stuck_32 : decode cX5_stuck 32 = .ok (.ishl, 1) := by decide +kernel
theorem dX5_stuck_33 : decode cX5_stuck 33 = .ok (.ior, 1) := by decide +kernel
theorem dX5_stuck_34 : decode cX5_stuck 34 = .ok (.goto 13, 3) := by decide +kernel
theorem dX5_stuck_37 : decode cX5_stuck 37 = .ok (.aload_n 0, 1) := by decide +kernel
theorem dX5_stuck_38 : decode cX5_stuck 38 = .ok (.getfield 66, 3) := by decide +kernel
theorem dX5_stuck_41 : decode cX5_stuck 41 = .ok (.iconst 1, 1) := by decide +kernel
theorem dX5_stuck_42 : decode cX5_stuck 42 = .ok (.iload_n 1, 1) := by decide +kernel
theorem dX5_stuck_43 : decode cX5_stuck 43 = .ok (.ishl, 1) := by decide +kernel
theorem dX5_stuck_44 : decode cX5_stuck 44 = .ok (.iconst (-1), 1) := by decide +kernel
theorem dX5_stuck_45 : decode cX5_stuck 45 = .ok (.ixor, 1) := by decide +kernel
theorem dX5_stuck_46 : decode cX5_stuck 46 = .ok (.iand, 1) := by decide +kernel
theorem dX5_stuck_47 : decode cX5_stuck 47 = .ok (.putfield 66, 3) := by decide +kernel
theorem dX5_stuck_50 : decode cX5_stuck 50 = .ok (.iload_n 3, 1) := by decide +kernel
theorem dX5_stuck_51 : decode cX5_stuck 51 = .ok (.ireturn, 1) := by decide +kernel
theorem dX5_aim_0 : decode cX5_aim 0 = .ok (.aload_n 0, 1) := by decide +kernel
theorem dX5_aim_1 : decode cX5_aim 1 = .ok (.iload_n 1, 1) := by decide +kernel
theorem dX5_aim_2 : decode cX5_aim 2 = .ok (.invokevirtual 87, 3) := by decide +kernel
theorem dX5_aim_5 : decode cX5_aim 5 = .ok (.ifCond .ne 7, 3) := by decide +kernel
theorem dX5_aim_8 : decode cX5_aim 8 = .ok (.sipush (-1002), 3) := by decide +kernel
theorem dX5_aim_11 : decode cX5_aim 11 = .ok (.ireturn, 1) := by decide +kernel
theorem dX5_aim_12 : decode cX5_aim 12 = .ok (.iload_n 2, 1) := by decide +kernel
theorem dX5_aim_13 : decode cX5_aim 13 = .ok (.iconst (-1), 1) := by decide +kernel
theorem dX5_aim_14 : decode cX5_aim 14 = .ok (.if_icmp .eq 15, 3) := by decide +kernel
theorem dX5_aim_17 : decode cX5_aim 17 = .ok (.aload_n 0, 1) := by decide +kernel
theorem dX5_aim_18 : decode cX5_aim 18 = .ok (.iload_n 2, 1) := by decide +kernel
theorem dX5_aim_19 : decode cX5_aim 19 = .ok (.invokevirtual 84, 3) := by decide +kernel
theorem dX5_aim_22 : decode cX5_aim 22 = .ok (.ifCond .ne 7, 3) := by decide +kernel
theorem dX5_aim_25 : decode cX5_aim 25 = .ok (.sipush (-1003), 3) := by decide +kernel
theorem dX5_aim_28 : decode cX5_aim 28 = .ok (.ireturn, 1) := by decide +kernel
theorem dX5_aim_29 : decode cX5_aim 29 = .ok (.aload_n 0, 1) := by decide +kernel
theorem dX5_aim_30 : decode cX5_aim 30 = .ok (.invokevirtual 90, 3) := by decide +kernel
theorem dX5_aim_33 : decode cX5_aim 33 = .ok (.aload_n 0, 1) := by decide +kernel
theorem dX5_aim_34 : decode cX5_aim 34 = .ok (.getfield 25, 3) := by decide +kernel
theorem dX5_aim_37 : decode cX5_aim 37 = .ok (.iload_n 1, 1) := by decide +kernel
theorem dX5_aim_38 : decode cX5_aim 38 = .ok (.iload_n 2, 1) := by decide +kernel
theorem dX5_aim_39 : decode cX5_aim 39 = .ok (.iastore, 1) := by decide +kernel
theorem dX5_aim_40 : decode cX5_aim 40 = .ok (.aload_n 0, 1) := by decide +kernel
theorem dX5_aim_41 : decode cX5_aim 41 = .ok (.getfield 66, 3) := by decide +kernel
theorem dX5_aim_44 : decode cX5_aim 44 = .ok (.iload_n 1, 1) := by decide +kernel
theorem dX5_aim_45 : decode cX5_aim 45 = .ok (.invokestatic 76, 3) := by decide +kernel
theorem dX5_aim_48 : decode cX5_aim 48 = .ok (.ifCond .ne 16, 3) := by decide +kernel
theorem dX5_aim_51 : decode cX5_aim 51 = .ok (.iload_n 2, 1) := by decide +kernel
theorem dX5_aim_52 : decode cX5_aim 52 = .ok (.iconst (-1), 1) := by decide +kernel
theorem dX5_aim_53 : decode cX5_aim 53 = .ok (.if_icmp .eq 15, 3) := by decide +kernel
theorem dX5_aim_56 : decode cX5_aim 56 = .ok (.aload_n 0, 1) := by decide +kernel
theorem dX5_aim_57 : decode cX5_aim 57 = .ok (.iconst 0, 1) := by decide +kernel
theorem dX5_aim_58 : decode cX5_aim 58 = .ok (.invokevirtual 93, 3) := by decide +kernel
theorem dX5_aim_61 : decode cX5_aim 61 = .ok (.ifCond .ne 7, 3) := by decide +kernel
theorem dX5_aim_64 : decode cX5_aim 64 = .ok (.sipush (-1004), 3) := by decide +kernel
theorem dX5_aim_67 : decode cX5_aim 67 = .ok (.ireturn, 1) := by decide +kernel
theorem dX5_aim_68 : decode cX5_aim 68 = .ok (.aload_n 0, 1) := by decide +kernel
theorem dX5_aim_69 : decode cX5_aim 69 = .ok (.getfield 19, 3) := by decide +kernel
theorem dX5_aim_72 : decode cX5_aim 72 = .ok (.iload_n 1, 1) := by decide +kernel
theorem dX5_aim_73 : decode cX5_aim 73 = .ok (.iaload, 1) := by decide +kernel
theorem dX5_aim_74 : decode cX5_aim 74 = .ok (.istore_n 3, 1) := by decide +kernel
theorem dX5_aim_75 : decode cX5_aim 75 = .ok (.aload_n 0, 1) := by decide +kernel
theorem dX5_aim_76 : decode cX5_aim 76 = .ok (.getfield 19, 3) := by decide +kernel
theorem dX5_aim_79 : decode cX5_aim 79 = .ok (.iload_n 1, 1) := by decide +kernel
theorem dX5_aim_80 : decode cX5_aim 80 = .ok (.iload_n 2, 1) := by decide +kernel
theorem dX5_aim_81 : decode cX5_aim 81 = .ok (.iastore, 1) := by decide +kernel
theorem dX5_aim_82 : decode cX5_aim 82 = .ok (.aload_n 0, 1) := by decide +kernel
theorem dX5_aim_83 : decode cX5_aim 83 = .ok (.dup, 1) := by decide +kernel
theorem dX5_aim_84 : decode cX5_aim 84 = .ok (.getfield 97, 3) := by decide +kernel
theorem dX5_aim_87 : decode cX5_aim 87 = .ok (.iconst 1, 1) := by decide +kernel
theorem dX5_aim_88 : decode cX5_aim 88 = .ok (.iadd, 1) := by decide +kernel
theorem dX5_aim_89 : decode cX5_aim 89 = .ok (.putfield 97, 3) := by decide +kernel
theorem dX5_aim_92 : decode cX5_aim 92 = .ok (.iload_n 3, 1) := by decide +kernel
theorem dX5_aim_93 : decode cX5_aim 93 = .ok (.ireturn, 1) := by decide +kernel
theorem dX5_ofMirror_0 : decode cX5_ofMirror 0 = .ok (.iload_n 2, 1) := by decide +kernel
theorem dX5_ofMirror_1 : decode cX5_ofMirror 1 = .ok (.tableswitch 74 0 4 #[35, 42, 49, 56, 65], 35) := by decide +kernel
theorem dX5_ofMirror_36 : decode cX5_ofMirror 36 = .ok (.aload_n 0, 1) := by decide +kernel
theorem dX5_ofMirror_37 : decode cX5_ofMirror 37 = .ok (.getfield 13, 3) := by decide +kernel
theorem dX5_ofMirror_40 : decode cX5_ofMirror 40 = .ok (.iload_n 1, 1) := by decide +kernel
theorem dX5_ofMirror_41 : decode cX5_ofMirror 41 = .ok (.iaload, 1) := by decide +kernel
theorem dX5_ofMirror_42 : decode cX5_ofMirror 42 = .ok (.ireturn, 1) := by decide +kernel
theorem dX5_ofMirror_43 : decode cX5_ofMirror 43 = .ok (.aload_n 0, 1) := by decide +kernel
theorem dX5_ofMirror_44 : decode cX5_ofMirror 44 = .ok (.getfield 16, 3) := by decide +kernel
theorem dX5_ofMirror_47 : decode cX5_ofMirror 47 = .ok (.iload_n 1, 1) := by decide +kernel
theorem dX5_ofMirror_48 : decode cX5_ofMirror 48 = .ok (.iaload, 1) := by decide +kernel
theorem dX5_ofMirror_49 : decode cX5_ofMirror 49 = .ok (.ireturn, 1) := by decide +kernel
theorem dX5_ofMirror_50 : decode cX5_ofMirror 50 = .ok (.aload_n 0, 1) := by decide +kernel
theorem dX5_ofMirror_51 : decode cX5_ofMirror 51 = .ok (.getfield 19, 3) := by decide +kernel
theorem dX5_ofMirror_54 : decode cX5_ofMirror 54 = .ok (.iload_n 1, 1) := by decide +kernel
theorem dX5_ofMirror_55 : decode cX5_ofMirror 55 = .ok (.iaload, 1) := by decide +kernel
theorem dX5_ofMirror_56 : decode cX5_ofMirror 56 = .ok (.ireturn, 1) := by decide +kernel
theorem dX5_ofMirror_57 : decode cX5_ofMirror 57 = .ok (.aload_n 0, 1) := by decide +kernel
theorem dX5_ofMirror_58 : decode cX5_ofMirror 58 = .ok (.getfield 63, 3) := by decide +kernel
theorem dX5_ofMirror_61 : decode cX5_ofMirror 61 = .ok (.iload_n 1, 1) := by decide +kernel
theorem dX5_ofMirror_62 : decode cX5_ofMirror 62 = .ok (.ishr, 1) := by decide +kernel
theorem dX5_ofMirror_63 : decode cX5_ofMirror 63 = .ok (.iconst 1, 1) := by decide +kernel
theorem dX5_ofMirror_64 : decode cX5_ofMirror 64 = .ok (.iand, 1) := by decide +kernel
theorem dX5_ofMirror_65 : decode cX5_ofMirror 65 = .ok (.ireturn, 1) := by decide +kernel
theorem dX5_ofMirror_66 : decode cX5_ofMirror 66 = .ok (.aload_n 0, 1) := by decide +kernel
theorem dX5_ofMirror_67 : decode cX5_ofMirror 67 = .ok (.getfield 66, 3) := by decide +kernel
theorem dX5_ofMirror_70 : decode cX5_ofMirror 70 = .ok (.iload_n 1, 1) := by decide +kernel
theorem dX5_ofMirror_71 : decode cX5_ofMirror 71 = .ok (.ishr, 1) := by decide +kernel
theorem dX5_ofMirror_72 : decode cX5_ofMirror 72 = .ok (.iconst 1, 1) := by decide +kernel
theorem dX5_ofMirror_73 : decode cX5_ofMirror 73 = .ok (.iand, 1) := by decide +kernel
theorem dX5_ofMirror_74 : decode cX5_ofMirror 74 = .ok (.ireturn, 1) := by decide +kernel
theorem dX5_ofMirror_75 : decode cX5_ofMirror 75 = .ok (.aload_n 0, 1) := by decide +kernel
theorem dX5_ofMirror_76 : decode cX5_ofMirror 76 = .ok (.getfield 63, 3) := by decide +kernel
theorem dX5_ofMirror_79 : decode cX5_ofMirror 79 = .ok (.iload_n 1, 1) := by decide +kernel
theorem dX5_ofMirror_80 : decode cX5_ofMirror 80 = .ok (.invokestatic 76, 3) := by decide +kernel
theorem dX5_ofMirror_83 : decode cX5_ofMirror 83 = .ok (.ifCond .eq 7, 3) := by decide +kernel
theorem dX5_ofMirror_86 : decode cX5_ofMirror 86 = .ok (.iconst 0, 1) := by decide +kernel
theorem dX5_ofMirror_87 : decode cX5_ofMirror 87 = .ok (.goto 14, 3) := by decide +kernel
theorem dX5_ofMirror_90 : decode cX5_ofMirror 90 = .ok (.aload_n 0, 1) := by decide +kernel
theorem dX5_ofMirror_91 : decode cX5_ofMirror 91 = .ok (.iload_n 1, 1) := by decide +kernel
theorem dX5_ofMirror_92 : decode cX5_ofMirror 92 = .ok (.aload_n 0, 1) := by decide +kernel
theorem dX5_ofMirror_93 : decode cX5_ofMirror 93 = .ok (.getfield 19, 3) := by decide +kernel
theorem dX5_ofMirror_96 : decode cX5_ofMirror 96 = .ok (.iload_n 1, 1) := by decide +kernel
theorem dX5_ofMirror_97 : decode cX5_ofMirror 97 = .ok (.iaload, 1) := by decide +kernel
theorem dX5_ofMirror_98 : decode cX5_ofMirror 98 = .ok (.invokevirtual 100, 3) := by decide +kernel
theorem dX5_ofMirror_101 : decode cX5_ofMirror 101 = .ok (.ireturn, 1) := by decide +kernel
theorem dX5_mirror_0 : decode cX5_mirror 0 = .ok (.aload_n 0, 1) := by decide +kernel
theorem dX5_mirror_1 : decode cX5_mirror 1 = .ok (.iload_n 1, 1) := by decide +kernel
theorem dX5_mirror_2 : decode cX5_mirror 2 = .ok (.invokevirtual 87, 3) := by decide +kernel
theorem dX5_mirror_5 : decode cX5_mirror 5 = .ok (.ifCond .ne 7, 3) := by decide +kernel
theorem dX5_mirror_8 : decode cX5_mirror 8 = .ok (.sipush (-1002), 3) := by decide +kernel
theorem dX5_mirror_11 : decode cX5_mirror 11 = .ok (.ireturn, 1) := by decide +kernel
theorem dX5_mirror_12 : decode cX5_mirror 12 = .ok (.iload_n 2, 1) := by decide +kernel
theorem dX5_mirror_13 : decode cX5_mirror 13 = .ok (.iconst 0, 1) := by decide +kernel
theorem dX5_mirror_14 : decode cX5_mirror 14 = .ok (.iconst 5, 1) := by decide +kernel
theorem dX5_mirror_15 : decode cX5_mirror 15 = .ok (.invokestatic 41, 3) := by decide +kernel
theorem dX5_mirror_18 : decode cX5_mirror 18 = .ok (.ifCond .eq 12, 3) := by decide +kernel
theorem dX5_mirror_21 : decode cX5_mirror 21 = .ok (.aload_n 0, 1) := by decide +kernel
theorem dX5_mirror_22 : decode cX5_mirror 22 = .ok (.iload_n 1, 1) := by decide +kernel
theorem dX5_mirror_23 : decode cX5_mirror 23 = .ok (.iload_n 2, 1) := by decide +kernel
theorem dX5_mirror_24 : decode cX5_mirror 24 = .ok (.invokevirtual 104, 3) := by decide +kernel
theorem dX5_mirror_27 : decode cX5_mirror 27 = .ok (.goto 6, 3) := by decide +kernel
theorem dX5_mirror_30 : decode cX5_mirror 30 = .ok (.sipush (-1003), 3) := by decide +kernel
theorem dX5_mirror_33 : decode cX5_mirror 33 = .ok (.ireturn, 1) := by decide +kernel
theorem dX5_aimedAt_0 : decode cX5_aimedAt 0 = .ok (.iconst 0, 1) := by decide +kernel
theorem dX5_aimedAt_1 : decode cX5_aimedAt 1 = .ok (.istore_n 2, 1) := by decide +kernel
theorem dX5_aimedAt_2 : decode cX5_aimedAt 2 = .ok (.iconst 0, 1) := by decide +kernel
theorem dX5_aimedAt_3 : decode cX5_aimedAt 3 = .ok (.istore_n 3, 1) := by decide +kernel
theorem dX5_aimedAt_4 : decode cX5_aimedAt 4 = .ok (.iload_n 3, 1) := by decide +kernel
theorem dX5_aimedAt_5 : decode cX5_aimedAt 5 = .ok (.aload_n 0, 1) := by decide +kernel
theorem dX5_aimedAt_6 : decode cX5_aimedAt 6 = .ok (.getfield 60, 3) := by decide +kernel
theorem dX5_aimedAt_9 : decode cX5_aimedAt 9 = .ok (.if_icmp .ge 27, 3) := by decide +kernel
theorem dX5_aimedAt_12 : decode cX5_aimedAt 12 = .ok (.iload_n 2, 1) := by decide +kernel
theorem dX5_aimedAt_13 : decode cX5_aimedAt 13 = .ok (.aload_n 0, 1) := by decide +kernel
end
section
theorem dX5_aimedAt_14 : decode cX5_aimedAt 14 = .ok (.getfield 19, 3) := by decide +kernel
theorem dX5_aimedAt_17 : decode cX5_aimedAt 17 = .ok (.iload_n 3, 1) := by decide +kernel
theorem dX5_aimedAt_18 : decode cX5_aimedAt 18 = .ok (.iaload, 1) := by decide +kernel
theorem dX5_aimedAt_19 : decode cX5_aimedAt 19 = .ok (.iload_n 1, 1) := by decide +kernel
theorem dX5_aimedAt_20 : decode cX5_aimedAt 20 = .ok (.if_icmp .ne 7, 3) := by decide +kernel
theorem dX5_aimedAt_23 : decode cX5_aimedAt 23 = .ok (.iconst 1, 1) := by decide +kernel
theorem dX5_aimedAt_24 : decode cX5_aimedAt 24 = .ok (.goto 4, 3) := by decide +kernel
theorem dX5_aimedAt_27 : decode cX5_aimedAt 27 = .ok (.iconst 0, 1) := by decide +kernel
theorem dX5_aimedAt_28 : decode cX5_aimedAt 28 = .ok (.iadd, 1) := by decide +kernel
theorem dX5_aimedAt_29 : decode cX5_aimedAt 29 = .ok (.istore_n 2, 1) := by decide +kernel
theorem dX5_aimedAt_30 : decode cX5_aimedAt 30 = .ok (.iinc 3 1, 3) := by decide +kernel
theorem dX5_aimedAt_33 : decode cX5_aimedAt 33 = .ok (.goto (-29), 3) := by decide +kernel
theorem dX5_aimedAt_36 : decode cX5_aimedAt 36 = .ok (.iload_n 2, 1) := by decide +kernel
theorem dX5_aimedAt_37 : decode cX5_aimedAt 37 = .ok (.ireturn, 1) := by decide +kernel
theorem dX5_ofPatch_0 : decode cX5_ofPatch 0 = .ok (.aload_n 0, 1) := by decide +kernel
theorem dX5_ofPatch_1 : decode cX5_ofPatch 1 = .ok (.invokevirtual 90, 3) := by decide +kernel
theorem dX5_ofPatch_4 : decode cX5_ofPatch 4 = .ok (.iload_n 2, 1) := by decide +kernel
theorem dX5_ofPatch_5 : decode cX5_ofPatch 5 = .ok (.ifCond .ne 12, 3) := by decide +kernel
theorem dX5_ofPatch_8 : decode cX5_ofPatch 8 = .ok (.aload_n 0, 1) := by decide +kernel
theorem dX5_ofPatch_9 : decode cX5_ofPatch 9 = .ok (.iload_n 1, 1) := by decide +kernel
theorem dX5_ofPatch_10 : decode cX5_ofPatch 10 = .ok (.iconst 0, 1) := by decide +kernel
theorem dX5_ofPatch_11 : decode cX5_ofPatch 11 = .ok (.invokevirtual 80, 3) := by decide +kernel
theorem dX5_ofPatch_14 : decode cX5_ofPatch 14 = .ok (.goto 36, 3) := by decide +kernel
theorem dX5_ofPatch_17 : decode cX5_ofPatch 17 = .ok (.iload_n 2, 1) := by decide +kernel
theorem dX5_ofPatch_18 : decode cX5_ofPatch 18 = .ok (.iconst 1, 1) := by decide +kernel
theorem dX5_ofPatch_19 : decode cX5_ofPatch 19 = .ok (.if_icmp .ne 12, 3) := by decide +kernel
theorem dX5_ofPatch_22 : decode cX5_ofPatch 22 = .ok (.aload_n 0, 1) := by decide +kernel
theorem dX5_ofPatch_23 : decode cX5_ofPatch 23 = .ok (.getfield 22, 3) := by decide +kernel
theorem dX5_ofPatch_26 : decode cX5_ofPatch 26 = .ok (.iload_n 1, 1) := by decide +kernel
theorem dX5_ofPatch_27 : decode cX5_ofPatch 27 = .ok (.iaload, 1) := by decide +kernel
theorem dX5_ofPatch_28 : decode cX5_ofPatch 28 = .ok (.goto 22, 3) := by decide +kernel
theorem dX5_ofPatch_31 : decode cX5_ofPatch 31 = .ok (.iload_n 2, 1) := by decide +kernel
theorem dX5_ofPatch_32 : decode cX5_ofPatch 32 = .ok (.iconst 2, 1) := by decide +kernel
theorem dX5_ofPatch_33 : decode cX5_ofPatch 33 = .ok (.if_icmp .ne 12, 3) := by decide +kernel
theorem dX5_ofPatch_36 : decode cX5_ofPatch 36 = .ok (.aload_n 0, 1) := by decide +kernel
theorem dX5_ofPatch_37 : decode cX5_ofPatch 37 = .ok (.iload_n 1, 1) := by decide +kernel
theorem dX5_ofPatch_38 : decode cX5_ofPatch 38 = .ok (.iconst 1, 1) := by decide +kernel
theorem dX5_ofPatch_39 : decode cX5_ofPatch 39 = .ok (.invokevirtual 80, 3) := by decide +kernel
theorem dX5_ofPatch_42 : decode cX5_ofPatch 42 = .ok (.goto 8, 3) := by decide +kernel
theorem dX5_ofPatch_45 : decode cX5_ofPatch 45 = .ok (.aload_n 0, 1) := by decide +kernel
theorem dX5_ofPatch_46 : decode cX5_ofPatch 46 = .ok (.iload_n 1, 1) := by decide +kernel
theorem dX5_ofPatch_47 : decode cX5_ofPatch 47 = .ok (.invokevirtual 107, 3) := by decide +kernel
theorem dX5_ofPatch_50 : decode cX5_ofPatch 50 = .ok (.ireturn, 1) := by decide +kernel
theorem dX5_patch_0 : decode cX5_patch 0 = .ok (.aload_n 0, 1) := by decide +kernel
theorem dX5_patch_1 : decode cX5_patch 1 = .ok (.iload_n 1, 1) := by decide +kernel
theorem dX5_patch_2 : decode cX5_patch 2 = .ok (.invokevirtual 84, 3) := by decide +kernel
theorem dX5_patch_5 : decode cX5_patch 5 = .ok (.ifCond .ne 7, 3) := by decide +kernel
theorem dX5_patch_8 : decode cX5_patch 8 = .ok (.sipush (-1002), 3) := by decide +kernel
theorem dX5_patch_11 : decode cX5_patch 11 = .ok (.ireturn, 1) := by decide +kernel
theorem dX5_patch_12 : decode cX5_patch 12 = .ok (.iload_n 2, 1) := by decide +kernel
theorem dX5_patch_13 : decode cX5_patch 13 = .ok (.iconst 0, 1) := by decide +kernel
theorem dX5_patch_14 : decode cX5_patch 14 = .ok (.iconst 3, 1) := by decide +kernel
theorem dX5_patch_15 : decode cX5_patch 15 = .ok (.invokestatic 41, 3) := by decide +kernel
theorem dX5_patch_18 : decode cX5_patch 18 = .ok (.ifCond .eq 12, 3) := by decide +kernel
theorem dX5_patch_21 : decode cX5_patch 21 = .ok (.aload_n 0, 1) := by decide +kernel
theorem dX5_patch_22 : decode cX5_patch 22 = .ok (.iload_n 1, 1) := by decide +kernel
theorem dX5_patch_23 : decode cX5_patch 23 = .ok (.iload_n 2, 1) := by decide +kernel
theorem dX5_patch_24 : decode cX5_patch 24 = .ok (.invokevirtual 111, 3) := by decide +kernel
theorem dX5_patch_27 : decode cX5_patch 27 = .ok (.goto 6, 3) := by decide +kernel
theorem dX5_patch_30 : decode cX5_patch 30 = .ok (.sipush (-1003), 3) := by decide +kernel
theorem dX5_patch_33 : decode cX5_patch 33 = .ok (.ireturn, 1) := by decide +kernel
theorem dX5_unitOf_0 : decode cX5_unitOf 0 = .ok (.iconst 1, 1) := by decide +kernel
theorem dX5_unitOf_1 : decode cX5_unitOf 1 = .ok (.istore_n 2, 1) := by decide +kernel
theorem dX5_unitOf_2 : decode cX5_unitOf 2 = .ok (.iconst 4, 1) := by decide +kernel
theorem dX5_unitOf_3 : decode cX5_unitOf 3 = .ok (.istore_n 3, 1) := by decide +kernel
theorem dX5_unitOf_4 : decode cX5_unitOf 4 = .ok (.iload_n 3, 1) := by decide +kernel
theorem dX5_unitOf_5 : decode cX5_unitOf 5 = .ok (.iload_n 1, 1) := by decide +kernel
theorem dX5_unitOf_6 : decode cX5_unitOf 6 = .ok (.if_icmp .le 13, 3) := by decide +kernel
theorem dX5_unitOf_9 : decode cX5_unitOf 9 = .ok (.iload_n 2, 1) := by decide +kernel
theorem dX5_unitOf_10 : decode cX5_unitOf 10 = .ok (.iconst 5, 1) := by decide +kernel
theorem dX5_unitOf_11 : decode cX5_unitOf 11 = .ok (.imul, 1) := by decide +kernel
theorem dX5_unitOf_12 : decode cX5_unitOf 12 = .ok (.istore_n 2, 1) := by decide +kernel
theorem dX5_unitOf_13 : decode cX5_unitOf 13 = .ok (.iinc 3 (-1), 3) := by decide +kernel
theorem dX5_unitOf_16 : decode cX5_unitOf 16 = .ok (.goto (-12), 3) := by decide +kernel
theorem dX5_unitOf_19 : decode cX5_unitOf 19 = .ok (.iload_n 2, 1) := by decide +kernel
theorem dX5_unitOf_20 : decode cX5_unitOf 20 = .ok (.ireturn, 1) := by decide +kernel
theorem dX5_codeNow_0 : decode cX5_codeNow 0 = .ok (.iconst 0, 1) := by decide +kernel
theorem dX5_codeNow_1 : decode cX5_codeNow 1 = .ok (.istore_n 1, 1) := by decide +kernel
theorem dX5_codeNow_2 : decode cX5_codeNow 2 = .ok (.iconst 0, 1) := by decide +kernel
theorem dX5_codeNow_3 : decode cX5_codeNow 3 = .ok (.istore_n 2, 1) := by decide +kernel
theorem dX5_codeNow_4 : decode cX5_codeNow 4 = .ok (.iload_n 2, 1) := by decide +kernel
theorem dX5_codeNow_5 : decode cX5_codeNow 5 = .ok (.iconst 5, 1) := by decide +kernel
theorem dX5_codeNow_6 : decode cX5_codeNow 6 = .ok (.if_icmp .ge 22, 3) := by decide +kernel
theorem dX5_codeNow_9 : decode cX5_codeNow 9 = .ok (.iconst 5, 1) := by decide +kernel
theorem dX5_codeNow_10 : decode cX5_codeNow 10 = .ok (.iload_n 1, 1) := by decide +kernel
theorem dX5_codeNow_11 : decode cX5_codeNow 11 = .ok (.imul, 1) := by decide +kernel
theorem dX5_codeNow_12 : decode cX5_codeNow 12 = .ok (.aload_n 0, 1) := by decide +kernel
theorem dX5_codeNow_13 : decode cX5_codeNow 13 = .ok (.getfield 25, 3) := by decide +kernel
theorem dX5_codeNow_16 : decode cX5_codeNow 16 = .ok (.iload_n 2, 1) := by decide +kernel
theorem dX5_codeNow_17 : decode cX5_codeNow 17 = .ok (.iaload, 1) := by decide +kernel
theorem dX5_codeNow_18 : decode cX5_codeNow 18 = .ok (.iadd, 1) := by decide +kernel
theorem dX5_codeNow_19 : decode cX5_codeNow 19 = .ok (.iconst 1, 1) := by decide +kernel
theorem dX5_codeNow_20 : decode cX5_codeNow 20 = .ok (.iadd, 1) := by decide +kernel
theorem dX5_codeNow_21 : decode cX5_codeNow 21 = .ok (.istore_n 1, 1) := by decide +kernel
theorem dX5_codeNow_22 : decode cX5_codeNow 22 = .ok (.iinc 2 1, 3) := by decide +kernel
theorem dX5_codeNow_25 : decode cX5_codeNow 25 = .ok (.goto (-21), 3) := by decide +kernel
theorem dX5_codeNow_28 : decode cX5_codeNow 28 = .ok (.iload_n 1, 1) := by decide +kernel
theorem dX5_codeNow_29 : decode cX5_codeNow 29 = .ok (.ireturn, 1) := by decide +kernel
theorem dX5_layCode_0 : decode cX5_layCode 0 = .ok (.iload_n 1, 1) := by decide +kernel
theorem dX5_layCode_1 : decode cX5_layCode 1 = .ok (.istore_n 2, 1) := by decide +kernel
theorem dX5_layCode_2 : decode cX5_layCode 2 = .ok (.iconst 4, 1) := by decide +kernel
theorem dX5_layCode_3 : decode cX5_layCode 3 = .ok (.istore_n 3, 1) := by decide +kernel
theorem dX5_layCode_4 : decode cX5_layCode 4 = .ok (.iload_n 3, 1) := by decide +kernel
theorem dX5_layCode_5 : decode cX5_layCode 5 = .ok (.ifCond .lt 24, 3) := by decide +kernel
theorem dX5_layCode_8 : decode cX5_layCode 8 = .ok (.aload_n 0, 1) := by decide +kernel
theorem dX5_layCode_9 : decode cX5_layCode 9 = .ok (.getfield 25, 3) := by decide +kernel
theorem dX5_layCode_12 : decode cX5_layCode 12 = .ok (.iload_n 3, 1) := by decide +kernel
theorem dX5_layCode_13 : decode cX5_layCode 13 = .ok (.iload_n 2, 1) := by decide +kernel
theorem dX5_layCode_14 : decode cX5_layCode 14 = .ok (.iconst 5, 1) := by decide +kernel
theorem dX5_layCode_15 : decode cX5_layCode 15 = .ok (.irem, 1) := by decide +kernel
theorem dX5_layCode_16 : decode cX5_layCode 16 = .ok (.iconst 1, 1) := by decide +kernel
theorem dX5_layCode_17 : decode cX5_layCode 17 = .ok (.isub, 1) := by decide +kernel
theorem dX5_layCode_18 : decode cX5_layCode 18 = .ok (.iastore, 1) := by decide +kernel
theorem dX5_layCode_19 : decode cX5_layCode 19 = .ok (.iload_n 2, 1) := by decide +kernel
theorem dX5_layCode_20 : decode cX5_layCode 20 = .ok (.iconst 5, 1) := by decide +kernel
theorem dX5_layCode_21 : decode cX5_layCode 21 = .ok (.idiv, 1) := by decide +kernel
theorem dX5_layCode_22 : decode cX5_layCode 22 = .ok (.istore_n 2, 1) := by decide +kernel
theorem dX5_layCode_23 : decode cX5_layCode 23 = .ok (.iinc 3 (-1), 3) := by decide +kernel
theorem dX5_layCode_26 : decode cX5_layCode 26 = .ok (.goto (-22), 3) := by decide +kernel
theorem dX5_layCode_29 : decode cX5_layCode 29 = .ok (.return_, 1) := by decide +kernel
theorem dX5_areThere_0 : decode cX5_areThere 0 = .ok (.iconst 1, 1) := by decide +kernel
theorem dX5_areThere_1 : decode cX5_areThere 1 = .ok (.istore_n 1, 1) := by decide +kernel
theorem dX5_areThere_2 : decode cX5_areThere 2 = .ok (.iconst 0, 1) := by decide +kernel
theorem dX5_areThere_3 : decode cX5_areThere 3 = .ok (.istore_n 2, 1) := by decide +kernel
theorem dX5_areThere_4 : decode cX5_areThere 4 = .ok (.iload_n 2, 1) := by decide +kernel
theorem dX5_areThere_5 : decode cX5_areThere 5 = .ok (.iconst 5, 1) := by decide +kernel
theorem dX5_areThere_6 : decode cX5_areThere 6 = .ok (.if_icmp .ge 79, 3) := by decide +kernel
theorem dX5_areThere_9 : decode cX5_areThere 9 = .ok (.iload_n 1, 1) := by decide +kernel
theorem dX5_areThere_10 : decode cX5_areThere 10 = .ok (.ifCond .eq 67, 3) := by decide +kernel
theorem dX5_areThere_13 : decode cX5_areThere 13 = .ok (.iload_n 2, 1) := by decide +kernel
theorem dX5_areThere_14 : decode cX5_areThere 14 = .ok (.aload_n 0, 1) := by decide +kernel
theorem dX5_areThere_15 : decode cX5_areThere 15 = .ok (.getfield 60, 3) := by decide +kernel
theorem dX5_areThere_18 : decode cX5_areThere 18 = .ok (.if_icmp .ge 19, 3) := by decide +kernel
theorem dX5_areThere_21 : decode cX5_areThere 21 = .ok (.aload_n 0, 1) := by decide +kernel
theorem dX5_areThere_22 : decode cX5_areThere 22 = .ok (.getfield 25, 3) := by decide +kernel
theorem dX5_areThere_25 : decode cX5_areThere 25 = .ok (.iload_n 2, 1) := by decide +kernel
theorem dX5_areThere_26 : decode cX5_areThere 26 = .ok (.iaload, 1) := by decide +kernel
theorem dX5_areThere_27 : decode cX5_areThere 27 = .ok (.aload_n 0, 1) := by decide +kernel
theorem dX5_areThere_28 : decode cX5_areThere 28 = .ok (.getfield 57, 3) := by decide +kernel
theorem dX5_areThere_31 : decode cX5_areThere 31 = .ok (.if_icmp .ge 46, 3) := by decide +kernel
theorem dX5_areThere_34 : decode cX5_areThere 34 = .ok (.goto 13, 3) := by decide +kernel
theorem dX5_areThere_37 : decode cX5_areThere 37 = .ok (.aload_n 0, 1) := by decide +kernel
theorem dX5_areThere_38 : decode cX5_areThere 38 = .ok (.getfield 25, 3) := by decide +kernel
theorem dX5_areThere_41 : decode cX5_areThere 41 = .ok (.iload_n 2, 1) := by decide +kernel
theorem dX5_areThere_42 : decode cX5_areThere 42 = .ok (.iaload, 1) := by decide +kernel
theorem dX5_areThere_43 : decode cX5_areThere 43 = .ok (.iconst (-1), 1) := by decide +kernel
theorem dX5_areThere_44 : decode cX5_areThere 44 = .ok (.if_icmp .ne 33, 3) := by decide +kernel
theorem dX5_areThere_47 : decode cX5_areThere 47 = .ok (.aload_n 0, 1) := by decide +kernel
theorem dX5_areThere_48 : decode cX5_areThere 48 = .ok (.getfield 66, 3) := by decide +kernel
theorem dX5_areThere_51 : decode cX5_areThere 51 = .ok (.iload_n 2, 1) := by decide +kernel
theorem dX5_areThere_52 : decode cX5_areThere 52 = .ok (.invokestatic 76, 3) := by decide +kernel
theorem dX5_areThere_55 : decode cX5_areThere 55 = .ok (.ifCond .eq 18, 3) := by decide +kernel
theorem dX5_areThere_58 : decode cX5_areThere 58 = .ok (.aload_n 0, 1) := by decide +kernel
theorem dX5_areThere_59 : decode cX5_areThere 59 = .ok (.getfield 25, 3) := by decide +kernel
theorem dX5_areThere_62 : decode cX5_areThere 62 = .ok (.iload_n 2, 1) := by decide +kernel
theorem dX5_areThere_63 : decode cX5_areThere 63 = .ok (.iaload, 1) := by decide +kernel
theorem dX5_areThere_64 : decode cX5_areThere 64 = .ok (.aload_n 0, 1) := by decide +kernel
theorem dX5_areThere_65 : decode cX5_areThere 65 = .ok (.getfield 19, 3) := by decide +kernel
theorem dX5_areThere_68 : decode cX5_areThere 68 = .ok (.iload_n 2, 1) := by decide +kernel
theorem dX5_areThere_69 : decode cX5_areThere 69 = .ok (.iaload, 1) := by decide +kernel
theorem dX5_areThere_70 : decode cX5_areThere 70 = .ok (.if_icmp .ne 7, 3) := by decide +kernel
theorem dX5_areThere_73 : decode cX5_areThere 73 = .ok (.iconst 1, 1) := by decide +kernel
theorem dX5_areThere_74 : decode cX5_areThere 74 = .ok (.goto 4, 3) := by decide +kernel
theorem dX5_areThere_77 : decode cX5_areThere 77 = .ok (.iconst 0, 1) := by decide +kernel
theorem dX5_areThere_78 : decode cX5_areThere 78 = .ok (.istore_n 1, 1) := by decide +kernel
theorem dX5_areThere_79 : decode cX5_areThere 79 = .ok (.iinc 2 1, 3) := by decide +kernel
theorem dX5_areThere_82 : decode cX5_areThere 82 = .ok (.goto (-78), 3) := by decide +kernel
theorem dX5_areThere_85 : decode cX5_areThere 85 = .ok (.iload_n 1, 1) := by decide +kernel
theorem dX5_areThere_86 : decode cX5_areThere 86 = .ok (.ireturn, 1) := by decide +kernel
theorem dX5_layBest_0 : decode cX5_layBest 0 = .ok (.aload_n 0, 1) := by decide +kernel
theorem dX5_layBest_1 : decode cX5_layBest 1 = .ok (.sipush (-1001), 3) := by decide +kernel
theorem dX5_layBest_4 : decode cX5_layBest 4 = .ok (.putfield 114, 3) := by decide +kernel
theorem dX5_layBest_7 : decode cX5_layBest 7 = .ok (.aload_n 0, 1) := by decide +kernel
theorem dX5_layBest_8 : decode cX5_layBest 8 = .ok (.sipush (-1001), 3) := by decide +kernel
theorem dX5_layBest_11 : decode cX5_layBest 11 = .ok (.putfield 117, 3) := by decide +kernel
theorem dX5_layBest_14 : decode cX5_layBest 14 = .ok (.iconst 0, 1) := by decide +kernel
theorem dX5_layBest_15 : decode cX5_layBest 15 = .ok (.istore_n 2, 1) := by decide +kernel
theorem dX5_layBest_16 : decode cX5_layBest 16 = .ok (.iload_n 2, 1) := by decide +kernel
theorem dX5_layBest_17 : decode cX5_layBest 17 = .ok (.sipush 3125, 3) := by decide +kernel
theorem dX5_layBest_20 : decode cX5_layBest 20 = .ok (.if_icmp .ge 100, 3) := by decide +kernel
theorem dX5_layBest_23 : decode cX5_layBest 23 = .ok (.aload_n 0, 1) := by decide +kernel
theorem dX5_layBest_24 : decode cX5_layBest 24 = .ok (.iload_n 2, 1) := by decide +kernel
theorem dX5_layBest_25 : decode cX5_layBest 25 = .ok (.invokevirtual 120, 3) := by decide +kernel
theorem dX5_layBest_28 : decode cX5_layBest 28 = .ok (.aload_n 0, 1) := by decide +kernel
theorem dX5_layBest_29 : decode cX5_layBest 29 = .ok (.getfield 28, 3) := by decide +kernel
theorem dX5_layBest_32 : decode cX5_layBest 32 = .ok (.iload_n 2, 1) := by decide +kernel
theorem dX5_layBest_33 : decode cX5_layBest 33 = .ok (.aload_n 0, 1) := by decide +kernel
theorem dX5_layBest_34 : decode cX5_layBest 34 = .ok (.invokevirtual 124, 3) := by decide +kernel
theorem dX5_layBest_37 : decode cX5_layBest 37 = .ok (.ifCond .eq 15, 3) := by decide +kernel
theorem dX5_layBest_40 : decode cX5_layBest 40 = .ok (.aload_n 0, 1) := by decide +kernel
theorem dX5_layBest_41 : decode cX5_layBest 41 = .ok (.iload_n 1, 1) := by decide +kernel
theorem dX5_layBest_42 : decode cX5_layBest 42 = .ok (.invokevirtual 93, 3) := by decide +kernel
theorem dX5_layBest_45 : decode cX5_layBest 45 = .ok (.ifCond .eq 7, 3) := by decide +kernel
theorem dX5_layBest_48 : decode cX5_layBest 48 = .ok (.iconst 1, 1) := by decide +kernel
theorem dX5_layBest_49 : decode cX5_layBest 49 = .ok (.goto 4, 3) := by decide +kernel
theorem dX5_layBest_52 : decode cX5_layBest 52 = .ok (.iconst 0, 1) := by decide +kernel
theorem dX5_layBest_53 : decode cX5_layBest 53 = .ok (.bastore, 1) := by decide +kernel
theorem dX5_layBest_54 : decode cX5_layBest 54 = .ok (.aload_n 0, 1) := by decide +kernel
theorem dX5_layBest_55 : decode cX5_layBest 55 = .ok (.getfield 28, 3) := by decide +kernel
theorem dX5_layBest_58 : decode cX5_layBest 58 = .ok (.iload_n 2, 1) := by decide +kernel
theorem dX5_layBest_59 : decode cX5_layBest 59 = .ok (.baload, 1) := by decide +kernel
theorem dX5_layBest_60 : decode cX5_layBest 60 = .ok (.ifCond .eq 10, 3) := by decide +kernel
theorem dX5_layBest_63 : decode cX5_layBest 63 = .ok (.aload_n 0, 1) := by decide +kernel
theorem dX5_layBest_64 : decode cX5_layBest 64 = .ok (.invokevirtual 128, 3) := by decide +kernel
theorem dX5_layBest_67 : decode cX5_layBest 67 = .ok (.goto 6, 3) := by decide +kernel
theorem dX5_layBest_70 : decode cX5_layBest 70 = .ok (.sipush (-1001), 3) := by decide +kernel
theorem dX5_layBest_73 : decode cX5_layBest 73 = .ok (.istore_n 3, 1) := by decide +kernel
theorem dX5_layBest_74 : decode cX5_layBest 74 = .ok (.aload_n 0, 1) := by decide +kernel
theorem dX5_layBest_75 : decode cX5_layBest 75 = .ok (.iload_n 3, 1) := by decide +kernel
theorem dX5_layBest_76 : decode cX5_layBest 76 = .ok (.aload_n 0, 1) := by decide +kernel
theorem dX5_layBest_77 : decode cX5_layBest 77 = .ok (.getfield 117, 3) := by decide +kernel
theorem dX5_layBest_80 : decode cX5_layBest 80 = .ok (.if_icmp .le 7, 3) := by decide +kernel
theorem dX5_layBest_83 : decode cX5_layBest 83 = .ok (.iload_n 2, 1) := by decide +kernel
theorem dX5_layBest_84 : decode cX5_layBest 84 = .ok (.goto 7, 3) := by decide +kernel
theorem dX5_layBest_87 : decode cX5_layBest 87 = .ok (.aload_n 0, 1) := by decide +kernel
theorem dX5_layBest_88 : decode cX5_layBest 88 = .ok (.getfield 114, 3) := by decide +kernel
theorem dX5_layBest_91 : decode cX5_layBest 91 = .ok (.putfield 114, 3) := by decide +kernel
theorem dX5_layBest_94 : decode cX5_layBest 94 = .ok (.aload_n 0, 1) := by decide +kernel
theorem dX5_layBest_95 : decode cX5_layBest 95 = .ok (.iload_n 3, 1) := by decide +kernel
theorem dX5_layBest_96 : decode cX5_layBest 96 = .ok (.aload_n 0, 1) := by decide +kernel
theorem dX5_layBest_97 : decode cX5_layBest 97 = .ok (.getfield 117, 3) := by decide +kernel
theorem dX5_layBest_100 : decode cX5_layBest 100 = .ok (.if_icmp .le 7, 3) := by decide +kernel
theorem dX5_layBest_103 : decode cX5_layBest 103 = .ok (.iload_n 3, 1) := by decide +kernel
theorem dX5_layBest_104 : decode cX5_layBest 104 = .ok (.goto 7, 3) := by decide +kernel
theorem dX5_layBest_107 : decode cX5_layBest 107 = .ok (.aload_n 0, 1) := by decide +kernel
theorem dX5_layBest_108 : decode cX5_layBest 108 = .ok (.getfield 117, 3) := by decide +kernel
theorem dX5_layBest_111 : decode cX5_layBest 111 = .ok (.putfield 117, 3) := by decide +kernel
theorem dX5_layBest_114 : decode cX5_layBest 114 = .ok (.iinc 2 1, 3) := by decide +kernel
theorem dX5_layBest_117 : decode cX5_layBest 117 = .ok (.goto (-101), 3) := by decide +kernel
theorem dX5_layBest_120 : decode cX5_layBest 120 = .ok (.return_, 1) := by decide +kernel
theorem dX5_boundNow_0 : decode cX5_boundNow 0 = .ok (.iconst 0, 1) := by decide +kernel
theorem dX5_boundNow_1 : decode cX5_boundNow 1 = .ok (.istore_n 1, 1) := by decide +kernel
theorem dX5_boundNow_2 : decode cX5_boundNow 2 = .ok (.iconst 0, 1) := by decide +kernel
theorem dX5_boundNow_3 : decode cX5_boundNow 3 = .ok (.istore_n 2, 1) := by decide +kernel
theorem dX5_boundNow_4 : decode cX5_boundNow 4 = .ok (.iload_n 2, 1) := by decide +kernel
theorem dX5_boundNow_5 : decode cX5_boundNow 5 = .ok (.aload_n 0, 1) := by decide +kernel
theorem dX5_boundNow_6 : decode cX5_boundNow 6 = .ok (.getfield 60, 3) := by decide +kernel
theorem dX5_boundNow_9 : decode cX5_boundNow 9 = .ok (.if_icmp .ge 106, 3) := by decide +kernel
theorem dX5_boundNow_12 : decode cX5_boundNow 12 = .ok (.aload_n 0, 1) := by decide +kernel
theorem dX5_boundNow_13 : decode cX5_boundNow 13 = .ok (.getfield 66, 3) := by decide +kernel
theorem dX5_boundNow_16 : decode cX5_boundNow 16 = .ok (.iload_n 2, 1) := by decide +kernel
theorem dX5_boundNow_17 : decode cX5_boundNow 17 = .ok (.invokestatic 76, 3) := by decide +kernel
theorem dX5_boundNow_20 : decode cX5_boundNow 20 = .ok (.ifCond .eq 17, 3) := by decide +kernel
theorem dX5_boundNow_23 : decode cX5_boundNow 23 = .ok (.aload_n 0, 1) := by decide +kernel
theorem dX5_boundNow_24 : decode cX5_boundNow 24 = .ok (.iload_n 2, 1) := by decide +kernel
theorem dX5_boundNow_25 : decode cX5_boundNow 25 = .ok (.aload_n 0, 1) := by decide +kernel
theorem dX5_boundNow_26 : decode cX5_boundNow 26 = .ok (.getfield 19, 3) := by decide +kernel
theorem dX5_boundNow_29 : decode cX5_boundNow 29 = .ok (.iload_n 2, 1) := by decide +kernel
theorem dX5_boundNow_30 : decode cX5_boundNow 30 = .ok (.iaload, 1) := by decide +kernel
theorem dX5_boundNow_31 : decode cX5_boundNow 31 = .ok (.invokevirtual 100, 3) := by decide +kernel
theorem dX5_boundNow_34 : decode cX5_boundNow 34 = .ok (.goto 4, 3) := by decide +kernel
theorem dX5_boundNow_37 : decode cX5_boundNow 37 = .ok (.iconst 0, 1) := by decide +kernel
theorem dX5_boundNow_38 : decode cX5_boundNow 38 = .ok (.istore_n 3, 1) := by decide +kernel
theorem dX5_boundNow_39 : decode cX5_boundNow 39 = .ok (.iconst 0, 1) := by decide +kernel
theorem dX5_boundNow_40 : decode cX5_boundNow 40 = .ok (.istore 4, 2) := by decide +kernel
theorem dX5_boundNow_42 : decode cX5_boundNow 42 = .ok (.iload 4, 2) := by decide +kernel
theorem dX5_boundNow_44 : decode cX5_boundNow 44 = .ok (.aload_n 0, 1) := by decide +kernel
theorem dX5_boundNow_45 : decode cX5_boundNow 45 = .ok (.getfield 57, 3) := by decide +kernel
theorem dX5_boundNow_48 : decode cX5_boundNow 48 = .ok (.if_icmp .ge 42, 3) := by decide +kernel
theorem dX5_boundNow_51 : decode cX5_boundNow 51 = .ok (.aload_n 0, 1) := by decide +kernel
theorem dX5_boundNow_52 : decode cX5_boundNow 52 = .ok (.getfield 66, 3) := by decide +kernel
theorem dX5_boundNow_55 : decode cX5_boundNow 55 = .ok (.iload_n 2, 1) := by decide +kernel
theorem dX5_boundNow_56 : decode cX5_boundNow 56 = .ok (.invokestatic 76, 3) := by decide +kernel
theorem dX5_boundNow_59 : decode cX5_boundNow 59 = .ok (.ifCond .ne 31, 3) := by decide +kernel
theorem dX5_boundNow_62 : decode cX5_boundNow 62 = .ok (.aload_n 0, 1) := by decide +kernel
theorem dX5_boundNow_63 : decode cX5_boundNow 63 = .ok (.iload_n 2, 1) := by decide +kernel
theorem dX5_boundNow_64 : decode cX5_boundNow 64 = .ok (.iload 4, 2) := by decide +kernel
theorem dX5_boundNow_66 : decode cX5_boundNow 66 = .ok (.invokevirtual 100, 3) := by decide +kernel
theorem dX5_boundNow_69 : decode cX5_boundNow 69 = .ok (.istore 5, 2) := by decide +kernel
theorem dX5_boundNow_71 : decode cX5_boundNow 71 = .ok (.iload 5, 2) := by decide +kernel
theorem dX5_boundNow_73 : decode cX5_boundNow 73 = .ok (.iload_n 3, 1) := by decide +kernel
theorem dX5_boundNow_74 : decode cX5_boundNow 74 = .ok (.if_icmp .le 8, 3) := by decide +kernel
theorem dX5_boundNow_77 : decode cX5_boundNow 77 = .ok (.iload 5, 2) := by decide +kernel
theorem dX5_boundNow_79 : decode cX5_boundNow 79 = .ok (.goto 4, 3) := by decide +kernel
theorem dX5_boundNow_82 : decode cX5_boundNow 82 = .ok (.iload_n 3, 1) := by decide +kernel
theorem dX5_boundNow_83 : decode cX5_boundNow 83 = .ok (.istore_n 3, 1) := by decide +kernel
theorem dX5_boundNow_84 : decode cX5_boundNow 84 = .ok (.iinc 4 1, 3) := by decide +kernel
theorem dX5_boundNow_87 : decode cX5_boundNow 87 = .ok (.goto (-45), 3) := by decide +kernel
theorem dX5_boundNow_90 : decode cX5_boundNow 90 = .ok (.iload_n 1, 1) := by decide +kernel
theorem dX5_boundNow_91 : decode cX5_boundNow 91 = .ok (.aload_n 0, 1) := by decide +kernel
theorem dX5_boundNow_92 : decode cX5_boundNow 92 = .ok (.getfield 63, 3) := by decide +kernel
theorem dX5_boundNow_95 : decode cX5_boundNow 95 = .ok (.iload_n 2, 1) := by decide +kernel
theorem dX5_boundNow_96 : decode cX5_boundNow 96 = .ok (.invokestatic 76, 3) := by decide +kernel
theorem dX5_boundNow_99 : decode cX5_boundNow 99 = .ok (.ifCond .eq 7, 3) := by decide +kernel
theorem dX5_boundNow_102 : decode cX5_boundNow 102 = .ok (.iconst 0, 1) := by decide +kernel
theorem dX5_boundNow_103 : decode cX5_boundNow 103 = .ok (.goto 4, 3) := by decide +kernel
theorem dX5_boundNow_106 : decode cX5_boundNow 106 = .ok (.iload_n 3, 1) := by decide +kernel
theorem dX5_boundNow_107 : decode cX5_boundNow 107 = .ok (.iadd, 1) := by decide +kernel
theorem dX5_boundNow_108 : decode cX5_boundNow 108 = .ok (.istore_n 1, 1) := by decide +kernel
theorem dX5_boundNow_109 : decode cX5_boundNow 109 = .ok (.iinc 2 1, 3) := by decide +kernel
theorem dX5_boundNow_112 : decode cX5_boundNow 112 = .ok (.goto (-108), 3) := by decide +kernel
theorem dX5_boundNow_115 : decode cX5_boundNow 115 = .ok (.iconst 0, 1) := by decide +kernel
theorem dX5_boundNow_116 : decode cX5_boundNow 116 = .ok (.istore_n 2, 1) := by decide +kernel
theorem dX5_boundNow_117 : decode cX5_boundNow 117 = .ok (.iconst 0, 1) := by decide +kernel
theorem dX5_boundNow_118 : decode cX5_boundNow 118 = .ok (.istore_n 3, 1) := by decide +kernel
theorem dX5_boundNow_119 : decode cX5_boundNow 119 = .ok (.iload_n 3, 1) := by decide +kernel
theorem dX5_boundNow_120 : decode cX5_boundNow 120 = .ok (.aload_n 0, 1) := by decide +kernel
theorem dX5_boundNow_121 : decode cX5_boundNow 121 = .ok (.getfield 57, 3) := by decide +kernel
theorem dX5_boundNow_124 : decode cX5_boundNow 124 = .ok (.if_icmp .ge 18, 3) := by decide +kernel
theorem dX5_boundNow_127 : decode cX5_boundNow 127 = .ok (.iload_n 2, 1) := by decide +kernel
theorem dX5_boundNow_128 : decode cX5_boundNow 128 = .ok (.aload_n 0, 1) := by decide +kernel
theorem dX5_boundNow_129 : decode cX5_boundNow 129 = .ok (.getfield 22, 3) := by decide +kernel
theorem dX5_boundNow_132 : decode cX5_boundNow 132 = .ok (.iload_n 3, 1) := by decide +kernel
theorem dX5_boundNow_133 : decode cX5_boundNow 133 = .ok (.iaload, 1) := by decide +kernel
theorem dX5_boundNow_134 : decode cX5_boundNow 134 = .ok (.iadd, 1) := by decide +kernel
theorem dX5_boundNow_135 : decode cX5_boundNow 135 = .ok (.istore_n 2, 1) := by decide +kernel
theorem dX5_boundNow_136 : decode cX5_boundNow 136 = .ok (.iinc 3 1, 3) := by decide +kernel
theorem dX5_boundNow_139 : decode cX5_boundNow 139 = .ok (.goto (-20), 3) := by decide +kernel
theorem dX5_boundNow_142 : decode cX5_boundNow 142 = .ok (.iload_n 1, 1) := by decide +kernel
theorem dX5_boundNow_143 : decode cX5_boundNow 143 = .ok (.iload_n 2, 1) := by decide +kernel
theorem dX5_boundNow_144 : decode cX5_boundNow 144 = .ok (.if_icmp .ge 7, 3) := by decide +kernel
theorem dX5_boundNow_147 : decode cX5_boundNow 147 = .ok (.iload_n 1, 1) := by decide +kernel
theorem dX5_boundNow_148 : decode cX5_boundNow 148 = .ok (.goto 4, 3) := by decide +kernel
theorem dX5_boundNow_151 : decode cX5_boundNow 151 = .ok (.iload_n 2, 1) := by decide +kernel
theorem dX5_boundNow_152 : decode cX5_boundNow 152 = .ok (.ireturn, 1) := by decide +kernel
theorem dX5_bestNow_0 : decode cX5_bestNow 0 = .ok (.aload_n 0, 1) := by decide +kernel
theorem dX5_bestNow_1 : decode cX5_bestNow 1 = .ok (.getfield 114, 3) := by decide +kernel
theorem dX5_bestNow_4 : decode cX5_bestNow 4 = .ok (.sipush (-1001), 3) := by decide +kernel
theorem dX5_bestNow_7 : decode cX5_bestNow 7 = .ok (.if_icmp .eq 7, 3) := by decide +kernel
theorem dX5_bestNow_10 : decode cX5_bestNow 10 = .ok (.iload_n 1, 1) := by decide +kernel
theorem dX5_bestNow_11 : decode cX5_bestNow 11 = .ok (.ifCond .ne 8, 3) := by decide +kernel
theorem dX5_bestNow_14 : decode cX5_bestNow 14 = .ok (.aload_n 0, 1) := by decide +kernel
theorem dX5_bestNow_15 : decode cX5_bestNow 15 = .ok (.getfield 117, 3) := by decide +kernel
theorem dX5_bestNow_18 : decode cX5_bestNow 18 = .ok (.ireturn, 1) := by decide +kernel
theorem dX5_bestNow_19 : decode cX5_bestNow 19 = .ok (.aload_n 0, 1) := by decide +kernel
theorem dX5_bestNow_20 : decode cX5_bestNow 20 = .ok (.aload_n 0, 1) := by decide +kernel
theorem dX5_bestNow_21 : decode cX5_bestNow 21 = .ok (.getfield 114, 3) := by decide +kernel
theorem dX5_bestNow_24 : decode cX5_bestNow 24 = .ok (.invokevirtual 120, 3) := by decide +kernel
theorem dX5_bestNow_27 : decode cX5_bestNow 27 = .ok (.iload_n 1, 1) := by decide +kernel
theorem dX5_bestNow_28 : decode cX5_bestNow 28 = .ok (.iconst 1, 1) := by decide +kernel
theorem dX5_bestNow_29 : decode cX5_bestNow 29 = .ok (.if_icmp .ne 15, 3) := by decide +kernel
theorem dX5_bestNow_32 : decode cX5_bestNow 32 = .ok (.aload_n 0, 1) := by decide +kernel
theorem dX5_bestNow_33 : decode cX5_bestNow 33 = .ok (.invokevirtual 131, 3) := by decide +kernel
theorem dX5_bestNow_36 : decode cX5_bestNow 36 = .ok (.aload_n 0, 1) := by decide +kernel
theorem dX5_bestNow_37 : decode cX5_bestNow 37 = .ok (.getfield 117, 3) := by decide +kernel
theorem dX5_bestNow_40 : decode cX5_bestNow 40 = .ok (.isub, 1) := by decide +kernel
theorem dX5_bestNow_41 : decode cX5_bestNow 41 = .ok (.goto 29, 3) := by decide +kernel
theorem dX5_bestNow_44 : decode cX5_bestNow 44 = .ok (.aload_n 0, 1) := by decide +kernel
theorem dX5_bestNow_45 : decode cX5_bestNow 45 = .ok (.iload_n 1, 1) := by decide +kernel
theorem dX5_bestNow_46 : decode cX5_bestNow 46 = .ok (.bipush 10, 2) := by decide +kernel
theorem dX5_bestNow_48 : decode cX5_bestNow 48 = .ok (.isub, 1) := by decide +kernel
theorem dX5_bestNow_49 : decode cX5_bestNow 49 = .ok (.invokevirtual 87, 3) := by decide +kernel
theorem dX5_bestNow_52 : decode cX5_bestNow 52 = .ok (.ifCond .eq 15, 3) := by decide +kernel
theorem dX5_bestNow_55 : decode cX5_bestNow 55 = .ok (.aload_n 0, 1) := by decide +kernel
theorem dX5_bestNow_56 : decode cX5_bestNow 56 = .ok (.getfield 25, 3) := by decide +kernel
theorem dX5_bestNow_59 : decode cX5_bestNow 59 = .ok (.iload_n 1, 1) := by decide +kernel
theorem dX5_bestNow_60 : decode cX5_bestNow 60 = .ok (.bipush 10, 2) := by decide +kernel
theorem dX5_bestNow_62 : decode cX5_bestNow 62 = .ok (.isub, 1) := by decide +kernel
theorem dX5_bestNow_63 : decode cX5_bestNow 63 = .ok (.iaload, 1) := by decide +kernel
theorem dX5_bestNow_64 : decode cX5_bestNow 64 = .ok (.goto 6, 3) := by decide +kernel
theorem dX5_bestNow_67 : decode cX5_bestNow 67 = .ok (.sipush (-1001), 3) := by decide +kernel
theorem dX5_bestNow_70 : decode cX5_bestNow 70 = .ok (.ireturn, 1) := by decide +kernel
theorem dX5_best_0 : decode cX5_best 0 = .ok (.aload_n 0, 1) := by decide +kernel
theorem dX5_best_1 : decode cX5_best 1 = .ok (.getfield 60, 3) := by decide +kernel
theorem dX5_best_4 : decode cX5_best 4 = .ok (.ifCond .ne 7, 3) := by decide +kernel
theorem dX5_best_7 : decode cX5_best 7 = .ok (.sipush (-1004), 3) := by decide +kernel
theorem dX5_best_10 : decode cX5_best 10 = .ok (.ireturn, 1) := by decide +kernel
theorem dX5_best_11 : decode cX5_best 11 = .ok (.iload_n 2, 1) := by decide +kernel
theorem dX5_best_12 : decode cX5_best 12 = .ok (.iconst 0, 1) := by decide +kernel
theorem dX5_best_13 : decode cX5_best 13 = .ok (.iconst 1, 1) := by decide +kernel
theorem dX5_best_14 : decode cX5_best 14 = .ok (.invokestatic 41, 3) := by decide +kernel
theorem dX5_best_17 : decode cX5_best 17 = .ok (.ifCond .ne 18, 3) := by decide +kernel
theorem dX5_best_20 : decode cX5_best 20 = .ok (.iload_n 2, 1) := by decide +kernel
theorem dX5_best_21 : decode cX5_best 21 = .ok (.bipush 10, 2) := by decide +kernel
theorem dX5_best_23 : decode cX5_best 23 = .ok (.bipush 14, 2) := by decide +kernel
theorem dX5_best_25 : decode cX5_best 25 = .ok (.invokestatic 41, 3) := by decide +kernel
theorem dX5_best_28 : decode cX5_best 28 = .ok (.ifCond .ne 7, 3) := by decide +kernel
theorem dX5_best_31 : decode cX5_best 31 = .ok (.sipush (-1003), 3) := by decide +kernel
theorem dX5_best_34 : decode cX5_best 34 = .ok (.ireturn, 1) := by decide +kernel
theorem dX5_best_35 : decode cX5_best 35 = .ok (.aload_n 0, 1) := by decide +kernel
theorem dX5_best_36 : decode cX5_best 36 = .ok (.iload_n 1, 1) := by decide +kernel
theorem dX5_best_37 : decode cX5_best 37 = .ok (.invokevirtual 134, 3) := by decide +kernel
theorem dX5_best_40 : decode cX5_best 40 = .ok (.aload_n 0, 1) := by decide +kernel
theorem dX5_best_41 : decode cX5_best 41 = .ok (.iload_n 2, 1) := by decide +kernel
theorem dX5_best_42 : decode cX5_best 42 = .ok (.invokevirtual 138, 3) := by decide +kernel
theorem dX5_best_45 : decode cX5_best 45 = .ok (.ireturn, 1) := by decide +kernel
theorem dX5_figure_0 : decode cX5_figure 0 = .ok (.iload_n 0, 1) := by decide +kernel
theorem dX5_figure_1 : decode cX5_figure 1 = .ok (.iload_n 1, 1) := by decide +kernel
theorem dX5_figure_2 : decode cX5_figure 2 = .ok (.idiv, 1) := by decide +kernel
theorem dX5_figure_3 : decode cX5_figure 3 = .ok (.iconst 5, 1) := by decide +kernel
theorem dX5_figure_4 : decode cX5_figure 4 = .ok (.irem, 1) := by decide +kernel
theorem dX5_figure_5 : decode cX5_figure 5 = .ok (.ireturn, 1) := by decide +kernel
theorem dX5_layFar_0 : decode cX5_layFar 0 = .ok (.iconst 0, 1) := by decide +kernel
theorem dX5_layFar_1 : decode cX5_layFar 1 = .ok (.istore_n 1, 1) := by decide +kernel
theorem dX5_layFar_2 : decode cX5_layFar 2 = .ok (.iload_n 1, 1) := by decide +kernel
theorem dX5_layFar_3 : decode cX5_layFar 3 = .ok (.sipush 3125, 3) := by decide +kernel
theorem dX5_layFar_6 : decode cX5_layFar 6 = .ok (.if_icmp .ge 18, 3) := by decide +kernel
theorem dX5_layFar_9 : decode cX5_layFar 9 = .ok (.aload_n 0, 1) := by decide +kernel
theorem dX5_layFar_10 : decode cX5_layFar 10 = .ok (.getfield 32, 3) := by decide +kernel
theorem dX5_layFar_13 : decode cX5_layFar 13 = .ok (.iload_n 1, 1) := by decide +kernel
theorem dX5_layFar_14 : decode cX5_layFar 14 = .ok (.sipush (-1001), 3) := by decide +kernel
theorem dX5_layFar_17 : decode cX5_layFar 17 = .ok (.iastore, 1) := by decide +kernel
theorem dX5_layFar_18 : decode cX5_layFar 18 = .ok (.iinc 1 1, 3) := by decide +kernel
theorem dX5_layFar_21 : decode cX5_layFar 21 = .ok (.goto (-19), 3) := by decide +kernel
theorem dX5_layFar_24 : decode cX5_layFar 24 = .ok (.iconst 0, 1) := by decide +kernel
theorem dX5_layFar_25 : decode cX5_layFar 25 = .ok (.istore_n 1, 1) := by decide +kernel
theorem dX5_layFar_26 : decode cX5_layFar 26 = .ok (.aload_n 0, 1) := by decide +kernel
theorem dX5_layFar_27 : decode cX5_layFar 27 = .ok (.getfield 114, 3) := by decide +kernel
theorem dX5_layFar_30 : decode cX5_layFar 30 = .ok (.sipush (-1001), 3) := by decide +kernel
theorem dX5_layFar_33 : decode cX5_layFar 33 = .ok (.if_icmp .eq 25, 3) := by decide +kernel
theorem dX5_layFar_36 : decode cX5_layFar 36 = .ok (.aload_n 0, 1) := by decide +kernel
theorem dX5_layFar_37 : decode cX5_layFar 37 = .ok (.getfield 32, 3) := by decide +kernel
theorem dX5_layFar_40 : decode cX5_layFar 40 = .ok (.aload_n 0, 1) := by decide +kernel
theorem dX5_layFar_41 : decode cX5_layFar 41 = .ok (.getfield 114, 3) := by decide +kernel
theorem dX5_layFar_44 : decode cX5_layFar 44 = .ok (.iconst 0, 1) := by decide +kernel
theorem dX5_layFar_45 : decode cX5_layFar 45 = .ok (.iastore, 1) := by decide +kernel
theorem dX5_layFar_46 : decode cX5_layFar 46 = .ok (.aload_n 0, 1) := by decide +kernel
theorem dX5_layFar_47 : decode cX5_layFar 47 = .ok (.getfield 35, 3) := by decide +kernel
theorem dX5_layFar_50 : decode cX5_layFar 50 = .ok (.iconst 0, 1) := by decide +kernel
theorem dX5_layFar_51 : decode cX5_layFar 51 = .ok (.aload_n 0, 1) := by decide +kernel
theorem dX5_layFar_52 : decode cX5_layFar 52 = .ok (.getfield 114, 3) := by decide +kernel
theorem dX5_layFar_55 : decode cX5_layFar 55 = .ok (.iastore, 1) := by decide +kernel
theorem dX5_layFar_56 : decode cX5_layFar 56 = .ok (.iconst 1, 1) := by decide +kernel
theorem dX5_layFar_57 : decode cX5_layFar 57 = .ok (.istore_n 1, 1) := by decide +kernel
theorem dX5_layFar_58 : decode cX5_layFar 58 = .ok (.iconst 0, 1) := by decide +kernel
theorem dX5_layFar_59 : decode cX5_layFar 59 = .ok (.istore_n 2, 1) := by decide +kernel
theorem dX5_layFar_60 : decode cX5_layFar 60 = .ok (.iload_n 2, 1) := by decide +kernel
theorem dX5_layFar_61 : decode cX5_layFar 61 = .ok (.iload_n 1, 1) := by decide +kernel
theorem dX5_layFar_62 : decode cX5_layFar 62 = .ok (.if_icmp .ge 132, 3) := by decide +kernel
theorem dX5_layFar_65 : decode cX5_layFar 65 = .ok (.aload_n 0, 1) := by decide +kernel
theorem dX5_layFar_66 : decode cX5_layFar 66 = .ok (.getfield 35, 3) := by decide +kernel
theorem dX5_layFar_69 : decode cX5_layFar 69 = .ok (.iload_n 2, 1) := by decide +kernel
theorem dX5_layFar_70 : decode cX5_layFar 70 = .ok (.iaload, 1) := by decide +kernel
theorem dX5_layFar_71 : decode cX5_layFar 71 = .ok (.istore_n 3, 1) := by decide +kernel
theorem dX5_layFar_72 : decode cX5_layFar 72 = .ok (.iconst 0, 1) := by decide +kernel
theorem dX5_layFar_73 : decode cX5_layFar 73 = .ok (.istore 4, 2) := by decide +kernel
theorem dX5_layFar_75 : decode cX5_layFar 75 = .ok (.iload 4, 2) := by decide +kernel
theorem dX5_layFar_77 : decode cX5_layFar 77 = .ok (.aload_n 0, 1) := by decide +kernel
theorem dX5_layFar_78 : decode cX5_layFar 78 = .ok (.getfield 60, 3) := by decide +kernel
theorem dX5_layFar_81 : decode cX5_layFar 81 = .ok (.if_icmp .ge 107, 3) := by decide +kernel
theorem dX5_layFar_84 : decode cX5_layFar 84 = .ok (.aload_n 0, 1) := by decide +kernel
theorem dX5_layFar_85 : decode cX5_layFar 85 = .ok (.iload 4, 2) := by decide +kernel
theorem dX5_layFar_87 : decode cX5_layFar 87 = .ok (.invokevirtual 141, 3) := by decide +kernel
theorem dX5_layFar_90 : decode cX5_layFar 90 = .ok (.istore 5, 2) := by decide +kernel
theorem dX5_layFar_92 : decode cX5_layFar 92 = .ok (.iload_n 3, 1) := by decide +kernel
theorem dX5_layFar_93 : decode cX5_layFar 93 = .ok (.iload 5, 2) := by decide +kernel
theorem dX5_layFar_95 : decode cX5_layFar 95 = .ok (.iload_n 3, 1) := by decide +kernel
theorem dX5_layFar_96 : decode cX5_layFar 96 = .ok (.iload 5, 2) := by decide +kernel
theorem dX5_layFar_98 : decode cX5_layFar 98 = .ok (.invokestatic 144, 3) := by decide +kernel
theorem dX5_layFar_101 : decode cX5_layFar 101 = .ok (.imul, 1) := by decide +kernel
theorem dX5_layFar_102 : decode cX5_layFar 102 = .ok (.isub, 1) := by decide +kernel
theorem dX5_layFar_103 : decode cX5_layFar 103 = .ok (.istore 6, 2) := by decide +kernel
theorem dX5_layFar_105 : decode cX5_layFar 105 = .ok (.iconst 0, 1) := by decide +kernel
theorem dX5_layFar_106 : decode cX5_layFar 106 = .ok (.istore 7, 2) := by decide +kernel
theorem dX5_layFar_108 : decode cX5_layFar 108 = .ok (.iload 7, 2) := by decide +kernel
theorem dX5_layFar_110 : decode cX5_layFar 110 = .ok (.aload_n 0, 1) := by decide +kernel
theorem dX5_layFar_111 : decode cX5_layFar 111 = .ok (.getfield 57, 3) := by decide +kernel
theorem dX5_layFar_114 : decode cX5_layFar 114 = .ok (.if_icmp .gt 68, 3) := by decide +kernel
theorem dX5_layFar_117 : decode cX5_layFar 117 = .ok (.iload 6, 2) := by decide +kernel
theorem dX5_layFar_119 : decode cX5_layFar 119 = .ok (.iload 5, 2) := by decide +kernel
theorem dX5_layFar_121 : decode cX5_layFar 121 = .ok (.iload 7, 2) := by decide +kernel
theorem dX5_layFar_123 : decode cX5_layFar 123 = .ok (.imul, 1) := by decide +kernel
theorem dX5_layFar_124 : decode cX5_layFar 124 = .ok (.iadd, 1) := by decide +kernel
theorem dX5_layFar_125 : decode cX5_layFar 125 = .ok (.istore 8, 2) := by decide +kernel
theorem dX5_layFar_127 : decode cX5_layFar 127 = .ok (.aload_n 0, 1) := by decide +kernel
theorem dX5_layFar_128 : decode cX5_layFar 128 = .ok (.getfield 28, 3) := by decide +kernel
theorem dX5_layFar_131 : decode cX5_layFar 131 = .ok (.iload 8, 2) := by decide +kernel
theorem dX5_layFar_133 : decode cX5_layFar 133 = .ok (.baload, 1) := by decide +kernel
theorem dX5_layFar_134 : decode cX5_layFar 134 = .ok (.ifCond .eq 42, 3) := by decide +kernel
theorem dX5_layFar_137 : decode cX5_layFar 137 = .ok (.aload_n 0, 1) := by decide +kernel
theorem dX5_layFar_138 : decode cX5_layFar 138 = .ok (.getfield 32, 3) := by decide +kernel
theorem dX5_layFar_141 : decode cX5_layFar 141 = .ok (.iload 8, 2) := by decide +kernel
theorem dX5_layFar_143 : decode cX5_layFar 143 = .ok (.iaload, 1) := by decide +kernel
theorem dX5_layFar_144 : decode cX5_layFar 144 = .ok (.sipush (-1001), 3) := by decide +kernel
theorem dX5_layFar_147 : decode cX5_layFar 147 = .ok (.if_icmp .ne 29, 3) := by decide +kernel
theorem dX5_layFar_150 : decode cX5_layFar 150 = .ok (.aload_n 0, 1) := by decide +kernel
theorem dX5_layFar_151 : decode cX5_layFar 151 = .ok (.getfield 32, 3) := by decide +kernel
theorem dX5_layFar_154 : decode cX5_layFar 154 = .ok (.iload 8, 2) := by decide +kernel
theorem dX5_layFar_156 : decode cX5_layFar 156 = .ok (.aload_n 0, 1) := by decide +kernel
theorem dX5_layFar_157 : decode cX5_layFar 157 = .ok (.getfield 32, 3) := by decide +kernel
theorem dX5_layFar_160 : decode cX5_layFar 160 = .ok (.iload_n 3, 1) := by decide +kernel
theorem dX5_layFar_161 : decode cX5_layFar 161 = .ok (.iaload, 1) := by decide +kernel
theorem dX5_layFar_162 : decode cX5_layFar 162 = .ok (.iconst 1, 1) := by decide +kernel
theorem dX5_layFar_163 : decode cX5_layFar 163 = .ok (.iadd, 1) := by decide +kernel
theorem dX5_layFar_164 : decode cX5_layFar 164 = .ok (.iastore, 1) := by decide +kernel
theorem dX5_layFar_165 : decode cX5_layFar 165 = .ok (.aload_n 0, 1) := by decide +kernel
theorem dX5_layFar_166 : decode cX5_layFar 166 = .ok (.getfield 35, 3) := by decide +kernel
theorem dX5_layFar_169 : decode cX5_layFar 169 = .ok (.iload_n 1, 1) := by decide +kernel
theorem dX5_layFar_170 : decode cX5_layFar 170 = .ok (.iload 8, 2) := by decide +kernel
theorem dX5_layFar_172 : decode cX5_layFar 172 = .ok (.iastore, 1) := by decide +kernel
theorem dX5_layFar_173 : decode cX5_layFar 173 = .ok (.iinc 1 1, 3) := by decide +kernel
theorem dX5_layFar_176 : decode cX5_layFar 176 = .ok (.iinc 7 1, 3) := by decide +kernel
theorem dX5_layFar_179 : decode cX5_layFar 179 = .ok (.goto (-71), 3) := by decide +kernel
theorem dX5_layFar_182 : decode cX5_layFar 182 = .ok (.iinc 4 1, 3) := by decide +kernel
theorem dX5_layFar_185 : decode cX5_layFar 185 = .ok (.goto (-110), 3) := by decide +kernel
theorem dX5_layFar_188 : decode cX5_layFar 188 = .ok (.iinc 2 1, 3) := by decide +kernel
theorem dX5_layFar_191 : decode cX5_layFar 191 = .ok (.goto (-131), 3) := by decide +kernel
theorem dX5_layFar_194 : decode cX5_layFar 194 = .ok (.return_, 1) := by decide +kernel
theorem dX5_moveFrom_0 : decode cX5_moveFrom 0 = .ok (.iconst 0, 1) := by decide +kernel
theorem dX5_moveFrom_1 : decode cX5_moveFrom 1 = .ok (.istore_n 3, 1) := by decide +kernel
theorem dX5_moveFrom_2 : decode cX5_moveFrom 2 = .ok (.iload_n 3, 1) := by decide +kernel
theorem dX5_moveFrom_3 : decode cX5_moveFrom 3 = .ok (.aload_n 0, 1) := by decide +kernel
theorem dX5_moveFrom_4 : decode cX5_moveFrom 4 = .ok (.getfield 60, 3) := by decide +kernel
theorem dX5_moveFrom_7 : decode cX5_moveFrom 7 = .ok (.if_icmp .ge 96, 3) := by decide +kernel
theorem dX5_moveFrom_10 : decode cX5_moveFrom 10 = .ok (.aload_n 0, 1) := by decide +kernel
theorem dX5_moveFrom_11 : decode cX5_moveFrom 11 = .ok (.iload_n 3, 1) := by decide +kernel
theorem dX5_moveFrom_12 : decode cX5_moveFrom 12 = .ok (.invokevirtual 141, 3) := by decide +kernel
theorem dX5_moveFrom_15 : decode cX5_moveFrom 15 = .ok (.istore 4, 2) := by decide +kernel
theorem dX5_moveFrom_17 : decode cX5_moveFrom 17 = .ok (.iconst 0, 1) := by decide +kernel
theorem dX5_moveFrom_18 : decode cX5_moveFrom 18 = .ok (.istore 5, 2) := by decide +kernel
theorem dX5_moveFrom_20 : decode cX5_moveFrom 20 = .ok (.iload 5, 2) := by decide +kernel
theorem dX5_moveFrom_22 : decode cX5_moveFrom 22 = .ok (.aload_n 0, 1) := by decide +kernel
theorem dX5_moveFrom_23 : decode cX5_moveFrom 23 = .ok (.getfield 57, 3) := by decide +kernel
theorem dX5_moveFrom_26 : decode cX5_moveFrom 26 = .ok (.if_icmp .gt 71, 3) := by decide +kernel
theorem dX5_moveFrom_29 : decode cX5_moveFrom 29 = .ok (.aload_n 0, 1) := by decide +kernel
theorem dX5_moveFrom_30 : decode cX5_moveFrom 30 = .ok (.getfield 66, 3) := by decide +kernel
theorem dX5_moveFrom_33 : decode cX5_moveFrom 33 = .ok (.iload_n 3, 1) := by decide +kernel
theorem dX5_moveFrom_34 : decode cX5_moveFrom 34 = .ok (.invokestatic 76, 3) := by decide +kernel
theorem dX5_moveFrom_37 : decode cX5_moveFrom 37 = .ok (.ifCond .ne 60, 3) := by decide +kernel
theorem dX5_moveFrom_40 : decode cX5_moveFrom 40 = .ok (.iload_n 1, 1) := by decide +kernel
theorem dX5_moveFrom_41 : decode cX5_moveFrom 41 = .ok (.iload 4, 2) := by decide +kernel
theorem dX5_moveFrom_43 : decode cX5_moveFrom 43 = .ok (.iload 5, 2) := by decide +kernel
theorem dX5_moveFrom_45 : decode cX5_moveFrom 45 = .ok (.iload_n 1, 1) := by decide +kernel
theorem dX5_moveFrom_46 : decode cX5_moveFrom 46 = .ok (.iload 4, 2) := by decide +kernel
theorem dX5_moveFrom_48 : decode cX5_moveFrom 48 = .ok (.invokestatic 144, 3) := by decide +kernel
theorem dX5_moveFrom_51 : decode cX5_moveFrom 51 = .ok (.isub, 1) := by decide +kernel
theorem dX5_moveFrom_52 : decode cX5_moveFrom 52 = .ok (.imul, 1) := by decide +kernel
theorem dX5_moveFrom_53 : decode cX5_moveFrom 53 = .ok (.iadd, 1) := by decide +kernel
theorem dX5_moveFrom_54 : decode cX5_moveFrom 54 = .ok (.istore 6, 2) := by decide +kernel
theorem dX5_moveFrom_56 : decode cX5_moveFrom 56 = .ok (.iload 6, 2) := by decide +kernel
theorem dX5_moveFrom_58 : decode cX5_moveFrom 58 = .ok (.iload_n 1, 1) := by decide +kernel
theorem dX5_moveFrom_59 : decode cX5_moveFrom 59 = .ok (.if_icmp .eq 32, 3) := by decide +kernel
theorem dX5_moveFrom_62 : decode cX5_moveFrom 62 = .ok (.aload_n 0, 1) := by decide +kernel
theorem dX5_moveFrom_63 : decode cX5_moveFrom 63 = .ok (.getfield 28, 3) := by decide +kernel
theorem dX5_moveFrom_66 : decode cX5_moveFrom 66 = .ok (.iload 6, 2) := by decide +kernel
theorem dX5_moveFrom_68 : decode cX5_moveFrom 68 = .ok (.baload, 1) := by decide +kernel
theorem dX5_moveFrom_69 : decode cX5_moveFrom 69 = .ok (.ifCond .eq 22, 3) := by decide +kernel
theorem dX5_moveFrom_72 : decode cX5_moveFrom 72 = .ok (.aload_n 0, 1) := by decide +kernel
theorem dX5_moveFrom_73 : decode cX5_moveFrom 73 = .ok (.getfield 32, 3) := by decide +kernel
theorem dX5_moveFrom_76 : decode cX5_moveFrom 76 = .ok (.iload 6, 2) := by decide +kernel
theorem dX5_moveFrom_78 : decode cX5_moveFrom 78 = .ok (.iaload, 1) := by decide +kernel
theorem dX5_moveFrom_79 : decode cX5_moveFrom 79 = .ok (.iload_n 2, 1) := by decide +kernel
theorem dX5_moveFrom_80 : decode cX5_moveFrom 80 = .ok (.if_icmp .ne 11, 3) := by decide +kernel
theorem dX5_moveFrom_83 : decode cX5_moveFrom 83 = .ok (.bipush 8, 2) := by decide +kernel
theorem dX5_moveFrom_85 : decode cX5_moveFrom 85 = .ok (.iload_n 3, 1) := by decide +kernel
theorem dX5_moveFrom_86 : decode cX5_moveFrom 86 = .ok (.imul, 1) := by decide +kernel
theorem dX5_moveFrom_87 : decode cX5_moveFrom 87 = .ok (.iload 5, 2) := by decide +kernel
theorem dX5_moveFrom_89 : decode cX5_moveFrom 89 = .ok (.iadd, 1) := by decide +kernel
theorem dX5_moveFrom_90 : decode cX5_moveFrom 90 = .ok (.ireturn, 1) := by decide +kernel
theorem dX5_moveFrom_91 : decode cX5_moveFrom 91 = .ok (.iinc 5 1, 3) := by decide +kernel
theorem dX5_moveFrom_94 : decode cX5_moveFrom 94 = .ok (.goto (-74), 3) := by decide +kernel
theorem dX5_moveFrom_97 : decode cX5_moveFrom 97 = .ok (.iinc 3 1, 3) := by decide +kernel
theorem dX5_moveFrom_100 : decode cX5_moveFrom 100 = .ok (.goto (-98), 3) := by decide +kernel
theorem dX5_moveFrom_103 : decode cX5_moveFrom 103 = .ok (.sipush (-1001), 3) := by decide +kernel
theorem dX5_moveFrom_106 : decode cX5_moveFrom 106 = .ok (.ireturn, 1) := by decide +kernel
theorem dX5_moved_0 : decode cX5_moved 0 = .ok (.aload_n 0, 1) := by decide +kernel
theorem dX5_moved_1 : decode cX5_moved 1 = .ok (.iload_n 2, 1) := by decide +kernel
theorem dX5_moved_2 : decode cX5_moved 2 = .ok (.bipush 8, 2) := by decide +kernel
theorem dX5_moved_4 : decode cX5_moved 4 = .ok (.idiv, 1) := by decide +kernel
theorem dX5_moved_5 : decode cX5_moved 5 = .ok (.invokevirtual 141, 3) := by decide +kernel
theorem dX5_moved_8 : decode cX5_moved 8 = .ok (.istore_n 3, 1) := by decide +kernel
theorem dX5_moved_9 : decode cX5_moved 9 = .ok (.iload_n 1, 1) := by decide +kernel
theorem dX5_moved_10 : decode cX5_moved 10 = .ok (.iload_n 3, 1) := by decide +kernel
theorem dX5_moved_11 : decode cX5_moved 11 = .ok (.iload_n 2, 1) := by decide +kernel
theorem dX5_moved_12 : decode cX5_moved 12 = .ok (.bipush 8, 2) := by decide +kernel
theorem dX5_moved_14 : decode cX5_moved 14 = .ok (.irem, 1) := by decide +kernel
theorem dX5_moved_15 : decode cX5_moved 15 = .ok (.iload_n 1, 1) := by decide +kernel
theorem dX5_moved_16 : decode cX5_moved 16 = .ok (.iload_n 3, 1) := by decide +kernel
theorem dX5_moved_17 : decode cX5_moved 17 = .ok (.invokestatic 144, 3) := by decide +kernel
theorem dX5_moved_20 : decode cX5_moved 20 = .ok (.isub, 1) := by decide +kernel
theorem dX5_moved_21 : decode cX5_moved 21 = .ok (.imul, 1) := by decide +kernel
theorem dX5_moved_22 : decode cX5_moved 22 = .ok (.iadd, 1) := by decide +kernel
theorem dX5_moved_23 : decode cX5_moved 23 = .ok (.ireturn, 1) := by decide +kernel
theorem dX5_layChange_0 : decode cX5_layChange 0 = .ok (.aload_n 0, 1) := by decide +kernel
theorem dX5_layChange_1 : decode cX5_layChange 1 = .ok (.iload_n 1, 1) := by decide +kernel
theorem dX5_layChange_2 : decode cX5_layChange 2 = .ok (.invokevirtual 134, 3) := by decide +kernel
theorem dX5_layChange_5 : decode cX5_layChange 5 = .ok (.aload_n 0, 1) := by decide +kernel
theorem dX5_layChange_6 : decode cX5_layChange 6 = .ok (.invokevirtual 147, 3) := by decide +kernel
theorem dX5_layChange_9 : decode cX5_layChange 9 = .ok (.aload_n 0, 1) := by decide +kernel
theorem dX5_layChange_10 : decode cX5_layChange 10 = .ok (.invokevirtual 90, 3) := by decide +kernel
theorem dX5_layChange_13 : decode cX5_layChange 13 = .ok (.aload_n 0, 1) := by decide +kernel
theorem dX5_layChange_14 : decode cX5_layChange 14 = .ok (.invokevirtual 150, 3) := by decide +kernel
theorem dX5_layChange_17 : decode cX5_layChange 17 = .ok (.istore_n 2, 1) := by decide +kernel
theorem dX5_layChange_18 : decode cX5_layChange 18 = .ok (.aload_n 0, 1) := by decide +kernel
theorem dX5_layChange_19 : decode cX5_layChange 19 = .ok (.iload_n 2, 1) := by decide +kernel
theorem dX5_layChange_20 : decode cX5_layChange 20 = .ok (.aload_n 0, 1) := by decide +kernel
theorem dX5_layChange_21 : decode cX5_layChange 21 = .ok (.getfield 114, 3) := by decide +kernel
theorem dX5_layChange_24 : decode cX5_layChange 24 = .ok (.if_icmp .ne 7, 3) := by decide +kernel
theorem dX5_layChange_27 : decode cX5_layChange 27 = .ok (.iconst 0, 1) := by decide +kernel
theorem dX5_layChange_28 : decode cX5_layChange 28 = .ok (.goto 6, 3) := by decide +kernel
theorem dX5_layChange_31 : decode cX5_layChange 31 = .ok (.sipush (-1001), 3) := by decide +kernel
theorem dX5_layChange_34 : decode cX5_layChange 34 = .ok (.putfield 153, 3) := by decide +kernel
theorem dX5_layChange_37 : decode cX5_layChange 37 = .ok (.iconst 0, 1) := by decide +kernel
theorem dX5_layChange_38 : decode cX5_layChange 38 = .ok (.istore_n 3, 1) := by decide +kernel
theorem dX5_layChange_39 : decode cX5_layChange 39 = .ok (.iload_n 3, 1) := by decide +kernel
theorem dX5_layChange_40 : decode cX5_layChange 40 = .ok (.sipush 3125, 3) := by decide +kernel
theorem dX5_layChange_43 : decode cX5_layChange 43 = .ok (.if_icmp .ge 54, 3) := by decide +kernel
theorem dX5_layChange_46 : decode cX5_layChange 46 = .ok (.aload_n 0, 1) := by decide +kernel
theorem dX5_layChange_47 : decode cX5_layChange 47 = .ok (.getfield 153, 3) := by decide +kernel
theorem dX5_layChange_50 : decode cX5_layChange 50 = .ok (.sipush (-1001), 3) := by decide +kernel
theorem dX5_layChange_53 : decode cX5_layChange 53 = .ok (.if_icmp .ne 44, 3) := by decide +kernel
theorem dX5_layChange_56 : decode cX5_layChange 56 = .ok (.aload_n 0, 1) := by decide +kernel
theorem dX5_layChange_57 : decode cX5_layChange 57 = .ok (.getfield 114, 3) := by decide +kernel
theorem dX5_layChange_60 : decode cX5_layChange 60 = .ok (.sipush (-1001), 3) := by decide +kernel
theorem dX5_layChange_63 : decode cX5_layChange 63 = .ok (.if_icmp .eq 34, 3) := by decide +kernel
theorem dX5_layChange_66 : decode cX5_layChange 66 = .ok (.aload_n 0, 1) := by decide +kernel
theorem dX5_layChange_67 : decode cX5_layChange 67 = .ok (.aload_n 0, 1) := by decide +kernel
theorem dX5_layChange_68 : decode cX5_layChange 68 = .ok (.iload_n 2, 1) := by decide +kernel
theorem dX5_layChange_69 : decode cX5_layChange 69 = .ok (.iload_n 3, 1) := by decide +kernel
theorem dX5_layChange_70 : decode cX5_layChange 70 = .ok (.invokevirtual 156, 3) := by decide +kernel
theorem dX5_layChange_73 : decode cX5_layChange 73 = .ok (.sipush (-1001), 3) := by decide +kernel
theorem dX5_layChange_76 : decode cX5_layChange 76 = .ok (.if_icmp .ne 9, 3) := by decide +kernel
theorem dX5_layChange_79 : decode cX5_layChange 79 = .ok (.sipush (-1001), 3) := by decide +kernel
theorem dX5_layChange_82 : decode cX5_layChange 82 = .ok (.goto 6, 3) := by decide +kernel
theorem dX5_layChange_85 : decode cX5_layChange 85 = .ok (.iload_n 3, 1) := by decide +kernel
theorem dX5_layChange_86 : decode cX5_layChange 86 = .ok (.iconst 1, 1) := by decide +kernel
theorem dX5_layChange_87 : decode cX5_layChange 87 = .ok (.iadd, 1) := by decide +kernel
theorem dX5_layChange_88 : decode cX5_layChange 88 = .ok (.putfield 153, 3) := by decide +kernel
theorem dX5_layChange_91 : decode cX5_layChange 91 = .ok (.iinc 3 1, 3) := by decide +kernel
theorem dX5_layChange_94 : decode cX5_layChange 94 = .ok (.goto (-55), 3) := by decide +kernel
theorem dX5_layChange_97 : decode cX5_layChange 97 = .ok (.iconst 0, 1) := by decide +kernel
theorem dX5_layChange_98 : decode cX5_layChange 98 = .ok (.istore_n 3, 1) := by decide +kernel
theorem dX5_layChange_99 : decode cX5_layChange 99 = .ok (.iload_n 3, 1) := by decide +kernel
theorem dX5_layChange_100 : decode cX5_layChange 100 = .ok (.aload_n 0, 1) := by decide +kernel
theorem dX5_layChange_101 : decode cX5_layChange 101 = .ok (.getfield 153, 3) := by decide +kernel
theorem dX5_layChange_104 : decode cX5_layChange 104 = .ok (.if_icmp .ge 46, 3) := by decide +kernel
theorem dX5_layChange_107 : decode cX5_layChange 107 = .ok (.iload_n 3, 1) := by decide +kernel
theorem dX5_layChange_108 : decode cX5_layChange 108 = .ok (.bipush 15, 2) := by decide +kernel
theorem dX5_layChange_110 : decode cX5_layChange 110 = .ok (.if_icmp .ge 40, 3) := by decide +kernel
theorem dX5_layChange_113 : decode cX5_layChange 113 = .ok (.aload_n 0, 1) := by decide +kernel
theorem dX5_layChange_114 : decode cX5_layChange 114 = .ok (.getfield 38, 3) := by decide +kernel
theorem dX5_layChange_117 : decode cX5_layChange 117 = .ok (.iload_n 3, 1) := by decide +kernel
theorem dX5_layChange_118 : decode cX5_layChange 118 = .ok (.aload_n 0, 1) := by decide +kernel
theorem dX5_layChange_119 : decode cX5_layChange 119 = .ok (.iload_n 2, 1) := by decide +kernel
theorem dX5_layChange_120 : decode cX5_layChange 120 = .ok (.aload_n 0, 1) := by decide +kernel
theorem dX5_layChange_121 : decode cX5_layChange 121 = .ok (.getfield 153, 3) := by decide +kernel
theorem dX5_layChange_124 : decode cX5_layChange 124 = .ok (.iconst 1, 1) := by decide +kernel
theorem dX5_layChange_125 : decode cX5_layChange 125 = .ok (.isub, 1) := by decide +kernel
theorem dX5_layChange_126 : decode cX5_layChange 126 = .ok (.iload_n 3, 1) := by decide +kernel
theorem dX5_layChange_127 : decode cX5_layChange 127 = .ok (.isub, 1) := by decide +kernel
theorem dX5_layChange_128 : decode cX5_layChange 128 = .ok (.invokevirtual 156, 3) := by decide +kernel
theorem dX5_layChange_131 : decode cX5_layChange 131 = .ok (.iastore, 1) := by decide +kernel
theorem dX5_layChange_132 : decode cX5_layChange 132 = .ok (.aload_n 0, 1) := by decide +kernel
theorem dX5_layChange_133 : decode cX5_layChange 133 = .ok (.iload_n 2, 1) := by decide +kernel
theorem dX5_layChange_134 : decode cX5_layChange 134 = .ok (.aload_n 0, 1) := by decide +kernel
theorem dX5_layChange_135 : decode cX5_layChange 135 = .ok (.getfield 38, 3) := by decide +kernel
theorem dX5_layChange_138 : decode cX5_layChange 138 = .ok (.iload_n 3, 1) := by decide +kernel
theorem dX5_layChange_139 : decode cX5_layChange 139 = .ok (.iaload, 1) := by decide +kernel
theorem dX5_layChange_140 : decode cX5_layChange 140 = .ok (.invokevirtual 159, 3) := by decide +kernel
theorem dX5_layChange_143 : decode cX5_layChange 143 = .ok (.istore_n 2, 1) := by decide +kernel
theorem dX5_layChange_144 : decode cX5_layChange 144 = .ok (.iinc 3 1, 3) := by decide +kernel
theorem dX5_layChange_147 : decode cX5_layChange 147 = .ok (.goto (-48), 3) := by decide +kernel
theorem dX5_layChange_150 : decode cX5_layChange 150 = .ok (.return_, 1) := by decide +kernel
theorem dX5_changeNow_0 : decode cX5_changeNow 0 = .ok (.iload_n 1, 1) := by decide +kernel
theorem dX5_changeNow_1 : decode cX5_changeNow 1 = .ok (.ifCond .ne 8, 3) := by decide +kernel
theorem dX5_changeNow_4 : decode cX5_changeNow 4 = .ok (.aload_n 0, 1) := by decide +kernel
theorem dX5_changeNow_5 : decode cX5_changeNow 5 = .ok (.getfield 153, 3) := by decide +kernel
theorem dX5_changeNow_8 : decode cX5_changeNow 8 = .ok (.ireturn, 1) := by decide +kernel
theorem dX5_changeNow_9 : decode cX5_changeNow 9 = .ok (.iload_n 1, 1) := by decide +kernel
theorem dX5_changeNow_10 : decode cX5_changeNow 10 = .ok (.bipush 10, 2) := by decide +kernel
theorem dX5_changeNow_12 : decode cX5_changeNow 12 = .ok (.isub, 1) := by decide +kernel
theorem dX5_changeNow_13 : decode cX5_changeNow 13 = .ok (.aload_n 0, 1) := by decide +kernel
theorem dX5_changeNow_14 : decode cX5_changeNow 14 = .ok (.getfield 153, 3) := by decide +kernel
theorem dX5_changeNow_17 : decode cX5_changeNow 17 = .ok (.if_icmp .ge 15, 3) := by decide +kernel
theorem dX5_changeNow_20 : decode cX5_changeNow 20 = .ok (.aload_n 0, 1) := by decide +kernel
theorem dX5_changeNow_21 : decode cX5_changeNow 21 = .ok (.getfield 38, 3) := by decide +kernel
theorem dX5_changeNow_24 : decode cX5_changeNow 24 = .ok (.iload_n 1, 1) := by decide +kernel
theorem dX5_changeNow_25 : decode cX5_changeNow 25 = .ok (.bipush 10, 2) := by decide +kernel
theorem dX5_changeNow_27 : decode cX5_changeNow 27 = .ok (.isub, 1) := by decide +kernel
theorem dX5_changeNow_28 : decode cX5_changeNow 28 = .ok (.iaload, 1) := by decide +kernel
theorem dX5_changeNow_29 : decode cX5_changeNow 29 = .ok (.goto 6, 3) := by decide +kernel
theorem dX5_changeNow_32 : decode cX5_changeNow 32 = .ok (.sipush (-1001), 3) := by decide +kernel
theorem dX5_changeNow_35 : decode cX5_changeNow 35 = .ok (.ireturn, 1) := by decide +kernel
theorem dX5_change_0 : decode cX5_change 0 = .ok (.aload_n 0, 1) := by decide +kernel
theorem dX5_change_1 : decode cX5_change 1 = .ok (.getfield 60, 3) := by decide +kernel
theorem dX5_change_4 : decode cX5_change 4 = .ok (.ifCond .ne 7, 3) := by decide +kernel
theorem dX5_change_7 : decode cX5_change 7 = .ok (.sipush (-1004), 3) := by decide +kernel
theorem dX5_change_10 : decode cX5_change 10 = .ok (.ireturn, 1) := by decide +kernel
theorem dX5_change_11 : decode cX5_change 11 = .ok (.iload_n 2, 1) := by decide +kernel
theorem dX5_change_12 : decode cX5_change 12 = .ok (.ifCond .eq 18, 3) := by decide +kernel
theorem dX5_change_15 : decode cX5_change 15 = .ok (.iload_n 2, 1) := by decide +kernel
theorem dX5_change_16 : decode cX5_change 16 = .ok (.bipush 10, 2) := by decide +kernel
theorem dX5_change_18 : decode cX5_change 18 = .ok (.bipush 24, 2) := by decide +kernel
theorem dX5_change_20 : decode cX5_change 20 = .ok (.invokestatic 41, 3) := by decide +kernel
theorem dX5_change_23 : decode cX5_change 23 = .ok (.ifCond .ne 7, 3) := by decide +kernel
theorem dX5_change_26 : decode cX5_change 26 = .ok (.sipush (-1003), 3) := by decide +kernel
theorem dX5_change_29 : decode cX5_change 29 = .ok (.ireturn, 1) := by decide +kernel
theorem dX5_change_30 : decode cX5_change 30 = .ok (.aload_n 0, 1) := by decide +kernel
theorem dX5_change_31 : decode cX5_change 31 = .ok (.iload_n 1, 1) := by decide +kernel
theorem dX5_change_32 : decode cX5_change 32 = .ok (.invokevirtual 162, 3) := by decide +kernel
theorem dX5_change_35 : decode cX5_change 35 = .ok (.aload_n 0, 1) := by decide +kernel
theorem dX5_change_36 : decode cX5_change 36 = .ok (.iload_n 2, 1) := by decide +kernel
theorem dX5_change_37 : decode cX5_change 37 = .ok (.invokevirtual 165, 3) := by decide +kernel
theorem dX5_change_40 : decode cX5_change 40 = .ok (.ireturn, 1) := by decide +kernel
theorem dX5_go_0 : decode cX5_go 0 = .ok (.aload_n 0, 1) := by decide +kernel
theorem dX5_go_1 : decode cX5_go 1 = .ok (.getfield 60, 3) := by decide +kernel
theorem dX5_go_4 : decode cX5_go 4 = .ok (.ifCond .ne 7, 3) := by decide +kernel
theorem dX5_go_7 : decode cX5_go 7 = .ok (.sipush (-1004), 3) := by decide +kernel
theorem dX5_go_10 : decode cX5_go 10 = .ok (.ireturn, 1) := by decide +kernel
theorem dX5_go_11 : decode cX5_go 11 = .ok (.aload_n 0, 1) := by decide +kernel
theorem dX5_go_12 : decode cX5_go 12 = .ok (.iload_n 1, 1) := by decide +kernel
theorem dX5_go_13 : decode cX5_go 13 = .ok (.invokevirtual 162, 3) := by decide +kernel
theorem dX5_go_16 : decode cX5_go 16 = .ok (.aload_n 0, 1) := by decide +kernel
theorem dX5_go_17 : decode cX5_go 17 = .ok (.getfield 153, 3) := by decide +kernel
theorem dX5_go_20 : decode cX5_go 20 = .ok (.iconst 1, 1) := by decide +kernel
theorem dX5_go_21 : decode cX5_go 21 = .ok (.if_icmp .ge 7, 3) := by decide +kernel
theorem dX5_go_24 : decode cX5_go 24 = .ok (.sipush (-1004), 3) := by decide +kernel
theorem dX5_go_27 : decode cX5_go 27 = .ok (.ireturn, 1) := by decide +kernel
theorem dX5_go_28 : decode cX5_go 28 = .ok (.aload_n 0, 1) := by decide +kernel
theorem dX5_go_29 : decode cX5_go 29 = .ok (.getfield 19, 3) := by decide +kernel
theorem dX5_go_32 : decode cX5_go 32 = .ok (.aload_n 0, 1) := by decide +kernel
theorem dX5_go_33 : decode cX5_go 33 = .ok (.getfield 38, 3) := by decide +kernel
theorem dX5_go_36 : decode cX5_go 36 = .ok (.iconst 0, 1) := by decide +kernel
theorem dX5_go_37 : decode cX5_go 37 = .ok (.iaload, 1) := by decide +kernel
theorem dX5_go_38 : decode cX5_go 38 = .ok (.bipush 8, 2) := by decide +kernel
theorem dX5_go_40 : decode cX5_go 40 = .ok (.idiv, 1) := by decide +kernel
theorem dX5_go_41 : decode cX5_go 41 = .ok (.aload_n 0, 1) := by decide +kernel
theorem dX5_go_42 : decode cX5_go 42 = .ok (.getfield 38, 3) := by decide +kernel
theorem dX5_go_45 : decode cX5_go 45 = .ok (.iconst 0, 1) := by decide +kernel
theorem dX5_go_46 : decode cX5_go 46 = .ok (.iaload, 1) := by decide +kernel
theorem dX5_go_47 : decode cX5_go 47 = .ok (.bipush 8, 2) := by decide +kernel
theorem dX5_go_49 : decode cX5_go 49 = .ok (.irem, 1) := by decide +kernel
theorem dX5_go_50 : decode cX5_go 50 = .ok (.iconst 1, 1) := by decide +kernel
theorem dX5_go_51 : decode cX5_go 51 = .ok (.isub, 1) := by decide +kernel
theorem dX5_go_52 : decode cX5_go 52 = .ok (.iastore, 1) := by decide +kernel
theorem dX5_go_53 : decode cX5_go 53 = .ok (.aload_n 0, 1) := by decide +kernel
theorem dX5_go_54 : decode cX5_go 54 = .ok (.dup, 1) := by decide +kernel
theorem dX5_go_55 : decode cX5_go 55 = .ok (.getfield 97, 3) := by decide +kernel
theorem dX5_go_58 : decode cX5_go 58 = .ok (.iconst 1, 1) := by decide +kernel
theorem dX5_go_59 : decode cX5_go 59 = .ok (.iadd, 1) := by decide +kernel
theorem dX5_go_60 : decode cX5_go 60 = .ok (.putfield 97, 3) := by decide +kernel
theorem dX5_go_63 : decode cX5_go 63 = .ok (.aload_n 0, 1) := by decide +kernel
theorem dX5_go_64 : decode cX5_go 64 = .ok (.getfield 153, 3) := by decide +kernel
theorem dX5_go_67 : decode cX5_go 67 = .ok (.iconst 1, 1) := by decide +kernel
theorem dX5_go_68 : decode cX5_go 68 = .ok (.isub, 1) := by decide +kernel
theorem dX5_go_69 : decode cX5_go 69 = .ok (.ireturn, 1) := by decide +kernel
theorem dX5_layTrade_0 : decode cX5_layTrade 0 = .ok (.aload_n 0, 1) := by decide +kernel
theorem dX5_layTrade_1 : decode cX5_layTrade 1 = .ok (.invokevirtual 90, 3) := by decide +kernel
theorem dX5_layTrade_4 : decode cX5_layTrade 4 = .ok (.aload_n 0, 1) := by decide +kernel
theorem dX5_layTrade_5 : decode cX5_layTrade 5 = .ok (.invokevirtual 128, 3) := by decide +kernel
theorem dX5_layTrade_8 : decode cX5_layTrade 8 = .ok (.istore_n 1, 1) := by decide +kernel
theorem dX5_layTrade_9 : decode cX5_layTrade 9 = .ok (.aload_n 0, 1) := by decide +kernel
theorem dX5_layTrade_10 : decode cX5_layTrade 10 = .ok (.sipush (-1001), 3) := by decide +kernel
theorem dX5_layTrade_13 : decode cX5_layTrade 13 = .ok (.putfield 168, 3) := by decide +kernel
theorem dX5_layTrade_16 : decode cX5_layTrade 16 = .ok (.aload_n 0, 1) := by decide +kernel
theorem dX5_layTrade_17 : decode cX5_layTrade 17 = .ok (.sipush (-1001), 3) := by decide +kernel
theorem dX5_layTrade_20 : decode cX5_layTrade 20 = .ok (.putfield 171, 3) := by decide +kernel
theorem dX5_layTrade_23 : decode cX5_layTrade 23 = .ok (.aload_n 0, 1) := by decide +kernel
theorem dX5_layTrade_24 : decode cX5_layTrade 24 = .ok (.sipush (-1001), 3) := by decide +kernel
theorem dX5_layTrade_27 : decode cX5_layTrade 27 = .ok (.putfield 174, 3) := by decide +kernel
theorem dX5_layTrade_30 : decode cX5_layTrade 30 = .ok (.iconst 0, 1) := by decide +kernel
theorem dX5_layTrade_31 : decode cX5_layTrade 31 = .ok (.istore_n 2, 1) := by decide +kernel
theorem dX5_layTrade_32 : decode cX5_layTrade 32 = .ok (.iload_n 2, 1) := by decide +kernel
theorem dX5_layTrade_33 : decode cX5_layTrade 33 = .ok (.bipush 25, 2) := by decide +kernel
theorem dX5_layTrade_35 : decode cX5_layTrade 35 = .ok (.if_icmp .ge 171, 3) := by decide +kernel
theorem dX5_layTrade_38 : decode cX5_layTrade 38 = .ok (.iload_n 2, 1) := by decide +kernel
theorem dX5_layTrade_39 : decode cX5_layTrade 39 = .ok (.iconst 5, 1) := by decide +kernel
theorem dX5_layTrade_40 : decode cX5_layTrade 40 = .ok (.idiv, 1) := by decide +kernel
theorem dX5_layTrade_41 : decode cX5_layTrade 41 = .ok (.istore_n 3, 1) := by decide +kernel
theorem dX5_layTrade_42 : decode cX5_layTrade 42 = .ok (.iload_n 2, 1) := by decide +kernel
theorem dX5_layTrade_43 : decode cX5_layTrade 43 = .ok (.iconst 5, 1) := by decide +kernel
theorem dX5_layTrade_44 : decode cX5_layTrade 44 = .ok (.irem, 1) := by decide +kernel
theorem dX5_layTrade_45 : decode cX5_layTrade 45 = .ok (.istore 4, 2) := by decide +kernel
theorem dX5_layTrade_47 : decode cX5_layTrade 47 = .ok (.aload_n 0, 1) := by decide +kernel
theorem dX5_layTrade_48 : decode cX5_layTrade 48 = .ok (.invokevirtual 90, 3) := by decide +kernel
theorem dX5_layTrade_51 : decode cX5_layTrade 51 = .ok (.aload_n 0, 1) := by decide +kernel
theorem dX5_layTrade_52 : decode cX5_layTrade 52 = .ok (.getfield 25, 3) := by decide +kernel
theorem dX5_layTrade_55 : decode cX5_layTrade 55 = .ok (.iload_n 3, 1) := by decide +kernel
theorem dX5_layTrade_56 : decode cX5_layTrade 56 = .ok (.aload_n 0, 1) := by decide +kernel
theorem dX5_layTrade_57 : decode cX5_layTrade 57 = .ok (.getfield 19, 3) := by decide +kernel
theorem dX5_layTrade_60 : decode cX5_layTrade 60 = .ok (.iload 4, 2) := by decide +kernel
theorem dX5_layTrade_62 : decode cX5_layTrade 62 = .ok (.iaload, 1) := by decide +kernel
theorem dX5_layTrade_63 : decode cX5_layTrade 63 = .ok (.iastore, 1) := by decide +kernel
theorem dX5_layTrade_64 : decode cX5_layTrade 64 = .ok (.aload_n 0, 1) := by decide +kernel
theorem dX5_layTrade_65 : decode cX5_layTrade 65 = .ok (.getfield 25, 3) := by decide +kernel
theorem dX5_layTrade_68 : decode cX5_layTrade 68 = .ok (.iload 4, 2) := by decide +kernel
theorem dX5_layTrade_70 : decode cX5_layTrade 70 = .ok (.aload_n 0, 1) := by decide +kernel
theorem dX5_layTrade_71 : decode cX5_layTrade 71 = .ok (.getfield 19, 3) := by decide +kernel
theorem dX5_layTrade_74 : decode cX5_layTrade 74 = .ok (.iload_n 3, 1) := by decide +kernel
theorem dX5_layTrade_75 : decode cX5_layTrade 75 = .ok (.iaload, 1) := by decide +kernel
theorem dX5_layTrade_76 : decode cX5_layTrade 76 = .ok (.iastore, 1) := by decide +kernel
theorem dX5_layTrade_77 : decode cX5_layTrade 77 = .ok (.iload_n 3, 1) := by decide +kernel
theorem dX5_layTrade_78 : decode cX5_layTrade 78 = .ok (.iload 4, 2) := by decide +kernel
theorem dX5_layTrade_80 : decode cX5_layTrade 80 = .ok (.if_icmp .ge 63, 3) := by decide +kernel
theorem dX5_layTrade_83 : decode cX5_layTrade 83 = .ok (.aload_n 0, 1) := by decide +kernel
theorem dX5_layTrade_84 : decode cX5_layTrade 84 = .ok (.iload 4, 2) := by decide +kernel
theorem dX5_layTrade_86 : decode cX5_layTrade 86 = .ok (.invokevirtual 87, 3) := by decide +kernel
theorem dX5_layTrade_89 : decode cX5_layTrade 89 = .ok (.ifCond .eq 54, 3) := by decide +kernel
theorem dX5_layTrade_92 : decode cX5_layTrade 92 = .ok (.aload_n 0, 1) := by decide +kernel
theorem dX5_layTrade_93 : decode cX5_layTrade 93 = .ok (.getfield 19, 3) := by decide +kernel
theorem dX5_layTrade_96 : decode cX5_layTrade 96 = .ok (.iload_n 3, 1) := by decide +kernel
theorem dX5_layTrade_97 : decode cX5_layTrade 97 = .ok (.iaload, 1) := by decide +kernel
theorem dX5_layTrade_98 : decode cX5_layTrade 98 = .ok (.aload_n 0, 1) := by decide +kernel
theorem dX5_layTrade_99 : decode cX5_layTrade 99 = .ok (.getfield 19, 3) := by decide +kernel
theorem dX5_layTrade_102 : decode cX5_layTrade 102 = .ok (.iload 4, 2) := by decide +kernel
theorem dX5_layTrade_104 : decode cX5_layTrade 104 = .ok (.iaload, 1) := by decide +kernel
theorem dX5_layTrade_105 : decode cX5_layTrade 105 = .ok (.if_icmp .eq 38, 3) := by decide +kernel
theorem dX5_layTrade_108 : decode cX5_layTrade 108 = .ok (.aload_n 0, 1) := by decide +kernel
theorem dX5_layTrade_109 : decode cX5_layTrade 109 = .ok (.getfield 66, 3) := by decide +kernel
theorem dX5_layTrade_112 : decode cX5_layTrade 112 = .ok (.iload_n 3, 1) := by decide +kernel
theorem dX5_layTrade_113 : decode cX5_layTrade 113 = .ok (.invokestatic 76, 3) := by decide +kernel
theorem dX5_layTrade_116 : decode cX5_layTrade 116 = .ok (.ifCond .ne 27, 3) := by decide +kernel
theorem dX5_layTrade_119 : decode cX5_layTrade 119 = .ok (.aload_n 0, 1) := by decide +kernel
theorem dX5_layTrade_120 : decode cX5_layTrade 120 = .ok (.getfield 66, 3) := by decide +kernel
theorem dX5_layTrade_123 : decode cX5_layTrade 123 = .ok (.iload 4, 2) := by decide +kernel
theorem dX5_layTrade_125 : decode cX5_layTrade 125 = .ok (.invokestatic 76, 3) := by decide +kernel
theorem dX5_layTrade_128 : decode cX5_layTrade 128 = .ok (.ifCond .ne 15, 3) := by decide +kernel
theorem dX5_layTrade_131 : decode cX5_layTrade 131 = .ok (.aload_n 0, 1) := by decide +kernel
theorem dX5_layTrade_132 : decode cX5_layTrade 132 = .ok (.iconst 0, 1) := by decide +kernel
theorem dX5_layTrade_133 : decode cX5_layTrade 133 = .ok (.invokevirtual 93, 3) := by decide +kernel
theorem dX5_layTrade_136 : decode cX5_layTrade 136 = .ok (.ifCond .eq 7, 3) := by decide +kernel
theorem dX5_layTrade_139 : decode cX5_layTrade 139 = .ok (.iconst 1, 1) := by decide +kernel
theorem dX5_layTrade_140 : decode cX5_layTrade 140 = .ok (.goto 4, 3) := by decide +kernel
theorem dX5_layTrade_143 : decode cX5_layTrade 143 = .ok (.iconst 0, 1) := by decide +kernel
theorem dX5_layTrade_144 : decode cX5_layTrade 144 = .ok (.istore 5, 2) := by decide +kernel
theorem dX5_layTrade_146 : decode cX5_layTrade 146 = .ok (.aload_n 0, 1) := by decide +kernel
theorem dX5_layTrade_147 : decode cX5_layTrade 147 = .ok (.invokevirtual 128, 3) := by decide +kernel
theorem dX5_layTrade_150 : decode cX5_layTrade 150 = .ok (.iload_n 1, 1) := by decide +kernel
theorem dX5_layTrade_151 : decode cX5_layTrade 151 = .ok (.isub, 1) := by decide +kernel
theorem dX5_layTrade_152 : decode cX5_layTrade 152 = .ok (.istore 6, 2) := by decide +kernel
theorem dX5_layTrade_154 : decode cX5_layTrade 154 = .ok (.iload 5, 2) := by decide +kernel
theorem dX5_layTrade_156 : decode cX5_layTrade 156 = .ok (.ifCond .eq 44, 3) := by decide +kernel
theorem dX5_layTrade_159 : decode cX5_layTrade 159 = .ok (.iload 6, 2) := by decide +kernel
theorem dX5_layTrade_161 : decode cX5_layTrade 161 = .ok (.ifCond .le 39, 3) := by decide +kernel
theorem dX5_layTrade_164 : decode cX5_layTrade 164 = .ok (.aload_n 0, 1) := by decide +kernel
theorem dX5_layTrade_165 : decode cX5_layTrade 165 = .ok (.getfield 168, 3) := by decide +kernel
theorem dX5_layTrade_168 : decode cX5_layTrade 168 = .ok (.sipush (-1001), 3) := by decide +kernel
theorem dX5_layTrade_171 : decode cX5_layTrade 171 = .ok (.if_icmp .eq 12, 3) := by decide +kernel
theorem dX5_layTrade_174 : decode cX5_layTrade 174 = .ok (.iload 6, 2) := by decide +kernel
theorem dX5_layTrade_176 : decode cX5_layTrade 176 = .ok (.aload_n 0, 1) := by decide +kernel
theorem dX5_layTrade_177 : decode cX5_layTrade 177 = .ok (.getfield 168, 3) := by decide +kernel
theorem dX5_layTrade_180 : decode cX5_layTrade 180 = .ok (.if_icmp .le 20, 3) := by decide +kernel
theorem dX5_layTrade_183 : decode cX5_layTrade 183 = .ok (.aload_n 0, 1) := by decide +kernel
theorem dX5_layTrade_184 : decode cX5_layTrade 184 = .ok (.iload 6, 2) := by decide +kernel
theorem dX5_layTrade_186 : decode cX5_layTrade 186 = .ok (.putfield 168, 3) := by decide +kernel
theorem dX5_layTrade_189 : decode cX5_layTrade 189 = .ok (.aload_n 0, 1) := by decide +kernel
theorem dX5_layTrade_190 : decode cX5_layTrade 190 = .ok (.iload_n 3, 1) := by decide +kernel
theorem dX5_layTrade_191 : decode cX5_layTrade 191 = .ok (.putfield 171, 3) := by decide +kernel
theorem dX5_layTrade_194 : decode cX5_layTrade 194 = .ok (.aload_n 0, 1) := by decide +kernel
theorem dX5_layTrade_195 : decode cX5_layTrade 195 = .ok (.iload 4, 2) := by decide +kernel
theorem dX5_layTrade_197 : decode cX5_layTrade 197 = .ok (.putfield 174, 3) := by decide +kernel
theorem dX5_layTrade_200 : decode cX5_layTrade 200 = .ok (.iinc 2 1, 3) := by decide +kernel
theorem dX5_layTrade_203 : decode cX5_layTrade 203 = .ok (.goto (-171), 3) := by decide +kernel
theorem dX5_layTrade_206 : decode cX5_layTrade 206 = .ok (.return_, 1) := by decide +kernel
theorem dX5_tradeNow_0 : decode cX5_tradeNow 0 = .ok (.iload_n 1, 1) := by decide +kernel
theorem dX5_tradeNow_1 : decode cX5_tradeNow 1 = .ok (.ifCond .ne 10, 3) := by decide +kernel
theorem dX5_tradeNow_4 : decode cX5_tradeNow 4 = .ok (.aload_n 0, 1) := by decide +kernel
theorem dX5_tradeNow_5 : decode cX5_tradeNow 5 = .ok (.getfield 168, 3) := by decide +kernel
theorem dX5_tradeNow_8 : decode cX5_tradeNow 8 = .ok (.goto 19, 3) := by decide +kernel
theorem dX5_tradeNow_11 : decode cX5_tradeNow 11 = .ok (.iload_n 1, 1) := by decide +kernel
theorem dX5_tradeNow_12 : decode cX5_tradeNow 12 = .ok (.iconst 1, 1) := by decide +kernel
theorem dX5_tradeNow_13 : decode cX5_tradeNow 13 = .ok (.if_icmp .ne 10, 3) := by decide +kernel
theorem dX5_tradeNow_16 : decode cX5_tradeNow 16 = .ok (.aload_n 0, 1) := by decide +kernel
theorem dX5_tradeNow_17 : decode cX5_tradeNow 17 = .ok (.getfield 171, 3) := by decide +kernel
theorem dX5_tradeNow_20 : decode cX5_tradeNow 20 = .ok (.goto 7, 3) := by decide +kernel
theorem dX5_tradeNow_23 : decode cX5_tradeNow 23 = .ok (.aload_n 0, 1) := by decide +kernel
theorem dX5_tradeNow_24 : decode cX5_tradeNow 24 = .ok (.getfield 174, 3) := by decide +kernel
theorem dX5_tradeNow_27 : decode cX5_tradeNow 27 = .ok (.ireturn, 1) := by decide +kernel
theorem dX5_trade_0 : decode cX5_trade 0 = .ok (.aload_n 0, 1) := by decide +kernel
theorem dX5_trade_1 : decode cX5_trade 1 = .ok (.getfield 60, 3) := by decide +kernel
theorem dX5_trade_4 : decode cX5_trade 4 = .ok (.ifCond .ne 7, 3) := by decide +kernel
theorem dX5_trade_7 : decode cX5_trade 7 = .ok (.sipush (-1004), 3) := by decide +kernel
theorem dX5_trade_10 : decode cX5_trade 10 = .ok (.ireturn, 1) := by decide +kernel
theorem dX5_trade_11 : decode cX5_trade 11 = .ok (.iload_n 1, 1) := by decide +kernel
theorem dX5_trade_12 : decode cX5_trade 12 = .ok (.iconst 0, 1) := by decide +kernel
theorem dX5_trade_13 : decode cX5_trade 13 = .ok (.iconst 2, 1) := by decide +kernel
theorem dX5_trade_14 : decode cX5_trade 14 = .ok (.invokestatic 41, 3) := by decide +kernel
theorem dX5_trade_17 : decode cX5_trade 17 = .ok (.ifCond .ne 7, 3) := by decide +kernel
theorem dX5_trade_20 : decode cX5_trade 20 = .ok (.sipush (-1003), 3) := by decide +kernel
theorem dX5_trade_23 : decode cX5_trade 23 = .ok (.ireturn, 1) := by decide +kernel
theorem dX5_trade_24 : decode cX5_trade 24 = .ok (.aload_n 0, 1) := by decide +kernel
theorem dX5_trade_25 : decode cX5_trade 25 = .ok (.invokevirtual 177, 3) := by decide +kernel
theorem dX5_trade_28 : decode cX5_trade 28 = .ok (.aload_n 0, 1) := by decide +kernel
theorem dX5_trade_29 : decode cX5_trade 29 = .ok (.iload_n 1, 1) := by decide +kernel
theorem dX5_trade_30 : decode cX5_trade 30 = .ok (.invokevirtual 180, 3) := by decide +kernel
theorem dX5_trade_33 : decode cX5_trade 33 = .ok (.ireturn, 1) := by decide +kernel
theorem dX5_ones_0 : decode cX5_ones 0 = .ok (.iconst 0, 1) := by decide +kernel
theorem dX5_ones_1 : decode cX5_ones 1 = .ok (.istore_n 1, 1) := by decide +kernel
theorem dX5_ones_2 : decode cX5_ones 2 = .ok (.iconst 0, 1) := by decide +kernel
theorem dX5_ones_3 : decode cX5_ones 3 = .ok (.istore_n 2, 1) := by decide +kernel
theorem dX5_ones_4 : decode cX5_ones 4 = .ok (.iload_n 2, 1) := by decide +kernel
theorem dX5_ones_5 : decode cX5_ones 5 = .ok (.iconst 5, 1) := by decide +kernel
theorem dX5_ones_6 : decode cX5_ones 6 = .ok (.if_icmp .ge 17, 3) := by decide +kernel
theorem dX5_ones_9 : decode cX5_ones 9 = .ok (.iload_n 1, 1) := by decide +kernel
theorem dX5_ones_10 : decode cX5_ones 10 = .ok (.iload_n 0, 1) := by decide +kernel
theorem dX5_ones_11 : decode cX5_ones 11 = .ok (.iload_n 2, 1) := by decide +kernel
theorem dX5_ones_12 : decode cX5_ones 12 = .ok (.ishr, 1) := by decide +kernel
theorem dX5_ones_13 : decode cX5_ones 13 = .ok (.iconst 1, 1) := by decide +kernel
theorem dX5_ones_14 : decode cX5_ones 14 = .ok (.iand, 1) := by decide +kernel
theorem dX5_ones_15 : decode cX5_ones 15 = .ok (.iadd, 1) := by decide +kernel
theorem dX5_ones_16 : decode cX5_ones 16 = .ok (.istore_n 1, 1) := by decide +kernel
theorem dX5_ones_17 : decode cX5_ones 17 = .ok (.iinc 2 1, 3) := by decide +kernel
theorem dX5_ones_20 : decode cX5_ones 20 = .ok (.goto (-16), 3) := by decide +kernel
theorem dX5_ones_23 : decode cX5_ones 23 = .ok (.iload_n 1, 1) := by decide +kernel
theorem dX5_ones_24 : decode cX5_ones 24 = .ok (.ireturn, 1) := by decide +kernel
theorem dX5_reliefNow_0 : decode cX5_reliefNow 0 = .ok (.sipush (-1001), 3) := by decide +kernel
theorem dX5_reliefNow_3 : decode cX5_reliefNow 3 = .ok (.istore_n 1, 1) := by decide +kernel
theorem dX5_reliefNow_4 : decode cX5_reliefNow 4 = .ok (.iconst 0, 1) := by decide +kernel
theorem dX5_reliefNow_5 : decode cX5_reliefNow 5 = .ok (.istore_n 2, 1) := by decide +kernel
theorem dX5_reliefNow_6 : decode cX5_reliefNow 6 = .ok (.iconst 0, 1) := by decide +kernel
theorem dX5_reliefNow_7 : decode cX5_reliefNow 7 = .ok (.istore_n 3, 1) := by decide +kernel
theorem dX5_reliefNow_8 : decode cX5_reliefNow 8 = .ok (.iload_n 3, 1) := by decide +kernel
theorem dX5_reliefNow_9 : decode cX5_reliefNow 9 = .ok (.iconst 1, 1) := by decide +kernel
theorem dX5_reliefNow_10 : decode cX5_reliefNow 10 = .ok (.aload_n 0, 1) := by decide +kernel
theorem dX5_reliefNow_11 : decode cX5_reliefNow 11 = .ok (.getfield 60, 3) := by decide +kernel
theorem dX5_reliefNow_14 : decode cX5_reliefNow 14 = .ok (.ishl, 1) := by decide +kernel
theorem dX5_reliefNow_15 : decode cX5_reliefNow 15 = .ok (.if_icmp .ge 150, 3) := by decide +kernel
theorem dX5_reliefNow_18 : decode cX5_reliefNow 18 = .ok (.aload_n 0, 1) := by decide +kernel
theorem dX5_reliefNow_19 : decode cX5_reliefNow 19 = .ok (.invokevirtual 90, 3) := by decide +kernel
theorem dX5_reliefNow_22 : decode cX5_reliefNow 22 = .ok (.iconst 0, 1) := by decide +kernel
end
section
theorem dX5_reliefNow_23 : decode cX5_reliefNow 23 = .ok (.istore 4, 2) := by decide +kernel
theorem dX5_reliefNow_25 : decode cX5_reliefNow 25 = .ok (.iload 4, 2) := by decide +kernel
theorem dX5_reliefNow_27 : decode cX5_reliefNow 27 = .ok (.aload_n 0, 1) := by decide +kernel
theorem dX5_reliefNow_28 : decode cX5_reliefNow 28 = .ok (.getfield 60, 3) := by decide +kernel
theorem dX5_reliefNow_31 : decode cX5_reliefNow 31 = .ok (.if_icmp .ge 36, 3) := by decide +kernel
theorem dX5_reliefNow_34 : decode cX5_reliefNow 34 = .ok (.aload_n 0, 1) := by decide +kernel
theorem dX5_reliefNow_35 : decode cX5_reliefNow 35 = .ok (.getfield 25, 3) := by decide +kernel
theorem dX5_reliefNow_38 : decode cX5_reliefNow 38 = .ok (.iload 4, 2) := by decide +kernel
theorem dX5_reliefNow_40 : decode cX5_reliefNow 40 = .ok (.iload_n 3, 1) := by decide +kernel
theorem dX5_reliefNow_41 : decode cX5_reliefNow 41 = .ok (.iload 4, 2) := by decide +kernel
theorem dX5_reliefNow_43 : decode cX5_reliefNow 43 = .ok (.invokestatic 76, 3) := by decide +kernel
theorem dX5_reliefNow_46 : decode cX5_reliefNow 46 = .ok (.ifCond .eq 7, 3) := by decide +kernel
theorem dX5_reliefNow_49 : decode cX5_reliefNow 49 = .ok (.iconst (-1), 1) := by decide +kernel
theorem dX5_reliefNow_50 : decode cX5_reliefNow 50 = .ok (.goto 10, 3) := by decide +kernel
theorem dX5_reliefNow_53 : decode cX5_reliefNow 53 = .ok (.aload_n 0, 1) := by decide +kernel
theorem dX5_reliefNow_54 : decode cX5_reliefNow 54 = .ok (.getfield 25, 3) := by decide +kernel
theorem dX5_reliefNow_57 : decode cX5_reliefNow 57 = .ok (.iload 4, 2) := by decide +kernel
theorem dX5_reliefNow_59 : decode cX5_reliefNow 59 = .ok (.iaload, 1) := by decide +kernel
theorem dX5_reliefNow_60 : decode cX5_reliefNow 60 = .ok (.iastore, 1) := by decide +kernel
theorem dX5_reliefNow_61 : decode cX5_reliefNow 61 = .ok (.iinc 4 1, 3) := by decide +kernel
theorem dX5_reliefNow_64 : decode cX5_reliefNow 64 = .ok (.goto (-39), 3) := by decide +kernel
theorem dX5_reliefNow_67 : decode cX5_reliefNow 67 = .ok (.iload_n 1, 1) := by decide +kernel
theorem dX5_reliefNow_68 : decode cX5_reliefNow 68 = .ok (.sipush (-1001), 3) := by decide +kernel
theorem dX5_reliefNow_71 : decode cX5_reliefNow 71 = .ok (.if_icmp .eq 14, 3) := by decide +kernel
theorem dX5_reliefNow_74 : decode cX5_reliefNow 74 = .ok (.iload_n 3, 1) := by decide +kernel
theorem dX5_reliefNow_75 : decode cX5_reliefNow 75 = .ok (.invokestatic 183, 3) := by decide +kernel
theorem dX5_reliefNow_78 : decode cX5_reliefNow 78 = .ok (.iload_n 1, 1) := by decide +kernel
theorem dX5_reliefNow_79 : decode cX5_reliefNow 79 = .ok (.invokestatic 183, 3) := by decide +kernel
theorem dX5_reliefNow_82 : decode cX5_reliefNow 82 = .ok (.if_icmp .ge 7, 3) := by decide +kernel
theorem dX5_reliefNow_85 : decode cX5_reliefNow 85 = .ok (.iconst 1, 1) := by decide +kernel
theorem dX5_reliefNow_86 : decode cX5_reliefNow 86 = .ok (.goto 4, 3) := by decide +kernel
theorem dX5_reliefNow_89 : decode cX5_reliefNow 89 = .ok (.iconst 0, 1) := by decide +kernel
theorem dX5_reliefNow_90 : decode cX5_reliefNow 90 = .ok (.istore 4, 2) := by decide +kernel
theorem dX5_reliefNow_92 : decode cX5_reliefNow 92 = .ok (.iload_n 1, 1) := by decide +kernel
theorem dX5_reliefNow_93 : decode cX5_reliefNow 93 = .ok (.sipush (-1001), 3) := by decide +kernel
theorem dX5_reliefNow_96 : decode cX5_reliefNow 96 = .ok (.if_icmp .eq 26, 3) := by decide +kernel
theorem dX5_reliefNow_99 : decode cX5_reliefNow 99 = .ok (.iload_n 3, 1) := by decide +kernel
theorem dX5_reliefNow_100 : decode cX5_reliefNow 100 = .ok (.invokestatic 183, 3) := by decide +kernel
theorem dX5_reliefNow_103 : decode cX5_reliefNow 103 = .ok (.iload_n 1, 1) := by decide +kernel
theorem dX5_reliefNow_104 : decode cX5_reliefNow 104 = .ok (.invokestatic 183, 3) := by decide +kernel
theorem dX5_reliefNow_107 : decode cX5_reliefNow 107 = .ok (.if_icmp .ne 15, 3) := by decide +kernel
theorem dX5_reliefNow_110 : decode cX5_reliefNow 110 = .ok (.aload_n 0, 1) := by decide +kernel
theorem dX5_reliefNow_111 : decode cX5_reliefNow 111 = .ok (.invokevirtual 128, 3) := by decide +kernel
theorem dX5_reliefNow_114 : decode cX5_reliefNow 114 = .ok (.iload_n 2, 1) := by decide +kernel
theorem dX5_reliefNow_115 : decode cX5_reliefNow 115 = .ok (.if_icmp .le 7, 3) := by decide +kernel
theorem dX5_reliefNow_118 : decode cX5_reliefNow 118 = .ok (.iconst 1, 1) := by decide +kernel
theorem dX5_reliefNow_119 : decode cX5_reliefNow 119 = .ok (.goto 4, 3) := by decide +kernel
theorem dX5_reliefNow_122 : decode cX5_reliefNow 122 = .ok (.iconst 0, 1) := by decide +kernel
theorem dX5_reliefNow_123 : decode cX5_reliefNow 123 = .ok (.istore 5, 2) := by decide +kernel
theorem dX5_reliefNow_125 : decode cX5_reliefNow 125 = .ok (.iload_n 3, 1) := by decide +kernel
theorem dX5_reliefNow_126 : decode cX5_reliefNow 126 = .ok (.aload_n 0, 1) := by decide +kernel
theorem dX5_reliefNow_127 : decode cX5_reliefNow 127 = .ok (.getfield 66, 3) := by decide +kernel
theorem dX5_reliefNow_130 : decode cX5_reliefNow 130 = .ok (.iand, 1) := by decide +kernel
theorem dX5_reliefNow_131 : decode cX5_reliefNow 131 = .ok (.ifCond .ne 28, 3) := by decide +kernel
theorem dX5_reliefNow_134 : decode cX5_reliefNow 134 = .ok (.aload_n 0, 1) := by decide +kernel
theorem dX5_reliefNow_135 : decode cX5_reliefNow 135 = .ok (.iconst 0, 1) := by decide +kernel
theorem dX5_reliefNow_136 : decode cX5_reliefNow 136 = .ok (.invokevirtual 93, 3) := by decide +kernel
theorem dX5_reliefNow_139 : decode cX5_reliefNow 139 = .ok (.ifCond .eq 20, 3) := by decide +kernel
theorem dX5_reliefNow_142 : decode cX5_reliefNow 142 = .ok (.iload 4, 2) := by decide +kernel
theorem dX5_reliefNow_144 : decode cX5_reliefNow 144 = .ok (.ifCond .ne 8, 3) := by decide +kernel
theorem dX5_reliefNow_147 : decode cX5_reliefNow 147 = .ok (.iload 5, 2) := by decide +kernel
theorem dX5_reliefNow_149 : decode cX5_reliefNow 149 = .ok (.ifCond .eq 10, 3) := by decide +kernel
theorem dX5_reliefNow_152 : decode cX5_reliefNow 152 = .ok (.iload_n 3, 1) := by decide +kernel
theorem dX5_reliefNow_153 : decode cX5_reliefNow 153 = .ok (.istore_n 1, 1) := by decide +kernel
theorem dX5_reliefNow_154 : decode cX5_reliefNow 154 = .ok (.aload_n 0, 1) := by decide +kernel
theorem dX5_reliefNow_155 : decode cX5_reliefNow 155 = .ok (.invokevirtual 128, 3) := by decide +kernel
theorem dX5_reliefNow_158 : decode cX5_reliefNow 158 = .ok (.istore_n 2, 1) := by decide +kernel
theorem dX5_reliefNow_159 : decode cX5_reliefNow 159 = .ok (.iinc 3 1, 3) := by decide +kernel
theorem dX5_reliefNow_162 : decode cX5_reliefNow 162 = .ok (.goto (-154), 3) := by decide +kernel
theorem dX5_reliefNow_165 : decode cX5_reliefNow 165 = .ok (.iload_n 1, 1) := by decide +kernel
theorem dX5_reliefNow_166 : decode cX5_reliefNow 166 = .ok (.ireturn, 1) := by decide +kernel
theorem dX5_relief_0 : decode cX5_relief 0 = .ok (.aload_n 0, 1) := by decide +kernel
theorem dX5_relief_1 : decode cX5_relief 1 = .ok (.getfield 60, 3) := by decide +kernel
theorem dX5_relief_4 : decode cX5_relief 4 = .ok (.ifCond .ne 9, 3) := by decide +kernel
theorem dX5_relief_7 : decode cX5_relief 7 = .ok (.sipush (-1004), 3) := by decide +kernel
theorem dX5_relief_10 : decode cX5_relief 10 = .ok (.goto 7, 3) := by decide +kernel
theorem dX5_relief_13 : decode cX5_relief 13 = .ok (.aload_n 0, 1) := by decide +kernel
theorem dX5_relief_14 : decode cX5_relief 14 = .ok (.invokevirtual 186, 3) := by decide +kernel
theorem dX5_relief_17 : decode cX5_relief 17 = .ok (.ireturn, 1) := by decide +kernel
theorem dX5_howMany_0 : decode cX5_howMany 0 = .ok (.aload_n 0, 1) := by decide +kernel
theorem dX5_howMany_1 : decode cX5_howMany 1 = .ok (.invokevirtual 90, 3) := by decide +kernel
theorem dX5_howMany_4 : decode cX5_howMany 4 = .ok (.iload_n 1, 1) := by decide +kernel
theorem dX5_howMany_5 : decode cX5_howMany 5 = .ok (.tableswitch 123 0 9 #[55, 60, 65, 70, 75, 89, 103, 108, 113, 118], 55) := by decide +kernel
theorem dX5_howMany_60 : decode cX5_howMany 60 = .ok (.aload_n 0, 1) := by decide +kernel
theorem dX5_howMany_61 : decode cX5_howMany 61 = .ok (.getfield 60, 3) := by decide +kernel
theorem dX5_howMany_64 : decode cX5_howMany 64 = .ok (.ireturn, 1) := by decide +kernel
theorem dX5_howMany_65 : decode cX5_howMany 65 = .ok (.aload_n 0, 1) := by decide +kernel
theorem dX5_howMany_66 : decode cX5_howMany 66 = .ok (.getfield 57, 3) := by decide +kernel
theorem dX5_howMany_69 : decode cX5_howMany 69 = .ok (.ireturn, 1) := by decide +kernel
theorem dX5_howMany_70 : decode cX5_howMany 70 = .ok (.aload_n 0, 1) := by decide +kernel
theorem dX5_howMany_71 : decode cX5_howMany 71 = .ok (.getfield 45, 3) := by decide +kernel
theorem dX5_howMany_74 : decode cX5_howMany 74 = .ok (.ireturn, 1) := by decide +kernel
theorem dX5_howMany_75 : decode cX5_howMany 75 = .ok (.aload_n 0, 1) := by decide +kernel
theorem dX5_howMany_76 : decode cX5_howMany 76 = .ok (.invokevirtual 128, 3) := by decide +kernel
theorem dX5_howMany_79 : decode cX5_howMany 79 = .ok (.ireturn, 1) := by decide +kernel
theorem dX5_howMany_80 : decode cX5_howMany 80 = .ok (.aload_n 0, 1) := by decide +kernel
theorem dX5_howMany_81 : decode cX5_howMany 81 = .ok (.iconst 0, 1) := by decide +kernel
theorem dX5_howMany_82 : decode cX5_howMany 82 = .ok (.invokevirtual 93, 3) := by decide +kernel
theorem dX5_howMany_85 : decode cX5_howMany 85 = .ok (.ifCond .eq 7, 3) := by decide +kernel
theorem dX5_howMany_88 : decode cX5_howMany 88 = .ok (.iconst 1, 1) := by decide +kernel
theorem dX5_howMany_89 : decode cX5_howMany 89 = .ok (.goto 4, 3) := by decide +kernel
theorem dX5_howMany_92 : decode cX5_howMany 92 = .ok (.iconst 0, 1) := by decide +kernel
theorem dX5_howMany_93 : decode cX5_howMany 93 = .ok (.ireturn, 1) := by decide +kernel
theorem dX5_howMany_94 : decode cX5_howMany 94 = .ok (.aload_n 0, 1) := by decide +kernel
theorem dX5_howMany_95 : decode cX5_howMany 95 = .ok (.iconst 1, 1) := by decide +kernel
theorem dX5_howMany_96 : decode cX5_howMany 96 = .ok (.invokevirtual 93, 3) := by decide +kernel
theorem dX5_howMany_99 : decode cX5_howMany 99 = .ok (.ifCond .eq 7, 3) := by decide +kernel
theorem dX5_howMany_102 : decode cX5_howMany 102 = .ok (.iconst 1, 1) := by decide +kernel
theorem dX5_howMany_103 : decode cX5_howMany 103 = .ok (.goto 4, 3) := by decide +kernel
theorem dX5_howMany_106 : decode cX5_howMany 106 = .ok (.iconst 0, 1) := by decide +kernel
theorem dX5_howMany_107 : decode cX5_howMany 107 = .ok (.ireturn, 1) := by decide +kernel
theorem dX5_howMany_108 : decode cX5_howMany 108 = .ok (.aload_n 0, 1) := by decide +kernel
theorem dX5_howMany_109 : decode cX5_howMany 109 = .ok (.getfield 63, 3) := by decide +kernel
theorem dX5_howMany_112 : decode cX5_howMany 112 = .ok (.ireturn, 1) := by decide +kernel
theorem dX5_howMany_113 : decode cX5_howMany 113 = .ok (.aload_n 0, 1) := by decide +kernel
theorem dX5_howMany_114 : decode cX5_howMany 114 = .ok (.getfield 66, 3) := by decide +kernel
theorem dX5_howMany_117 : decode cX5_howMany 117 = .ok (.ireturn, 1) := by decide +kernel
theorem dX5_howMany_118 : decode cX5_howMany 118 = .ok (.aload_n 0, 1) := by decide +kernel
theorem dX5_howMany_119 : decode cX5_howMany 119 = .ok (.getfield 69, 3) := by decide +kernel
theorem dX5_howMany_122 : decode cX5_howMany 122 = .ok (.ireturn, 1) := by decide +kernel
theorem dX5_howMany_123 : decode cX5_howMany 123 = .ok (.aload_n 0, 1) := by decide +kernel
theorem dX5_howMany_124 : decode cX5_howMany 124 = .ok (.getfield 97, 3) := by decide +kernel
theorem dX5_howMany_127 : decode cX5_howMany 127 = .ok (.ireturn, 1) := by decide +kernel
theorem dX5_howMany_128 : decode cX5_howMany 128 = .ok (.sipush (-1003), 3) := by decide +kernel
theorem dX5_howMany_131 : decode cX5_howMany 131 = .ok (.ireturn, 1) := by decide +kernel
theorem dX5_count_0 : decode cX5_count 0 = .ok (.aload_n 0, 1) := by decide +kernel
theorem dX5_count_1 : decode cX5_count 1 = .ok (.iload_n 1, 1) := by decide +kernel
theorem dX5_count_2 : decode cX5_count 2 = .ok (.invokevirtual 189, 3) := by decide +kernel
theorem dX5_count_5 : decode cX5_count 5 = .ok (.ireturn, 1) := by decide +kernel
theorem dX5_mix_0 : decode cX5_mix 0 = .ok (.aload_n 0, 1) := by decide +kernel
theorem dX5_mix_1 : decode cX5_mix 1 = .ok (.ldc2_w 192, 3) := by decide +kernel
theorem dX5_mix_4 : decode cX5_mix 4 = .ok (.aload_n 0, 1) := by decide +kernel
theorem dX5_mix_5 : decode cX5_mix 5 = .ok (.getfield 194, 3) := by decide +kernel
theorem dX5_mix_8 : decode cX5_mix 8 = .ok (.lmul, 1) := by decide +kernel
theorem dX5_mix_9 : decode cX5_mix 9 = .ok (.lload_n 1, 1) := by decide +kernel
theorem dX5_mix_10 : decode cX5_mix 10 = .ok (.ladd, 1) := by decide +kernel
theorem dX5_mix_11 : decode cX5_mix 11 = .ok (.putfield 194, 3) := by decide +kernel
theorem dX5_mix_14 : decode cX5_mix 14 = .ok (.return_, 1) := by decide +kernel
theorem dX5_mixPlans_0 : decode cX5_mixPlans 0 = .ok (.aload_n 0, 1) := by decide +kernel
theorem dX5_mixPlans_1 : decode cX5_mixPlans 1 = .ok (.iload_n 1, 1) := by decide +kernel
theorem dX5_mixPlans_2 : decode cX5_mixPlans 2 = .ok (.invokevirtual 162, 3) := by decide +kernel
theorem dX5_mixPlans_5 : decode cX5_mixPlans 5 = .ok (.iconst 0, 1) := by decide +kernel
theorem dX5_mixPlans_6 : decode cX5_mixPlans 6 = .ok (.istore_n 2, 1) := by decide +kernel
theorem dX5_mixPlans_7 : decode cX5_mixPlans 7 = .ok (.iload_n 2, 1) := by decide +kernel
theorem dX5_mixPlans_8 : decode cX5_mixPlans 8 = .ok (.iconst 2, 1) := by decide +kernel
theorem dX5_mixPlans_9 : decode cX5_mixPlans 9 = .ok (.if_icmp .ge 19, 3) := by decide +kernel
theorem dX5_mixPlans_12 : decode cX5_mixPlans 12 = .ok (.aload_n 0, 1) := by decide +kernel
theorem dX5_mixPlans_13 : decode cX5_mixPlans 13 = .ok (.aload_n 0, 1) := by decide +kernel
theorem dX5_mixPlans_14 : decode cX5_mixPlans 14 = .ok (.iload_n 2, 1) := by decide +kernel
theorem dX5_mixPlans_15 : decode cX5_mixPlans 15 = .ok (.invokevirtual 138, 3) := by decide +kernel
theorem dX5_mixPlans_18 : decode cX5_mixPlans 18 = .ok (.i2l, 1) := by decide +kernel
theorem dX5_mixPlans_19 : decode cX5_mixPlans 19 = .ok (.invokevirtual 198, 3) := by decide +kernel
theorem dX5_mixPlans_22 : decode cX5_mixPlans 22 = .ok (.iinc 2 1, 3) := by decide +kernel
theorem dX5_mixPlans_25 : decode cX5_mixPlans 25 = .ok (.goto (-18), 3) := by decide +kernel
theorem dX5_mixPlans_28 : decode cX5_mixPlans 28 = .ok (.bipush 10, 2) := by decide +kernel
theorem dX5_mixPlans_30 : decode cX5_mixPlans 30 = .ok (.istore_n 2, 1) := by decide +kernel
theorem dX5_mixPlans_31 : decode cX5_mixPlans 31 = .ok (.iload_n 2, 1) := by decide +kernel
theorem dX5_mixPlans_32 : decode cX5_mixPlans 32 = .ok (.bipush 15, 2) := by decide +kernel
theorem dX5_mixPlans_34 : decode cX5_mixPlans 34 = .ok (.if_icmp .ge 19, 3) := by decide +kernel
theorem dX5_mixPlans_37 : decode cX5_mixPlans 37 = .ok (.aload_n 0, 1) := by decide +kernel
theorem dX5_mixPlans_38 : decode cX5_mixPlans 38 = .ok (.aload_n 0, 1) := by decide +kernel
theorem dX5_mixPlans_39 : decode cX5_mixPlans 39 = .ok (.iload_n 2, 1) := by decide +kernel
theorem dX5_mixPlans_40 : decode cX5_mixPlans 40 = .ok (.invokevirtual 138, 3) := by decide +kernel
theorem dX5_mixPlans_43 : decode cX5_mixPlans 43 = .ok (.i2l, 1) := by decide +kernel
theorem dX5_mixPlans_44 : decode cX5_mixPlans 44 = .ok (.invokevirtual 198, 3) := by decide +kernel
theorem dX5_mixPlans_47 : decode cX5_mixPlans 47 = .ok (.iinc 2 1, 3) := by decide +kernel
theorem dX5_mixPlans_50 : decode cX5_mixPlans 50 = .ok (.goto (-19), 3) := by decide +kernel
theorem dX5_mixPlans_53 : decode cX5_mixPlans 53 = .ok (.aload_n 0, 1) := by decide +kernel
theorem dX5_mixPlans_54 : decode cX5_mixPlans 54 = .ok (.aload_n 0, 1) := by decide +kernel
theorem dX5_mixPlans_55 : decode cX5_mixPlans 55 = .ok (.iconst 0, 1) := by decide +kernel
theorem dX5_mixPlans_56 : decode cX5_mixPlans 56 = .ok (.invokevirtual 165, 3) := by decide +kernel
theorem dX5_mixPlans_59 : decode cX5_mixPlans 59 = .ok (.i2l, 1) := by decide +kernel
theorem dX5_mixPlans_60 : decode cX5_mixPlans 60 = .ok (.invokevirtual 198, 3) := by decide +kernel
theorem dX5_mixPlans_63 : decode cX5_mixPlans 63 = .ok (.bipush 10, 2) := by decide +kernel
theorem dX5_mixPlans_65 : decode cX5_mixPlans 65 = .ok (.istore_n 2, 1) := by decide +kernel
theorem dX5_mixPlans_66 : decode cX5_mixPlans 66 = .ok (.iload_n 2, 1) := by decide +kernel
theorem dX5_mixPlans_67 : decode cX5_mixPlans 67 = .ok (.bipush 13, 2) := by decide +kernel
theorem dX5_mixPlans_69 : decode cX5_mixPlans 69 = .ok (.if_icmp .ge 19, 3) := by decide +kernel
theorem dX5_mixPlans_72 : decode cX5_mixPlans 72 = .ok (.aload_n 0, 1) := by decide +kernel
theorem dX5_mixPlans_73 : decode cX5_mixPlans 73 = .ok (.aload_n 0, 1) := by decide +kernel
theorem dX5_mixPlans_74 : decode cX5_mixPlans 74 = .ok (.iload_n 2, 1) := by decide +kernel
theorem dX5_mixPlans_75 : decode cX5_mixPlans 75 = .ok (.invokevirtual 165, 3) := by decide +kernel
theorem dX5_mixPlans_78 : decode cX5_mixPlans 78 = .ok (.i2l, 1) := by decide +kernel
theorem dX5_mixPlans_79 : decode cX5_mixPlans 79 = .ok (.invokevirtual 198, 3) := by decide +kernel
theorem dX5_mixPlans_82 : decode cX5_mixPlans 82 = .ok (.iinc 2 1, 3) := by decide +kernel
theorem dX5_mixPlans_85 : decode cX5_mixPlans 85 = .ok (.goto (-19), 3) := by decide +kernel
theorem dX5_mixPlans_88 : decode cX5_mixPlans 88 = .ok (.return_, 1) := by decide +kernel
theorem dX5_mixField_0 : decode cX5_mixField 0 = .ok (.aload_n 0, 1) := by decide +kernel
theorem dX5_mixField_1 : decode cX5_mixField 1 = .ok (.iconst 0, 1) := by decide +kernel
theorem dX5_mixField_2 : decode cX5_mixField 2 = .ok (.invokevirtual 202, 3) := by decide +kernel
theorem dX5_mixField_5 : decode cX5_mixField 5 = .ok (.aload_n 0, 1) := by decide +kernel
theorem dX5_mixField_6 : decode cX5_mixField 6 = .ok (.iconst 1, 1) := by decide +kernel
theorem dX5_mixField_7 : decode cX5_mixField 7 = .ok (.invokevirtual 202, 3) := by decide +kernel
theorem dX5_mixField_10 : decode cX5_mixField 10 = .ok (.aload_n 0, 1) := by decide +kernel
theorem dX5_mixField_11 : decode cX5_mixField 11 = .ok (.invokevirtual 177, 3) := by decide +kernel
theorem dX5_mixField_14 : decode cX5_mixField 14 = .ok (.iconst 0, 1) := by decide +kernel
theorem dX5_mixField_15 : decode cX5_mixField 15 = .ok (.istore_n 1, 1) := by decide +kernel
theorem dX5_mixField_16 : decode cX5_mixField 16 = .ok (.iload_n 1, 1) := by decide +kernel
theorem dX5_mixField_17 : decode cX5_mixField 17 = .ok (.iconst 3, 1) := by decide +kernel
theorem dX5_mixField_18 : decode cX5_mixField 18 = .ok (.if_icmp .ge 19, 3) := by decide +kernel
theorem dX5_mixField_21 : decode cX5_mixField 21 = .ok (.aload_n 0, 1) := by decide +kernel
theorem dX5_mixField_22 : decode cX5_mixField 22 = .ok (.aload_n 0, 1) := by decide +kernel
theorem dX5_mixField_23 : decode cX5_mixField 23 = .ok (.iload_n 1, 1) := by decide +kernel
theorem dX5_mixField_24 : decode cX5_mixField 24 = .ok (.invokevirtual 180, 3) := by decide +kernel
theorem dX5_mixField_27 : decode cX5_mixField 27 = .ok (.i2l, 1) := by decide +kernel
theorem dX5_mixField_28 : decode cX5_mixField 28 = .ok (.invokevirtual 198, 3) := by decide +kernel
theorem dX5_mixField_31 : decode cX5_mixField 31 = .ok (.iinc 1 1, 3) := by decide +kernel
theorem dX5_mixField_34 : decode cX5_mixField 34 = .ok (.goto (-18), 3) := by decide +kernel
theorem dX5_mixField_37 : decode cX5_mixField 37 = .ok (.aload_n 0, 1) := by decide +kernel
theorem dX5_mixField_38 : decode cX5_mixField 38 = .ok (.aload_n 0, 1) := by decide +kernel
theorem dX5_mixField_39 : decode cX5_mixField 39 = .ok (.invokevirtual 186, 3) := by decide +kernel
theorem dX5_mixField_42 : decode cX5_mixField 42 = .ok (.i2l, 1) := by decide +kernel
theorem dX5_mixField_43 : decode cX5_mixField 43 = .ok (.invokevirtual 198, 3) := by decide +kernel
theorem dX5_mixField_46 : decode cX5_mixField 46 = .ok (.return_, 1) := by decide +kernel
theorem dX5_digest_0 : decode cX5_digest 0 = .ok (.aload_n 0, 1) := by decide +kernel
theorem dX5_digest_1 : decode cX5_digest 1 = .ok (.ldc2_w 205, 3) := by decide +kernel
theorem dX5_digest_4 : decode cX5_digest 4 = .ok (.putfield 194, 3) := by decide +kernel
theorem dX5_digest_7 : decode cX5_digest 7 = .ok (.iconst 0, 1) := by decide +kernel
theorem dX5_digest_8 : decode cX5_digest 8 = .ok (.istore_n 1, 1) := by decide +kernel
theorem dX5_digest_9 : decode cX5_digest 9 = .ok (.iload_n 1, 1) := by decide +kernel
theorem dX5_digest_10 : decode cX5_digest 10 = .ok (.aload_n 0, 1) := by decide +kernel
theorem dX5_digest_11 : decode cX5_digest 11 = .ok (.getfield 60, 3) := by decide +kernel
theorem dX5_digest_14 : decode cX5_digest 14 = .ok (.if_icmp .ge 34, 3) := by decide +kernel
theorem dX5_digest_17 : decode cX5_digest 17 = .ok (.iconst 0, 1) := by decide +kernel
theorem dX5_digest_18 : decode cX5_digest 18 = .ok (.istore_n 2, 1) := by decide +kernel
theorem dX5_digest_19 : decode cX5_digest 19 = .ok (.iload_n 2, 1) := by decide +kernel
theorem dX5_digest_20 : decode cX5_digest 20 = .ok (.bipush 6, 2) := by decide +kernel
theorem dX5_digest_22 : decode cX5_digest 22 = .ok (.if_icmp .ge 20, 3) := by decide +kernel
theorem dX5_digest_25 : decode cX5_digest 25 = .ok (.aload_n 0, 1) := by decide +kernel
theorem dX5_digest_26 : decode cX5_digest 26 = .ok (.aload_n 0, 1) := by decide +kernel
theorem dX5_digest_27 : decode cX5_digest 27 = .ok (.iload_n 1, 1) := by decide +kernel
theorem dX5_digest_28 : decode cX5_digest 28 = .ok (.iload_n 2, 1) := by decide +kernel
theorem dX5_digest_29 : decode cX5_digest 29 = .ok (.invokevirtual 104, 3) := by decide +kernel
theorem dX5_digest_32 : decode cX5_digest 32 = .ok (.i2l, 1) := by decide +kernel
theorem dX5_digest_33 : decode cX5_digest 33 = .ok (.invokevirtual 198, 3) := by decide +kernel
theorem dX5_digest_36 : decode cX5_digest 36 = .ok (.iinc 2 1, 3) := by decide +kernel
theorem dX5_digest_39 : decode cX5_digest 39 = .ok (.goto (-20), 3) := by decide +kernel
theorem dX5_digest_42 : decode cX5_digest 42 = .ok (.iinc 1 1, 3) := by decide +kernel
theorem dX5_digest_45 : decode cX5_digest 45 = .ok (.goto (-36), 3) := by decide +kernel
theorem dX5_digest_48 : decode cX5_digest 48 = .ok (.iconst 0, 1) := by decide +kernel
theorem dX5_digest_49 : decode cX5_digest 49 = .ok (.istore_n 1, 1) := by decide +kernel
theorem dX5_digest_50 : decode cX5_digest 50 = .ok (.iload_n 1, 1) := by decide +kernel
theorem dX5_digest_51 : decode cX5_digest 51 = .ok (.aload_n 0, 1) := by decide +kernel
theorem dX5_digest_52 : decode cX5_digest 52 = .ok (.getfield 57, 3) := by decide +kernel
theorem dX5_digest_55 : decode cX5_digest 55 = .ok (.if_icmp .ge 33, 3) := by decide +kernel
theorem dX5_digest_58 : decode cX5_digest 58 = .ok (.iconst 0, 1) := by decide +kernel
theorem dX5_digest_59 : decode cX5_digest 59 = .ok (.istore_n 2, 1) := by decide +kernel
theorem dX5_digest_60 : decode cX5_digest 60 = .ok (.iload_n 2, 1) := by decide +kernel
theorem dX5_digest_61 : decode cX5_digest 61 = .ok (.iconst 4, 1) := by decide +kernel
theorem dX5_digest_62 : decode cX5_digest 62 = .ok (.if_icmp .ge 20, 3) := by decide +kernel
theorem dX5_digest_65 : decode cX5_digest 65 = .ok (.aload_n 0, 1) := by decide +kernel
theorem dX5_digest_66 : decode cX5_digest 66 = .ok (.aload_n 0, 1) := by decide +kernel
theorem dX5_digest_67 : decode cX5_digest 67 = .ok (.iload_n 1, 1) := by decide +kernel
theorem dX5_digest_68 : decode cX5_digest 68 = .ok (.iload_n 2, 1) := by decide +kernel
theorem dX5_digest_69 : decode cX5_digest 69 = .ok (.invokevirtual 111, 3) := by decide +kernel
theorem dX5_digest_72 : decode cX5_digest 72 = .ok (.i2l, 1) := by decide +kernel
theorem dX5_digest_73 : decode cX5_digest 73 = .ok (.invokevirtual 198, 3) := by decide +kernel
theorem dX5_digest_76 : decode cX5_digest 76 = .ok (.iinc 2 1, 3) := by decide +kernel
theorem dX5_digest_79 : decode cX5_digest 79 = .ok (.goto (-19), 3) := by decide +kernel
theorem dX5_digest_82 : decode cX5_digest 82 = .ok (.iinc 1 1, 3) := by decide +kernel
theorem dX5_digest_85 : decode cX5_digest 85 = .ok (.goto (-35), 3) := by decide +kernel
theorem dX5_digest_88 : decode cX5_digest 88 = .ok (.aload_n 0, 1) := by decide +kernel
theorem dX5_digest_89 : decode cX5_digest 89 = .ok (.getfield 60, 3) := by decide +kernel
theorem dX5_digest_92 : decode cX5_digest 92 = .ok (.ifCond .le 7, 3) := by decide +kernel
theorem dX5_digest_95 : decode cX5_digest 95 = .ok (.aload_n 0, 1) := by decide +kernel
theorem dX5_digest_96 : decode cX5_digest 96 = .ok (.invokevirtual 207, 3) := by decide +kernel
theorem dX5_digest_99 : decode cX5_digest 99 = .ok (.iconst 0, 1) := by decide +kernel
theorem dX5_digest_100 : decode cX5_digest 100 = .ok (.istore_n 1, 1) := by decide +kernel
theorem dX5_digest_101 : decode cX5_digest 101 = .ok (.iload_n 1, 1) := by decide +kernel
theorem dX5_digest_102 : decode cX5_digest 102 = .ok (.aload_n 0, 1) := by decide +kernel
theorem dX5_digest_103 : decode cX5_digest 103 = .ok (.getfield 45, 3) := by decide +kernel
theorem dX5_digest_106 : decode cX5_digest 106 = .ok (.if_icmp .ge 20, 3) := by decide +kernel
theorem dX5_digest_109 : decode cX5_digest 109 = .ok (.aload_n 0, 1) := by decide +kernel
theorem dX5_digest_110 : decode cX5_digest 110 = .ok (.aload_n 0, 1) := by decide +kernel
theorem dX5_digest_111 : decode cX5_digest 111 = .ok (.getfield 7, 3) := by decide +kernel
theorem dX5_digest_114 : decode cX5_digest 114 = .ok (.iload_n 1, 1) := by decide +kernel
theorem dX5_digest_115 : decode cX5_digest 115 = .ok (.iaload, 1) := by decide +kernel
theorem dX5_digest_116 : decode cX5_digest 116 = .ok (.i2l, 1) := by decide +kernel
theorem dX5_digest_117 : decode cX5_digest 117 = .ok (.invokevirtual 198, 3) := by decide +kernel
theorem dX5_digest_120 : decode cX5_digest 120 = .ok (.iinc 1 1, 3) := by decide +kernel
theorem dX5_digest_123 : decode cX5_digest 123 = .ok (.goto (-22), 3) := by decide +kernel
theorem dX5_digest_126 : decode cX5_digest 126 = .ok (.iconst 0, 1) := by decide +kernel
theorem dX5_digest_127 : decode cX5_digest 127 = .ok (.istore_n 1, 1) := by decide +kernel
theorem dX5_digest_128 : decode cX5_digest 128 = .ok (.iload_n 1, 1) := by decide +kernel
theorem dX5_digest_129 : decode cX5_digest 129 = .ok (.bipush 10, 2) := by decide +kernel
theorem dX5_digest_131 : decode cX5_digest 131 = .ok (.if_icmp .ge 19, 3) := by decide +kernel
theorem dX5_digest_134 : decode cX5_digest 134 = .ok (.aload_n 0, 1) := by decide +kernel
theorem dX5_digest_135 : decode cX5_digest 135 = .ok (.aload_n 0, 1) := by decide +kernel
theorem dX5_digest_136 : decode cX5_digest 136 = .ok (.iload_n 1, 1) := by decide +kernel
theorem dX5_digest_137 : decode cX5_digest 137 = .ok (.invokevirtual 189, 3) := by decide +kernel
theorem dX5_digest_140 : decode cX5_digest 140 = .ok (.i2l, 1) := by decide +kernel
theorem dX5_digest_141 : decode cX5_digest 141 = .ok (.invokevirtual 198, 3) := by decide +kernel
theorem dX5_digest_144 : decode cX5_digest 144 = .ok (.iinc 1 1, 3) := by decide +kernel
theorem dX5_digest_147 : decode cX5_digest 147 = .ok (.goto (-19), 3) := by decide +kernel
theorem dX5_digest_150 : decode cX5_digest 150 = .ok (.aload_n 0, 1) := by decide +kernel
theorem dX5_digest_151 : decode cX5_digest 151 = .ok (.getfield 194, 3) := by decide +kernel
theorem dX5_digest_154 : decode cX5_digest 154 = .ok (.lreturn, 1) := by decide +kernel
theorem dJ6_bitCount_0f7a4_0 : decode cJ6_bitCount_0f7a4 0 = .ok (.iload_n 0, 1) := by decide +kernel
theorem dJ6_bitCount_0f7a4_1 : decode cJ6_bitCount_0f7a4 1 = .ok (.iload_n 0, 1) := by decide +kernel
theorem dJ6_bitCount_0f7a4_2 : decode cJ6_bitCount_0f7a4 2 = .ok (.iconst 1, 1) := by decide +kernel
theorem dJ6_bitCount_0f7a4_3 : decode cJ6_bitCount_0f7a4 3 = .ok (.iushr, 1) := by decide +kernel
theorem dJ6_bitCount_0f7a4_4 : decode cJ6_bitCount_0f7a4 4 = .ok (.ldc_w 265, 3) := by decide +kernel
theorem dJ6_bitCount_0f7a4_7 : decode cJ6_bitCount_0f7a4 7 = .ok (.iand, 1) := by decide +kernel
theorem dJ6_bitCount_0f7a4_8 : decode cJ6_bitCount_0f7a4 8 = .ok (.isub, 1) := by decide +kernel
theorem dJ6_bitCount_0f7a4_9 : decode cJ6_bitCount_0f7a4 9 = .ok (.istore_n 0, 1) := by decide +kernel
theorem dJ6_bitCount_0f7a4_10 : decode cJ6_bitCount_0f7a4 10 = .ok (.iload_n 0, 1) := by decide +kernel
theorem dJ6_bitCount_0f7a4_11 : decode cJ6_bitCount_0f7a4 11 = .ok (.ldc_w 266, 3) := by decide +kernel
theorem dJ6_bitCount_0f7a4_14 : decode cJ6_bitCount_0f7a4 14 = .ok (.iand, 1) := by decide +kernel
theorem dJ6_bitCount_0f7a4_15 : decode cJ6_bitCount_0f7a4 15 = .ok (.iload_n 0, 1) := by decide +kernel
theorem dJ6_bitCount_0f7a4_16 : decode cJ6_bitCount_0f7a4 16 = .ok (.iconst 2, 1) := by decide +kernel
theorem dJ6_bitCount_0f7a4_17 : decode cJ6_bitCount_0f7a4 17 = .ok (.iushr, 1) := by decide +kernel
theorem dJ6_bitCount_0f7a4_18 : decode cJ6_bitCount_0f7a4 18 = .ok (.ldc_w 266, 3) := by decide +kernel
theorem dJ6_bitCount_0f7a4_21 : decode cJ6_bitCount_0f7a4 21 = .ok (.iand, 1) := by decide +kernel
theorem dJ6_bitCount_0f7a4_22 : decode cJ6_bitCount_0f7a4 22 = .ok (.iadd, 1) := by decide +kernel
theorem dJ6_bitCount_0f7a4_23 : decode cJ6_bitCount_0f7a4 23 = .ok (.istore_n 0, 1) := by decide +kernel
theorem dJ6_bitCount_0f7a4_24 : decode cJ6_bitCount_0f7a4 24 = .ok (.iload_n 0, 1) := by decide +kernel
theorem dJ6_bitCount_0f7a4_25 : decode cJ6_bitCount_0f7a4 25 = .ok (.iload_n 0, 1) := by decide +kernel
theorem dJ6_bitCount_0f7a4_26 : decode cJ6_bitCount_0f7a4 26 = .ok (.iconst 4, 1) := by decide +kernel
theorem dJ6_bitCount_0f7a4_27 : decode cJ6_bitCount_0f7a4 27 = .ok (.iushr, 1) := by decide +kernel
theorem dJ6_bitCount_0f7a4_28 : decode cJ6_bitCount_0f7a4 28 = .ok (.iadd, 1) := by decide +kernel
theorem dJ6_bitCount_0f7a4_29 : decode cJ6_bitCount_0f7a4 29 = .ok (.ldc_w 267, 3) := by decide +kernel
theorem dJ6_bitCount_0f7a4_32 : decode cJ6_bitCount_0f7a4 32 = .ok (.iand, 1) := by decide +kernel
theorem dJ6_bitCount_0f7a4_33 : decode cJ6_bitCount_0f7a4 33 = .ok (.istore_n 0, 1) := by decide +kernel
theorem dJ6_bitCount_0f7a4_34 : decode cJ6_bitCount_0f7a4 34 = .ok (.iload_n 0, 1) := by decide +kernel
theorem dJ6_bitCount_0f7a4_35 : decode cJ6_bitCount_0f7a4 35 = .ok (.iload_n 0, 1) := by decide +kernel
theorem dJ6_bitCount_0f7a4_36 : decode cJ6_bitCount_0f7a4 36 = .ok (.bipush 8, 2) := by decide +kernel
theorem dJ6_bitCount_0f7a4_38 : decode cJ6_bitCount_0f7a4 38 = .ok (.iushr, 1) := by decide +kernel
theorem dJ6_bitCount_0f7a4_39 : decode cJ6_bitCount_0f7a4 39 = .ok (.iadd, 1) := by decide +kernel
theorem dJ6_bitCount_0f7a4_40 : decode cJ6_bitCount_0f7a4 40 = .ok (.istore_n 0, 1) := by decide +kernel
theorem dJ6_bitCount_0f7a4_41 : decode cJ6_bitCount_0f7a4 41 = .ok (.iload_n 0, 1) := by decide +kernel
theorem dJ6_bitCount_0f7a4_42 : decode cJ6_bitCount_0f7a4 42 = .ok (.iload_n 0, 1) := by decide +kernel
theorem dJ6_bitCount_0f7a4_43 : decode cJ6_bitCount_0f7a4 43 = .ok (.bipush 16, 2) := by decide +kernel
theorem dJ6_bitCount_0f7a4_45 : decode cJ6_bitCount_0f7a4 45 = .ok (.iushr, 1) := by decide +kernel
theorem dJ6_bitCount_0f7a4_46 : decode cJ6_bitCount_0f7a4 46 = .ok (.iadd, 1) := by decide +kernel
theorem dJ6_bitCount_0f7a4_47 : decode cJ6_bitCount_0f7a4 47 = .ok (.istore_n 0, 1) := by decide +kernel
theorem dJ6_bitCount_0f7a4_48 : decode cJ6_bitCount_0f7a4 48 = .ok (.iload_n 0, 1) := by decide +kernel
theorem dJ6_bitCount_0f7a4_49 : decode cJ6_bitCount_0f7a4 49 = .ok (.bipush 63, 2) := by decide +kernel
theorem dJ6_bitCount_0f7a4_51 : decode cJ6_bitCount_0f7a4 51 = .ok (.iand, 1) := by decide +kernel
theorem dJ6_bitCount_0f7a4_52 : decode cJ6_bitCount_0f7a4 52 = .ok (.ireturn, 1) := by decide +kernel
theorem dJ9_max_7cf53_0 : decode cJ9_max_7cf53 0 = .ok (.iload_n 0, 1) := by decide +kernel
theorem dJ9_max_7cf53_1 : decode cJ9_max_7cf53 1 = .ok (.iload_n 1, 1) := by decide +kernel
theorem dJ9_max_7cf53_2 : decode cJ9_max_7cf53 2 = .ok (.if_icmp .lt 7, 3) := by decide +kernel
theorem dJ9_max_7cf53_5 : decode cJ9_max_7cf53 5 = .ok (.iload_n 0, 1) := by decide +kernel
theorem dJ9_max_7cf53_6 : decode cJ9_max_7cf53 6 = .ok (.goto 4, 3) := by decide +kernel
theorem dJ9_max_7cf53_9 : decode cJ9_max_7cf53 9 = .ok (.iload_n 1, 1) := by decide +kernel
theorem dJ9_max_7cf53_10 : decode cJ9_max_7cf53 10 = .ok (.ireturn, 1) := by decide +kernel
theorem dJ9_min_7cf53_0 : decode cJ9_min_7cf53 0 = .ok (.iload_n 0, 1) := by decide +kernel
theorem dJ9_min_7cf53_1 : decode cJ9_min_7cf53 1 = .ok (.iload_n 1, 1) := by decide +kernel
theorem dJ9_min_7cf53_2 : decode cJ9_min_7cf53 2 = .ok (.if_icmp .gt 7, 3) := by decide +kernel
theorem dJ9_min_7cf53_5 : decode cJ9_min_7cf53 5 = .ok (.iload_n 0, 1) := by decide +kernel
theorem dJ9_min_7cf53_6 : decode cJ9_min_7cf53 6 = .ok (.goto 4, 3) := by decide +kernel
theorem dJ9_min_7cf53_9 : decode cJ9_min_7cf53 9 = .ok (.iload_n 1, 1) := by decide +kernel
theorem dJ9_min_7cf53_10 : decode cJ9_min_7cf53 10 = .ok (.ireturn, 1) := by decide +kernel
theorem dJ7_fill_53178_0 : decode cJ7_fill_53178 0 = .ok (.iconst 0, 1) := by decide +kernel
theorem dJ7_fill_53178_1 : decode cJ7_fill_53178 1 = .ok (.istore_n 2, 1) := by decide +kernel
theorem dJ7_fill_53178_2 : decode cJ7_fill_53178 2 = .ok (.aload_n 0, 1) := by decide +kernel
theorem dJ7_fill_53178_3 : decode cJ7_fill_53178 3 = .ok (.arraylength, 1) := by decide +kernel
theorem dJ7_fill_53178_4 : decode cJ7_fill_53178 4 = .ok (.istore_n 3, 1) := by decide +kernel
theorem dJ7_fill_53178_5 : decode cJ7_fill_53178 5 = .ok (.iload_n 2, 1) := by decide +kernel
theorem dJ7_fill_53178_6 : decode cJ7_fill_53178 6 = .ok (.iload_n 3, 1) := by decide +kernel
theorem dJ7_fill_53178_7 : decode cJ7_fill_53178 7 = .ok (.if_icmp .ge 13, 3) := by decide +kernel
theorem dJ7_fill_53178_10 : decode cJ7_fill_53178 10 = .ok (.aload_n 0, 1) := by decide +kernel
theorem dJ7_fill_53178_11 : decode cJ7_fill_53178 11 = .ok (.iload_n 2, 1) := by decide +kernel
theorem dJ7_fill_53178_12 : decode cJ7_fill_53178 12 = .ok (.iload_n 1, 1) := by decide +kernel
theorem dJ7_fill_53178_13 : decode cJ7_fill_53178 13 = .ok (.iastore, 1) := by decide +kernel
theorem dJ7_fill_53178_14 : decode cJ7_fill_53178 14 = .ok (.iinc 2 1, 3) := by decide +kernel
theorem dJ7_fill_53178_17 : decode cJ7_fill_53178 17 = .ok (.goto (-12), 3) := by decide +kernel
theorem dJ7_fill_53178_20 : decode cJ7_fill_53178 20 = .ok (.return_, 1) := by decide +kernel
theorem dL_law_0 : decode cL_law 0 = .ok (.new 7, 3) := by decide +kernel
theorem dL_law_3 : decode cL_law 3 = .ok (.dup, 1) := by decide +kernel
theorem dL_law_4 : decode cL_law 4 = .ok (.invokespecial 9, 3) := by decide +kernel
theorem dL_law_7 : decode cL_law 7 = .ok (.astore_n 1, 1) := by decide +kernel
theorem dL_law_8 : decode cL_law 8 = .ok (.new 10, 3) := by decide +kernel
theorem dL_law_11 : decode cL_law 11 = .ok (.dup, 1) := by decide +kernel
theorem dL_law_12 : decode cL_law 12 = .ok (.invokespecial 12, 3) := by decide +kernel
theorem dL_law_15 : decode cL_law 15 = .ok (.astore_n 2, 1) := by decide +kernel
theorem dL_law_16 : decode cL_law 16 = .ok (.iconst 0, 1) := by decide +kernel
theorem dL_law_17 : decode cL_law 17 = .ok (.istore_n 3, 1) := by decide +kernel
theorem dL_law_18 : decode cL_law 18 = .ok (.iload_n 3, 1) := by decide +kernel
theorem dL_law_19 : decode cL_law 19 = .ok (.aload_n 0, 1) := by decide +kernel
theorem dL_law_20 : decode cL_law 20 = .ok (.arraylength, 1) := by decide +kernel
theorem dL_law_21 : decode cL_law 21 = .ok (.iconst 3, 1) := by decide +kernel
theorem dL_law_22 : decode cL_law 22 = .ok (.isub, 1) := by decide +kernel
theorem dL_law_23 : decode cL_law 23 = .ok (.if_icmp .gt 575, 3) := by decide +kernel
theorem dL_law_26 : decode cL_law 26 = .ok (.aload_n 0, 1) := by decide +kernel
theorem dL_law_27 : decode cL_law 27 = .ok (.iload_n 3, 1) := by decide +kernel
theorem dL_law_28 : decode cL_law 28 = .ok (.iaload, 1) := by decide +kernel
theorem dL_law_29 : decode cL_law 29 = .ok (.bipush 31, 2) := by decide +kernel
theorem dL_law_31 : decode cL_law 31 = .ok (.iand, 1) := by decide +kernel
theorem dL_law_32 : decode cL_law 32 = .ok (.tableswitch 560 0 16 #[84, 107, 120, 133, 146, 179, 202, 251, 284, 317, 350, 399, 448, 487, 510, 523, 546], 84) := by decide +kernel
theorem dL_law_116 : decode cL_law 116 = .ok (.aload_n 1, 1) := by decide +kernel
theorem dL_law_117 : decode cL_law 117 = .ok (.aload_n 0, 1) := by decide +kernel
theorem dL_law_118 : decode cL_law 118 = .ok (.iload_n 3, 1) := by decide +kernel
theorem dL_law_119 : decode cL_law 119 = .ok (.iconst 1, 1) := by decide +kernel
theorem dL_law_120 : decode cL_law 120 = .ok (.iadd, 1) := by decide +kernel
theorem dL_law_121 : decode cL_law 121 = .ok (.iaload, 1) := by decide +kernel
theorem dL_law_122 : decode cL_law 122 = .ok (.invokevirtual 13, 3) := by decide +kernel
theorem dL_law_125 : decode cL_law 125 = .ok (.aload_n 2, 1) := by decide +kernel
theorem dL_law_126 : decode cL_law 126 = .ok (.aload_n 0, 1) := by decide +kernel
theorem dL_law_127 : decode cL_law 127 = .ok (.iload_n 3, 1) := by decide +kernel
theorem dL_law_128 : decode cL_law 128 = .ok (.iconst 1, 1) := by decide +kernel
theorem dL_law_129 : decode cL_law 129 = .ok (.iadd, 1) := by decide +kernel
theorem dL_law_130 : decode cL_law 130 = .ok (.iaload, 1) := by decide +kernel
theorem dL_law_131 : decode cL_law 131 = .ok (.invokevirtual 17, 3) := by decide +kernel
theorem dL_law_134 : decode cL_law 134 = .ok (.if_icmp .eq 458, 3) := by decide +kernel
theorem dL_law_137 : decode cL_law 137 = .ok (.iconst 0, 1) := by decide +kernel
theorem dL_law_138 : decode cL_law 138 = .ok (.ireturn, 1) := by decide +kernel
theorem dL_law_139 : decode cL_law 139 = .ok (.aload_n 1, 1) := by decide +kernel
theorem dL_law_140 : decode cL_law 140 = .ok (.invokevirtual 18, 3) := by decide +kernel
theorem dL_law_143 : decode cL_law 143 = .ok (.aload_n 2, 1) := by decide +kernel
theorem dL_law_144 : decode cL_law 144 = .ok (.invokevirtual 22, 3) := by decide +kernel
theorem dL_law_147 : decode cL_law 147 = .ok (.if_icmp .eq 445, 3) := by decide +kernel
theorem dL_law_150 : decode cL_law 150 = .ok (.iconst 0, 1) := by decide +kernel
theorem dL_law_151 : decode cL_law 151 = .ok (.ireturn, 1) := by decide +kernel
theorem dL_law_152 : decode cL_law 152 = .ok (.aload_n 1, 1) := by decide +kernel
theorem dL_law_153 : decode cL_law 153 = .ok (.invokevirtual 23, 3) := by decide +kernel
theorem dL_law_156 : decode cL_law 156 = .ok (.aload_n 2, 1) := by decide +kernel
theorem dL_law_157 : decode cL_law 157 = .ok (.invokevirtual 26, 3) := by decide +kernel
theorem dL_law_160 : decode cL_law 160 = .ok (.if_icmp .eq 432, 3) := by decide +kernel
theorem dL_law_163 : decode cL_law 163 = .ok (.iconst 0, 1) := by decide +kernel
theorem dL_law_164 : decode cL_law 164 = .ok (.ireturn, 1) := by decide +kernel
theorem dL_law_165 : decode cL_law 165 = .ok (.aload_n 1, 1) := by decide +kernel
theorem dL_law_166 : decode cL_law 166 = .ok (.invokevirtual 27, 3) := by decide +kernel
theorem dL_law_169 : decode cL_law 169 = .ok (.aload_n 2, 1) := by decide +kernel
theorem dL_law_170 : decode cL_law 170 = .ok (.invokevirtual 30, 3) := by decide +kernel
theorem dL_law_173 : decode cL_law 173 = .ok (.if_icmp .eq 419, 3) := by decide +kernel
theorem dL_law_176 : decode cL_law 176 = .ok (.iconst 0, 1) := by decide +kernel
theorem dL_law_177 : decode cL_law 177 = .ok (.ireturn, 1) := by decide +kernel
theorem dL_law_178 : decode cL_law 178 = .ok (.aload_n 1, 1) := by decide +kernel
theorem dL_law_179 : decode cL_law 179 = .ok (.aload_n 0, 1) := by decide +kernel
theorem dL_law_180 : decode cL_law 180 = .ok (.iload_n 3, 1) := by decide +kernel
theorem dL_law_181 : decode cL_law 181 = .ok (.iconst 1, 1) := by decide +kernel
theorem dL_law_182 : decode cL_law 182 = .ok (.iadd, 1) := by decide +kernel
theorem dL_law_183 : decode cL_law 183 = .ok (.iaload, 1) := by decide +kernel
theorem dL_law_184 : decode cL_law 184 = .ok (.aload_n 0, 1) := by decide +kernel
theorem dL_law_185 : decode cL_law 185 = .ok (.iload_n 3, 1) := by decide +kernel
theorem dL_law_186 : decode cL_law 186 = .ok (.iconst 2, 1) := by decide +kernel
theorem dL_law_187 : decode cL_law 187 = .ok (.iadd, 1) := by decide +kernel
theorem dL_law_188 : decode cL_law 188 = .ok (.iaload, 1) := by decide +kernel
theorem dL_law_189 : decode cL_law 189 = .ok (.invokevirtual 31, 3) := by decide +kernel
theorem dL_law_192 : decode cL_law 192 = .ok (.aload_n 2, 1) := by decide +kernel
theorem dL_law_193 : decode cL_law 193 = .ok (.aload_n 0, 1) := by decide +kernel
theorem dL_law_194 : decode cL_law 194 = .ok (.iload_n 3, 1) := by decide +kernel
theorem dL_law_195 : decode cL_law 195 = .ok (.iconst 1, 1) := by decide +kernel
theorem dL_law_196 : decode cL_law 196 = .ok (.iadd, 1) := by decide +kernel
theorem dL_law_197 : decode cL_law 197 = .ok (.iaload, 1) := by decide +kernel
theorem dL_law_198 : decode cL_law 198 = .ok (.aload_n 0, 1) := by decide +kernel
theorem dL_law_199 : decode cL_law 199 = .ok (.iload_n 3, 1) := by decide +kernel
theorem dL_law_200 : decode cL_law 200 = .ok (.iconst 2, 1) := by decide +kernel
theorem dL_law_201 : decode cL_law 201 = .ok (.iadd, 1) := by decide +kernel
theorem dL_law_202 : decode cL_law 202 = .ok (.iaload, 1) := by decide +kernel
theorem dL_law_203 : decode cL_law 203 = .ok (.invokevirtual 35, 3) := by decide +kernel
theorem dL_law_206 : decode cL_law 206 = .ok (.if_icmp .eq 386, 3) := by decide +kernel
theorem dL_law_209 : decode cL_law 209 = .ok (.iconst 0, 1) := by decide +kernel
theorem dL_law_210 : decode cL_law 210 = .ok (.ireturn, 1) := by decide +kernel
theorem dL_law_211 : decode cL_law 211 = .ok (.aload_n 1, 1) := by decide +kernel
theorem dL_law_212 : decode cL_law 212 = .ok (.aload_n 0, 1) := by decide +kernel
theorem dL_law_213 : decode cL_law 213 = .ok (.iload_n 3, 1) := by decide +kernel
theorem dL_law_214 : decode cL_law 214 = .ok (.iconst 1, 1) := by decide +kernel
theorem dL_law_215 : decode cL_law 215 = .ok (.iadd, 1) := by decide +kernel
theorem dL_law_216 : decode cL_law 216 = .ok (.iaload, 1) := by decide +kernel
theorem dL_law_217 : decode cL_law 217 = .ok (.invokevirtual 36, 3) := by decide +kernel
theorem dL_law_220 : decode cL_law 220 = .ok (.aload_n 2, 1) := by decide +kernel
theorem dL_law_221 : decode cL_law 221 = .ok (.aload_n 0, 1) := by decide +kernel
theorem dL_law_222 : decode cL_law 222 = .ok (.iload_n 3, 1) := by decide +kernel
theorem dL_law_223 : decode cL_law 223 = .ok (.iconst 1, 1) := by decide +kernel
theorem dL_law_224 : decode cL_law 224 = .ok (.iadd, 1) := by decide +kernel
theorem dL_law_225 : decode cL_law 225 = .ok (.iaload, 1) := by decide +kernel
theorem dL_law_226 : decode cL_law 226 = .ok (.invokevirtual 39, 3) := by decide +kernel
theorem dL_law_229 : decode cL_law 229 = .ok (.if_icmp .eq 363, 3) := by decide +kernel
theorem dL_law_232 : decode cL_law 232 = .ok (.iconst 0, 1) := by decide +kernel
theorem dL_law_233 : decode cL_law 233 = .ok (.ireturn, 1) := by decide +kernel
theorem dL_law_234 : decode cL_law 234 = .ok (.aload_n 1, 1) := by decide +kernel
theorem dL_law_235 : decode cL_law 235 = .ok (.aload_n 0, 1) := by decide +kernel
theorem dL_law_236 : decode cL_law 236 = .ok (.iload_n 3, 1) := by decide +kernel
theorem dL_law_237 : decode cL_law 237 = .ok (.iconst 1, 1) := by decide +kernel
theorem dL_law_238 : decode cL_law 238 = .ok (.iadd, 1) := by decide +kernel
theorem dL_law_239 : decode cL_law 239 = .ok (.iaload, 1) := by decide +kernel
theorem dL_law_240 : decode cL_law 240 = .ok (.aload_n 0, 1) := by decide +kernel
theorem dL_law_241 : decode cL_law 241 = .ok (.iload_n 3, 1) := by decide +kernel
theorem dL_law_242 : decode cL_law 242 = .ok (.iconst 2, 1) := by decide +kernel
theorem dL_law_243 : decode cL_law 243 = .ok (.iadd, 1) := by decide +kernel
theorem dL_law_244 : decode cL_law 244 = .ok (.iaload, 1) := by decide +kernel
theorem dL_law_245 : decode cL_law 245 = .ok (.ifCond .eq 7, 3) := by decide +kernel
theorem dL_law_248 : decode cL_law 248 = .ok (.iconst 1, 1) := by decide +kernel
theorem dL_law_249 : decode cL_law 249 = .ok (.goto 4, 3) := by decide +kernel
theorem dL_law_252 : decode cL_law 252 = .ok (.iconst 0, 1) := by decide +kernel
theorem dL_law_253 : decode cL_law 253 = .ok (.invokevirtual 40, 3) := by decide +kernel
theorem dL_law_256 : decode cL_law 256 = .ok (.aload_n 2, 1) := by decide +kernel
theorem dL_law_257 : decode cL_law 257 = .ok (.aload_n 0, 1) := by decide +kernel
theorem dL_law_258 : decode cL_law 258 = .ok (.iload_n 3, 1) := by decide +kernel
theorem dL_law_259 : decode cL_law 259 = .ok (.iconst 1, 1) := by decide +kernel
theorem dL_law_260 : decode cL_law 260 = .ok (.iadd, 1) := by decide +kernel
theorem dL_law_261 : decode cL_law 261 = .ok (.iaload, 1) := by decide +kernel
theorem dL_law_262 : decode cL_law 262 = .ok (.aload_n 0, 1) := by decide +kernel
theorem dL_law_263 : decode cL_law 263 = .ok (.iload_n 3, 1) := by decide +kernel
theorem dL_law_264 : decode cL_law 264 = .ok (.iconst 2, 1) := by decide +kernel
theorem dL_law_265 : decode cL_law 265 = .ok (.iadd, 1) := by decide +kernel
theorem dL_law_266 : decode cL_law 266 = .ok (.iaload, 1) := by decide +kernel
theorem dL_law_267 : decode cL_law 267 = .ok (.ifCond .eq 7, 3) := by decide +kernel
theorem dL_law_270 : decode cL_law 270 = .ok (.iconst 1, 1) := by decide +kernel
theorem dL_law_271 : decode cL_law 271 = .ok (.goto 4, 3) := by decide +kernel
theorem dL_law_274 : decode cL_law 274 = .ok (.iconst 0, 1) := by decide +kernel
theorem dL_law_275 : decode cL_law 275 = .ok (.invokevirtual 44, 3) := by decide +kernel
theorem dL_law_278 : decode cL_law 278 = .ok (.if_icmp .eq 314, 3) := by decide +kernel
theorem dL_law_281 : decode cL_law 281 = .ok (.iconst 0, 1) := by decide +kernel
theorem dL_law_282 : decode cL_law 282 = .ok (.ireturn, 1) := by decide +kernel
theorem dL_law_283 : decode cL_law 283 = .ok (.aload_n 1, 1) := by decide +kernel
theorem dL_law_284 : decode cL_law 284 = .ok (.aload_n 0, 1) := by decide +kernel
theorem dL_law_285 : decode cL_law 285 = .ok (.iload_n 3, 1) := by decide +kernel
theorem dL_law_286 : decode cL_law 286 = .ok (.iconst 1, 1) := by decide +kernel
theorem dL_law_287 : decode cL_law 287 = .ok (.iadd, 1) := by decide +kernel
theorem dL_law_288 : decode cL_law 288 = .ok (.iaload, 1) := by decide +kernel
theorem dL_law_289 : decode cL_law 289 = .ok (.aload_n 0, 1) := by decide +kernel
theorem dL_law_290 : decode cL_law 290 = .ok (.iload_n 3, 1) := by decide +kernel
theorem dL_law_291 : decode cL_law 291 = .ok (.iconst 2, 1) := by decide +kernel
theorem dL_law_292 : decode cL_law 292 = .ok (.iadd, 1) := by decide +kernel
theorem dL_law_293 : decode cL_law 293 = .ok (.iaload, 1) := by decide +kernel
theorem dL_law_294 : decode cL_law 294 = .ok (.invokevirtual 45, 3) := by decide +kernel
theorem dL_law_297 : decode cL_law 297 = .ok (.aload_n 2, 1) := by decide +kernel
theorem dL_law_298 : decode cL_law 298 = .ok (.aload_n 0, 1) := by decide +kernel
theorem dL_law_299 : decode cL_law 299 = .ok (.iload_n 3, 1) := by decide +kernel
theorem dL_law_300 : decode cL_law 300 = .ok (.iconst 1, 1) := by decide +kernel
theorem dL_law_301 : decode cL_law 301 = .ok (.iadd, 1) := by decide +kernel
theorem dL_law_302 : decode cL_law 302 = .ok (.iaload, 1) := by decide +kernel
theorem dL_law_303 : decode cL_law 303 = .ok (.aload_n 0, 1) := by decide +kernel
theorem dL_law_304 : decode cL_law 304 = .ok (.iload_n 3, 1) := by decide +kernel
theorem dL_law_305 : decode cL_law 305 = .ok (.iconst 2, 1) := by decide +kernel
theorem dL_law_306 : decode cL_law 306 = .ok (.iadd, 1) := by decide +kernel
theorem dL_law_307 : decode cL_law 307 = .ok (.iaload, 1) := by decide +kernel
theorem dL_law_308 : decode cL_law 308 = .ok (.invokevirtual 48, 3) := by decide +kernel
theorem dL_law_311 : decode cL_law 311 = .ok (.if_icmp .eq 281, 3) := by decide +kernel
theorem dL_law_314 : decode cL_law 314 = .ok (.iconst 0, 1) := by decide +kernel
theorem dL_law_315 : decode cL_law 315 = .ok (.ireturn, 1) := by decide +kernel
theorem dL_law_316 : decode cL_law 316 = .ok (.aload_n 1, 1) := by decide +kernel
theorem dL_law_317 : decode cL_law 317 = .ok (.aload_n 0, 1) := by decide +kernel
theorem dL_law_318 : decode cL_law 318 = .ok (.iload_n 3, 1) := by decide +kernel
theorem dL_law_319 : decode cL_law 319 = .ok (.iconst 1, 1) := by decide +kernel
theorem dL_law_320 : decode cL_law 320 = .ok (.iadd, 1) := by decide +kernel
theorem dL_law_321 : decode cL_law 321 = .ok (.iaload, 1) := by decide +kernel
theorem dL_law_322 : decode cL_law 322 = .ok (.aload_n 0, 1) := by decide +kernel
theorem dL_law_323 : decode cL_law 323 = .ok (.iload_n 3, 1) := by decide +kernel
theorem dL_law_324 : decode cL_law 324 = .ok (.iconst 2, 1) := by decide +kernel
theorem dL_law_325 : decode cL_law 325 = .ok (.iadd, 1) := by decide +kernel
theorem dL_law_326 : decode cL_law 326 = .ok (.iaload, 1) := by decide +kernel
theorem dL_law_327 : decode cL_law 327 = .ok (.invokevirtual 49, 3) := by decide +kernel
theorem dL_law_330 : decode cL_law 330 = .ok (.aload_n 2, 1) := by decide +kernel
theorem dL_law_331 : decode cL_law 331 = .ok (.aload_n 0, 1) := by decide +kernel
theorem dL_law_332 : decode cL_law 332 = .ok (.iload_n 3, 1) := by decide +kernel
theorem dL_law_333 : decode cL_law 333 = .ok (.iconst 1, 1) := by decide +kernel
theorem dL_law_334 : decode cL_law 334 = .ok (.iadd, 1) := by decide +kernel
theorem dL_law_335 : decode cL_law 335 = .ok (.iaload, 1) := by decide +kernel
theorem dL_law_336 : decode cL_law 336 = .ok (.aload_n 0, 1) := by decide +kernel
theorem dL_law_337 : decode cL_law 337 = .ok (.iload_n 3, 1) := by decide +kernel
theorem dL_law_338 : decode cL_law 338 = .ok (.iconst 2, 1) := by decide +kernel
theorem dL_law_339 : decode cL_law 339 = .ok (.iadd, 1) := by decide +kernel
theorem dL_law_340 : decode cL_law 340 = .ok (.iaload, 1) := by decide +kernel
theorem dL_law_341 : decode cL_law 341 = .ok (.invokevirtual 52, 3) := by decide +kernel
theorem dL_law_344 : decode cL_law 344 = .ok (.if_icmp .eq 248, 3) := by decide +kernel
theorem dL_law_347 : decode cL_law 347 = .ok (.iconst 0, 1) := by decide +kernel
theorem dL_law_348 : decode cL_law 348 = .ok (.ireturn, 1) := by decide +kernel
theorem dL_law_349 : decode cL_law 349 = .ok (.aload_n 1, 1) := by decide +kernel
theorem dL_law_350 : decode cL_law 350 = .ok (.aload_n 0, 1) := by decide +kernel
theorem dL_law_351 : decode cL_law 351 = .ok (.iload_n 3, 1) := by decide +kernel
theorem dL_law_352 : decode cL_law 352 = .ok (.iconst 1, 1) := by decide +kernel
theorem dL_law_353 : decode cL_law 353 = .ok (.iadd, 1) := by decide +kernel
theorem dL_law_354 : decode cL_law 354 = .ok (.iaload, 1) := by decide +kernel
theorem dL_law_355 : decode cL_law 355 = .ok (.aload_n 0, 1) := by decide +kernel
theorem dL_law_356 : decode cL_law 356 = .ok (.iload_n 3, 1) := by decide +kernel
theorem dL_law_357 : decode cL_law 357 = .ok (.iconst 2, 1) := by decide +kernel
theorem dL_law_358 : decode cL_law 358 = .ok (.iadd, 1) := by decide +kernel
theorem dL_law_359 : decode cL_law 359 = .ok (.iaload, 1) := by decide +kernel
theorem dL_law_360 : decode cL_law 360 = .ok (.invokevirtual 53, 3) := by decide +kernel
theorem dL_law_363 : decode cL_law 363 = .ok (.aload_n 2, 1) := by decide +kernel
theorem dL_law_364 : decode cL_law 364 = .ok (.aload_n 0, 1) := by decide +kernel
theorem dL_law_365 : decode cL_law 365 = .ok (.iload_n 3, 1) := by decide +kernel
theorem dL_law_366 : decode cL_law 366 = .ok (.iconst 1, 1) := by decide +kernel
theorem dL_law_367 : decode cL_law 367 = .ok (.iadd, 1) := by decide +kernel
theorem dL_law_368 : decode cL_law 368 = .ok (.iaload, 1) := by decide +kernel
theorem dL_law_369 : decode cL_law 369 = .ok (.aload_n 0, 1) := by decide +kernel
theorem dL_law_370 : decode cL_law 370 = .ok (.iload_n 3, 1) := by decide +kernel
theorem dL_law_371 : decode cL_law 371 = .ok (.iconst 2, 1) := by decide +kernel
theorem dL_law_372 : decode cL_law 372 = .ok (.iadd, 1) := by decide +kernel
theorem dL_law_373 : decode cL_law 373 = .ok (.iaload, 1) := by decide +kernel
theorem dL_law_374 : decode cL_law 374 = .ok (.invokevirtual 56, 3) := by decide +kernel
theorem dL_law_377 : decode cL_law 377 = .ok (.if_icmp .eq 215, 3) := by decide +kernel
theorem dL_law_380 : decode cL_law 380 = .ok (.iconst 0, 1) := by decide +kernel
theorem dL_law_381 : decode cL_law 381 = .ok (.ireturn, 1) := by decide +kernel
theorem dL_law_382 : decode cL_law 382 = .ok (.aload_n 1, 1) := by decide +kernel
theorem dL_law_383 : decode cL_law 383 = .ok (.aload_n 0, 1) := by decide +kernel
theorem dL_law_384 : decode cL_law 384 = .ok (.iload_n 3, 1) := by decide +kernel
theorem dL_law_385 : decode cL_law 385 = .ok (.iconst 1, 1) := by decide +kernel
theorem dL_law_386 : decode cL_law 386 = .ok (.iadd, 1) := by decide +kernel
theorem dL_law_387 : decode cL_law 387 = .ok (.iaload, 1) := by decide +kernel
theorem dL_law_388 : decode cL_law 388 = .ok (.ifCond .eq 7, 3) := by decide +kernel
theorem dL_law_391 : decode cL_law 391 = .ok (.iconst 1, 1) := by decide +kernel
theorem dL_law_392 : decode cL_law 392 = .ok (.goto 4, 3) := by decide +kernel
theorem dL_law_395 : decode cL_law 395 = .ok (.iconst 0, 1) := by decide +kernel
theorem dL_law_396 : decode cL_law 396 = .ok (.aload_n 0, 1) := by decide +kernel
theorem dL_law_397 : decode cL_law 397 = .ok (.iload_n 3, 1) := by decide +kernel
theorem dL_law_398 : decode cL_law 398 = .ok (.iconst 2, 1) := by decide +kernel
theorem dL_law_399 : decode cL_law 399 = .ok (.iadd, 1) := by decide +kernel
theorem dL_law_400 : decode cL_law 400 = .ok (.iaload, 1) := by decide +kernel
theorem dL_law_401 : decode cL_law 401 = .ok (.invokevirtual 57, 3) := by decide +kernel
theorem dL_law_404 : decode cL_law 404 = .ok (.aload_n 2, 1) := by decide +kernel
theorem dL_law_405 : decode cL_law 405 = .ok (.aload_n 0, 1) := by decide +kernel
theorem dL_law_406 : decode cL_law 406 = .ok (.iload_n 3, 1) := by decide +kernel
theorem dL_law_407 : decode cL_law 407 = .ok (.iconst 1, 1) := by decide +kernel
theorem dL_law_408 : decode cL_law 408 = .ok (.iadd, 1) := by decide +kernel
theorem dL_law_409 : decode cL_law 409 = .ok (.iaload, 1) := by decide +kernel
theorem dL_law_410 : decode cL_law 410 = .ok (.ifCond .eq 7, 3) := by decide +kernel
theorem dL_law_413 : decode cL_law 413 = .ok (.iconst 1, 1) := by decide +kernel
theorem dL_law_414 : decode cL_law 414 = .ok (.goto 4, 3) := by decide +kernel
theorem dL_law_417 : decode cL_law 417 = .ok (.iconst 0, 1) := by decide +kernel
theorem dL_law_418 : decode cL_law 418 = .ok (.aload_n 0, 1) := by decide +kernel
theorem dL_law_419 : decode cL_law 419 = .ok (.iload_n 3, 1) := by decide +kernel
theorem dL_law_420 : decode cL_law 420 = .ok (.iconst 2, 1) := by decide +kernel
theorem dL_law_421 : decode cL_law 421 = .ok (.iadd, 1) := by decide +kernel
theorem dL_law_422 : decode cL_law 422 = .ok (.iaload, 1) := by decide +kernel
theorem dL_law_423 : decode cL_law 423 = .ok (.invokevirtual 61, 3) := by decide +kernel
theorem dL_law_426 : decode cL_law 426 = .ok (.if_icmp .eq 166, 3) := by decide +kernel
theorem dL_law_429 : decode cL_law 429 = .ok (.iconst 0, 1) := by decide +kernel
theorem dL_law_430 : decode cL_law 430 = .ok (.ireturn, 1) := by decide +kernel
theorem dL_law_431 : decode cL_law 431 = .ok (.aload_n 1, 1) := by decide +kernel
theorem dL_law_432 : decode cL_law 432 = .ok (.aload_n 0, 1) := by decide +kernel
theorem dL_law_433 : decode cL_law 433 = .ok (.iload_n 3, 1) := by decide +kernel
theorem dL_law_434 : decode cL_law 434 = .ok (.iconst 1, 1) := by decide +kernel
theorem dL_law_435 : decode cL_law 435 = .ok (.iadd, 1) := by decide +kernel
theorem dL_law_436 : decode cL_law 436 = .ok (.iaload, 1) := by decide +kernel
theorem dL_law_437 : decode cL_law 437 = .ok (.ifCond .eq 7, 3) := by decide +kernel
theorem dL_law_440 : decode cL_law 440 = .ok (.iconst 1, 1) := by decide +kernel
theorem dL_law_441 : decode cL_law 441 = .ok (.goto 4, 3) := by decide +kernel
theorem dL_law_444 : decode cL_law 444 = .ok (.iconst 0, 1) := by decide +kernel
theorem dL_law_445 : decode cL_law 445 = .ok (.aload_n 0, 1) := by decide +kernel
theorem dL_law_446 : decode cL_law 446 = .ok (.iload_n 3, 1) := by decide +kernel
theorem dL_law_447 : decode cL_law 447 = .ok (.iconst 2, 1) := by decide +kernel
theorem dL_law_448 : decode cL_law 448 = .ok (.iadd, 1) := by decide +kernel
theorem dL_law_449 : decode cL_law 449 = .ok (.iaload, 1) := by decide +kernel
theorem dL_law_450 : decode cL_law 450 = .ok (.invokevirtual 62, 3) := by decide +kernel
theorem dL_law_453 : decode cL_law 453 = .ok (.aload_n 2, 1) := by decide +kernel
theorem dL_law_454 : decode cL_law 454 = .ok (.aload_n 0, 1) := by decide +kernel
theorem dL_law_455 : decode cL_law 455 = .ok (.iload_n 3, 1) := by decide +kernel
theorem dL_law_456 : decode cL_law 456 = .ok (.iconst 1, 1) := by decide +kernel
theorem dL_law_457 : decode cL_law 457 = .ok (.iadd, 1) := by decide +kernel
theorem dL_law_458 : decode cL_law 458 = .ok (.iaload, 1) := by decide +kernel
theorem dL_law_459 : decode cL_law 459 = .ok (.ifCond .eq 7, 3) := by decide +kernel
theorem dL_law_462 : decode cL_law 462 = .ok (.iconst 1, 1) := by decide +kernel
theorem dL_law_463 : decode cL_law 463 = .ok (.goto 4, 3) := by decide +kernel
theorem dL_law_466 : decode cL_law 466 = .ok (.iconst 0, 1) := by decide +kernel
theorem dL_law_467 : decode cL_law 467 = .ok (.aload_n 0, 1) := by decide +kernel
theorem dL_law_468 : decode cL_law 468 = .ok (.iload_n 3, 1) := by decide +kernel
theorem dL_law_469 : decode cL_law 469 = .ok (.iconst 2, 1) := by decide +kernel
theorem dL_law_470 : decode cL_law 470 = .ok (.iadd, 1) := by decide +kernel
theorem dL_law_471 : decode cL_law 471 = .ok (.iaload, 1) := by decide +kernel
theorem dL_law_472 : decode cL_law 472 = .ok (.invokevirtual 65, 3) := by decide +kernel
theorem dL_law_475 : decode cL_law 475 = .ok (.if_icmp .eq 117, 3) := by decide +kernel
theorem dL_law_478 : decode cL_law 478 = .ok (.iconst 0, 1) := by decide +kernel
theorem dL_law_479 : decode cL_law 479 = .ok (.ireturn, 1) := by decide +kernel
theorem dL_law_480 : decode cL_law 480 = .ok (.aload_n 1, 1) := by decide +kernel
theorem dL_law_481 : decode cL_law 481 = .ok (.aload_n 0, 1) := by decide +kernel
theorem dL_law_482 : decode cL_law 482 = .ok (.iload_n 3, 1) := by decide +kernel
theorem dL_law_483 : decode cL_law 483 = .ok (.iconst 1, 1) := by decide +kernel
theorem dL_law_484 : decode cL_law 484 = .ok (.iadd, 1) := by decide +kernel
theorem dL_law_485 : decode cL_law 485 = .ok (.iaload, 1) := by decide +kernel
theorem dL_law_486 : decode cL_law 486 = .ok (.ifCond .eq 7, 3) := by decide +kernel
theorem dL_law_489 : decode cL_law 489 = .ok (.iconst 1, 1) := by decide +kernel
theorem dL_law_490 : decode cL_law 490 = .ok (.goto 4, 3) := by decide +kernel
theorem dL_law_493 : decode cL_law 493 = .ok (.iconst 0, 1) := by decide +kernel
theorem dL_law_494 : decode cL_law 494 = .ok (.invokevirtual 66, 3) := by decide +kernel
theorem dL_law_497 : decode cL_law 497 = .ok (.aload_n 2, 1) := by decide +kernel
theorem dL_law_498 : decode cL_law 498 = .ok (.aload_n 0, 1) := by decide +kernel
theorem dL_law_499 : decode cL_law 499 = .ok (.iload_n 3, 1) := by decide +kernel
theorem dL_law_500 : decode cL_law 500 = .ok (.iconst 1, 1) := by decide +kernel
theorem dL_law_501 : decode cL_law 501 = .ok (.iadd, 1) := by decide +kernel
theorem dL_law_502 : decode cL_law 502 = .ok (.iaload, 1) := by decide +kernel
theorem dL_law_503 : decode cL_law 503 = .ok (.ifCond .eq 7, 3) := by decide +kernel
theorem dL_law_506 : decode cL_law 506 = .ok (.iconst 1, 1) := by decide +kernel
theorem dL_law_507 : decode cL_law 507 = .ok (.goto 4, 3) := by decide +kernel
theorem dL_law_510 : decode cL_law 510 = .ok (.iconst 0, 1) := by decide +kernel
theorem dL_law_511 : decode cL_law 511 = .ok (.invokevirtual 70, 3) := by decide +kernel
theorem dL_law_514 : decode cL_law 514 = .ok (.if_icmp .eq 78, 3) := by decide +kernel
theorem dL_law_517 : decode cL_law 517 = .ok (.iconst 0, 1) := by decide +kernel
theorem dL_law_518 : decode cL_law 518 = .ok (.ireturn, 1) := by decide +kernel
theorem dL_law_519 : decode cL_law 519 = .ok (.aload_n 1, 1) := by decide +kernel
theorem dL_law_520 : decode cL_law 520 = .ok (.aload_n 0, 1) := by decide +kernel
theorem dL_law_521 : decode cL_law 521 = .ok (.iload_n 3, 1) := by decide +kernel
theorem dL_law_522 : decode cL_law 522 = .ok (.iconst 1, 1) := by decide +kernel
theorem dL_law_523 : decode cL_law 523 = .ok (.iadd, 1) := by decide +kernel
theorem dL_law_524 : decode cL_law 524 = .ok (.iaload, 1) := by decide +kernel
theorem dL_law_525 : decode cL_law 525 = .ok (.invokevirtual 71, 3) := by decide +kernel
theorem dL_law_528 : decode cL_law 528 = .ok (.aload_n 2, 1) := by decide +kernel
theorem dL_law_529 : decode cL_law 529 = .ok (.aload_n 0, 1) := by decide +kernel
theorem dL_law_530 : decode cL_law 530 = .ok (.iload_n 3, 1) := by decide +kernel
theorem dL_law_531 : decode cL_law 531 = .ok (.iconst 1, 1) := by decide +kernel
theorem dL_law_532 : decode cL_law 532 = .ok (.iadd, 1) := by decide +kernel
theorem dL_law_533 : decode cL_law 533 = .ok (.iaload, 1) := by decide +kernel
theorem dL_law_534 : decode cL_law 534 = .ok (.invokevirtual 74, 3) := by decide +kernel
theorem dL_law_537 : decode cL_law 537 = .ok (.if_icmp .eq 55, 3) := by decide +kernel
theorem dL_law_540 : decode cL_law 540 = .ok (.iconst 0, 1) := by decide +kernel
theorem dL_law_541 : decode cL_law 541 = .ok (.ireturn, 1) := by decide +kernel
theorem dL_law_542 : decode cL_law 542 = .ok (.aload_n 1, 1) := by decide +kernel
theorem dL_law_543 : decode cL_law 543 = .ok (.invokevirtual 75, 3) := by decide +kernel
theorem dL_law_546 : decode cL_law 546 = .ok (.aload_n 2, 1) := by decide +kernel
theorem dL_law_547 : decode cL_law 547 = .ok (.invokevirtual 78, 3) := by decide +kernel
theorem dL_law_550 : decode cL_law 550 = .ok (.if_icmp .eq 42, 3) := by decide +kernel
theorem dL_law_553 : decode cL_law 553 = .ok (.iconst 0, 1) := by decide +kernel
theorem dL_law_554 : decode cL_law 554 = .ok (.ireturn, 1) := by decide +kernel
theorem dL_law_555 : decode cL_law 555 = .ok (.aload_n 1, 1) := by decide +kernel
theorem dL_law_556 : decode cL_law 556 = .ok (.aload_n 0, 1) := by decide +kernel
theorem dL_law_557 : decode cL_law 557 = .ok (.iload_n 3, 1) := by decide +kernel
theorem dL_law_558 : decode cL_law 558 = .ok (.iconst 1, 1) := by decide +kernel
theorem dL_law_559 : decode cL_law 559 = .ok (.iadd, 1) := by decide +kernel
theorem dL_law_560 : decode cL_law 560 = .ok (.iaload, 1) := by decide +kernel
theorem dL_law_561 : decode cL_law 561 = .ok (.invokevirtual 79, 3) := by decide +kernel
theorem dL_law_564 : decode cL_law 564 = .ok (.aload_n 2, 1) := by decide +kernel
theorem dL_law_565 : decode cL_law 565 = .ok (.aload_n 0, 1) := by decide +kernel
theorem dL_law_566 : decode cL_law 566 = .ok (.iload_n 3, 1) := by decide +kernel
theorem dL_law_567 : decode cL_law 567 = .ok (.iconst 1, 1) := by decide +kernel
theorem dL_law_568 : decode cL_law 568 = .ok (.iadd, 1) := by decide +kernel
theorem dL_law_569 : decode cL_law 569 = .ok (.iaload, 1) := by decide +kernel
theorem dL_law_570 : decode cL_law 570 = .ok (.invokevirtual 82, 3) := by decide +kernel
theorem dL_law_573 : decode cL_law 573 = .ok (.if_icmp .eq 19, 3) := by decide +kernel
theorem dL_law_576 : decode cL_law 576 = .ok (.iconst 0, 1) := by decide +kernel
theorem dL_law_577 : decode cL_law 577 = .ok (.ireturn, 1) := by decide +kernel
theorem dL_law_578 : decode cL_law 578 = .ok (.aload_n 1, 1) := by decide +kernel
theorem dL_law_579 : decode cL_law 579 = .ok (.invokevirtual 83, 3) := by decide +kernel
theorem dL_law_582 : decode cL_law 582 = .ok (.aload_n 2, 1) := by decide +kernel
theorem dL_law_583 : decode cL_law 583 = .ok (.invokevirtual 87, 3) := by decide +kernel
theorem dL_law_586 : decode cL_law 586 = .ok (.lcmp, 1) := by decide +kernel
theorem dL_law_587 : decode cL_law 587 = .ok (.ifCond .eq 5, 3) := by decide +kernel
theorem dL_law_590 : decode cL_law 590 = .ok (.iconst 0, 1) := by decide +kernel
theorem dL_law_591 : decode cL_law 591 = .ok (.ireturn, 1) := by decide +kernel
theorem dL_law_592 : decode cL_law 592 = .ok (.iinc 3 3, 3) := by decide +kernel
theorem dL_law_595 : decode cL_law 595 = .ok (.goto (-577), 3) := by decide +kernel
theorem dL_law_598 : decode cL_law 598 = .ok (.iconst 1, 1) := by decide +kernel
theorem dL_law_599 : decode cL_law 599 = .ok (.ireturn, 1) := by decide +kernel
end
section
/-! a small logic over the machine: the world is a fixed set of cells 0..25 (26: the static row STEPS), its contents a pure heap -/
abbrev PH : Type := (Nat → Nat → Int32) × Int64
abbrev EE : Type := va_G × (Nat → Nat) × ClassId × ClassId
abbrev Md : Type := MethodName × ByteArray × Nat × Option FieldType
def vq (q : Nat → Nat) (v : Value) : Value := match v with
  | .ref k => .ref (q k)
  | w => w
def cO : Nat → Bool
  | 0 => true
  | 1 => true
  | 2 => true
  | 3 => true
  | 4 => true
  | 5 => true
  | 15 => true
  | _ => false
def cCi : Nat → Nat
  | 0 => 4
  | 1 => 0
  | 2 => 3
  | 3 => 2
  | 4 => 1
  | 5 => 1
  | 15 => 5
  | _ => 0
def cFk : Nat → List Nat
  | 0 => [3, 4, 5, 0, 0]
  | 1 => [8, 0]
  | 2 => [0, 0, 0, 0, 0, 0, 9, 10, 11, 12, 13]
  | 3 => [6, 7, 14]
  | 4 => [0, 15, 0, 0, 0, 0, 0]
  | 5 => [0, 16, 0, 0, 0, 0, 0]
  | 15 => [0, 18, 0, 0, 19, 20, 21, 22, 0, 0, 0, 0, 23, 24, 25, 0, 0, 26, 0, 27, 0, 0, 0, 1]
  | _ => []
def cLn : Nat → Nat
  | 6 => 21
  | 7 => 5
  | 8 => 5
  | 9 => 5
  | 10 => 25
  | 11 => 4
  | 12 => 3125
  | 13 => 15
  | 14 => 15
  | 16 => 21
  | 17 => 5
  | 18 => 5
  | 19 => 5
  | 20 => 4
  | 21 => 5
  | 22 => 3125
  | 23 => 3125
  | 24 => 3125
  | 25 => 15
  | _ => 0
def cBz : Nat → Bool
  | 22 => true
  | _ => false
def vv (h : PH) (k j kd : Nat) : Value := match kd with
  | 0 => .int (h.1 k j)
  | 1 => .long h.2
  | r + 2 => .ref r
def fl (E : EE) (h : PH) (k : Nat) (ks : List Nat) : List Value := ks.zipIdx.map (fun p => vq E.2.1 (vv h k p.2 p.1))
def en (E : EE) (h : PH) (k : Nat) : va_E := if cO k then .inr (cCi k, fl E h k (cFk k)) else .inl (if cBz k then E.2.2.2 else E.2.2.1, cLn k, .inl (h.1 k))
def wl (E : EE) (h : PH) : va_W := (List.range 26).map (fun k => (E.2.1 k, en E h k))
def Aq (E : EE) : Nat → Prop := fun x => ∃ k, k < 26 ∧ x = E.2.1 k
def Inj (E : EE) : Prop := ∀ i j, i < 26 → j < 26 → E.2.1 i = E.2.1 j → i = j
def stp5 : Nat → Int32
  | 0 => 1
  | 1 => 5
  | 2 => 25
  | 3 => 125
  | _ => 625
def okw (w : Cond) : Bool := match w with
  | .methodLinkNest .. => true
  | .fieldLinkNest .. => true
  | w => w.onTables && w.keeps
def Cx (U : State) : Prop := ∀ w ∈ lw_tbl, okw w = true → va_Nw w U
def Rd (E : EE) (U : State) (H : Heap) : Prop := va_Z "AimDesk" "STEPS" "[I" (.ref (E.2.1 26)) (Aq E) U H ∧ va_T .int (E.2.1 26) 5 (fun j => .int (stp5 j)) (Aq E) U H
abbrev tyE (E : EE) : List (ClassId × FieldType) := [(E.2.2.1, .int), (E.2.2.2, .boolean)]
/-- the state's pure facts -/
def Kx (E : EE) (U : State) : Prop := Cx U ∧ va_K E.1 vwCl (tyE E) U ∧ Inj E
def upd2 (h : Nat → Nat → Int32) (c i : Nat) (x : Int32) : Nat → Nat → Int32 := fun k => if k = c then upd (h c) i x else h k
def rmd (d : Nat) : Room := { frames := d, cells := 0, slots := 0, locals := 40 * d }
theorem upd2_self (h : Nat → Nat → Int32) (c i : Nat) (x : Int32) : upd2 h c i x c = upd (h c) i x := if_pos rfl
theorem upd2_ne {h : Nat → Nat → Int32} {c i k : Nat} {x : Int32} (hk : k ≠ c) : upd2 h c i x k = h k := if_neg hk
theorem wl_get (E : EE) (h : PH) {k : Nat} (hk : k < 26) : (wl E h)[k]? = some (E.2.1 k, en E h k) := by
  simp [wl, List.getElem?_map, List.getElem?_range hk]
theorem wl_of {E : EE} {h : PH} {k : Nat} {q : Nat × va_E} (hq : (wl E h)[k]? = some q) : k < 26 ∧ q = (E.2.1 k, en E h k) := by
  by_cases hk : k < 26
  · rw [wl_get E h hk] at hq
    exact ⟨hk, (Option.some.inj hq).symm⟩
  · exfalso
    have : (wl E h).length = 26 := by simp [wl]
    rw [List.getElem?_eq_none (by omega)] at hq
    cases hq
theorem wl_D {E : EE} (hi : Inj E) (h : PH) : va_D (Aq E) (wl E h) := by
  refine ⟨fun i j p q hp hq e => ?_, fun k q hq => ?_⟩
  · obtain ⟨h1, rfl⟩ := wl_of hp
    obtain ⟨h2, rfl⟩ := wl_of hq
    exact hi i j h1 h2 e
  · obtain ⟨h1, rfl⟩ := wl_of hq
    exact ⟨k, h1, rfl⟩
theorem wl_set (E : EE) {h h' : PH} {k : Nat} (hk : k < 26) (he : ∀ j, j ≠ k → en E h' j = en E h j) : (wl E h).set k (E.2.1 k, en E h' k) = wl E h' := by
  apply List.ext_getElem?
  intro j
  by_cases hj : j < 26
  · rw [wl_get E h' hj, List.getElem?_set]
    by_cases e : k = j
    · subst e
      have : (wl E h).length = 26 := by simp [wl]
      simp [this, hk]
    · rw [if_neg e, wl_get E h hj, he j (Ne.symm e)]
  · have h1 : (wl E h).length = 26 := by simp [wl]
    have h2 : (wl E h').length = 26 := by simp [wl]
    rw [List.getElem?_eq_none (by simp [h1]; omega), List.getElem?_eq_none (by omega)]
theorem en_ne {E : EE} {h : PH} {c i k : Nat} {x : Int32} (hk : k ≠ c) : en E (upd2 h.1 c i x, h.2) k = en E h k := by
  unfold en
  by_cases ho : cO k
  · rw [if_pos ho, if_pos ho]
    have : fl E (upd2 h.1 c i x, h.2) k (cFk k) = fl E h k (cFk k) := by
      unfold fl
      apply List.map_congr_left
      intro p _
      have : vv (upd2 h.1 c i x, h.2) k p.2 p.1 = vv h k p.2 p.1 := by
        unfold vv
        show (match p.1 with | 0 => Value.int (upd2 h.1 c i x k p.2) | 1 => .long h.2 | r + 2 => .ref r) = _
        rw [upd2_ne hk]
      rw [this]
    rw [this]
  · rw [if_neg ho, if_neg ho]
    show Sum.inl _ = _
    rw [show (upd2 h.1 c i x, h.2).1 k = h.1 k from upd2_ne hk]
theorem fl_get {E : EE} {h : PH} {k : Nat} {ks : List Nat} {j kd : Nat} (hj : ks[j]? = some kd) : (fl E h k ks)[j]? = some (vq E.2.1 (vv h k j kd)) := by
  unfold fl
  rw [List.getElem?_map, List.getElem?_zipIdx, hj]
  simp
theorem fl_set {E : EE} {h : PH} {k j : Nat} {x : Int32} {ks : List Nat} (hj : ks[j]? = some 0) : (fl E h k ks).set j (.int x) = fl E (upd2 h.1 k j x, h.2) k ks := by
  apply List.ext_getElem?
  intro i
  rw [List.getElem?_set]
  by_cases e : j = i
  · subst e
    have hl : j < (fl E h k ks).length := by
      unfold fl
      rw [List.length_map, List.length_zipIdx]
      exact (List.getElem?_eq_some_iff.mp hj).1
    rw [if_pos rfl, if_pos hl, fl_get hj]
    show _ = some (Value.int (upd2 h.1 k j x k j))
    rw [upd2_self]
    simp [upd]
  · rw [if_neg e]
    cases hi : ks[i]? with
    | none =>
      have : ks.length ≤ i := by simpa using hi
      rw [List.getElem?_eq_none (by unfold fl; simpa using this), List.getElem?_eq_none (by unfold fl; simpa using this)]
    | some kd =>
      rw [fl_get hi, fl_get hi]
      match kd with
      | 0 => show some (Value.int (h.1 k i)) = some (Value.int (upd2 h.1 k j x k i)); rw [upd2_self]; simp [upd, Ne.symm e]
      | 1 => rfl
      | r + 2 => rfl
theorem noLong : ∀ k, k < 26 → k ≠ 15 → (cFk k).all (fun x => x != 1) = true := by decide +kernel
theorem en_long {E : EE} {h : PH} {x : Int64} {k : Nat} (hk : k ≠ 15) : en E (h.1, x) k = en E h k := by
  unfold en
  by_cases ho : cO k
  · rw [if_pos ho, if_pos ho]
    have hk6 : k < 26 := by
      apply Classical.byContradiction
      intro hn
      have : cO k = false := by
        unfold cO
        split <;> first | rfl | omega
      rw [this] at ho
      cases ho
    have hall := noLong k hk6 hk
    have : fl E (h.1, x) k (cFk k) = fl E h k (cFk k) := by
      unfold fl
      apply List.map_congr_left
      intro p hp
      have hm : p.1 ∈ cFk k := by
        have h1 : (p.1, p.2) ∈ (cFk k).zipIdx := hp
        rw [List.mk_mem_zipIdx_iff_getElem?] at h1
        exact List.mem_of_getElem? h1
      have hne : p.1 ≠ 1 := by
        have := List.all_eq_true.mp hall p.1 hm
        simpa using this
      have : vv (h.1, x) k p.2 p.1 = vv h k p.2 p.1 := by
        unfold vv
        split
        · rfl
        · rename_i h9; exact absurd h9 hne
        · rfl
      rw [this]
    rw [this]
  · rw [if_neg ho, if_neg ho]
theorem fl_setL {E : EE} {h : PH} {k j : Nat} {x : Int64} {ks : List Nat} (hj : ks[j]? = some 1) (hu : ∀ i, i ≠ j → ks[i]? ≠ some 1) : (fl E h k ks).set j (.long x) = fl E (h.1, x) k ks := by
  apply List.ext_getElem?
  intro i
  rw [List.getElem?_set]
  by_cases e : j = i
  · subst e
    have hl : j < (fl E h k ks).length := by
      unfold fl
      rw [List.length_map, List.length_zipIdx]
      exact (List.getElem?_eq_some_iff.mp hj).1
    rw [if_pos rfl, if_pos hl, fl_get hj]
    rfl
  · rw [if_neg e]
    cases hi : ks[i]? with
    | none =>
      have : ks.length ≤ i := by simpa using hi
      rw [List.getElem?_eq_none (by unfold fl; simpa using this), List.getElem?_eq_none (by unfold fl; simpa using this)]
    | some kd =>
      rw [fl_get hi, fl_get hi]
      match kd, hi with
      | 0, _ => rfl
      | 1, hi => exact absurd hi (hu i (Ne.symm e))
      | r + 2, _ => rfl
/-! words -/
theorem okw_tabs {w : Cond} (h : okw w = true) : w.onTables = true := by
  unfold okw at h
  split at h
  · rfl
  · rfl
  · simp only [Bool.and_eq_true] at h
    exact h.1
theorem Cx.use {s : State} (h : Cx s) {w : Cond} (hw : w ∈ lw_tbl) (hk : okw w = true) (args : Array Value) : w.before args s = true := va_Nw.use (okw_tabs hk) (h w hw hk)
theorem Cx.warm {s U : State} (hW : s.WarmedH U.vm) (h : Cx s) : Cx U := by
  intro w hw hk
  have h1 := h w hw hk
  unfold okw at hk
  split at hk
  · exact va_Nw.warmM hW h1
  · exact va_Nw.warmF hW h1
  · exact word_at hW (Or.inl hk) h1
theorem Cx.same {s U : State} (hv : s.vm = U.vm) (h : Cx s) : Cx U := fun w hw hk => va_Nw.same (okw_tabs hk) hv (h w hw hk)
theorem Kx.warm {E : EE} {s U : State} (hW : s.WarmedH U.vm) (h : Kx E s) : Kx E U := ⟨h.1.warm hW, va_K.moved hW.alike h.2.1, h.2.2⟩
theorem Rd.move {E : EE} {s U : State} {H H1 : Heap} (hv : s.vm.Alike U.vm) (hq : ∀ a : Nat, a < H.size → ¬ Aq E a → H1[a]? = H[a]?) (h : Rd E s H) : Rd E U H1 := ⟨(h.1.moved hv).kept hq, (h.2.moved hv).kept hq⟩
end
section
/-! the judgements: G, a method's body from a place on; Ev, a method's call -/
def al (E : EE) (L : List (Option Value)) : List (Nat × Value) := L.zipIdx.filterMap (fun p => p.1.map (fun v => (p.2, vq E.2.1 v)))
theorem al_mem {E : EE} {L : List (Option Value)} {i : Nat} {v : Value} (h : L[i]? = some (some v)) : (i, vq E.2.1 v) ∈ al E L := by
  unfold al
  rw [List.mem_filterMap]
  exact ⟨(some v, i), List.mk_mem_zipIdx_iff_getElem?.mpr h, rfl⟩
theorem al_of {E : EE} {L : List (Option Value)} {x : Nat × Value} (h : x ∈ al E L) : ∃ v, L[x.1]? = some (some v) ∧ x.2 = vq E.2.1 v := by
  unfold al at h
  rw [List.mem_filterMap] at h
  obtain ⟨⟨o, i⟩, h1, h2⟩ := h
  cases o with
  | none => cases h2
  | some v =>
    cases h2
    exact ⟨v, List.mk_mem_zipIdx_iff_getElem?.mp h1, rfl⟩
/-- the locals hold L -/
def lh (E : EE) (ls : Array Slot) (n : Nat) (L : List (Option Value)) : Prop := lv_has ls n (al E L)
theorem lh.at {E : EE} {ls : Array Slot} {n : Nat} {L : List (Option Value)} (h : lh E ls n L) {i : Nat} {v : Value} (hi : L[i]? = some (some v)) : ls[i]? = some (.val (vq E.2.1 v)) := h.2.2 _ (al_mem hi)
def Qx (E : EE) (post : Option Value → PH → Prop) : Array Value → State → Outcome → State → Prop := fun _ st o t => (∃ (r : Option Value) (h' : PH), o = .returned (r.map (vq E.2.1)) ∧ post r h' ∧ va_P E.1 vwCl (wl E h') t.heap) ∧ va_F (Aq E) st t
def Fx (M : Md) (p : Program) (s : State) (m : MethodId) (meth : Method) (c : Code) (E : EE) : Prop :=
  p.tables.exec = Jvm.exec ∧ c.code = M.2.1 ∧ meth.sig.returnType = M.2.2.2 ∧ c.maxLocals = M.2.2.1 ∧ s.vm.findClass M.1.cls = some m.cls ∧ meth.locks = false ∧ Kx E s ∧ Rd E s s.heap
def G (d : Nat) (M : Md) (post : Option Value → PH → Prop) (pc : Nat) (L : List (Option Value)) (st : List Value) (h : PH) : Prop :=
  ∀ (p : Program) (l : Launch) (e : Env) (s : State) (m : MethodId) (args : Array Value) (below : List Frame) (meth : Method) (c : Code) (E : EE) (H : Heap) (locs : List Loc) (ls : Array Slot),
    Fx M p s m meth c E → va_P E.1 vwCl (wl E h) H → va_S (Aq E) s.heap H locs → lh E ls M.2.2.1 L →
    W p l e (rmd d) s m args below meth c H locs 0 0 (MQ below (Qx E post) args s 0 0 (Aq E)) (F0 m pc ls (st.map (vq E.2.1)))
def PcE (E : EE) (as : List Value) (h : PH) : Array Value → State → Prop := fun v U => v = (as.map (vq E.2.1)).toArray ∧ va_P E.1 vwCl (wl E h) U.heap ∧ Kx E U ∧ Rd E U U.heap
def Ev (d : Nat) (M : Md) (as : List Value) (h : PH) (post : Option Value → PH → Prop) : Prop :=
  ∀ (l : Launch) (E : EE), Met l M.1 [.code M.1 M.2.1 M.2.2.1 M.2.2.2] (rmd d) (PcE E as h) (Qx E post) 0 0 (Aq E)
def lent (as : List Value) (n : Nat) : List (Option Value) :=
  let x := as.flatMap (fun v => if v.category = 2 then [some v, none] else [some v])
  x ++ List.replicate (n - x.length) none
theorem vq_cat (q : Nat → Nat) (v : Value) : (vq q v).category = v.category := by cases v <;> rfl
theorem lent_args (E : EE) (as : List Value) : ∀ (k : Nat) (i : Nat) (v : Value), (as.flatMap (fun v => if v.category = 2 then [some v, none] else [some v]))[i]? = some (some v) → (k + i, vq E.2.1 v) ∈ lv_args k (as.map (vq E.2.1)) := by
  induction as with
  | nil => intro k i v h; simp at h
  | cons a t ih =>
    intro k i v h
    rw [List.flatMap_cons] at h
    rw [List.map_cons]
    unfold lv_args
    rw [vq_cat]
    by_cases hc : a.category = 2
    · rw [if_pos hc] at h ⊢
      match i, h with
      | 0, h => cases h; exact List.mem_cons_self
      | 1, h => cases h
      | i + 2, h =>
        refine List.mem_cons_of_mem _ ?_
        have := ih (k + 2) i v h
        rwa [show k + 2 + i = k + (i + 2) by omega] at this
    · rw [if_neg hc] at h ⊢
      match i, h with
      | 0, h => cases h; exact List.mem_cons_self
      | i + 1, h =>
        refine List.mem_cons_of_mem _ ?_
        have := ih (k + 1) i v h
        rwa [show k + 1 + i = k + (i + 1) by omega] at this
theorem lent_len (E : EE) (as : List Value) : (lg_sl (as.map (vq E.2.1))).length = (as.flatMap (fun v => if v.category = 2 then [some v, none] else [some v])).length := by
  induction as with
  | nil => rfl
  | cons a t ih =>
    unfold lg_sl at ih ⊢
    rw [List.map_cons, List.flatMap_cons, List.flatMap_cons, List.length_append, List.length_append, ih, vq_cat]
    by_cases hc : a.category = 2 <;> simp [hc]
theorem lh_entry (E : EE) (as : List Value) {n : Nat} (hn : (as.flatMap (fun v => if v.category = 2 then [some v, none] else [some v])).length ≤ n) :
    lh E ((lg_sl (as.map (vq E.2.1)) ++ List.replicate (n - (lg_sl (as.map (vq E.2.1))).length) Slot.unset).toArray) n (lent as n) := by
  have h1 := lv_entry (as.map (vq E.2.1)) (n := n) (by rw [lent_len]; exact hn)
  refine ⟨h1.1, h1.2.1, fun x hx => ?_⟩
  obtain ⟨v, h2, h3⟩ := al_of hx
  obtain ⟨i, w⟩ := x
  have h3 : w = vq E.2.1 v := h3
  have h2 : (lent as n)[i]? = some (some v) := h2
  subst h3
  refine h1.2.2 _ ?_
  unfold lent at h2
  rw [List.getElem?_append] at h2
  by_cases hi : i < (as.flatMap (fun v => if v.category = 2 then [some v, none] else [some v])).length
  · rw [if_pos hi] at h2
    have := lent_args E as 0 i v h2
    rwa [Nat.zero_add] at this
  · exfalso
    rw [if_neg hi, List.getElem?_replicate] at h2
    by_cases hj : i - (as.flatMap (fun v => if v.category = 2 then [some v, none] else [some v])).length < n - (as.flatMap (fun v => if v.category = 2 then [some v, none] else [some v])).length
    · rw [if_pos hj] at h2; cases h2
    · rw [if_neg hj] at h2; cases h2
/-- a method's contract out of its body -/
theorem Ev.intro {d : Nat} {M : Md} {as : List Value} {h : PH} {post : Option Value → PH → Prop} (hy : plainName M.1.cls = true) (hn : (as.flatMap (fun v => if v.category = 2 then [some v, none] else [some v])).length ≤ M.2.2.1)
    (k : G d M post 0 (lent as M.2.2.1) [] h) : Ev d M as h post := by
  intro l E
  refine Met.ofW (cc := M.2.1) (maxL := M.2.2.1) (ret := M.2.2.2) hy rfl ?_
  intro p e s m args below meth c s₁ B hml hv
  obtain ⟨rfl, hP, hK, hR⟩ := hv
  have hlocks := B.notSynchronized
  rw [lg_entry_eq]
  exact k p l e s m _ below meth c E s.heap [] _ ⟨B.exec, B.bytes, B.returns, hml, findClass_of_methodNamed B.named, hlocks, hK, hR⟩ hP va_S.rf (lh_entry E as hn)
theorem Ev.mono {d : Nat} {M : Md} {as : List Value} {h : PH} {post post' : Option Value → PH → Prop} (k : Ev d M as h post) (hp : ∀ r h', post r h' → post' r h') : Ev d M as h post' := by
  intro l E p e ha hc hk s m args below hf happ hP hT
  obtain ⟨t, o, a1, b1, b2, ⟨⟨⟨r, h', c1, c2, c3⟩, c4⟩, c5⟩⟩ := k l E p e ha hc hk s m args below hf happ hP hT
  exact ⟨t, o, a1, b1, b2, ⟨⟨⟨r, h', c1, hp r h' c2, c3⟩, c4⟩, c5⟩⟩
theorem PcE.blind (E : EE) (as : List Value) (h : PH) : FrameBlind (PcE E as h) := by
  intro a U g mk q
  obtain ⟨h1, h2, h3, h4⟩ := q
  exact ⟨h1, h2, ⟨Cx.same (s := U) (U := U.calling g mk a) rfl h3.1, va_K.moved (u := U) (U := U.calling g mk a) (Vm.Alike.refl U.vm) h3.2.1, h3.2.2⟩, h4.move (U := U.calling g mk a) (Vm.Alike.refl U.vm) (fun _ _ _ => rfl)⟩
end
section
/-! rules: an instruction, a row -/
section RU
variable {d : Nat} {M : Md} {post : Option Value → PH → Prop} {pc : Nat} {L : List (Option Value)} {st : List Value} {h : PH}
theorem g_iconst {n : Int} {v : Int32} (hd : decode M.2.1 pc = .ok (.iconst n, 1)) (hv : Int32.ofInt n = v) (k : G d M post (pc + 1) L (.int v :: st) h) : G d M post pc L st h := by
  intro p l e s m args below meth c E H locs ls F hP hS hl
  exact lv_iconst F.1 F.2.1 hd hv (k p l e s m args below meth c E H locs ls F hP hS hl)
theorem g_bipush {n : Int} {v : Int32} (hd : decode M.2.1 pc = .ok (.bipush n, 2)) (hv : (Int8.ofInt n).toInt32 = v) (k : G d M post (pc + 2) L (.int v :: st) h) : G d M post pc L st h := by
  intro p l e s m args below meth c E H locs ls F hP hS hl
  exact lv_bipush F.1 F.2.1 hd hv (k p l e s m args below meth c E H locs ls F hP hS hl)
theorem g_sipush {n : Int} {v : Int32} (hd : decode M.2.1 pc = .ok (.sipush n, 3)) (hv : (Int16.ofInt n).toInt32 = v) (k : G d M post (pc + 3) L (.int v :: st) h) : G d M post pc L st h := by
  intro p l e s m args below meth c E H locs ls F hP hS hl
  exact lv_sipush F.1 F.2.1 hd hv (k p l e s m args below meth c E H locs ls F hP hS hl)
theorem g_iload_n {i : Fin 4} {x : Int32} (hd : decode M.2.1 pc = .ok (.iload_n i, 1)) (hL : L[i.val]? = some (some (.int x))) (k : G d M post (pc + 1) L (.int x :: st) h) : G d M post pc L st h := by
  intro p l e s m args below meth c E H locs ls F hP hS hl
  exact lv_iload_n F.1 F.2.1 hd rfl (hl.at hL) (k p l e s m args below meth c E H locs ls F hP hS hl)
theorem g_iload {i : Nat} {x : Int32} (hd : decode M.2.1 pc = .ok (.iload i, 2)) (hL : L[i]? = some (some (.int x))) (k : G d M post (pc + 2) L (.int x :: st) h) : G d M post pc L st h := by
  intro p l e s m args below meth c E H locs ls F hP hS hl
  exact lv_iload F.1 F.2.1 hd (hl.at hL) (k p l e s m args below meth c E H locs ls F hP hS hl)
theorem g_lload_n {i : Fin 4} {x : Int64} (hd : decode M.2.1 pc = .ok (.lload_n i, 1)) (hL : L[i.val]? = some (some (.long x))) (k : G d M post (pc + 1) L (.long x :: st) h) : G d M post pc L st h := by
  intro p l e s m args below meth c E H locs ls F hP hS hl
  exact lv_lload_n F.1 F.2.1 hd rfl (hl.at hL) (k p l e s m args below meth c E H locs ls F hP hS hl)
theorem g_lload {i : Nat} {x : Int64} (hd : decode M.2.1 pc = .ok (.lload i, 2)) (hL : L[i]? = some (some (.long x))) (k : G d M post (pc + 2) L (.long x :: st) h) : G d M post pc L st h := by
  intro p l e s m args below meth c E H locs ls F hP hS hl
  exact lv_lload F.1 F.2.1 hd (hl.at hL) (k p l e s m args below meth c E H locs ls F hP hS hl)
theorem g_aload_n {i : Fin 4} {x : Nat} (hd : decode M.2.1 pc = .ok (.aload_n i, 1)) (hL : L[i.val]? = some (some (.ref x))) (k : G d M post (pc + 1) L (.ref x :: st) h) : G d M post pc L st h := by
  intro p l e s m args below meth c E H locs ls F hP hS hl
  exact lv_aload_n F.1 F.2.1 hd rfl (hl.at hL) (k p l e s m args below meth c E H locs ls F hP hS hl)
theorem g_aload {i : Nat} {x : Nat} (hd : decode M.2.1 pc = .ok (.aload i, 2)) (hL : L[i]? = some (some (.ref x))) (k : G d M post (pc + 2) L (.ref x :: st) h) : G d M post pc L st h := by
  intro p l e s m args below meth c E H locs ls F hP hS hl
  exact lv_aload F.1 F.2.1 hd (hl.at hL) (k p l e s m args below meth c E H locs ls F hP hS hl)
/-- no long lies right ahead of place i -/
def noL (L : List (Option Value)) (i : Nat) : Bool := match i with
  | 0 => true
  | j + 1 => match L[j]? with
    | some (some v) => v.category != 2
    | _ => true
theorem noL_of {L : List (Option Value)} {j : Nat} {w : Value} (a : noL L (j + 1) = true) (b : L[j]? = some (some w)) : ¬ w.category = 2 := by
  have : noL L (j + 1) = (w.category != 2) := by
    show (match L[j]? with | some (some v) => v.category != 2 | _ => true) = _
    rw [b]
  rw [this] at a
  simpa using a
theorem lh_set {E : EE} {ls ls' : Array Slot} {n i : Nat} {L : List (Option Value)} {v : Value} (h0 : noL L i = true) (h : lv_has ls' n ((i, vq E.2.1 v) :: (al E L).filter (fun q => !(q.1 == i) && !(q.1 + 1 == i && q.2.category == 2)))) : lh E ls' n (L.set i (some v)) := by
  refine ⟨h.1, h.2.1, fun x hx => ?_⟩
  obtain ⟨w, g1, g2⟩ := al_of hx
  obtain ⟨j, y⟩ := x
  have h2 : y = vq E.2.1 w := g2
  clear g2
  have h1 : (L.set i (some v))[j]? = some (some w) := g1
  clear g1
  subst h2
  rw [List.getElem?_set] at h1
  by_cases e : i = j
  · subst e
    rw [if_pos rfl] at h1
    split at h1
    · cases h1
      exact h.2.2 _ List.mem_cons_self
    · cases h1
  · rw [if_neg e] at h1
    refine h.2.2 _ (List.mem_cons_of_mem _ (List.mem_filter.mpr ⟨al_mem h1, ?_⟩))
    have e1 : (j == i) = false := by simp; exact Ne.symm e
    have e2 : (j + 1 == i && (vq E.2.1 w).category == 2) = false := by
      by_cases e3 : j + 1 = i
      · subst e3
        rw [vq_cat]
        simp [noL_of h0 h1]
      · simp [e3]
    simp only [e1, e2]
    rfl
theorem lh_setL {E : EE} {ls ls' : Array Slot} {n i : Nat} {L : List (Option Value)} {v : Value} (h0 : noL L i = true) (h : lv_has ls' n ((i, vq E.2.1 v) :: (al E L).filter (fun q => !(q.1 == i) && (!(q.1 == i + 1) && !(q.1 + 1 == i && q.2.category == 2))))) : lh E ls' n ((L.set i (some v)).set (i + 1) none) := by
  refine ⟨h.1, h.2.1, fun x hx => ?_⟩
  obtain ⟨w, g1, g2⟩ := al_of hx
  obtain ⟨j, y⟩ := x
  have h2 : y = vq E.2.1 w := g2
  clear g2
  have h1 : ((L.set i (some v)).set (i + 1) none)[j]? = some (some w) := g1
  clear g1
  subst h2
  rw [List.getElem?_set] at h1
  by_cases e9 : i + 1 = j
  · rw [if_pos e9] at h1
    split at h1 <;> cases h1
  rw [if_neg e9] at h1
  rw [List.getElem?_set] at h1
  by_cases e : i = j
  · subst e
    rw [if_pos rfl] at h1
    split at h1
    · cases h1
      exact h.2.2 _ List.mem_cons_self
    · cases h1
  · rw [if_neg e] at h1
    refine h.2.2 _ (List.mem_cons_of_mem _ (List.mem_filter.mpr ⟨al_mem h1, ?_⟩))
    have e1 : (j == i) = false := by simp; exact Ne.symm e
    have e4 : (j == i + 1) = false := by simp; exact Ne.symm e9
    have e2 : (j + 1 == i && (vq E.2.1 w).category == 2) = false := by
      by_cases e3 : j + 1 = i
      · subst e3
        rw [vq_cat]
        simp [noL_of h0 h1]
      · simp [e3]
    simp only [e1, e2, e4]
    rfl
theorem g_istore_n {i : Fin 4} {x : Int32} {L' : List (Option Value)} (hd : decode M.2.1 pc = .ok (.istore_n i, 1)) (h0 : noL L i.val = true) (hn : i.val < M.2.2.1) (hL : L.set i.val (some (.int x)) = L') (k : G d M post (pc + 1) L' st h) : G d M post pc L (.int x :: st) h := by
  intro p l e s m args below meth c E H locs ls F hP hS hl
  subst hL
  exact lv_istore_n F.1 F.2.1 hd rfl hl hn rfl (fun ls h9 => k p l e s m args below meth c E H locs ls F hP hS (lh_set (ls := ls) (v := .int x) h0 h9))
theorem g_istore {i : Nat} {x : Int32} {L' : List (Option Value)} (hd : decode M.2.1 pc = .ok (.istore i, 2)) (h0 : noL L i = true) (hn : i < M.2.2.1) (hL : L.set i (some (.int x)) = L') (k : G d M post (pc + 2) L' st h) : G d M post pc L (.int x :: st) h := by
  intro p l e s m args below meth c E H locs ls F hP hS hl
  subst hL
  exact lv_istore F.1 F.2.1 hd hl hn rfl (fun ls h9 => k p l e s m args below meth c E H locs ls F hP hS (lh_set (ls := ls) (v := .int x) h0 h9))
theorem g_astore_n {i : Fin 4} {x : Nat} {L' : List (Option Value)} (hd : decode M.2.1 pc = .ok (.astore_n i, 1)) (h0 : noL L i.val = true) (hn : i.val < M.2.2.1) (hL : L.set i.val (some (.ref x)) = L') (k : G d M post (pc + 1) L' st h) : G d M post pc L (.ref x :: st) h := by
  intro p l e s m args below meth c E H locs ls F hP hS hl
  subst hL
  exact lv_astore_n F.1 F.2.1 hd rfl hl hn rfl (fun ls h9 => k p l e s m args below meth c E H locs ls F hP hS (lh_set (ls := ls) (v := .ref x) h0 h9))
theorem g_astore {i : Nat} {x : Nat} {L' : List (Option Value)} (hd : decode M.2.1 pc = .ok (.astore i, 2)) (h0 : noL L i = true) (hn : i < M.2.2.1) (hL : L.set i (some (.ref x)) = L') (k : G d M post (pc + 2) L' st h) : G d M post pc L (.ref x :: st) h := by
  intro p l e s m args below meth c E H locs ls F hP hS hl
  subst hL
  exact lv_astore F.1 F.2.1 hd hl hn rfl (fun ls h9 => k p l e s m args below meth c E H locs ls F hP hS (lh_set (ls := ls) (v := .ref x) h0 h9))
theorem g_lstore_n {i : Fin 4} {x : Int64} {L' : List (Option Value)} (hd : decode M.2.1 pc = .ok (.lstore_n i, 1)) (h0 : noL L i.val = true) (hn : i.val + 1 < M.2.2.1) (hL : (L.set i.val (some (.long x))).set (i.val + 1) none = L') (k : G d M post (pc + 1) L' st h) : G d M post pc L (.long x :: st) h := by
  intro p l e s m args below meth c E H locs ls F hP hS hl
  subst hL
  exact lv_lstore_n F.1 F.2.1 hd rfl hl hn rfl (fun ls h9 => k p l e s m args below meth c E H locs ls F hP hS (lh_setL (ls := ls) (v := .long x) h0 h9))
theorem g_iinc {i : Nat} {n : Int} {x v : Int32} {L' : List (Option Value)} (hd : decode M.2.1 pc = .ok (.iinc i n, 3)) (hx : L[i]? = some (some (.int x))) (hv : x + Int32.ofInt n = v) (h0 : noL L i = true) (hn : i < M.2.2.1) (hL : L.set i (some (.int v)) = L') (k : G d M post (pc + 3) L' st h) : G d M post pc L st h := by
  intro p l e s m args below meth c E H locs ls F hP hS hl
  subst hL
  obtain ⟨j, hj⟩ := List.getElem?_of_mem (al_mem (E := E) hx)
  exact lv_iinc F.1 F.2.1 hd hl hj hv hn rfl (fun ls h9 => k p l e s m args below meth c E H locs ls F hP hS (lh_set (ls := ls) (v := .int v) h0 h9))
theorem g_iadd {x y : Int32} (hd : decode M.2.1 pc = .ok (.iadd, 1)) (k : G d M post (pc + 1) L (.int (x + y) :: st) h) : G d M post pc L (.int y :: .int x :: st) h := by
  intro p l e s m args below meth c E H locs ls F hP hS hl
  exact lv_iadd F.1 F.2.1 hd (k p l e s m args below meth c E H locs ls F hP hS hl)
theorem g_isub {x y : Int32} (hd : decode M.2.1 pc = .ok (.isub, 1)) (k : G d M post (pc + 1) L (.int (x - y) :: st) h) : G d M post pc L (.int y :: .int x :: st) h := by
  intro p l e s m args below meth c E H locs ls F hP hS hl
  exact lv_isub F.1 F.2.1 hd (k p l e s m args below meth c E H locs ls F hP hS hl)
theorem g_imul {x y : Int32} (hd : decode M.2.1 pc = .ok (.imul, 1)) (k : G d M post (pc + 1) L (.int (x * y) :: st) h) : G d M post pc L (.int y :: .int x :: st) h := by
  intro p l e s m args below meth c E H locs ls F hP hS hl
  exact lv_imul F.1 F.2.1 hd (k p l e s m args below meth c E H locs ls F hP hS hl)
theorem g_iand {x y : Int32} (hd : decode M.2.1 pc = .ok (.iand, 1)) (k : G d M post (pc + 1) L (.int (x &&& y) :: st) h) : G d M post pc L (.int y :: .int x :: st) h := by
  intro p l e s m args below meth c E H locs ls F hP hS hl
  exact lv_iand F.1 F.2.1 hd (k p l e s m args below meth c E H locs ls F hP hS hl)
theorem g_ior {x y : Int32} (hd : decode M.2.1 pc = .ok (.ior, 1)) (k : G d M post (pc + 1) L (.int (x ||| y) :: st) h) : G d M post pc L (.int y :: .int x :: st) h := by
  intro p l e s m args below meth c E H locs ls F hP hS hl
  exact lv_ior F.1 F.2.1 hd (k p l e s m args below meth c E H locs ls F hP hS hl)
theorem g_ixor {x y : Int32} (hd : decode M.2.1 pc = .ok (.ixor, 1)) (k : G d M post (pc + 1) L (.int (x ^^^ y) :: st) h) : G d M post pc L (.int y :: .int x :: st) h := by
  intro p l e s m args below meth c E H locs ls F hP hS hl
  exact lv_ixor F.1 F.2.1 hd (k p l e s m args below meth c E H locs ls F hP hS hl)
theorem g_ishl {x y : Int32} (hd : decode M.2.1 pc = .ok (.ishl, 1)) (k : G d M post (pc + 1) L (.int (x <<< (y &&& 31)) :: st) h) : G d M post pc L (.int y :: .int x :: st) h := by
  intro p l e s m args below meth c E H locs ls F hP hS hl
  exact lv_ishl F.1 F.2.1 hd (k p l e s m args below meth c E H locs ls F hP hS hl)
theorem g_ishr {x y : Int32} (hd : decode M.2.1 pc = .ok (.ishr, 1)) (k : G d M post (pc + 1) L (.int (x >>> (y &&& 31)) :: st) h) : G d M post pc L (.int y :: .int x :: st) h := by
  intro p l e s m args below meth c E H locs ls F hP hS hl
  exact lv_ishr F.1 F.2.1 hd (k p l e s m args below meth c E H locs ls F hP hS hl)
theorem g_iushr {x y : Int32} (hd : decode M.2.1 pc = .ok (.iushr, 1)) (k : G d M post (pc + 1) L (.int ((x.toUInt32 >>> (y.toUInt32 &&& Int32.toUInt32 31)).toInt32) :: st) h) : G d M post pc L (.int y :: .int x :: st) h := by
  intro p l e s m args below meth c E H locs ls F hP hS hl
  exact lv_iushr F.1 F.2.1 hd rfl (k p l e s m args below meth c E H locs ls F hP hS hl)
theorem g_idiv {x y : Int32} (hd : decode M.2.1 pc = .ok (.idiv, 1)) (hne : ¬ y = 0) (k : G d M post (pc + 1) L (.int (x / y) :: st) h) : G d M post pc L (.int y :: .int x :: st) h := by
  intro p l e s m args below meth c E H locs ls F hP hS hl
  exact lv_idiv F.1 F.2.1 hd hne (k p l e s m args below meth c E H locs ls F hP hS hl)
theorem g_irem {x y : Int32} (hd : decode M.2.1 pc = .ok (.irem, 1)) (hne : ¬ y = 0) (k : G d M post (pc + 1) L (.int (x - x / y * y) :: st) h) : G d M post pc L (.int y :: .int x :: st) h := by
  intro p l e s m args below meth c E H locs ls F hP hS hl
  exact lv_irem F.1 F.2.1 hd hne (k p l e s m args below meth c E H locs ls F hP hS hl)
theorem g_ladd {x y : Int64} (hd : decode M.2.1 pc = .ok (.ladd, 1)) (k : G d M post (pc + 1) L (.long (x + y) :: st) h) : G d M post pc L (.long y :: .long x :: st) h := by
  intro p l e s m args below meth c E H locs ls F hP hS hl
  exact lv_ladd F.1 F.2.1 hd (k p l e s m args below meth c E H locs ls F hP hS hl)
theorem g_lmul {x y : Int64} (hd : decode M.2.1 pc = .ok (.lmul, 1)) (k : G d M post (pc + 1) L (.long (x * y) :: st) h) : G d M post pc L (.long y :: .long x :: st) h := by
  intro p l e s m args below meth c E H locs ls F hP hS hl
  exact lv_lmul F.1 F.2.1 hd (k p l e s m args below meth c E H locs ls F hP hS hl)
theorem g_i2l {x : Int32} (hd : decode M.2.1 pc = .ok (.i2l, 1)) (k : G d M post (pc + 1) L (.long x.toInt64 :: st) h) : G d M post pc L (.int x :: st) h := by
  intro p l e s m args below meth c E H locs ls F hP hS hl
  exact lv_i2l F.1 F.2.1 hd rfl (k p l e s m args below meth c E H locs ls F hP hS hl)
theorem g_dup {v : Value} (hd : decode M.2.1 pc = .ok (.dup, 1)) (hc : v.category = 1) (k : G d M post (pc + 1) L (v :: v :: st) h) : G d M post pc L (v :: st) h := by
  intro p l e s m args below meth c E H locs ls F hP hS hl
  exact lv_dup F.1 F.2.1 hd (by rw [vq_cat]; exact hc) (k p l e s m args below meth c E H locs ls F hP hS hl)
theorem g_pop {v : Value} (hd : decode M.2.1 pc = .ok (.pop, 1)) (hc : v.category = 1) (k : G d M post (pc + 1) L st h) : G d M post pc L (v :: st) h := by
  intro p l e s m args below meth c E H locs ls F hP hS hl
  exact lv_pop F.1 F.2.1 hd (by rw [vq_cat]; exact hc) (k p l e s m args below meth c E H locs ls F hP hS hl)
theorem g_if_eq {x : Int32} {off : Int} {tgt : Nat} (hd : decode M.2.1 pc = .ok (.ifCond .eq off, 3)) (ht : (pc : Int) + off = (tgt : Int)) (k1 : x = 0 → G d M post tgt L st h) (k2 : ¬ x = 0 → G d M post (pc + 3) L st h) : G d M post pc L (.int x :: st) h := by
  intro p l e s m args below meth c E H locs ls F hP hS hl
  exact lv_if_eq F.1 F.2.1 hd ht (fun hc => k1 hc p l e s m args below meth c E H locs ls F hP hS hl) (fun hc => k2 hc p l e s m args below meth c E H locs ls F hP hS hl)
theorem g_icmp_eq {x y : Int32} {off : Int} {tgt : Nat} (hd : decode M.2.1 pc = .ok (.if_icmp .eq off, 3)) (ht : (pc : Int) + off = (tgt : Int)) (k1 : x = y → G d M post tgt L st h) (k2 : ¬ x = y → G d M post (pc + 3) L st h) : G d M post pc L (.int y :: .int x :: st) h := by
  intro p l e s m args below meth c E H locs ls F hP hS hl
  exact lv_icmp_eq F.1 F.2.1 hd ht (fun hc => k1 hc p l e s m args below meth c E H locs ls F hP hS hl) (fun hc => k2 hc p l e s m args below meth c E H locs ls F hP hS hl)
theorem g_if_ne {x : Int32} {off : Int} {tgt : Nat} (hd : decode M.2.1 pc = .ok (.ifCond .ne off, 3)) (ht : (pc : Int) + off = (tgt : Int)) (k1 : ¬ x = 0 → G d M post tgt L st h) (k2 : x = 0 → G d M post (pc + 3) L st h) : G d M post pc L (.int x :: st) h := by
  intro p l e s m args below meth c E H locs ls F hP hS hl
  exact lv_if_ne F.1 F.2.1 hd ht (fun hc => k1 hc p l e s m args below meth c E H locs ls F hP hS hl) (fun hc => k2 hc p l e s m args below meth c E H locs ls F hP hS hl)
theorem g_icmp_ne {x y : Int32} {off : Int} {tgt : Nat} (hd : decode M.2.1 pc = .ok (.if_icmp .ne off, 3)) (ht : (pc : Int) + off = (tgt : Int)) (k1 : ¬ x = y → G d M post tgt L st h) (k2 : x = y → G d M post (pc + 3) L st h) : G d M post pc L (.int y :: .int x :: st) h := by
  intro p l e s m args below meth c E H locs ls F hP hS hl
  exact lv_icmp_ne F.1 F.2.1 hd ht (fun hc => k1 hc p l e s m args below meth c E H locs ls F hP hS hl) (fun hc => k2 hc p l e s m args below meth c E H locs ls F hP hS hl)
theorem g_if_lt {x : Int32} {off : Int} {tgt : Nat} (hd : decode M.2.1 pc = .ok (.ifCond .lt off, 3)) (ht : (pc : Int) + off = (tgt : Int)) (k1 : x < 0 → G d M post tgt L st h) (k2 : ¬ x < 0 → G d M post (pc + 3) L st h) : G d M post pc L (.int x :: st) h := by
  intro p l e s m args below meth c E H locs ls F hP hS hl
  exact lv_if_lt F.1 F.2.1 hd ht (fun hc => k1 hc p l e s m args below meth c E H locs ls F hP hS hl) (fun hc => k2 hc p l e s m args below meth c E H locs ls F hP hS hl)
theorem g_icmp_lt {x y : Int32} {off : Int} {tgt : Nat} (hd : decode M.2.1 pc = .ok (.if_icmp .lt off, 3)) (ht : (pc : Int) + off = (tgt : Int)) (k1 : x < y → G d M post tgt L st h) (k2 : ¬ x < y → G d M post (pc + 3) L st h) : G d M post pc L (.int y :: .int x :: st) h := by
  intro p l e s m args below meth c E H locs ls F hP hS hl
  exact lv_icmp_lt F.1 F.2.1 hd ht (fun hc => k1 hc p l e s m args below meth c E H locs ls F hP hS hl) (fun hc => k2 hc p l e s m args below meth c E H locs ls F hP hS hl)
theorem g_if_ge {x : Int32} {off : Int} {tgt : Nat} (hd : decode M.2.1 pc = .ok (.ifCond .ge off, 3)) (ht : (pc : Int) + off = (tgt : Int)) (k1 : 0 ≤ x → G d M post tgt L st h) (k2 : ¬ 0 ≤ x → G d M post (pc + 3) L st h) : G d M post pc L (.int x :: st) h := by
  intro p l e s m args below meth c E H locs ls F hP hS hl
  exact lv_if_ge F.1 F.2.1 hd ht (fun hc => k1 hc p l e s m args below meth c E H locs ls F hP hS hl) (fun hc => k2 hc p l e s m args below meth c E H locs ls F hP hS hl)
theorem g_icmp_ge {x y : Int32} {off : Int} {tgt : Nat} (hd : decode M.2.1 pc = .ok (.if_icmp .ge off, 3)) (ht : (pc : Int) + off = (tgt : Int)) (k1 : y ≤ x → G d M post tgt L st h) (k2 : ¬ y ≤ x → G d M post (pc + 3) L st h) : G d M post pc L (.int y :: .int x :: st) h := by
  intro p l e s m args below meth c E H locs ls F hP hS hl
  exact lv_icmp_ge F.1 F.2.1 hd ht (fun hc => k1 hc p l e s m args below meth c E H locs ls F hP hS hl) (fun hc => k2 hc p l e s m args below meth c E H locs ls F hP hS hl)
theorem g_if_gt {x : Int32} {off : Int} {tgt : Nat} (hd : decode M.2.1 pc = .ok (.ifCond .gt off, 3)) (ht : (pc : Int) + off = (tgt : Int)) (k1 : 0 < x → G d M post tgt L st h) (k2 : ¬ 0 < x → G d M post (pc + 3) L st h) : G d M post pc L (.int x :: st) h := by
  intro p l e s m args below meth c E H locs ls F hP hS hl
  exact lv_if_gt F.1 F.2.1 hd ht (fun hc => k1 hc p l e s m args below meth c E H locs ls F hP hS hl) (fun hc => k2 hc p l e s m args below meth c E H locs ls F hP hS hl)
theorem g_icmp_gt {x y : Int32} {off : Int} {tgt : Nat} (hd : decode M.2.1 pc = .ok (.if_icmp .gt off, 3)) (ht : (pc : Int) + off = (tgt : Int)) (k1 : y < x → G d M post tgt L st h) (k2 : ¬ y < x → G d M post (pc + 3) L st h) : G d M post pc L (.int y :: .int x :: st) h := by
  intro p l e s m args below meth c E H locs ls F hP hS hl
  exact lv_icmp_gt F.1 F.2.1 hd ht (fun hc => k1 hc p l e s m args below meth c E H locs ls F hP hS hl) (fun hc => k2 hc p l e s m args below meth c E H locs ls F hP hS hl)
theorem g_if_le {x : Int32} {off : Int} {tgt : Nat} (hd : decode M.2.1 pc = .ok (.ifCond .le off, 3)) (ht : (pc : Int) + off = (tgt : Int)) (k1 : x ≤ 0 → G d M post tgt L st h) (k2 : ¬ x ≤ 0 → G d M post (pc + 3) L st h) : G d M post pc L (.int x :: st) h := by
  intro p l e s m args below meth c E H locs ls F hP hS hl
  exact lv_if_le F.1 F.2.1 hd ht (fun hc => k1 hc p l e s m args below meth c E H locs ls F hP hS hl) (fun hc => k2 hc p l e s m args below meth c E H locs ls F hP hS hl)
theorem g_icmp_le {x y : Int32} {off : Int} {tgt : Nat} (hd : decode M.2.1 pc = .ok (.if_icmp .le off, 3)) (ht : (pc : Int) + off = (tgt : Int)) (k1 : x ≤ y → G d M post tgt L st h) (k2 : ¬ x ≤ y → G d M post (pc + 3) L st h) : G d M post pc L (.int y :: .int x :: st) h := by
  intro p l e s m args below meth c E H locs ls F hP hS hl
  exact lv_icmp_le F.1 F.2.1 hd ht (fun hc => k1 hc p l e s m args below meth c E H locs ls F hP hS hl) (fun hc => k2 hc p l e s m args below meth c E H locs ls F hP hS hl)
theorem g_goto {off : Int} {tgt : Nat} (hd : decode M.2.1 pc = .ok (.goto off, 3)) (ht : (pc : Int) + off = (tgt : Int)) (k : G d M post tgt L st h) : G d M post pc L st h := by
  intro p l e s m args below meth c E H locs ls F hP hS hl
  exact lv_goto F.1 F.2.1 hd ht (k p l e s m args below meth c E H locs ls F hP hS hl)
theorem g_tableIn {dflt lo hi : Int} {offs : Array Int} {len : Nat} {x : Int32} {off : Int} {tgt : Nat} (hd : decode M.2.1 pc = .ok (.tableswitch dflt lo hi offs, len)) (h1 : ¬ x.toInt < lo) (h2 : ¬ hi < x.toInt) (ho : offs[(x.toInt - lo).toNat]? = some off) (ht : (pc : Int) + off = (tgt : Int)) (k : G d M post tgt L st h) : G d M post pc L (.int x :: st) h := by
  intro p l e s m args below meth c E H locs ls F hP hS hl
  exact lv_tableIn F.1 F.2.1 hd h1 h2 ho ht (k p l e s m args below meth c E H locs ls F hP hS hl)
theorem g_tableOut {dflt lo hi : Int} {offs : Array Int} {len : Nat} {x : Int32} {tgt : Nat} (hd : decode M.2.1 pc = .ok (.tableswitch dflt lo hi offs, len)) (h1 : x.toInt < lo ∨ hi < x.toInt) (ht : (pc : Int) + dflt = (tgt : Int)) (k : G d M post tgt L st h) : G d M post pc L (.int x :: st) h := by
  intro p l e s m args below meth c E H locs ls F hP hS hl
  exact lv_tableOut F.1 F.2.1 hd h1 ht (k p l e s m args below meth c E H locs ls F hP hS hl)
/-- a tableswitch, case by case: what the place of x in the table says -/
theorem g_table {dflt lo hi : Int} {offs : Array Int} {len : Nat} {x : Int32} (hd : decode M.2.1 pc = .ok (.tableswitch dflt lo hi offs, len)) (hz : ∀ i : Nat, (i : Int) ≤ hi - lo → ∃ off, offs[i]? = some off)
    (k : ∀ tgt : Nat, (pc : Int) + (if x.toInt < lo ∨ hi < x.toInt then dflt else (offs[(x.toInt - lo).toNat]?).getD 0) = (tgt : Int) → G d M post tgt L st h) (hp : ∃ tgt : Nat, (pc : Int) + (if x.toInt < lo ∨ hi < x.toInt then dflt else (offs[(x.toInt - lo).toNat]?).getD 0) = (tgt : Int)) : G d M post pc L (.int x :: st) h := by
  obtain ⟨tgt, ht⟩ := hp
  by_cases hc : x.toInt < lo ∨ hi < x.toInt
  · rw [if_pos hc] at ht
    exact g_tableOut hd hc ht (k tgt (by rw [if_pos hc]; exact ht))
  · rw [if_neg hc] at ht
    have h1 : ¬ x.toInt < lo := fun q => hc (Or.inl q)
    have h2 : ¬ hi < x.toInt := fun q => hc (Or.inr q)
    obtain ⟨off, ho⟩ := hz (x.toInt - lo).toNat (by omega)
    rw [ho] at ht
    exact g_tableIn hd h1 h2 ho ht (k tgt (by rw [if_neg hc, ho]; exact ht))
theorem g_ldc {i : Nat} {v : Int32} (hd : decode M.2.1 pc = .ok (.ldc i, 2)) (hw : Cond.constant M.1.cls i v ∈ lw_tbl) (k : G d M post (pc + 2) L (.int v :: st) h) : G d M post pc L st h := by
  intro p l e s m args below meth c E H locs ls F hP hS hl
  exact lv_ldc F.1 F.2.1 F.2.2.2.2.1 (F.2.2.2.2.2.2.1.1.use hw rfl args) hd (k p l e s m args below meth c E H locs ls F hP hS hl)
theorem g_ldcw {i : Nat} {v : Int32} (hd : decode M.2.1 pc = .ok (.ldc_w i, 3)) (hw : Cond.constant M.1.cls i v ∈ lw_tbl) (k : G d M post (pc + 3) L (.int v :: st) h) : G d M post pc L st h := by
  intro p l e s m args below meth c E H locs ls F hP hS hl
  exact lv_ldcw F.1 F.2.1 F.2.2.2.2.1 (F.2.2.2.2.2.2.1.1.use hw rfl args) hd (k p l e s m args below meth c E H locs ls F hP hS hl)
theorem g_ldc2 {i : Nat} {v : Int64} (hd : decode M.2.1 pc = .ok (.ldc2_w i, 3)) (hw : Cond.constantLong M.1.cls i v ∈ lw_tbl) (k : G d M post (pc + 3) L (.long v :: st) h) : G d M post pc L st h := by
  intro p l e s m args below meth c E H locs ls F hP hS hl
  exact lv_ldc2 F.1 F.2.1 F.2.2.2.2.1 (F.2.2.2.2.2.2.1.1.use hw rfl args) hd (k p l e s m args below meth c E H locs ls F hP hS hl)
theorem g_ireturn {v : Int32} {ty : FieldType} (hd : decode M.2.1 pc = .ok (.ireturn, 1)) (hr : M.2.2.2 = some ty) (hn : narrow ty (.int v) = .int v) (k : post (some (.int v)) h) : G d M post pc L [.int v] h := by
  intro p l e s m args below meth c E H locs ls F hP hS hl
  have hlocks : meth.locks = false := F.2.2.2.2.2.1
  exact W.zret (v := v) F.1 F.2.1 (F.2.2.1.trans hr) hn (fun t ht hW => ⟨⟨some (.int v), h, rfl, k, by rw [ht]; exact hP⟩, hS.F ht⟩) hS.2.2 hd
theorem g_lreturn {v : Int64} (hd : decode M.2.1 pc = .ok (.lreturn, 1)) (hr : M.2.2.2 = some .long) (k : post (some (.long v)) h) : G d M post pc L [.long v] h := by
  intro p l e s m args below meth c E H locs ls F hP hS hl
  have hlocks : meth.locks = false := F.2.2.2.2.2.1
  exact W.lret (v := v) F.1 F.2.1 (F.2.2.1.trans hr) (fun t ht hW => ⟨⟨some (.long v), h, rfl, k, by rw [ht]; exact hP⟩, hS.F ht⟩) hS.2.2 hd
theorem g_areturn {v : Nat} {nm : String} (hd : decode M.2.1 pc = .ok (.areturn, 1)) (hr : M.2.2.2 = some (.object nm)) (k : post (some (.ref v)) h) : G d M post pc L [.ref v] h := by
  intro p l e s m args below meth c E H locs ls F hP hS hl
  have hlocks : meth.locks = false := F.2.2.2.2.2.1
  exact W.aret (v := .ref (E.2.1 v)) F.1 F.2.1 (F.2.2.1.trans hr) (Or.inl ⟨nm, rfl⟩) (Or.inr ⟨_, rfl⟩) (fun t ht hW => ⟨⟨some (.ref v), h, rfl, k, by rw [ht]; exact hP⟩, hS.F ht⟩) hS.2.2 hd
theorem g_return (hd : decode M.2.1 pc = .ok (.return_, 1)) (hr : M.2.2.2 = none) (k : post none h) : G d M post pc L [] h := by
  intro p l e s m args below meth c E H locs ls F hP hS hl
  have hlocks : meth.locks = false := F.2.2.2.2.2.1
  exact W.vret F.1 F.2.1 (F.2.2.1.trans hr) (fun t ht hW => ⟨⟨none, h, rfl, k, by rw [ht]; exact hP⟩, hS.F ht⟩) hS.2.2 hd
/-- a class of the world: its fields' words, types and names -/
def CF (ci : Nat) (C : String) (T : u_T) (N : Nat) : Prop := vwCl[ci]? = some (C, T, N) ∧ (∀ w ∈ u_ws C T N, w ∈ lw_tbl ∧ okw w = true) ∧ (∃ ty0 : Nat → FieldType, ∀ k, k < N → parseFieldDescriptor (T k).2.2.1 = some (ty0 k)) ∧ ∀ a, a < N → ∀ b, b < N → a ≠ b → (T a).2.1 ≠ (T b).2.1
/-- entry idx of own's pool is field k of class ci -/
def FL (own : String) (idx ci k : Nat) (ty : FieldType) (fin : Bool) : Prop := ∃ (C : String) (T : u_T) (N : Nat), CF ci C T N ∧ k < N ∧ parseFieldDescriptor (T k).2.2.1 = some ty ∧ (T k).2.2.2 = fin ∧
  (Cond.fieldLink own idx (T k).1 (T k).2.1 (T k).2.2.1 ∈ lw_tbl ∨ ∃ host, Cond.fieldLinkNest own idx (T k).1 (T k).2.1 (T k).2.2.1 host ∈ lw_tbl)
theorem en_obj {E : EE} {h : PH} {k : Nat} (ho : cO k = true) : en E h k = .inr (cCi k, fl E h k (cFk k)) := if_pos ho
theorem en_arr {E : EE} {h : PH} {k : Nat} (ho : cO k = false) : en E h k = .inl (if cBz k then E.2.2.2 else E.2.2.1, cLn k, .inl (h.1 k)) := if_neg (by rw [ho]; decide)
theorem g_getfield {idx ci j b kd : Nat} {ty : FieldType} {fin : Bool} {v : Value} (hd : decode M.2.1 pc = .ok (.getfield idx, 3)) (hF : FL M.1.cls idx ci j ty fin) (hb : b < 26) (ho : cO b = true) (hc : cCi b = ci) (hk : (cFk b)[j]? = some kd) (hv : vv h b j kd = v) (k : G d M post (pc + 3) L (v :: st) h) : G d M post pc L (.ref b :: st) h := by
  intro p l e s m args below meth c E H locs ls F hP hS hl
  obtain ⟨C, T, N, hCF, hjN, hty, hfin, hlk⟩ := hF
  subst hc; subst hv
  have hx := F.2.2.2.2.2.2.1
  have hts : ∀ w ∈ u_ws C T N, w.before args s = true := fun w hw => hx.1.use (hCF.2.1 w hw).1 (hCF.2.1 w hw).2 args
  have he : (wl E h)[b]? = some (E.2.1 b, .inr (cCi b, fl E h b (cFk b))) := by rw [wl_get E h hb, en_obj ho]
  rcases hlk with hlk | ⟨host, hlk⟩
  · exact va_get (D := E.1) (C := C) (T := T) (N := N) (Ts := u_ws C T N) F.1 F.2.1 hts (fun w hw => hw) F.2.2.2.2.1 hx.2.1 hP b he hCF.1 j hjN (hx.1.use hlk rfl args) (fun _ h9 => h9) (fl_get hk) hd (k p l e s m args below meth c E H locs ls F hP hS hl)
  · exact va_getN (D := E.1) (C := C) (T := T) (N := N) (Ts := u_ws C T N) F.1 F.2.1 hts (fun w hw => hw) F.2.2.2.2.1 hx.2.1 hP b he hCF.1 j hjN (hx.1.use hlk rfl args) (fun _ h9 => h9) (fl_get hk) hd (k p l e s m args below meth c E H locs ls F hP hS hl)
theorem g_putfield {idx ci j b : Nat} {ty : FieldType} {x : Int32} (hd : decode M.2.1 pc = .ok (.putfield idx, 3)) (hF : FL M.1.cls idx ci j ty false) (hb : b < 26) (ho : cO b = true) (hc : cCi b = ci) (hk : (cFk b)[j]? = some 0) (hn : narrow ty (.int x) = .int x) (hf : fits ty (.int x) = true) (k : G d M post (pc + 3) L st (upd2 h.1 b j x, h.2)) : G d M post pc L (.int x :: .ref b :: st) h := by
  intro p l e s m args below meth c E H locs ls F hP hS hl
  obtain ⟨C, T, N, hCF, hjN, hty, hfin, hlk⟩ := hF
  subst hc
  have hx := F.2.2.2.2.2.2.1
  have hts : ∀ w ∈ u_ws C T N, w.before args s = true := fun w hw => hx.1.use (hCF.2.1 w hw).1 (hCF.2.1 w hw).2 args
  have he : (wl E h)[b]? = some (E.2.1 b, .inr (cCi b, fl E h b (cFk b))) := by rw [wl_get E h hb, en_obj ho]
  obtain ⟨ty0, hty0⟩ := hCF.2.2.1
  have hl9 : j < (fl E h b (cFk b)).length := by
    have := fl_get (E := E) (h := h) (k := b) hk
    exact (List.getElem?_eq_some_iff.mp this).1
  have hw9 : (wl E h).set b (E.2.1 b, .inr (cCi b, (fl E h b (cFk b)).set j (.int x))) = wl E (upd2 h.1 b j x, h.2) := by
    rw [fl_set hk, ← en_obj (E := E) (h := (upd2 h.1 b j x, h.2)) ho]
    exact wl_set E hb (fun i hi => en_ne hi)
  have kk : ∀ (H1 : Heap) (locs1 : List Loc), va_P E.1 vwCl ((wl E h).set b (E.2.1 b, .inr (cCi b, (fl E h b (cFk b)).set j (.int x)))) H1 → va_D (Aq E) ((wl E h).set b (E.2.1 b, .inr (cCi b, (fl E h b (cFk b)).set j (.int x)))) → va_S (Aq E) s.heap H1 locs1 → W p l e (rmd d) s m args below meth c H1 locs1 0 0 (MQ below (Qx E post) args s 0 0 (Aq E)) (F0 m (pc + 3) ls (st.map (vq E.2.1))) := by
    intro H1 locs1 q1 q2 q3
    rw [hw9] at q1
    exact k p l e s m args below meth c E H1 locs1 ls F q1 q3 hl
  rcases hlk with hlk | ⟨host, hlk⟩
  · exact va_put (D := E.1) (C := C) (T := T) (N := N) (Ts := u_ws C T N) F.1 F.2.1 hts (fun w hw => hw) ty0 hty0 hCF.2.2.2 F.2.2.2.2.1 hx.2.1 hP (wl_D hx.2.2 h) hS b he hCF.1 j hjN (hx.1.use hlk rfl args) (fun _ h9 => h9) hfin hty hn hf hl9 hd kk
  · exact va_putN (D := E.1) (C := C) (T := T) (N := N) (Ts := u_ws C T N) F.1 F.2.1 hts (fun w hw => hw) ty0 hty0 hCF.2.2.2 F.2.2.2.2.1 hx.2.1 hP (wl_D hx.2.2 h) hS b he hCF.1 j hjN (hx.1.use hlk rfl args) (fun _ h9 => h9) hfin hty hn hf hl9 hd kk
theorem long_at : (cFk 15)[23]? = some 1 ∧ ∀ i, i ≠ 23 → (cFk 15)[i]? ≠ some 1 := by
  refine ⟨rfl, fun i hi h => ?_⟩
  by_cases h9 : i < 24
  · have : ∀ i, i < 24 → i ≠ 23 → (cFk 15)[i]? ≠ some 1 := by decide +kernel
    exact this i h9 hi h
  · rw [List.getElem?_eq_none (by show 24 ≤ i; omega)] at h
    cases h
theorem g_putlong {idx : Nat} {x : Int64} (hd : decode M.2.1 pc = .ok (.putfield idx, 3)) (hF : FL M.1.cls idx 5 23 .long false) (k : G d M post (pc + 3) L st (h.1, x)) : G d M post pc L (.long x :: .ref 15 :: st) h := by
  intro p l e s m args below meth c E H locs ls F hP hS hl
  obtain ⟨C, T, N, hCF, hjN, hty, hfin, hlk⟩ := hF
  have hx := F.2.2.2.2.2.2.1
  have hts : ∀ w ∈ u_ws C T N, w.before args s = true := fun w hw => hx.1.use (hCF.2.1 w hw).1 (hCF.2.1 w hw).2 args
  have he : (wl E h)[15]? = some (E.2.1 15, .inr (5, fl E h 15 (cFk 15))) := by rw [wl_get E h (by decide), en_obj rfl]; rfl
  obtain ⟨ty0, hty0⟩ := hCF.2.2.1
  have hl9 : 23 < (fl E h 15 (cFk 15)).length := by
    have := fl_get (E := E) (h := h) (k := 15) long_at.1
    exact (List.getElem?_eq_some_iff.mp this).1
  have hw9 : (wl E h).set 15 (E.2.1 15, .inr (5, (fl E h 15 (cFk 15)).set 23 (.long x))) = wl E (h.1, x) := by
    rw [fl_setL long_at.1 long_at.2]
    have : en E (h.1, x) 15 = .inr (5, fl E (h.1, x) 15 (cFk 15)) := en_obj rfl
    rw [← this]
    exact wl_set E (by decide) (fun i hi => en_long hi)
  have kk : ∀ (H1 : Heap) (locs1 : List Loc), va_P E.1 vwCl ((wl E h).set 15 (E.2.1 15, .inr (5, (fl E h 15 (cFk 15)).set 23 (.long x)))) H1 → va_D (Aq E) ((wl E h).set 15 (E.2.1 15, .inr (5, (fl E h 15 (cFk 15)).set 23 (.long x)))) → va_S (Aq E) s.heap H1 locs1 → W p l e (rmd d) s m args below meth c H1 locs1 0 0 (MQ below (Qx E post) args s 0 0 (Aq E)) (F0 m (pc + 3) ls (st.map (vq E.2.1))) := by
    intro H1 locs1 q1 q2 q3
    rw [hw9] at q1
    exact k p l e s m args below meth c E H1 locs1 ls F q1 q3 hl
  rcases hlk with hlk | ⟨host, hlk⟩
  · exact va_put (D := E.1) (C := C) (T := T) (N := N) (Ts := u_ws C T N) F.1 F.2.1 hts (fun w hw => hw) ty0 hty0 hCF.2.2.2 F.2.2.2.2.1 hx.2.1 hP (wl_D hx.2.2 h) hS 15 he hCF.1 23 hjN (hx.1.use hlk rfl args) (fun _ h9 => h9) hfin hty rfl rfl hl9 hd kk
  · exact va_putN (D := E.1) (C := C) (T := T) (N := N) (Ts := u_ws C T N) F.1 F.2.1 hts (fun w hw => hw) ty0 hty0 hCF.2.2.2 F.2.2.2.2.1 hx.2.1 hP (wl_D hx.2.2 h) hS 15 he hCF.1 23 hjN (hx.1.use hlk rfl args) (fun _ h9 => h9) hfin hty rfl rfl hl9 hd kk
theorem g_iaload {b n : Nat} {i : Int32} (hd : decode M.2.1 pc = .ok (.iaload, 1)) (hb : b < 26) (ho : cO b = false) (hz : cBz b = false) (hn : cLn b = n) (hi : vp_in i n) (k : G d M post (pc + 1) L (.int (h.1 b i.toNatClampNeg) :: st) h) : G d M post pc L (.int i :: .ref b :: st) h := by
  intro p l e s m args below meth c E H locs ls F hP hS hl
  subst hn
  have he : (wl E h)[b]? = some (E.2.1 b, .inl (E.2.2.1, cLn b, .inl (h.1 b))) := by rw [wl_get E h hb, en_arr ho, hz]; rfl
  exact va_iald F.1 F.2.1 F.2.2.2.2.2.2.1.2.1 hP b 0 he rfl hi hd (k p l e s m args below meth c E H locs ls F hP hS hl)
theorem g_baload {b n : Nat} {i : Int32} (hd : decode M.2.1 pc = .ok (.baload, 1)) (hb : b < 26) (ho : cO b = false) (hz : cBz b = true) (hn : cLn b = n) (hi : vp_in i n) (k : G d M post (pc + 1) L (.int (h.1 b i.toNatClampNeg) :: st) h) : G d M post pc L (.int i :: .ref b :: st) h := by
  intro p l e s m args below meth c E H locs ls F hP hS hl
  subst hn
  have he : (wl E h)[b]? = some (E.2.1 b, .inl (E.2.2.2, cLn b, .inl (h.1 b))) := by rw [wl_get E h hb, en_arr ho, hz]; rfl
  exact va_zald F.1 F.2.1 F.2.2.2.2.2.2.1.2.1 hP b 1 he rfl hi hd (k p l e s m args below meth c E H locs ls F hP hS hl)
theorem wl_setA {E : EE} {h : PH} {b i : Nat} {x : Int32} (hb : b < 26) (ho : cO b = false) : (wl E h).set b (E.2.1 b, .inl (if cBz b then E.2.2.2 else E.2.2.1, cLn b, .inl (upd (h.1 b) i x))) = wl E (upd2 h.1 b i x, h.2) := by
  have : en E (upd2 h.1 b i x, h.2) b = .inl (if cBz b then E.2.2.2 else E.2.2.1, cLn b, .inl (upd (h.1 b) i x)) := by
    rw [en_arr ho]
    show Sum.inl _ = _
    rw [show (upd2 h.1 b i x, h.2).1 b = upd (h.1 b) i x from upd2_self _ _ _ _]
  rw [← this]
  exact wl_set E hb (fun i hi => en_ne hi)
theorem g_iastore {b n : Nat} {i x : Int32} (hd : decode M.2.1 pc = .ok (.iastore, 1)) (hb : b < 26) (ho : cO b = false) (hz : cBz b = false) (hn : cLn b = n) (hi : vp_in i n) (k : G d M post (pc + 1) L st (upd2 h.1 b i.toNatClampNeg x, h.2)) : G d M post pc L (.int x :: .int i :: .ref b :: st) h := by
  intro p l e s m args below meth c E H locs ls F hP hS hl
  subst hn
  have he : (wl E h)[b]? = some (E.2.1 b, .inl (E.2.2.1, cLn b, .inl (h.1 b))) := by rw [wl_get E h hb, en_arr ho, hz]; rfl
  refine va_iast (D := E.1) F.1 F.2.1 F.2.2.2.2.2.2.1.2.1 hP (wl_D F.2.2.2.2.2.2.1.2.2 h) hS b 0 he rfl hi hd (fun H1 locs1 q1 q2 q3 => ?_)
  have hw := wl_setA (E := E) (h := h) (i := i.toNatClampNeg) (x := x) hb ho
  rw [hz] at hw
  exact k p l e s m args below meth c E H1 locs1 ls F (hw ▸ q1) q3 hl
theorem g_bastore {b n : Nat} {i x : Int32} (hd : decode M.2.1 pc = .ok (.bastore, 1)) (hb : b < 26) (ho : cO b = false) (hz : cBz b = true) (hn : cLn b = n) (hi : vp_in i n) (hx : x &&& 1 = x) (k : G d M post (pc + 1) L st (upd2 h.1 b i.toNatClampNeg x, h.2)) : G d M post pc L (.int x :: .int i :: .ref b :: st) h := by
  intro p l e s m args below meth c E H locs ls F hP hS hl
  subst hn
  have he : (wl E h)[b]? = some (E.2.1 b, .inl (E.2.2.2, cLn b, .inl (h.1 b))) := by rw [wl_get E h hb, en_arr ho, hz]; rfl
  refine va_zast (D := E.1) F.1 F.2.1 F.2.2.2.2.2.2.1.2.1 hP (wl_D F.2.2.2.2.2.2.1.2.2 h) hS b 1 he rfl hi hd (fun H1 locs1 q1 q2 q3 => ?_)
  have hw := wl_setA (E := E) (h := h) (i := i.toNatClampNeg) (x := x) hb ho
  rw [hz] at hw
  have e9 : vp_nar .boolean x = x := by
    show x &&& 1 = x
    exact hx
  rw [e9] at q1
  exact k p l e s m args below meth c E H1 locs1 ls F (hw ▸ q1) q3 hl
theorem g_arraylength {b : Nat} {n : Int32} (hd : decode M.2.1 pc = .ok (.arraylength, 1)) (hb : b < 26) (ho : cO b = false) (hz : cBz b = false) (hn : nI (cLn b) = n) (k : G d M post (pc + 1) L (.int n :: st) h) : G d M post pc L (.ref b :: st) h := by
  intro p l e s m args below meth c E H locs ls F hP hS hl
  subst hn
  have he : (wl E h)[b]? = some (E.2.1 b, .inl (E.2.2.1, cLn b, .inl (h.1 b))) := by rw [wl_get E h hb, en_arr ho, hz]; rfl
  exact va_alen F.1 F.2.1 F.2.2.2.2.2.2.1.2.1 hP b 0 he rfl rfl hd (k p l e s m args below meth c E H locs ls F hP hS hl)
/-- the static row STEPS -/
theorem g_steps {idx : Nat} (hd : decode M.2.1 pc = .ok (.getstatic idx, 3)) (hlk : Cond.fieldLink M.1.cls idx "AimDesk" "STEPS" "[I" ∈ lw_tbl ∨ ∃ host, Cond.fieldLinkNest M.1.cls idx "AimDesk" "STEPS" "[I" host ∈ lw_tbl) (k : G d M post (pc + 3) L (.ref 26 :: st) h) : G d M post pc L st h := by
  intro p l e s m args below meth c E H locs ls F hP hS hl
  have hx := F.2.2.2.2.2.2.1
  rcases hlk with hlk | ⟨host, hlk⟩
  · exact va_gets F.1 F.2.1 F.2.2.2.2.2.2.2.1 hS F.2.2.2.2.1 (hx.1.use hlk rfl args) (fun _ h9 => h9) hd (k p l e s m args below meth c E H locs ls F hP hS hl)
  · exact va_getsN F.1 F.2.1 F.2.2.2.2.2.2.2.1 hS F.2.2.2.2.1 (hx.1.use hlk rfl args) (fun _ h9 => h9) hd (k p l e s m args below meth c E H locs ls F hP hS hl)
theorem g_stepsload {i : Int32} (hd : decode M.2.1 pc = .ok (.iaload, 1)) (hi : vp_in i 5) (k : G d M post (pc + 1) L (.int (stp5 i.toNatClampNeg) :: st) h) : G d M post pc L (.int i :: .ref 26 :: st) h := by
  intro p l e s m args below meth c E H locs ls F hP hS hl
  obtain ⟨cell, h1, h2, h3, h4, h5, h6, h7⟩ := F.2.2.2.2.2.2.2.2
  have hlt : i.toNatClampNeg < 5 := Nat.not_le.mp fun q => hi (Or.inr q)
  refine W.iald (v := .int (stp5 i.toNatClampNeg)) F.1 F.2.1 (a := E.2.1 26) (cell := cell) ?_ h2 h3 ?_ (h6 _ hlt) rfl rfl hd (k p l e s m args below meth c E H locs ls F hP hS hl)
  · rw [hS.2.1 _ (Array.getElem?_eq_some_iff.mp h1).1 h7]
    exact h1
  · intro q
    rcases q with q | q
    · exact hi (Or.inl q)
    · omega
end RU
end
section
/-! calls -/
def MC (Mc : Md) (n : Nat) : Prop := Cond.code Mc.1 Mc.2.1 Mc.2.2.1 Mc.2.2.2 ∈ lw_tbl ∧ Cond.initialized Mc.1.cls ∈ lw_tbl ∧ Mc.1.cls ≠ "java/lang/invoke/MethodHandle" ∧ Mc.1.cls ≠ "java/lang/invoke/VarHandle" ∧ (parseMethodDescriptor Mc.1.desc).map (fun d => d.parameters.length) = some n ∧ Mc.2.2.1 ≤ 21
def MV (Mc : Md) (n : Nat) : Prop := MC Mc n ∧ Cond.instanceMethod Mc.1 ∈ lw_tbl ∧ Cond.selects Mc.1.cls Mc.1 Mc.1 ∈ lw_tbl
def MS (Mc : Md) (n : Nat) : Prop := MC Mc n ∧ Cond.static Mc.1 ∈ lw_tbl
def LK (own : String) (idx : Nat) (y : MethodName) : Prop := Cond.methodLink own idx y ∈ lw_tbl ∨ ∃ host, Cond.methodLinkNest own idx y host ∈ lw_tbl
section CA
variable {d : Nat} {M : Md} {post : Option Value → PH → Prop} {pc : Nat} {L : List (Option Value)} {st : List Value} {h : PH}
/-- what comes behind a call, out of its run -/
theorem g_behind {p : Program} {l : Launch} {e : Env} {s : State} {m : MethodId} {args : Array Value} {below : List Frame} {meth : Method} {c : Code} {E : EE} {H : Heap} {locs : List Loc} {ls : Array Slot} {rest stk : List Value} {a : Array Value}
    (F : Fx M p s m meth c E) (hS : va_S (Aq E) s.heap H locs) (hl : lh E ls M.2.2.1 L)
    (hr : va_Run p l e (rmd d) s m args below meth c H locs 0 0 0 0 (F0 m pc ls stk) (rest.map (vq E.2.1)) (Qx E (fun r h' => G d M post (pc + 3) L (r.toList ++ rest) h') a) (Aq E)) :
    W p l e (rmd d) s m args below meth c H locs 0 0 (MQ below (Qx E post) args s 0 0 (Aq E)) (F0 m pc ls stk) := by
  intro T hT X
  obtain ⟨v, st₀, t, T', L', h0, X', hL', e1, e2, ⟨⟨r, h', hv, hg, hP'⟩, hz, hk⟩, go⟩ := hr T hT X
  cases hv
  rw [h0] at hz hk
  have hS' : va_S (Aq E) s.heap T'.heap (locs ++ L') := by
    refine ⟨Nat.le_trans hS.1 (by rw [e1]; exact hz), fun q h1 h2 => ?_, fun q hq => ?_⟩
    · rw [e1, hk q (Nat.lt_of_lt_of_le h1 hS.1) h2]
      exact hS.2.1 q h1 h2
    · rcases List.mem_append.mp hq with h9 | h9
      · exact hS.2.2 q h9
      · exact hL' q h9
  have hP2 : va_P E.1 vwCl (wl E h') T'.heap := by rw [e1]; exact hP'
  obtain ⟨t2, a1, b1⟩ := hg p l e s m args below meth c E T'.heap (locs ++ L') ls F hP2 hS' hl T' rfl X'
  refine ⟨t2, go t2 ?_, b1⟩
  have e9 : (r.toList ++ rest).map (vq E.2.1) = (r.map (vq E.2.1)).toList ++ rest.map (vq E.2.1) := by
    cases r <;> simp
  rw [e9] at a1
  exact a1
theorem g_pre {E : EE} {s : State} {H : Heap} {locs : List Loc} (as : List Value) (hK : Kx E s) (hR : Rd E s s.heap) (hP : va_P E.1 vwCl (wl E h) H) (hS : va_S (Aq E) s.heap H locs) : ∀ U : State, U.heap = H → s.WarmedH U.vm → PcE E as h (as.map (vq E.2.1)).toArray U := by
  intro U hU hW
  refine ⟨rfl, by rw [hU]; exact hP, hK.warm hW, hR.move hW.alike (fun a h1 h2 => ?_)⟩
  rw [hU]
  exact hS.2.1 a h1 h2
theorem g_callV {d' idx n b : Nat} {Mc : Md} {as rest : List Value} (hd : decode M.2.1 pc = .ok (.invokevirtual idx, 3)) (hM : MV Mc n) (hK : LK M.1.cls idx Mc.1) (hb : b < 26) (ho : cO b = true) (hcl : ∃ T N, vwCl[cCi b]? = some (Mc.1.cls, T, N)) (hn : as.length = n) (hst : st = as.reverse ++ .ref b :: rest) (hcat : (rest.map fun v => v.category).sum ≤ 8) (hdd : d' + 1 ≤ d)
    (k : Ev d' Mc (.ref b :: as) h (fun r h' => G d M post (pc + 3) L (r.toList ++ rest) h')) : G d M post pc L st h := by
  intro p l e s m args below meth c E H locs ls F hP hS hl
  obtain ⟨⟨m1, m2, m3, m4, m5, m6⟩, m7, m8⟩ := hM
  obtain ⟨T, N, hcl⟩ := hcl
  subst hst
  have hx := F.2.2.2.2.2.2.1
  have he : (wl E h)[b]? = some (E.2.1 b, .inr (cCi b, fl E h b (cFk b))) := by rw [wl_get E h hb, en_obj ho]
  have hcat' : ((rest.map (vq E.2.1)).map fun v => v.category).sum ≤ 8 := by
    rw [List.map_map]
    refine Nat.le_trans (Nat.le_of_eq ?_) hcat
    congr 1
    exact List.map_congr_left (fun v _ => vq_cat _ v)
  have hts : ∀ w ∈ [Cond.code Mc.1 Mc.2.1 Mc.2.2.1 Mc.2.2.2], w.before args s = true := fun w hw => by
    rw [List.mem_singleton.mp hw]
    exact hx.1.use m1 rfl args
  have hgd : GoodIn [Cond.code Mc.1 Mc.2.1 Mc.2.2.1 Mc.2.2.2] [Cond.code Mc.1 Mc.2.1 Mc.2.2.1 Mc.2.2.2] := fun w hw => ⟨hw, Or.inl (by rw [List.mem_singleton.mp hw]; rfl)⟩
  have hroom : (rmd d').frames + 1 ≤ (rmd d).frames ∧ 8 + (Mc.2.2.1 + 11) + (rmd d').locals ≤ (rmd d).locals := by
    simp only [rmd]
    omega
  have hpre : PreV s H Mc.1.cls (E.2.1 b) (PcE E (.ref b :: as) h) (as.map (vq E.2.1)) := ⟨PcE.blind E _ h, va_recv (q := (Mc.1.cls, T, N)) hx.2.1 hP hcl he, g_pre (.ref b :: as) hx F.2.2.2.2.2.2.2 hP hS⟩
  have hsz : ls.size = M.2.2.1 := hl.1
  have hstk : ((as.reverse ++ .ref b :: rest).map (vq E.2.1)) = (as.map (vq E.2.1)).reverse ++ .ref (E.2.1 b) :: rest.map (vq E.2.1) := by
    rw [List.map_append, List.map_reverse]
    rfl
  refine g_behind (rest := rest) (a := (Value.ref (E.2.1 b) :: as.map (vq E.2.1)).toArray) F hS hl ?_
  rcases hK with hK | ⟨host, hK⟩
  · exact va_runV (Ts := [Cond.code Mc.1 Mc.2.1 Mc.2.2.1 Mc.2.2.2]) ⟨F.1, F.2.1, F.2.2.2.1, F.2.2.2.2.1, hts⟩ (k l E)
      ⟨callB_of n hts hgd rfl rfl rfl (hx.1.use m2 rfl args) (hx.1.use hK rfl args) ⟨m3, m4, m5⟩ hroom, hx.1.use m7 rfl args, hx.1.use m8 rfl args⟩ hpre rfl (by rw [List.length_map]; exact hn) hsz hstk (lv_room hcat') hd ⟨Nat.zero_le _, Nat.zero_le _⟩
  · exact va_runVN (Ts := [Cond.code Mc.1 Mc.2.1 Mc.2.2.1 Mc.2.2.2]) ⟨F.1, F.2.1, F.2.2.2.1, F.2.2.2.2.1, hts⟩ (k l E)
      ⟨va_cnB n hts hgd rfl rfl rfl (va_Nw.of rfl (hx.1.use hK rfl args)) (hx.1.use m2 rfl args) ⟨m3, m4, m5⟩ hroom, hx.1.use m7 rfl args, hx.1.use m8 rfl args⟩ hpre rfl (by rw [List.length_map]; exact hn) hsz hstk (lv_room hcat') hd ⟨Nat.zero_le _, Nat.zero_le _⟩
theorem g_callS {d' idx n : Nat} {Mc : Md} {as rest : List Value} (hd : decode M.2.1 pc = .ok (.invokestatic idx, 3)) (hM : MS Mc n) (hK : LK M.1.cls idx Mc.1) (hn : as.length = n) (hst : st = as.reverse ++ rest) (hcat : (rest.map fun v => v.category).sum ≤ 8) (hdd : d' + 1 ≤ d)
    (k : Ev d' Mc as h (fun r h' => G d M post (pc + 3) L (r.toList ++ rest) h')) : G d M post pc L st h := by
  intro p l e s m args below meth c E H locs ls F hP hS hl
  obtain ⟨⟨m1, m2, m3, m4, m5, m6⟩, m7⟩ := hM
  subst hst
  have hx := F.2.2.2.2.2.2.1
  have hcat' : ((rest.map (vq E.2.1)).map fun v => v.category).sum ≤ 8 := by
    rw [List.map_map]
    refine Nat.le_trans (Nat.le_of_eq ?_) hcat
    congr 1
    exact List.map_congr_left (fun v _ => vq_cat _ v)
  have hts : ∀ w ∈ [Cond.code Mc.1 Mc.2.1 Mc.2.2.1 Mc.2.2.2], w.before args s = true := fun w hw => by
    rw [List.mem_singleton.mp hw]
    exact hx.1.use m1 rfl args
  have hgd : GoodIn [Cond.code Mc.1 Mc.2.1 Mc.2.2.1 Mc.2.2.2] [Cond.code Mc.1 Mc.2.1 Mc.2.2.1 Mc.2.2.2] := fun w hw => ⟨hw, Or.inl (by rw [List.mem_singleton.mp hw]; rfl)⟩
  have hroom : (rmd d').frames + 1 ≤ (rmd d).frames ∧ 8 + (Mc.2.2.1 + 11) + (rmd d').locals ≤ (rmd d).locals := by
    simp only [rmd]
    omega
  have hpre : PreS s H (PcE E as h) (as.map (vq E.2.1)) := ⟨PcE.blind E _ h, g_pre as hx F.2.2.2.2.2.2.2 hP hS⟩
  have hsz : ls.size = M.2.2.1 := hl.1
  have hstk : ((as.reverse ++ rest).map (vq E.2.1)) = (as.map (vq E.2.1)).reverse ++ rest.map (vq E.2.1) := by
    rw [List.map_append, List.map_reverse]
  refine g_behind (rest := rest) (a := (as.map (vq E.2.1)).toArray) F hS hl ?_
  rcases hK with hK | ⟨host, hK⟩
  · exact va_runS (Ts := [Cond.code Mc.1 Mc.2.1 Mc.2.2.1 Mc.2.2.2]) ⟨F.1, F.2.1, F.2.2.2.1, F.2.2.2.2.1, hts⟩ (k l E)
      ⟨callB_of n hts hgd rfl rfl rfl (hx.1.use m2 rfl args) (hx.1.use hK rfl args) ⟨m3, m4, m5⟩ hroom, hx.1.use m7 rfl args⟩ hpre rfl (by rw [List.length_map]; exact hn) hsz hstk (lv_room hcat') hd ⟨Nat.zero_le _, Nat.zero_le _⟩
  · exact va_runSN (Ts := [Cond.code Mc.1 Mc.2.1 Mc.2.2.1 Mc.2.2.2]) ⟨F.1, F.2.1, F.2.2.2.1, F.2.2.2.2.1, hts⟩ (k l E)
      ⟨va_cnB n hts hgd rfl rfl rfl (va_Nw.of rfl (hx.1.use hK rfl args)) (hx.1.use m2 rfl args) ⟨m3, m4, m5⟩ hroom, hx.1.use m7 rfl args, trivial⟩ hpre rfl (by rw [List.length_map]; exact hn) hsz hstk (lv_room hcat') hd ⟨Nat.zero_le _, Nat.zero_le _⟩
end CA
end
section
/-! the methods, and what the tables say of fields and calls, by their places -/
abbrev mX0_init : Md := (yX0_init, cX0_init, 1, none)
abbrev mX0_append : Md := (yX0_append, cX0_append, 2, none)
abbrev mX0_codeAt : Md := (yX0_codeAt, cX0_codeAt, 2, some .int)
abbrev mX0_figureAt : Md := (yX0_figureAt, cX0_figureAt, 2, some .int)
abbrev mX0_firstFault : Md := (yX0_firstFault, cX0_firstFault, 2, some .int)
abbrev mX0_fits : Md := (yX0_fits, cX0_fits, 3, some .boolean)
abbrev mX0_isField : Md := (yX0_isField, cX0_isField, 1, some .boolean)
abbrev mX1_init : Md := (yX1_init, cX1_init, 2, none)
abbrev mX1_moveAt : Md := (yX1_moveAt, cX1_moveAt, 2, some .int)
abbrev mX2_init : Md := (yX2_init, cX2_init, 1, none)
abbrev mX2_forget : Md := (yX2_forget, cX2_forget, 1, none)
abbrev mX2_planWithBest : Md := (yX2_planWithBest, cX2_planWithBest, 4, some (.object "AimDesk$Plan"))
abbrev mX2_planWithChange : Md := (yX2_planWithChange, cX2_planWithChange, 4, some (.object "AimDesk$Plan"))
abbrev mX2_findBest : Md := (yX2_findBest, cX2_findBest, 3, none)
abbrev mX2_openFrom : Md := (yX2_openFrom, cX2_openFrom, 12, none)
abbrev mX2_findChange : Md := (yX2_findChange, cX2_findChange, 6, none)
abbrev mX2_widen : Md := (yX2_widen, cX2_widen, 5, some .boolean)
abbrev mX2_markBeside : Md := (yX2_markBeside, cX2_markBeside, 9, some .boolean)
abbrev mX2_noteMoves : Md := (yX2_noteMoves, cX2_noteMoves, 9, none)
abbrev mX2_leastMove : Md := (yX2_leastMove, cX2_leastMove, 8, some .int)
abbrev mX3_init : Md := (yX3_init, cX3_init, 1, none)
abbrev mX3_isRead : Md := (yX3_isRead, cX3_isRead, 1, some .boolean)
abbrev mX3_hasMirror : Md := (yX3_hasMirror, cX3_hasMirror, 2, some .boolean)
abbrev mX3_hasPatch : Md := (yX3_hasPatch, cX3_hasPatch, 2, some .boolean)
abbrev mX3_isShaded : Md := (yX3_isShaded, cX3_isShaded, 2, some .boolean)
abbrev mX3_isStuck : Md := (yX3_isStuck, cX3_isStuck, 2, some .boolean)
abbrev mX3_read : Md := (yX3_read, cX3_read, 4, none)
abbrev mX3_lightOf : Md := (yX3_lightOf, cX3_lightOf, 5, some .int)
abbrev mX3_light : Md := (yX3_light, cX3_light, 3, some .int)
abbrev mX3_measureSlack : Md := (yX3_measureSlack, cX3_measureSlack, 2, none)
abbrev mX3_isSafe : Md := (yX3_isSafe, cX3_isSafe, 2, some .boolean)
abbrev mX3_heats : Md := (yX3_heats, cX3_heats, 1, some .int)
abbrev mX3_heatsWithout : Md := (yX3_heatsWithout, cX3_heatsWithout, 4, some .int)
abbrev mX3_aimingAt : Md := (yX3_aimingAt, cX3_aimingAt, 4, some .int)
abbrev mX3_bound : Md := (yX3_bound, cX3_bound, 4, some .int)
abbrev mX3_mostLight : Md := (yX3_mostLight, cX3_mostLight, 4, some .int)
abbrev mX3_placeNow : Md := (yX3_placeNow, cX3_placeNow, 3, some .int)
abbrev mX3_bestTrade : Md := (yX3_bestTrade, cX3_bestTrade, 6, some .int)
abbrev mX3_heatsByTrade : Md := (yX3_heatsByTrade, cX3_heatsByTrade, 4, some .int)
abbrev mX3_swapAims : Md := (yX3_swapAims, cX3_swapAims, 4, none)
abbrev mX3_bestRelief : Md := (yX3_bestRelief, cX3_bestRelief, 7, some .int)
abbrev mX4_init : Md := (yX4_init, cX4_init, 1, none)
abbrev mX4_letter : Md := (yX4_letter, cX4_letter, 2, some .int)
abbrev mX4_blank : Md := (yX4_blank, cX4_blank, 2, some .int)
abbrev mX4_fault : Md := (yX4_fault, cX4_fault, 1, some .int)
abbrev mX4_field : Md := (yX4_field, cX4_field, 1, some .int)
abbrev mX4_ceiling : Md := (yX4_ceiling, cX4_ceiling, 4, some .int)
abbrev mX4_shade : Md := (yX4_shade, cX4_shade, 3, some .int)
abbrev mX4_stuck : Md := (yX4_stuck, cX4_stuck, 5, some .int)
abbrev mX4_aim : Md := (yX4_aim, cX4_aim, 4, some .int)
abbrev mX4_mirror : Md := (yX4_mirror, cX4_mirror, 3, some .int)
abbrev mX4_patch : Md := (yX4_patch, cX4_patch, 3, some .int)
abbrev mX4_best : Md := (yX4_best, cX4_best, 4, some .int)
abbrev mX4_change : Md := (yX4_change, cX4_change, 4, some .int)
abbrev mX4_go : Md := (yX4_go, cX4_go, 4, some .int)
abbrev mX4_trade : Md := (yX4_trade, cX4_trade, 5, some .int)
abbrev mX4_relief : Md := (yX4_relief, cX4_relief, 1, some .int)
abbrev mX4_count : Md := (yX4_count, cX4_count, 2, some .int)
abbrev mX4_digest : Md := (yX4_digest, cX4_digest, 6, some .long)
abbrev mX4_digestOfParts : Md := (yX4_digestOfParts, cX4_digestOfParts, 7, some .long)
abbrev mX4_bit : Md := (yX4_bit, cX4_bit, 2, some .int)
abbrev mX4_heatOf : Md := (yX4_heatOf, cX4_heatOf, 2, some .int)
abbrev mX4_sum : Md := (yX4_sum, cX4_sum, 1, some .int)
abbrev mX4_aimIn : Md := (yX4_aimIn, cX4_aimIn, 4, some .int)
abbrev mX5_init : Md := (yX5_init, cX5_init, 1, none)
abbrev mX5_within : Md := (yX5_within, cX5_within, 3, some .boolean)
abbrev mX5_has : Md := (yX5_has, cX5_has, 2, some .boolean)
abbrev mX5_letter : Md := (yX5_letter, cX5_letter, 2, some .int)
abbrev mX5_blank : Md := (yX5_blank, cX5_blank, 2, some .int)
abbrev mX5_isRight : Md := (yX5_isRight, cX5_isRight, 3, some .boolean)
abbrev mX5_rightLetters : Md := (yX5_rightLetters, cX5_rightLetters, 2, some .int)
abbrev mX5_fault : Md := (yX5_fault, cX5_fault, 1, some .int)
abbrev mX5_field : Md := (yX5_field, cX5_field, 2, some .int)
abbrev mX5_isMirror : Md := (yX5_isMirror, cX5_isMirror, 2, some .boolean)
abbrev mX5_isPatch : Md := (yX5_isPatch, cX5_isPatch, 2, some .boolean)
abbrev mX5_gives : Md := (yX5_gives, cX5_gives, 5, some .int)
abbrev mX5_givesAll : Md := (yX5_givesAll, cX5_givesAll, 5, some .int)
abbrev mX5_asTheyAre : Md := (yX5_asTheyAre, cX5_asTheyAre, 2, none)
abbrev mX5_heatAt : Md := (yX5_heatAt, cX5_heatAt, 5, some .int)
abbrev mX5_isGood : Md := (yX5_isGood, cX5_isGood, 4, some .boolean)
abbrev mX5_caught : Md := (yX5_caught, cX5_caught, 3, some .int)
abbrev mX5_ceiling : Md := (yX5_ceiling, cX5_ceiling, 4, some .int)
abbrev mX5_shade : Md := (yX5_shade, cX5_shade, 3, some .int)
abbrev mX5_stuck : Md := (yX5_stuck, cX5_stuck, 4, some .int)
abbrev mX5_aim : Md := (yX5_aim, cX5_aim, 4, some .int)
abbrev mX5_ofMirror : Md := (yX5_ofMirror, cX5_ofMirror, 3, some .int)
abbrev mX5_mirror : Md := (yX5_mirror, cX5_mirror, 3, some .int)
abbrev mX5_aimedAt : Md := (yX5_aimedAt, cX5_aimedAt, 4, some .int)
abbrev mX5_ofPatch : Md := (yX5_ofPatch, cX5_ofPatch, 3, some .int)
abbrev mX5_patch : Md := (yX5_patch, cX5_patch, 3, some .int)
abbrev mX5_unitOf : Md := (yX5_unitOf, cX5_unitOf, 4, some .int)
abbrev mX5_codeNow : Md := (yX5_codeNow, cX5_codeNow, 3, some .int)
abbrev mX5_layCode : Md := (yX5_layCode, cX5_layCode, 4, none)
abbrev mX5_areThere : Md := (yX5_areThere, cX5_areThere, 3, some .boolean)
abbrev mX5_layBest : Md := (yX5_layBest, cX5_layBest, 4, none)
abbrev mX5_boundNow : Md := (yX5_boundNow, cX5_boundNow, 6, some .int)
abbrev mX5_bestNow : Md := (yX5_bestNow, cX5_bestNow, 2, some .int)
abbrev mX5_best : Md := (yX5_best, cX5_best, 3, some .int)
abbrev mX5_figure : Md := (yX5_figure, cX5_figure, 2, some .int)
abbrev mX5_layFar : Md := (yX5_layFar, cX5_layFar, 9, none)
abbrev mX5_moveFrom : Md := (yX5_moveFrom, cX5_moveFrom, 7, some .int)
abbrev mX5_moved : Md := (yX5_moved, cX5_moved, 4, some .int)
abbrev mX5_layChange : Md := (yX5_layChange, cX5_layChange, 4, none)
abbrev mX5_changeNow : Md := (yX5_changeNow, cX5_changeNow, 2, some .int)
abbrev mX5_change : Md := (yX5_change, cX5_change, 3, some .int)
abbrev mX5_go : Md := (yX5_go, cX5_go, 2, some .int)
abbrev mX5_layTrade : Md := (yX5_layTrade, cX5_layTrade, 7, none)
abbrev mX5_tradeNow : Md := (yX5_tradeNow, cX5_tradeNow, 2, some .int)
abbrev mX5_trade : Md := (yX5_trade, cX5_trade, 2, some .int)
abbrev mX5_ones : Md := (yX5_ones, cX5_ones, 3, some .int)
abbrev mX5_reliefNow : Md := (yX5_reliefNow, cX5_reliefNow, 6, some .int)
abbrev mX5_relief : Md := (yX5_relief, cX5_relief, 1, some .int)
abbrev mX5_howMany : Md := (yX5_howMany, cX5_howMany, 2, some .int)
abbrev mX5_count : Md := (yX5_count, cX5_count, 2, some .int)
abbrev mX5_mix : Md := (yX5_mix, cX5_mix, 3, none)
abbrev mX5_mixPlans : Md := (yX5_mixPlans, cX5_mixPlans, 3, none)
abbrev mX5_mixField : Md := (yX5_mixField, cX5_mixField, 2, none)
abbrev mX5_digest : Md := (yX5_digest, cX5_digest, 3, some .long)
abbrev mJ6_bitCount_0f7a4 : Md := (yJ6_bitCount_0f7a4, cJ6_bitCount_0f7a4, 1, some .int)
abbrev mJ9_max_7cf53 : Md := (yJ9_max_7cf53, cJ9_max_7cf53, 2, some .int)
abbrev mJ9_min_7cf53 : Md := (yJ9_min_7cf53, cJ9_min_7cf53, 2, some .int)
abbrev mJ7_fill_53178 : Md := (yJ7_fill_53178, cJ7_fill_53178, 4, none)
set_option maxRecDepth 20000 in
theorem uw0 : (u_ws RX0 TX0 2).all (fun w => decide (w ∈ lw_tbl) && okw w) = true := by decide +kernel
theorem cf0 : CF 0 RX0 TX0 2 := ⟨rfl, fun w hw => by have := List.all_eq_true.mp uw0 w hw; simp only [Bool.and_eq_true, decide_eq_true_eq] at this; exact this, ⟨tyX0, tyX0_ok⟩, nmX0⟩
set_option maxRecDepth 20000 in
theorem uw1 : (u_ws RX1 TX1 7).all (fun w => decide (w ∈ lw_tbl) && okw w) = true := by decide +kernel
theorem cf1 : CF 1 RX1 TX1 7 := ⟨rfl, fun w hw => by have := List.all_eq_true.mp uw1 w hw; simp only [Bool.and_eq_true, decide_eq_true_eq] at this; exact this, ⟨tyX1, tyX1_ok⟩, nmX1⟩
set_option maxRecDepth 20000 in
theorem uw2 : (u_ws RX2 TX2 3).all (fun w => decide (w ∈ lw_tbl) && okw w) = true := by decide +kernel
theorem cf2 : CF 2 RX2 TX2 3 := ⟨rfl, fun w hw => by have := List.all_eq_true.mp uw2 w hw; simp only [Bool.and_eq_true, decide_eq_true_eq] at this; exact this, ⟨tyX2, tyX2_ok⟩, nmX2⟩
set_option maxRecDepth 20000 in
theorem uw3 : (u_ws RX3 TX3 11).all (fun w => decide (w ∈ lw_tbl) && okw w) = true := by decide +kernel
theorem cf3 : CF 3 RX3 TX3 11 := ⟨rfl, fun w hw => by have := List.all_eq_true.mp uw3 w hw; simp only [Bool.and_eq_true, decide_eq_true_eq] at this; exact this, ⟨tyX3, tyX3_ok⟩, nmX3⟩
set_option maxRecDepth 20000 in
theorem uw4 : (u_ws RX4 TX4 5).all (fun w => decide (w ∈ lw_tbl) && okw w) = true := by decide +kernel
theorem cf4 : CF 4 RX4 TX4 5 := ⟨rfl, fun w hw => by have := List.all_eq_true.mp uw4 w hw; simp only [Bool.and_eq_true, decide_eq_true_eq] at this; exact this, ⟨tyX4, tyX4_ok⟩, nmX4⟩
set_option maxRecDepth 20000 in
theorem uw5 : (u_ws RX5 TX5 24).all (fun w => decide (w ∈ lw_tbl) && okw w) = true := by decide +kernel
theorem cf5 : CF 5 RX5 TX5 24 := ⟨rfl, fun w hw => by have := List.all_eq_true.mp uw5 w hw; simp only [Bool.and_eq_true, decide_eq_true_eq] at this; exact this, ⟨tyX5, tyX5_ok⟩, nmX5⟩
theorem fX0_9 : FL RX0 9 0 0 (.array .int) true := ⟨RX0, TX0, 2, cf0, by decide, by decide +kernel, rfl, Or.inl (List.mem_of_getElem? (i := 93) (by decide +kernel))⟩
theorem fX0_15 : FL RX0 15 0 1 .int false := ⟨RX0, TX0, 2, cf0, by decide, by decide +kernel, rfl, Or.inl (List.mem_of_getElem? (i := 94) (by decide +kernel))⟩
theorem fX4_30 : FL RX4 30 0 1 .int false := ⟨RX0, TX0, 2, cf0, by decide, by decide +kernel, rfl, Or.inr ⟨"AimDesk", List.mem_of_getElem? (i := 95) (by decide +kernel)⟩⟩
theorem fX3_55 : FL RX3 55 0 1 .int false := ⟨RX0, TX0, 2, cf0, by decide, by decide +kernel, rfl, Or.inr ⟨"AimDesk", List.mem_of_getElem? (i := 96) (by decide +kernel)⟩⟩
theorem fX3_27 : FL RX3 27 3 0 .int false := ⟨RX3, TX3, 11, cf3, by decide, by decide +kernel, rfl, Or.inl (List.mem_of_getElem? (i := 109) (by decide +kernel))⟩
theorem fX4_56 : FL RX4 56 3 0 .int false := ⟨RX3, TX3, 11, cf3, by decide, by decide +kernel, rfl, Or.inr ⟨"AimDesk", List.mem_of_getElem? (i := 110) (by decide +kernel)⟩⟩
theorem fX2_115 : FL RX2 115 3 0 .int false := ⟨RX3, TX3, 11, cf3, by decide, by decide +kernel, rfl, Or.inr ⟨"AimDesk", List.mem_of_getElem? (i := 111) (by decide +kernel)⟩⟩
theorem fX3_31 : FL RX3 31 3 1 .int false := ⟨RX3, TX3, 11, cf3, by decide, by decide +kernel, rfl, Or.inl (List.mem_of_getElem? (i := 112) (by decide +kernel))⟩
theorem fX2_70 : FL RX2 70 3 1 .int false := ⟨RX3, TX3, 11, cf3, by decide, by decide +kernel, rfl, Or.inr ⟨"AimDesk", List.mem_of_getElem? (i := 113) (by decide +kernel)⟩⟩
theorem fX4_162 : FL RX4 162 3 1 .int false := ⟨RX3, TX3, 11, cf3, by decide, by decide +kernel, rfl, Or.inr ⟨"AimDesk", List.mem_of_getElem? (i := 114) (by decide +kernel)⟩⟩
theorem fX3_58 : FL RX3 58 3 2 .int false := ⟨RX3, TX3, 11, cf3, by decide, by decide +kernel, rfl, Or.inl (List.mem_of_getElem? (i := 115) (by decide +kernel))⟩
theorem fX2_100 : FL RX2 100 3 2 .int false := ⟨RX3, TX3, 11, cf3, by decide, by decide +kernel, rfl, Or.inr ⟨"AimDesk", List.mem_of_getElem? (i := 116) (by decide +kernel)⟩⟩
theorem fX3_34 : FL RX3 34 3 3 .int false := ⟨RX3, TX3, 11, cf3, by decide, by decide +kernel, rfl, Or.inl (List.mem_of_getElem? (i := 117) (by decide +kernel))⟩
theorem fX4_73 : FL RX4 73 3 3 .int false := ⟨RX3, TX3, 11, cf3, by decide, by decide +kernel, rfl, Or.inr ⟨"AimDesk", List.mem_of_getElem? (i := 118) (by decide +kernel)⟩⟩
theorem fX3_41 : FL RX3 41 3 4 .int false := ⟨RX3, TX3, 11, cf3, by decide, by decide +kernel, rfl, Or.inl (List.mem_of_getElem? (i := 119) (by decide +kernel))⟩
theorem fX4_79 : FL RX4 79 3 4 .int false := ⟨RX3, TX3, 11, cf3, by decide, by decide +kernel, rfl, Or.inr ⟨"AimDesk", List.mem_of_getElem? (i := 120) (by decide +kernel)⟩⟩
theorem fX3_78 : FL RX3 78 3 5 .int false := ⟨RX3, TX3, 11, cf3, by decide, by decide +kernel, rfl, Or.inl (List.mem_of_getElem? (i := 121) (by decide +kernel))⟩
theorem fX3_9 : FL RX3 9 3 6 (.array .int) true := ⟨RX3, TX3, 11, cf3, by decide, by decide +kernel, rfl, Or.inl (List.mem_of_getElem? (i := 122) (by decide +kernel))⟩
theorem fX4_101 : FL RX4 101 3 6 (.array .int) true := ⟨RX3, TX3, 11, cf3, by decide, by decide +kernel, rfl, Or.inr ⟨"AimDesk", List.mem_of_getElem? (i := 123) (by decide +kernel)⟩⟩
theorem fX3_15 : FL RX3 15 3 7 (.array .int) true := ⟨RX3, TX3, 11, cf3, by decide, by decide +kernel, rfl, Or.inl (List.mem_of_getElem? (i := 124) (by decide +kernel))⟩
theorem fX4_104 : FL RX4 104 3 7 (.array .int) true := ⟨RX3, TX3, 11, cf3, by decide, by decide +kernel, rfl, Or.inr ⟨"AimDesk", List.mem_of_getElem? (i := 125) (by decide +kernel)⟩⟩
theorem fX3_18 : FL RX3 18 3 8 (.array .int) true := ⟨RX3, TX3, 11, cf3, by decide, by decide +kernel, rfl, Or.inl (List.mem_of_getElem? (i := 126) (by decide +kernel))⟩
theorem fX2_76 : FL RX2 76 3 8 (.array .int) true := ⟨RX3, TX3, 11, cf3, by decide, by decide +kernel, rfl, Or.inr ⟨"AimDesk", List.mem_of_getElem? (i := 127) (by decide +kernel)⟩⟩
theorem fX4_89 : FL RX4 89 3 8 (.array .int) true := ⟨RX3, TX3, 11, cf3, by decide, by decide +kernel, rfl, Or.inr ⟨"AimDesk", List.mem_of_getElem? (i := 128) (by decide +kernel)⟩⟩
theorem fX3_21 : FL RX3 21 3 9 (.array .int) true := ⟨RX3, TX3, 11, cf3, by decide, by decide +kernel, rfl, Or.inl (List.mem_of_getElem? (i := 129) (by decide +kernel))⟩
theorem fX3_24 : FL RX3 24 3 10 (.array .int) true := ⟨RX3, TX3, 11, cf3, by decide, by decide +kernel, rfl, Or.inl (List.mem_of_getElem? (i := 130) (by decide +kernel))⟩
theorem fX4_63 : FL RX4 63 3 10 (.array .int) true := ⟨RX3, TX3, 11, cf3, by decide, by decide +kernel, rfl, Or.inr ⟨"AimDesk", List.mem_of_getElem? (i := 131) (by decide +kernel)⟩⟩
theorem fX1_15 : FL RX1 15 1 0 .boolean true := ⟨RX1, TX1, 7, cf1, by decide, by decide +kernel, rfl, Or.inl (List.mem_of_getElem? (i := 167) (by decide +kernel))⟩
theorem fX2_83 : FL RX2 83 1 0 .boolean true := ⟨RX1, TX1, 7, cf1, by decide, by decide +kernel, rfl, Or.inr ⟨"AimDesk", List.mem_of_getElem? (i := 168) (by decide +kernel)⟩⟩
theorem fX1_9 : FL RX1 9 1 1 (.array .int) true := ⟨RX1, TX1, 7, cf1, by decide, by decide +kernel, rfl, Or.inl (List.mem_of_getElem? (i := 169) (by decide +kernel))⟩
theorem fX2_127 : FL RX2 127 1 1 (.array .int) true := ⟨RX1, TX1, 7, cf1, by decide, by decide +kernel, rfl, Or.inr ⟨"AimDesk", List.mem_of_getElem? (i := 170) (by decide +kernel)⟩⟩
theorem fX2_27 : FL RX2 27 1 2 .boolean false := ⟨RX1, TX1, 7, cf1, by decide, by decide +kernel, rfl, Or.inr ⟨"AimDesk", List.mem_of_getElem? (i := 171) (by decide +kernel)⟩⟩
theorem fX2_31 : FL RX2 31 1 3 .boolean false := ⟨RX1, TX1, 7, cf1, by decide, by decide +kernel, rfl, Or.inr ⟨"AimDesk", List.mem_of_getElem? (i := 172) (by decide +kernel)⟩⟩
theorem fX2_47 : FL RX2 47 1 4 .int false := ⟨RX1, TX1, 7, cf1, by decide, by decide +kernel, rfl, Or.inr ⟨"AimDesk", List.mem_of_getElem? (i := 173) (by decide +kernel)⟩⟩
theorem fX4_130 : FL RX4 130 1 4 .int false := ⟨RX1, TX1, 7, cf1, by decide, by decide +kernel, rfl, Or.inr ⟨"AimDesk", List.mem_of_getElem? (i := 174) (by decide +kernel)⟩⟩
theorem fX2_51 : FL RX2 51 1 5 .int false := ⟨RX1, TX1, 7, cf1, by decide, by decide +kernel, rfl, Or.inr ⟨"AimDesk", List.mem_of_getElem? (i := 175) (by decide +kernel)⟩⟩
theorem fX4_138 : FL RX4 138 1 5 .int false := ⟨RX1, TX1, 7, cf1, by decide, by decide +kernel, rfl, Or.inr ⟨"AimDesk", List.mem_of_getElem? (i := 176) (by decide +kernel)⟩⟩
theorem fX1_19 : FL RX1 19 1 6 .int false := ⟨RX1, TX1, 7, cf1, by decide, by decide +kernel, rfl, Or.inl (List.mem_of_getElem? (i := 177) (by decide +kernel))⟩
theorem fX2_93 : FL RX2 93 1 6 .int false := ⟨RX1, TX1, 7, cf1, by decide, by decide +kernel, rfl, Or.inr ⟨"AimDesk", List.mem_of_getElem? (i := 178) (by decide +kernel)⟩⟩
theorem fX4_147 : FL RX4 147 1 6 .int false := ⟨RX1, TX1, 7, cf1, by decide, by decide +kernel, rfl, Or.inr ⟨"AimDesk", List.mem_of_getElem? (i := 179) (by decide +kernel)⟩⟩
theorem fX2_14 : FL RX2 14 2 0 (.object "AimDesk$Plan") true := ⟨RX2, TX2, 3, cf2, by decide, by decide +kernel, rfl, Or.inl (List.mem_of_getElem? (i := 195) (by decide +kernel))⟩
theorem fX2_20 : FL RX2 20 2 1 (.object "AimDesk$Plan") true := ⟨RX2, TX2, 3, cf2, by decide, by decide +kernel, rfl, Or.inl (List.mem_of_getElem? (i := 196) (by decide +kernel))⟩
theorem fX2_23 : FL RX2 23 2 2 (.array .int) true := ⟨RX2, TX2, 3, cf2, by decide, by decide +kernel, rfl, Or.inl (List.mem_of_getElem? (i := 197) (by decide +kernel))⟩
theorem fX4_10 : FL RX4 10 4 0 (.object "AimDesk$Page") true := ⟨RX4, TX4, 5, cf4, by decide, by decide +kernel, rfl, Or.inl (List.mem_of_getElem? (i := 205) (by decide +kernel))⟩
theorem fX4_19 : FL RX4 19 4 1 (.object "AimDesk$Plant") true := ⟨RX4, TX4, 5, cf4, by decide, by decide +kernel, rfl, Or.inl (List.mem_of_getElem? (i := 206) (by decide +kernel))⟩
theorem fX4_26 : FL RX4 26 4 2 (.object "AimDesk$Planner") true := ⟨RX4, TX4, 5, cf4, by decide, by decide +kernel, rfl, Or.inl (List.mem_of_getElem? (i := 207) (by decide +kernel))⟩
theorem fX4_53 : FL RX4 53 4 3 .int false := ⟨RX4, TX4, 5, cf4, by decide, by decide +kernel, rfl, Or.inl (List.mem_of_getElem? (i := 208) (by decide +kernel))⟩
theorem fX4_98 : FL RX4 98 4 4 .int false := ⟨RX4, TX4, 5, cf4, by decide, by decide +kernel, rfl, Or.inl (List.mem_of_getElem? (i := 209) (by decide +kernel))⟩
theorem fX2_90 : Cond.fieldLink RX2 90 "AimDesk" "STEPS" "[I" ∈ lw_tbl ∨ ∃ host, Cond.fieldLinkNest RX2 90 "AimDesk" "STEPS" "[I" host ∈ lw_tbl := Or.inr ⟨"AimDesk", List.mem_of_getElem? (i := 385) (by decide +kernel)⟩
theorem fX3_103 : Cond.fieldLink RX3 103 "AimDesk" "STEPS" "[I" ∈ lw_tbl ∨ ∃ host, Cond.fieldLinkNest RX3 103 "AimDesk" "STEPS" "[I" host ∈ lw_tbl := Or.inr ⟨"AimDesk", List.mem_of_getElem? (i := 420) (by decide +kernel)⟩
theorem fX5_45 : FL RX5 45 5 0 .int false := ⟨RX5, TX5, 24, cf5, by decide, by decide +kernel, rfl, Or.inl (List.mem_of_getElem? (i := 509) (by decide +kernel))⟩
theorem fX5_7 : FL RX5 7 5 1 (.array .int) true := ⟨RX5, TX5, 24, cf5, by decide, by decide +kernel, rfl, Or.inl (List.mem_of_getElem? (i := 510) (by decide +kernel))⟩
theorem fX5_60 : FL RX5 60 5 2 .int false := ⟨RX5, TX5, 24, cf5, by decide, by decide +kernel, rfl, Or.inl (List.mem_of_getElem? (i := 511) (by decide +kernel))⟩
theorem fX5_57 : FL RX5 57 5 3 .int false := ⟨RX5, TX5, 24, cf5, by decide, by decide +kernel, rfl, Or.inl (List.mem_of_getElem? (i := 512) (by decide +kernel))⟩
theorem fX5_13 : FL RX5 13 5 4 (.array .int) true := ⟨RX5, TX5, 24, cf5, by decide, by decide +kernel, rfl, Or.inl (List.mem_of_getElem? (i := 513) (by decide +kernel))⟩
theorem fX5_16 : FL RX5 16 5 5 (.array .int) true := ⟨RX5, TX5, 24, cf5, by decide, by decide +kernel, rfl, Or.inl (List.mem_of_getElem? (i := 514) (by decide +kernel))⟩
theorem fX5_19 : FL RX5 19 5 6 (.array .int) true := ⟨RX5, TX5, 24, cf5, by decide, by decide +kernel, rfl, Or.inl (List.mem_of_getElem? (i := 515) (by decide +kernel))⟩
theorem fX5_22 : FL RX5 22 5 7 (.array .int) true := ⟨RX5, TX5, 24, cf5, by decide, by decide +kernel, rfl, Or.inl (List.mem_of_getElem? (i := 516) (by decide +kernel))⟩
theorem fX5_63 : FL RX5 63 5 8 .int false := ⟨RX5, TX5, 24, cf5, by decide, by decide +kernel, rfl, Or.inl (List.mem_of_getElem? (i := 517) (by decide +kernel))⟩
theorem fX5_66 : FL RX5 66 5 9 .int false := ⟨RX5, TX5, 24, cf5, by decide, by decide +kernel, rfl, Or.inl (List.mem_of_getElem? (i := 518) (by decide +kernel))⟩
theorem fX5_69 : FL RX5 69 5 10 .int false := ⟨RX5, TX5, 24, cf5, by decide, by decide +kernel, rfl, Or.inl (List.mem_of_getElem? (i := 519) (by decide +kernel))⟩
theorem fX5_97 : FL RX5 97 5 11 .int false := ⟨RX5, TX5, 24, cf5, by decide, by decide +kernel, rfl, Or.inl (List.mem_of_getElem? (i := 520) (by decide +kernel))⟩
theorem fX5_25 : FL RX5 25 5 12 (.array .int) true := ⟨RX5, TX5, 24, cf5, by decide, by decide +kernel, rfl, Or.inl (List.mem_of_getElem? (i := 521) (by decide +kernel))⟩
theorem fX5_28 : FL RX5 28 5 13 (.array .boolean) true := ⟨RX5, TX5, 24, cf5, by decide, by decide +kernel, rfl, Or.inl (List.mem_of_getElem? (i := 522) (by decide +kernel))⟩
theorem fX5_32 : FL RX5 32 5 14 (.array .int) true := ⟨RX5, TX5, 24, cf5, by decide, by decide +kernel, rfl, Or.inl (List.mem_of_getElem? (i := 523) (by decide +kernel))⟩
theorem fX5_114 : FL RX5 114 5 15 .int false := ⟨RX5, TX5, 24, cf5, by decide, by decide +kernel, rfl, Or.inl (List.mem_of_getElem? (i := 524) (by decide +kernel))⟩
theorem fX5_117 : FL RX5 117 5 16 .int false := ⟨RX5, TX5, 24, cf5, by decide, by decide +kernel, rfl, Or.inl (List.mem_of_getElem? (i := 525) (by decide +kernel))⟩
theorem fX5_35 : FL RX5 35 5 17 (.array .int) true := ⟨RX5, TX5, 24, cf5, by decide, by decide +kernel, rfl, Or.inl (List.mem_of_getElem? (i := 526) (by decide +kernel))⟩
theorem fX5_153 : FL RX5 153 5 18 .int false := ⟨RX5, TX5, 24, cf5, by decide, by decide +kernel, rfl, Or.inl (List.mem_of_getElem? (i := 527) (by decide +kernel))⟩
theorem fX5_38 : FL RX5 38 5 19 (.array .int) true := ⟨RX5, TX5, 24, cf5, by decide, by decide +kernel, rfl, Or.inl (List.mem_of_getElem? (i := 528) (by decide +kernel))⟩
theorem fX5_168 : FL RX5 168 5 20 .int false := ⟨RX5, TX5, 24, cf5, by decide, by decide +kernel, rfl, Or.inl (List.mem_of_getElem? (i := 529) (by decide +kernel))⟩
theorem fX5_171 : FL RX5 171 5 21 .int false := ⟨RX5, TX5, 24, cf5, by decide, by decide +kernel, rfl, Or.inl (List.mem_of_getElem? (i := 530) (by decide +kernel))⟩
theorem fX5_174 : FL RX5 174 5 22 .int false := ⟨RX5, TX5, 24, cf5, by decide, by decide +kernel, rfl, Or.inl (List.mem_of_getElem? (i := 531) (by decide +kernel))⟩
theorem fX5_194 : FL RX5 194 5 23 .long false := ⟨RX5, TX5, 24, cf5, by decide, by decide +kernel, rfl, Or.inl (List.mem_of_getElem? (i := 532) (by decide +kernel))⟩
theorem kX0_append : MV mX0_append 1 := ⟨⟨List.mem_of_getElem? (i := 228) (by decide +kernel), List.mem_of_getElem? (i := 71) (by decide +kernel), by decide +kernel, by decide +kernel, by decide +kernel, by decide⟩, List.mem_of_getElem? (i := 227) (by decide +kernel), List.mem_of_getElem? (i := 0) (by decide +kernel)⟩
theorem kX0_codeAt : MV mX0_codeAt 1 := ⟨⟨List.mem_of_getElem? (i := 248) (by decide +kernel), List.mem_of_getElem? (i := 71) (by decide +kernel), by decide +kernel, by decide +kernel, by decide +kernel, by decide⟩, List.mem_of_getElem? (i := 247) (by decide +kernel), List.mem_of_getElem? (i := 3) (by decide +kernel)⟩
theorem kX0_figureAt : MV mX0_figureAt 1 := ⟨⟨List.mem_of_getElem? (i := 265) (by decide +kernel), List.mem_of_getElem? (i := 71) (by decide +kernel), by decide +kernel, by decide +kernel, by decide +kernel, by decide⟩, List.mem_of_getElem? (i := 264) (by decide +kernel), List.mem_of_getElem? (i := 6) (by decide +kernel)⟩
theorem kX0_firstFault : MV mX0_firstFault 0 := ⟨⟨List.mem_of_getElem? (i := 240) (by decide +kernel), List.mem_of_getElem? (i := 71) (by decide +kernel), by decide +kernel, by decide +kernel, by decide +kernel, by decide⟩, List.mem_of_getElem? (i := 239) (by decide +kernel), List.mem_of_getElem? (i := 1) (by decide +kernel)⟩
theorem kX0_fits : MV mX0_fits 1 := ⟨⟨List.mem_of_getElem? (i := 244) (by decide +kernel), List.mem_of_getElem? (i := 71) (by decide +kernel), by decide +kernel, by decide +kernel, by decide +kernel, by decide⟩, List.mem_of_getElem? (i := 243) (by decide +kernel), List.mem_of_getElem? (i := 2) (by decide +kernel)⟩
theorem kX0_isField : MV mX0_isField 0 := ⟨⟨List.mem_of_getElem? (i := 256) (by decide +kernel), List.mem_of_getElem? (i := 71) (by decide +kernel), by decide +kernel, by decide +kernel, by decide +kernel, by decide⟩, List.mem_of_getElem? (i := 255) (by decide +kernel), List.mem_of_getElem? (i := 4) (by decide +kernel)⟩
theorem kX1_moveAt : MV mX1_moveAt 1 := ⟨⟨List.mem_of_getElem? (i := 442) (by decide +kernel), List.mem_of_getElem? (i := 74) (by decide +kernel), by decide +kernel, by decide +kernel, by decide +kernel, by decide⟩, List.mem_of_getElem? (i := 441) (by decide +kernel), List.mem_of_getElem? (i := 31) (by decide +kernel)⟩
theorem kX2_forget : MV mX2_forget 0 := ⟨⟨List.mem_of_getElem? (i := 287) (by decide +kernel), List.mem_of_getElem? (i := 73) (by decide +kernel), by decide +kernel, by decide +kernel, by decide +kernel, by decide⟩, List.mem_of_getElem? (i := 286) (by decide +kernel), List.mem_of_getElem? (i := 10) (by decide +kernel)⟩
theorem kX2_planWithBest : MV mX2_planWithBest 2 := ⟨⟨List.mem_of_getElem? (i := 370) (by decide +kernel), List.mem_of_getElem? (i := 73) (by decide +kernel), by decide +kernel, by decide +kernel, by decide +kernel, by decide⟩, List.mem_of_getElem? (i := 369) (by decide +kernel), List.mem_of_getElem? (i := 20) (by decide +kernel)⟩
theorem kX2_planWithChange : MV mX2_planWithChange 2 := ⟨⟨List.mem_of_getElem? (i := 411) (by decide +kernel), List.mem_of_getElem? (i := 73) (by decide +kernel), by decide +kernel, by decide +kernel, by decide +kernel, by decide⟩, List.mem_of_getElem? (i := 410) (by decide +kernel), List.mem_of_getElem? (i := 24) (by decide +kernel)⟩
theorem kX2_findBest : MV mX2_findBest 2 := ⟨⟨List.mem_of_getElem? (i := 374) (by decide +kernel), List.mem_of_getElem? (i := 73) (by decide +kernel), by decide +kernel, by decide +kernel, by decide +kernel, by decide⟩, List.mem_of_getElem? (i := 373) (by decide +kernel), List.mem_of_getElem? (i := 21) (by decide +kernel)⟩
theorem kX2_openFrom : MS mX2_openFrom 7 := ⟨⟨List.mem_of_getElem? (i := 378) (by decide +kernel), List.mem_of_getElem? (i := 73) (by decide +kernel), by decide +kernel, by decide +kernel, by decide +kernel, by decide⟩, List.mem_of_getElem? (i := 377) (by decide +kernel)⟩
theorem kX2_findChange : MV mX2_findChange 2 := ⟨⟨List.mem_of_getElem? (i := 415) (by decide +kernel), List.mem_of_getElem? (i := 73) (by decide +kernel), by decide +kernel, by decide +kernel, by decide +kernel, by decide⟩, List.mem_of_getElem? (i := 414) (by decide +kernel), List.mem_of_getElem? (i := 25) (by decide +kernel)⟩
theorem kX2_widen : MV mX2_widen 2 := ⟨⟨List.mem_of_getElem? (i := 424) (by decide +kernel), List.mem_of_getElem? (i := 73) (by decide +kernel), by decide +kernel, by decide +kernel, by decide +kernel, by decide⟩, List.mem_of_getElem? (i := 423) (by decide +kernel), List.mem_of_getElem? (i := 27) (by decide +kernel)⟩
theorem kX2_markBeside : MV mX2_markBeside 3 := ⟨⟨List.mem_of_getElem? (i := 428) (by decide +kernel), List.mem_of_getElem? (i := 73) (by decide +kernel), by decide +kernel, by decide +kernel, by decide +kernel, by decide⟩, List.mem_of_getElem? (i := 427) (by decide +kernel), List.mem_of_getElem? (i := 28) (by decide +kernel)⟩
theorem kX2_noteMoves : MV mX2_noteMoves 3 := ⟨⟨List.mem_of_getElem? (i := 432) (by decide +kernel), List.mem_of_getElem? (i := 73) (by decide +kernel), by decide +kernel, by decide +kernel, by decide +kernel, by decide⟩, List.mem_of_getElem? (i := 431) (by decide +kernel), List.mem_of_getElem? (i := 29) (by decide +kernel)⟩
theorem kX2_leastMove : MV mX2_leastMove 3 := ⟨⟨List.mem_of_getElem? (i := 437) (by decide +kernel), List.mem_of_getElem? (i := 73) (by decide +kernel), by decide +kernel, by decide +kernel, by decide +kernel, by decide⟩, List.mem_of_getElem? (i := 436) (by decide +kernel), List.mem_of_getElem? (i := 30) (by decide +kernel)⟩
theorem kX3_isRead : MV mX3_isRead 0 := ⟨⟨List.mem_of_getElem? (i := 301) (by decide +kernel), List.mem_of_getElem? (i := 72) (by decide +kernel), by decide +kernel, by decide +kernel, by decide +kernel, by decide⟩, List.mem_of_getElem? (i := 300) (by decide +kernel), List.mem_of_getElem? (i := 11) (by decide +kernel)⟩
theorem kX3_hasMirror : MV mX3_hasMirror 1 := ⟨⟨List.mem_of_getElem? (i := 309) (by decide +kernel), List.mem_of_getElem? (i := 72) (by decide +kernel), by decide +kernel, by decide +kernel, by decide +kernel, by decide⟩, List.mem_of_getElem? (i := 308) (by decide +kernel), List.mem_of_getElem? (i := 12) (by decide +kernel)⟩
theorem kX3_hasPatch : MV mX3_hasPatch 1 := ⟨⟨List.mem_of_getElem? (i := 276) (by decide +kernel), List.mem_of_getElem? (i := 72) (by decide +kernel), by decide +kernel, by decide +kernel, by decide +kernel, by decide⟩, List.mem_of_getElem? (i := 275) (by decide +kernel), List.mem_of_getElem? (i := 8) (by decide +kernel)⟩
theorem kX3_isShaded : MV mX3_isShaded 1 := ⟨⟨List.mem_of_getElem? (i := 346) (by decide +kernel), List.mem_of_getElem? (i := 72) (by decide +kernel), by decide +kernel, by decide +kernel, by decide +kernel, by decide⟩, List.mem_of_getElem? (i := 345) (by decide +kernel), List.mem_of_getElem? (i := 18) (by decide +kernel)⟩
theorem kX3_isStuck : MV mX3_isStuck 1 := ⟨⟨List.mem_of_getElem? (i := 320) (by decide +kernel), List.mem_of_getElem? (i := 72) (by decide +kernel), by decide +kernel, by decide +kernel, by decide +kernel, by decide⟩, List.mem_of_getElem? (i := 319) (by decide +kernel), List.mem_of_getElem? (i := 13) (by decide +kernel)⟩
theorem kX3_read : MV mX3_read 1 := ⟨⟨List.mem_of_getElem? (i := 261) (by decide +kernel), List.mem_of_getElem? (i := 72) (by decide +kernel), by decide +kernel, by decide +kernel, by decide +kernel, by decide⟩, List.mem_of_getElem? (i := 260) (by decide +kernel), List.mem_of_getElem? (i := 5) (by decide +kernel)⟩
theorem kX3_lightOf : MV mX3_lightOf 3 := ⟨⟨List.mem_of_getElem? (i := 272) (by decide +kernel), List.mem_of_getElem? (i := 72) (by decide +kernel), by decide +kernel, by decide +kernel, by decide +kernel, by decide⟩, List.mem_of_getElem? (i := 271) (by decide +kernel), List.mem_of_getElem? (i := 7) (by decide +kernel)⟩
theorem kX3_light : MV mX3_light 2 := ⟨⟨List.mem_of_getElem? (i := 333) (by decide +kernel), List.mem_of_getElem? (i := 72) (by decide +kernel), by decide +kernel, by decide +kernel, by decide +kernel, by decide⟩, List.mem_of_getElem? (i := 332) (by decide +kernel), List.mem_of_getElem? (i := 16) (by decide +kernel)⟩
theorem kX3_measureSlack : MV mX3_measureSlack 0 := ⟨⟨List.mem_of_getElem? (i := 283) (by decide +kernel), List.mem_of_getElem? (i := 72) (by decide +kernel), by decide +kernel, by decide +kernel, by decide +kernel, by decide⟩, List.mem_of_getElem? (i := 282) (by decide +kernel), List.mem_of_getElem? (i := 9) (by decide +kernel)⟩
theorem kX3_isSafe : MV mX3_isSafe 1 := ⟨⟨List.mem_of_getElem? (i := 337) (by decide +kernel), List.mem_of_getElem? (i := 72) (by decide +kernel), by decide +kernel, by decide +kernel, by decide +kernel, by decide⟩, List.mem_of_getElem? (i := 336) (by decide +kernel), List.mem_of_getElem? (i := 17) (by decide +kernel)⟩
theorem kX3_heats : MV mX3_heats 0 := ⟨⟨List.mem_of_getElem? (i := 325) (by decide +kernel), List.mem_of_getElem? (i := 72) (by decide +kernel), by decide +kernel, by decide +kernel, by decide +kernel, by decide⟩, List.mem_of_getElem? (i := 324) (by decide +kernel), List.mem_of_getElem? (i := 14) (by decide +kernel)⟩
theorem kX3_heatsWithout : MV mX3_heatsWithout 1 := ⟨⟨List.mem_of_getElem? (i := 329) (by decide +kernel), List.mem_of_getElem? (i := 72) (by decide +kernel), by decide +kernel, by decide +kernel, by decide +kernel, by decide⟩, List.mem_of_getElem? (i := 328) (by decide +kernel), List.mem_of_getElem? (i := 15) (by decide +kernel)⟩
theorem kX3_aimingAt : MV mX3_aimingAt 1 := ⟨⟨List.mem_of_getElem? (i := 362) (by decide +kernel), List.mem_of_getElem? (i := 72) (by decide +kernel), by decide +kernel, by decide +kernel, by decide +kernel, by decide⟩, List.mem_of_getElem? (i := 361) (by decide +kernel), List.mem_of_getElem? (i := 19) (by decide +kernel)⟩
theorem kX3_bound : MV mX3_bound 0 := ⟨⟨List.mem_of_getElem? (i := 390) (by decide +kernel), List.mem_of_getElem? (i := 72) (by decide +kernel), by decide +kernel, by decide +kernel, by decide +kernel, by decide⟩, List.mem_of_getElem? (i := 389) (by decide +kernel), List.mem_of_getElem? (i := 22) (by decide +kernel)⟩
theorem kX3_mostLight : MV mX3_mostLight 1 := ⟨⟨List.mem_of_getElem? (i := 397) (by decide +kernel), List.mem_of_getElem? (i := 72) (by decide +kernel), by decide +kernel, by decide +kernel, by decide +kernel, by decide⟩, List.mem_of_getElem? (i := 396) (by decide +kernel), List.mem_of_getElem? (i := 23) (by decide +kernel)⟩
theorem kX3_placeNow : MV mX3_placeNow 0 := ⟨⟨List.mem_of_getElem? (i := 419) (by decide +kernel), List.mem_of_getElem? (i := 72) (by decide +kernel), by decide +kernel, by decide +kernel, by decide +kernel, by decide⟩, List.mem_of_getElem? (i := 418) (by decide +kernel), List.mem_of_getElem? (i := 26) (by decide +kernel)⟩
theorem kX3_bestTrade : MV mX3_bestTrade 0 := ⟨⟨List.mem_of_getElem? (i := 454) (by decide +kernel), List.mem_of_getElem? (i := 72) (by decide +kernel), by decide +kernel, by decide +kernel, by decide +kernel, by decide⟩, List.mem_of_getElem? (i := 453) (by decide +kernel), List.mem_of_getElem? (i := 32) (by decide +kernel)⟩
theorem kX3_heatsByTrade : MV mX3_heatsByTrade 2 := ⟨⟨List.mem_of_getElem? (i := 459) (by decide +kernel), List.mem_of_getElem? (i := 72) (by decide +kernel), by decide +kernel, by decide +kernel, by decide +kernel, by decide⟩, List.mem_of_getElem? (i := 458) (by decide +kernel), List.mem_of_getElem? (i := 33) (by decide +kernel)⟩
theorem kX3_swapAims : MV mX3_swapAims 2 := ⟨⟨List.mem_of_getElem? (i := 464) (by decide +kernel), List.mem_of_getElem? (i := 72) (by decide +kernel), by decide +kernel, by decide +kernel, by decide +kernel, by decide⟩, List.mem_of_getElem? (i := 463) (by decide +kernel), List.mem_of_getElem? (i := 34) (by decide +kernel)⟩
theorem kX3_bestRelief : MV mX3_bestRelief 0 := ⟨⟨List.mem_of_getElem? (i := 474) (by decide +kernel), List.mem_of_getElem? (i := 72) (by decide +kernel), by decide +kernel, by decide +kernel, by decide +kernel, by decide⟩, List.mem_of_getElem? (i := 473) (by decide +kernel), List.mem_of_getElem? (i := 35) (by decide +kernel)⟩
theorem kX4_letter : MV mX4_letter 1 := ⟨⟨List.mem_of_getElem? (i := 224) (by decide +kernel), List.mem_of_getElem? (i := 70) (by decide +kernel), by decide +kernel, by decide +kernel, by decide +kernel, by decide⟩, List.mem_of_getElem? (i := 222) (by decide +kernel), List.mem_of_getElem? (i := 223) (by decide +kernel)⟩
theorem kX4_blank : MV mX4_blank 0 := ⟨⟨List.mem_of_getElem? (i := 232) (by decide +kernel), List.mem_of_getElem? (i := 70) (by decide +kernel), by decide +kernel, by decide +kernel, by decide +kernel, by decide⟩, List.mem_of_getElem? (i := 230) (by decide +kernel), List.mem_of_getElem? (i := 231) (by decide +kernel)⟩
theorem kX4_fault : MV mX4_fault 0 := ⟨⟨List.mem_of_getElem? (i := 236) (by decide +kernel), List.mem_of_getElem? (i := 70) (by decide +kernel), by decide +kernel, by decide +kernel, by decide +kernel, by decide⟩, List.mem_of_getElem? (i := 234) (by decide +kernel), List.mem_of_getElem? (i := 235) (by decide +kernel)⟩
theorem kX4_field : MV mX4_field 0 := ⟨⟨List.mem_of_getElem? (i := 252) (by decide +kernel), List.mem_of_getElem? (i := 70) (by decide +kernel), by decide +kernel, by decide +kernel, by decide +kernel, by decide⟩, List.mem_of_getElem? (i := 250) (by decide +kernel), List.mem_of_getElem? (i := 251) (by decide +kernel)⟩
theorem kX4_ceiling : MV mX4_ceiling 2 := ⟨⟨List.mem_of_getElem? (i := 291) (by decide +kernel), List.mem_of_getElem? (i := 70) (by decide +kernel), by decide +kernel, by decide +kernel, by decide +kernel, by decide⟩, List.mem_of_getElem? (i := 289) (by decide +kernel), List.mem_of_getElem? (i := 290) (by decide +kernel)⟩
theorem kX4_shade : MV mX4_shade 1 := ⟨⟨List.mem_of_getElem? (i := 297) (by decide +kernel), List.mem_of_getElem? (i := 70) (by decide +kernel), by decide +kernel, by decide +kernel, by decide +kernel, by decide⟩, List.mem_of_getElem? (i := 295) (by decide +kernel), List.mem_of_getElem? (i := 296) (by decide +kernel)⟩
theorem kX4_stuck : MV mX4_stuck 2 := ⟨⟨List.mem_of_getElem? (i := 305) (by decide +kernel), List.mem_of_getElem? (i := 70) (by decide +kernel), by decide +kernel, by decide +kernel, by decide +kernel, by decide⟩, List.mem_of_getElem? (i := 303) (by decide +kernel), List.mem_of_getElem? (i := 304) (by decide +kernel)⟩
theorem kX4_aim : MV mX4_aim 2 := ⟨⟨List.mem_of_getElem? (i := 316) (by decide +kernel), List.mem_of_getElem? (i := 70) (by decide +kernel), by decide +kernel, by decide +kernel, by decide +kernel, by decide⟩, List.mem_of_getElem? (i := 314) (by decide +kernel), List.mem_of_getElem? (i := 315) (by decide +kernel)⟩
theorem kX4_mirror : MV mX4_mirror 2 := ⟨⟨List.mem_of_getElem? (i := 342) (by decide +kernel), List.mem_of_getElem? (i := 70) (by decide +kernel), by decide +kernel, by decide +kernel, by decide +kernel, by decide⟩, List.mem_of_getElem? (i := 340) (by decide +kernel), List.mem_of_getElem? (i := 341) (by decide +kernel)⟩
theorem kX4_patch : MV mX4_patch 2 := ⟨⟨List.mem_of_getElem? (i := 357) (by decide +kernel), List.mem_of_getElem? (i := 70) (by decide +kernel), by decide +kernel, by decide +kernel, by decide +kernel, by decide⟩, List.mem_of_getElem? (i := 355) (by decide +kernel), List.mem_of_getElem? (i := 356) (by decide +kernel)⟩
theorem kX4_best : MV mX4_best 2 := ⟨⟨List.mem_of_getElem? (i := 366) (by decide +kernel), List.mem_of_getElem? (i := 70) (by decide +kernel), by decide +kernel, by decide +kernel, by decide +kernel, by decide⟩, List.mem_of_getElem? (i := 364) (by decide +kernel), List.mem_of_getElem? (i := 365) (by decide +kernel)⟩
theorem kX4_change : MV mX4_change 2 := ⟨⟨List.mem_of_getElem? (i := 407) (by decide +kernel), List.mem_of_getElem? (i := 70) (by decide +kernel), by decide +kernel, by decide +kernel, by decide +kernel, by decide⟩, List.mem_of_getElem? (i := 405) (by decide +kernel), List.mem_of_getElem? (i := 406) (by decide +kernel)⟩
theorem kX4_go : MV mX4_go 1 := ⟨⟨List.mem_of_getElem? (i := 446) (by decide +kernel), List.mem_of_getElem? (i := 70) (by decide +kernel), by decide +kernel, by decide +kernel, by decide +kernel, by decide⟩, List.mem_of_getElem? (i := 444) (by decide +kernel), List.mem_of_getElem? (i := 445) (by decide +kernel)⟩
theorem kX4_trade : MV mX4_trade 1 := ⟨⟨List.mem_of_getElem? (i := 450) (by decide +kernel), List.mem_of_getElem? (i := 70) (by decide +kernel), by decide +kernel, by decide +kernel, by decide +kernel, by decide⟩, List.mem_of_getElem? (i := 448) (by decide +kernel), List.mem_of_getElem? (i := 449) (by decide +kernel)⟩
theorem kX4_relief : MV mX4_relief 0 := ⟨⟨List.mem_of_getElem? (i := 470) (by decide +kernel), List.mem_of_getElem? (i := 70) (by decide +kernel), by decide +kernel, by decide +kernel, by decide +kernel, by decide⟩, List.mem_of_getElem? (i := 468) (by decide +kernel), List.mem_of_getElem? (i := 469) (by decide +kernel)⟩
theorem kX4_count : MV mX4_count 1 := ⟨⟨List.mem_of_getElem? (i := 484) (by decide +kernel), List.mem_of_getElem? (i := 70) (by decide +kernel), by decide +kernel, by decide +kernel, by decide +kernel, by decide⟩, List.mem_of_getElem? (i := 482) (by decide +kernel), List.mem_of_getElem? (i := 483) (by decide +kernel)⟩
theorem kX4_digest : MV mX4_digest 0 := ⟨⟨List.mem_of_getElem? (i := 488) (by decide +kernel), List.mem_of_getElem? (i := 70) (by decide +kernel), by decide +kernel, by decide +kernel, by decide +kernel, by decide⟩, List.mem_of_getElem? (i := 486) (by decide +kernel), List.mem_of_getElem? (i := 487) (by decide +kernel)⟩
theorem kX4_digestOfParts : MV mX4_digestOfParts 1 := ⟨⟨List.mem_of_getElem? (i := 493) (by decide +kernel), List.mem_of_getElem? (i := 70) (by decide +kernel), by decide +kernel, by decide +kernel, by decide +kernel, by decide⟩, List.mem_of_getElem? (i := 492) (by decide +kernel), List.mem_of_getElem? (i := 36) (by decide +kernel)⟩
theorem kX4_bit : MS mX4_bit 2 := ⟨⟨List.mem_of_getElem? (i := 312) (by decide +kernel), List.mem_of_getElem? (i := 70) (by decide +kernel), by decide +kernel, by decide +kernel, by decide +kernel, by decide⟩, List.mem_of_getElem? (i := 311) (by decide +kernel)⟩
theorem kX4_heatOf : MS mX4_heatOf 2 := ⟨⟨List.mem_of_getElem? (i := 353) (by decide +kernel), List.mem_of_getElem? (i := 70) (by decide +kernel), by decide +kernel, by decide +kernel, by decide +kernel, by decide⟩, List.mem_of_getElem? (i := 352) (by decide +kernel)⟩
theorem kX4_sum : MS mX4_sum 1 := ⟨⟨List.mem_of_getElem? (i := 350) (by decide +kernel), List.mem_of_getElem? (i := 70) (by decide +kernel), by decide +kernel, by decide +kernel, by decide +kernel, by decide⟩, List.mem_of_getElem? (i := 349) (by decide +kernel)⟩
theorem kX4_aimIn : MS mX4_aimIn 2 := ⟨⟨List.mem_of_getElem? (i := 403) (by decide +kernel), List.mem_of_getElem? (i := 70) (by decide +kernel), by decide +kernel, by decide +kernel, by decide +kernel, by decide⟩, List.mem_of_getElem? (i := 402) (by decide +kernel)⟩
theorem kX5_within : MS mX5_within 3 := ⟨⟨List.mem_of_getElem? (i := 589) (by decide +kernel), List.mem_of_getElem? (i := 75) (by decide +kernel), by decide +kernel, by decide +kernel, by decide +kernel, by decide⟩, List.mem_of_getElem? (i := 588) (by decide +kernel)⟩
theorem kX5_has : MS mX5_has 2 := ⟨⟨List.mem_of_getElem? (i := 640) (by decide +kernel), List.mem_of_getElem? (i := 75) (by decide +kernel), by decide +kernel, by decide +kernel, by decide +kernel, by decide⟩, List.mem_of_getElem? (i := 639) (by decide +kernel)⟩
theorem kX5_letter : MV mX5_letter 1 := ⟨⟨List.mem_of_getElem? (i := 586) (by decide +kernel), List.mem_of_getElem? (i := 75) (by decide +kernel), by decide +kernel, by decide +kernel, by decide +kernel, by decide⟩, List.mem_of_getElem? (i := 584) (by decide +kernel), List.mem_of_getElem? (i := 585) (by decide +kernel)⟩
theorem kX5_blank : MV mX5_blank 0 := ⟨⟨List.mem_of_getElem? (i := 593) (by decide +kernel), List.mem_of_getElem? (i := 75) (by decide +kernel), by decide +kernel, by decide +kernel, by decide +kernel, by decide⟩, List.mem_of_getElem? (i := 591) (by decide +kernel), List.mem_of_getElem? (i := 592) (by decide +kernel)⟩
theorem kX5_isRight : MV mX5_isRight 1 := ⟨⟨List.mem_of_getElem? (i := 605) (by decide +kernel), List.mem_of_getElem? (i := 75) (by decide +kernel), by decide +kernel, by decide +kernel, by decide +kernel, by decide⟩, List.mem_of_getElem? (i := 604) (by decide +kernel), List.mem_of_getElem? (i := 38) (by decide +kernel)⟩
theorem kX5_rightLetters : MV mX5_rightLetters 0 := ⟨⟨List.mem_of_getElem? (i := 601) (by decide +kernel), List.mem_of_getElem? (i := 75) (by decide +kernel), by decide +kernel, by decide +kernel, by decide +kernel, by decide⟩, List.mem_of_getElem? (i := 600) (by decide +kernel), List.mem_of_getElem? (i := 37) (by decide +kernel)⟩
theorem kX5_fault : MV mX5_fault 0 := ⟨⟨List.mem_of_getElem? (i := 597) (by decide +kernel), List.mem_of_getElem? (i := 75) (by decide +kernel), by decide +kernel, by decide +kernel, by decide +kernel, by decide⟩, List.mem_of_getElem? (i := 595) (by decide +kernel), List.mem_of_getElem? (i := 596) (by decide +kernel)⟩
theorem kX5_field : MV mX5_field 0 := ⟨⟨List.mem_of_getElem? (i := 609) (by decide +kernel), List.mem_of_getElem? (i := 75) (by decide +kernel), by decide +kernel, by decide +kernel, by decide +kernel, by decide⟩, List.mem_of_getElem? (i := 607) (by decide +kernel), List.mem_of_getElem? (i := 608) (by decide +kernel)⟩
theorem kX5_isMirror : MV mX5_isMirror 1 := ⟨⟨List.mem_of_getElem? (i := 629) (by decide +kernel), List.mem_of_getElem? (i := 75) (by decide +kernel), by decide +kernel, by decide +kernel, by decide +kernel, by decide⟩, List.mem_of_getElem? (i := 628) (by decide +kernel), List.mem_of_getElem? (i := 40) (by decide +kernel)⟩
theorem kX5_isPatch : MV mX5_isPatch 1 := ⟨⟨List.mem_of_getElem? (i := 617) (by decide +kernel), List.mem_of_getElem? (i := 75) (by decide +kernel), by decide +kernel, by decide +kernel, by decide +kernel, by decide⟩, List.mem_of_getElem? (i := 616) (by decide +kernel), List.mem_of_getElem? (i := 39) (by decide +kernel)⟩
theorem kX5_gives : MV mX5_gives 3 := ⟨⟨List.mem_of_getElem? (i := 652) (by decide +kernel), List.mem_of_getElem? (i := 75) (by decide +kernel), by decide +kernel, by decide +kernel, by decide +kernel, by decide⟩, List.mem_of_getElem? (i := 651) (by decide +kernel), List.mem_of_getElem? (i := 44) (by decide +kernel)⟩
theorem kX5_givesAll : MV mX5_givesAll 2 := ⟨⟨List.mem_of_getElem? (i := 664) (by decide +kernel), List.mem_of_getElem? (i := 75) (by decide +kernel), by decide +kernel, by decide +kernel, by decide +kernel, by decide⟩, List.mem_of_getElem? (i := 663) (by decide +kernel), List.mem_of_getElem? (i := 46) (by decide +kernel)⟩
theorem kX5_asTheyAre : MV mX5_asTheyAre 0 := ⟨⟨List.mem_of_getElem? (i := 637) (by decide +kernel), List.mem_of_getElem? (i := 75) (by decide +kernel), by decide +kernel, by decide +kernel, by decide +kernel, by decide⟩, List.mem_of_getElem? (i := 636) (by decide +kernel), List.mem_of_getElem? (i := 41) (by decide +kernel)⟩
theorem kX5_heatAt : MV mX5_heatAt 2 := ⟨⟨List.mem_of_getElem? (i := 648) (by decide +kernel), List.mem_of_getElem? (i := 75) (by decide +kernel), by decide +kernel, by decide +kernel, by decide +kernel, by decide⟩, List.mem_of_getElem? (i := 647) (by decide +kernel), List.mem_of_getElem? (i := 43) (by decide +kernel)⟩
theorem kX5_isGood : MV mX5_isGood 1 := ⟨⟨List.mem_of_getElem? (i := 644) (by decide +kernel), List.mem_of_getElem? (i := 75) (by decide +kernel), by decide +kernel, by decide +kernel, by decide +kernel, by decide⟩, List.mem_of_getElem? (i := 643) (by decide +kernel), List.mem_of_getElem? (i := 42) (by decide +kernel)⟩
theorem kX5_caught : MV mX5_caught 0 := ⟨⟨List.mem_of_getElem? (i := 696) (by decide +kernel), List.mem_of_getElem? (i := 75) (by decide +kernel), by decide +kernel, by decide +kernel, by decide +kernel, by decide⟩, List.mem_of_getElem? (i := 695) (by decide +kernel), List.mem_of_getElem? (i := 52) (by decide +kernel)⟩
theorem kX5_ceiling : MV mX5_ceiling 2 := ⟨⟨List.mem_of_getElem? (i := 613) (by decide +kernel), List.mem_of_getElem? (i := 75) (by decide +kernel), by decide +kernel, by decide +kernel, by decide +kernel, by decide⟩, List.mem_of_getElem? (i := 611) (by decide +kernel), List.mem_of_getElem? (i := 612) (by decide +kernel)⟩
theorem kX5_shade : MV mX5_shade 1 := ⟨⟨List.mem_of_getElem? (i := 621) (by decide +kernel), List.mem_of_getElem? (i := 75) (by decide +kernel), by decide +kernel, by decide +kernel, by decide +kernel, by decide⟩, List.mem_of_getElem? (i := 619) (by decide +kernel), List.mem_of_getElem? (i := 620) (by decide +kernel)⟩
theorem kX5_stuck : MV mX5_stuck 2 := ⟨⟨List.mem_of_getElem? (i := 625) (by decide +kernel), List.mem_of_getElem? (i := 75) (by decide +kernel), by decide +kernel, by decide +kernel, by decide +kernel, by decide⟩, List.mem_of_getElem? (i := 623) (by decide +kernel), List.mem_of_getElem? (i := 624) (by decide +kernel)⟩
theorem kX5_aim : MV mX5_aim 2 := ⟨⟨List.mem_of_getElem? (i := 633) (by decide +kernel), List.mem_of_getElem? (i := 75) (by decide +kernel), by decide +kernel, by decide +kernel, by decide +kernel, by decide⟩, List.mem_of_getElem? (i := 631) (by decide +kernel), List.mem_of_getElem? (i := 632) (by decide +kernel)⟩
theorem kX5_ofMirror : MV mX5_ofMirror 2 := ⟨⟨List.mem_of_getElem? (i := 660) (by decide +kernel), List.mem_of_getElem? (i := 75) (by decide +kernel), by decide +kernel, by decide +kernel, by decide +kernel, by decide⟩, List.mem_of_getElem? (i := 659) (by decide +kernel), List.mem_of_getElem? (i := 45) (by decide +kernel)⟩
theorem kX5_mirror : MV mX5_mirror 2 := ⟨⟨List.mem_of_getElem? (i := 656) (by decide +kernel), List.mem_of_getElem? (i := 75) (by decide +kernel), by decide +kernel, by decide +kernel, by decide +kernel, by decide⟩, List.mem_of_getElem? (i := 654) (by decide +kernel), List.mem_of_getElem? (i := 655) (by decide +kernel)⟩
theorem kX5_aimedAt : MV mX5_aimedAt 1 := ⟨⟨List.mem_of_getElem? (i := 676) (by decide +kernel), List.mem_of_getElem? (i := 75) (by decide +kernel), by decide +kernel, by decide +kernel, by decide +kernel, by decide⟩, List.mem_of_getElem? (i := 675) (by decide +kernel), List.mem_of_getElem? (i := 48) (by decide +kernel)⟩
theorem kX5_ofPatch : MV mX5_ofPatch 2 := ⟨⟨List.mem_of_getElem? (i := 672) (by decide +kernel), List.mem_of_getElem? (i := 75) (by decide +kernel), by decide +kernel, by decide +kernel, by decide +kernel, by decide⟩, List.mem_of_getElem? (i := 671) (by decide +kernel), List.mem_of_getElem? (i := 47) (by decide +kernel)⟩
theorem kX5_patch : MV mX5_patch 2 := ⟨⟨List.mem_of_getElem? (i := 668) (by decide +kernel), List.mem_of_getElem? (i := 75) (by decide +kernel), by decide +kernel, by decide +kernel, by decide +kernel, by decide⟩, List.mem_of_getElem? (i := 666) (by decide +kernel), List.mem_of_getElem? (i := 667) (by decide +kernel)⟩
theorem kX5_unitOf : MV mX5_unitOf 1 := ⟨⟨List.mem_of_getElem? (i := 720) (by decide +kernel), List.mem_of_getElem? (i := 75) (by decide +kernel), by decide +kernel, by decide +kernel, by decide +kernel, by decide⟩, List.mem_of_getElem? (i := 719) (by decide +kernel), List.mem_of_getElem? (i := 57) (by decide +kernel)⟩
theorem kX5_codeNow : MV mX5_codeNow 0 := ⟨⟨List.mem_of_getElem? (i := 727) (by decide +kernel), List.mem_of_getElem? (i := 75) (by decide +kernel), by decide +kernel, by decide +kernel, by decide +kernel, by decide⟩, List.mem_of_getElem? (i := 726) (by decide +kernel), List.mem_of_getElem? (i := 58) (by decide +kernel)⟩
theorem kX5_layCode : MV mX5_layCode 1 := ⟨⟨List.mem_of_getElem? (i := 688) (by decide +kernel), List.mem_of_getElem? (i := 75) (by decide +kernel), by decide +kernel, by decide +kernel, by decide +kernel, by decide⟩, List.mem_of_getElem? (i := 687) (by decide +kernel), List.mem_of_getElem? (i := 50) (by decide +kernel)⟩
theorem kX5_areThere : MV mX5_areThere 0 := ⟨⟨List.mem_of_getElem? (i := 692) (by decide +kernel), List.mem_of_getElem? (i := 75) (by decide +kernel), by decide +kernel, by decide +kernel, by decide +kernel, by decide⟩, List.mem_of_getElem? (i := 691) (by decide +kernel), List.mem_of_getElem? (i := 51) (by decide +kernel)⟩
theorem kX5_layBest : MV mX5_layBest 1 := ⟨⟨List.mem_of_getElem? (i := 684) (by decide +kernel), List.mem_of_getElem? (i := 75) (by decide +kernel), by decide +kernel, by decide +kernel, by decide +kernel, by decide⟩, List.mem_of_getElem? (i := 683) (by decide +kernel), List.mem_of_getElem? (i := 49) (by decide +kernel)⟩
theorem kX5_boundNow : MV mX5_boundNow 0 := ⟨⟨List.mem_of_getElem? (i := 704) (by decide +kernel), List.mem_of_getElem? (i := 75) (by decide +kernel), by decide +kernel, by decide +kernel, by decide +kernel, by decide⟩, List.mem_of_getElem? (i := 703) (by decide +kernel), List.mem_of_getElem? (i := 54) (by decide +kernel)⟩
theorem kX5_bestNow : MV mX5_bestNow 1 := ⟨⟨List.mem_of_getElem? (i := 700) (by decide +kernel), List.mem_of_getElem? (i := 75) (by decide +kernel), by decide +kernel, by decide +kernel, by decide +kernel, by decide⟩, List.mem_of_getElem? (i := 699) (by decide +kernel), List.mem_of_getElem? (i := 53) (by decide +kernel)⟩
theorem kX5_best : MV mX5_best 2 := ⟨⟨List.mem_of_getElem? (i := 680) (by decide +kernel), List.mem_of_getElem? (i := 75) (by decide +kernel), by decide +kernel, by decide +kernel, by decide +kernel, by decide⟩, List.mem_of_getElem? (i := 678) (by decide +kernel), List.mem_of_getElem? (i := 679) (by decide +kernel)⟩
theorem kX5_figure : MS mX5_figure 2 := ⟨⟨List.mem_of_getElem? (i := 723) (by decide +kernel), List.mem_of_getElem? (i := 75) (by decide +kernel), by decide +kernel, by decide +kernel, by decide +kernel, by decide⟩, List.mem_of_getElem? (i := 722) (by decide +kernel)⟩
theorem kX5_layFar : MV mX5_layFar 0 := ⟨⟨List.mem_of_getElem? (i := 716) (by decide +kernel), List.mem_of_getElem? (i := 75) (by decide +kernel), by decide +kernel, by decide +kernel, by decide +kernel, by decide⟩, List.mem_of_getElem? (i := 715) (by decide +kernel), List.mem_of_getElem? (i := 56) (by decide +kernel)⟩
theorem kX5_moveFrom : MV mX5_moveFrom 2 := ⟨⟨List.mem_of_getElem? (i := 731) (by decide +kernel), List.mem_of_getElem? (i := 75) (by decide +kernel), by decide +kernel, by decide +kernel, by decide +kernel, by decide⟩, List.mem_of_getElem? (i := 730) (by decide +kernel), List.mem_of_getElem? (i := 59) (by decide +kernel)⟩
theorem kX5_moved : MV mX5_moved 2 := ⟨⟨List.mem_of_getElem? (i := 735) (by decide +kernel), List.mem_of_getElem? (i := 75) (by decide +kernel), by decide +kernel, by decide +kernel, by decide +kernel, by decide⟩, List.mem_of_getElem? (i := 734) (by decide +kernel), List.mem_of_getElem? (i := 60) (by decide +kernel)⟩
theorem kX5_layChange : MV mX5_layChange 1 := ⟨⟨List.mem_of_getElem? (i := 712) (by decide +kernel), List.mem_of_getElem? (i := 75) (by decide +kernel), by decide +kernel, by decide +kernel, by decide +kernel, by decide⟩, List.mem_of_getElem? (i := 711) (by decide +kernel), List.mem_of_getElem? (i := 55) (by decide +kernel)⟩
theorem kX5_changeNow : MV mX5_changeNow 1 := ⟨⟨List.mem_of_getElem? (i := 739) (by decide +kernel), List.mem_of_getElem? (i := 75) (by decide +kernel), by decide +kernel, by decide +kernel, by decide +kernel, by decide⟩, List.mem_of_getElem? (i := 738) (by decide +kernel), List.mem_of_getElem? (i := 61) (by decide +kernel)⟩
theorem kX5_change : MV mX5_change 2 := ⟨⟨List.mem_of_getElem? (i := 708) (by decide +kernel), List.mem_of_getElem? (i := 75) (by decide +kernel), by decide +kernel, by decide +kernel, by decide +kernel, by decide⟩, List.mem_of_getElem? (i := 706) (by decide +kernel), List.mem_of_getElem? (i := 707) (by decide +kernel)⟩
theorem kX5_go : MV mX5_go 1 := ⟨⟨List.mem_of_getElem? (i := 743) (by decide +kernel), List.mem_of_getElem? (i := 75) (by decide +kernel), by decide +kernel, by decide +kernel, by decide +kernel, by decide⟩, List.mem_of_getElem? (i := 741) (by decide +kernel), List.mem_of_getElem? (i := 742) (by decide +kernel)⟩
theorem kX5_layTrade : MV mX5_layTrade 0 := ⟨⟨List.mem_of_getElem? (i := 751) (by decide +kernel), List.mem_of_getElem? (i := 75) (by decide +kernel), by decide +kernel, by decide +kernel, by decide +kernel, by decide⟩, List.mem_of_getElem? (i := 750) (by decide +kernel), List.mem_of_getElem? (i := 62) (by decide +kernel)⟩
theorem kX5_tradeNow : MV mX5_tradeNow 1 := ⟨⟨List.mem_of_getElem? (i := 755) (by decide +kernel), List.mem_of_getElem? (i := 75) (by decide +kernel), by decide +kernel, by decide +kernel, by decide +kernel, by decide⟩, List.mem_of_getElem? (i := 754) (by decide +kernel), List.mem_of_getElem? (i := 63) (by decide +kernel)⟩
theorem kX5_trade : MV mX5_trade 1 := ⟨⟨List.mem_of_getElem? (i := 747) (by decide +kernel), List.mem_of_getElem? (i := 75) (by decide +kernel), by decide +kernel, by decide +kernel, by decide +kernel, by decide⟩, List.mem_of_getElem? (i := 745) (by decide +kernel), List.mem_of_getElem? (i := 746) (by decide +kernel)⟩
theorem kX5_ones : MS mX5_ones 1 := ⟨⟨List.mem_of_getElem? (i := 766) (by decide +kernel), List.mem_of_getElem? (i := 75) (by decide +kernel), by decide +kernel, by decide +kernel, by decide +kernel, by decide⟩, List.mem_of_getElem? (i := 765) (by decide +kernel)⟩
theorem kX5_reliefNow : MV mX5_reliefNow 0 := ⟨⟨List.mem_of_getElem? (i := 763) (by decide +kernel), List.mem_of_getElem? (i := 75) (by decide +kernel), by decide +kernel, by decide +kernel, by decide +kernel, by decide⟩, List.mem_of_getElem? (i := 762) (by decide +kernel), List.mem_of_getElem? (i := 64) (by decide +kernel)⟩
theorem kX5_relief : MV mX5_relief 0 := ⟨⟨List.mem_of_getElem? (i := 759) (by decide +kernel), List.mem_of_getElem? (i := 75) (by decide +kernel), by decide +kernel, by decide +kernel, by decide +kernel, by decide⟩, List.mem_of_getElem? (i := 757) (by decide +kernel), List.mem_of_getElem? (i := 758) (by decide +kernel)⟩
theorem kX5_howMany : MV mX5_howMany 1 := ⟨⟨List.mem_of_getElem? (i := 774) (by decide +kernel), List.mem_of_getElem? (i := 75) (by decide +kernel), by decide +kernel, by decide +kernel, by decide +kernel, by decide⟩, List.mem_of_getElem? (i := 773) (by decide +kernel), List.mem_of_getElem? (i := 65) (by decide +kernel)⟩
theorem kX5_count : MV mX5_count 1 := ⟨⟨List.mem_of_getElem? (i := 770) (by decide +kernel), List.mem_of_getElem? (i := 75) (by decide +kernel), by decide +kernel, by decide +kernel, by decide +kernel, by decide⟩, List.mem_of_getElem? (i := 768) (by decide +kernel), List.mem_of_getElem? (i := 769) (by decide +kernel)⟩
theorem kX5_mix : MV mX5_mix 1 := ⟨⟨List.mem_of_getElem? (i := 783) (by decide +kernel), List.mem_of_getElem? (i := 75) (by decide +kernel), by decide +kernel, by decide +kernel, by decide +kernel, by decide⟩, List.mem_of_getElem? (i := 782) (by decide +kernel), List.mem_of_getElem? (i := 66) (by decide +kernel)⟩
theorem kX5_mixPlans : MV mX5_mixPlans 1 := ⟨⟨List.mem_of_getElem? (i := 792) (by decide +kernel), List.mem_of_getElem? (i := 75) (by decide +kernel), by decide +kernel, by decide +kernel, by decide +kernel, by decide⟩, List.mem_of_getElem? (i := 791) (by decide +kernel), List.mem_of_getElem? (i := 68) (by decide +kernel)⟩
theorem kX5_mixField : MV mX5_mixField 0 := ⟨⟨List.mem_of_getElem? (i := 788) (by decide +kernel), List.mem_of_getElem? (i := 75) (by decide +kernel), by decide +kernel, by decide +kernel, by decide +kernel, by decide⟩, List.mem_of_getElem? (i := 787) (by decide +kernel), List.mem_of_getElem? (i := 67) (by decide +kernel)⟩
theorem kX5_digest : MV mX5_digest 0 := ⟨⟨List.mem_of_getElem? (i := 778) (by decide +kernel), List.mem_of_getElem? (i := 75) (by decide +kernel), by decide +kernel, by decide +kernel, by decide +kernel, by decide⟩, List.mem_of_getElem? (i := 776) (by decide +kernel), List.mem_of_getElem? (i := 777) (by decide +kernel)⟩
theorem kJ6_bitCount_0f7a4 : MS mJ6_bitCount_0f7a4 1 := ⟨⟨List.mem_of_getElem? (i := 477) (by decide +kernel), List.mem_of_getElem? (i := 78) (by decide +kernel), by decide +kernel, by decide +kernel, by decide +kernel, by decide⟩, List.mem_of_getElem? (i := 476) (by decide +kernel)⟩
theorem kJ9_max_7cf53 : MS mJ9_max_7cf53 2 := ⟨⟨List.mem_of_getElem? (i := 400) (by decide +kernel), List.mem_of_getElem? (i := 76) (by decide +kernel), by decide +kernel, by decide +kernel, by decide +kernel, by decide⟩, List.mem_of_getElem? (i := 399) (by decide +kernel)⟩
theorem kJ9_min_7cf53 : MS mJ9_min_7cf53 2 := ⟨⟨List.mem_of_getElem? (i := 268) (by decide +kernel), List.mem_of_getElem? (i := 76) (by decide +kernel), by decide +kernel, by decide +kernel, by decide +kernel, by decide⟩, List.mem_of_getElem? (i := 267) (by decide +kernel)⟩
theorem kJ7_fill_53178 : MS mJ7_fill_53178 2 := ⟨⟨List.mem_of_getElem? (i := 279) (by decide +kernel), List.mem_of_getElem? (i := 77) (by decide +kernel), by decide +kernel, by decide +kernel, by decide +kernel, by decide⟩, List.mem_of_getElem? (i := 278) (by decide +kernel)⟩
theorem lL_13 : LK RL 13 yX4_letter := Or.inl (List.mem_of_getElem? (i := 221) (by decide +kernel))
theorem lX4_34 : LK RX4 34 yX0_append := Or.inr ⟨"AimDesk", List.mem_of_getElem? (i := 225) (by decide +kernel)⟩
theorem lL_18 : LK RL 18 yX4_blank := Or.inl (List.mem_of_getElem? (i := 229) (by decide +kernel))
theorem lL_23 : LK RL 23 yX4_fault := Or.inl (List.mem_of_getElem? (i := 233) (by decide +kernel))
theorem lX4_38 : LK RX4 38 yX0_firstFault := Or.inr ⟨"AimDesk", List.mem_of_getElem? (i := 237) (by decide +kernel)⟩
theorem lX0_23 : LK RX0 23 yX0_fits := Or.inl (List.mem_of_getElem? (i := 241) (by decide +kernel))
theorem lX0_19 : LK RX0 19 yX0_codeAt := Or.inl (List.mem_of_getElem? (i := 245) (by decide +kernel))
theorem lL_27 : LK RL 27 yX4_field := Or.inl (List.mem_of_getElem? (i := 249) (by decide +kernel))
theorem lX4_42 : LK RX4 42 yX0_isField := Or.inr ⟨"AimDesk", List.mem_of_getElem? (i := 253) (by decide +kernel)⟩
theorem lX0_27 : LK RX0 27 yX0_firstFault := Or.inl (List.mem_of_getElem? (i := 257) (by decide +kernel))
theorem lX4_46 : LK RX4 46 yX3_read := Or.inr ⟨"AimDesk", List.mem_of_getElem? (i := 258) (by decide +kernel)⟩
theorem lX3_44 : LK RX3 44 yX0_figureAt := Or.inr ⟨"AimDesk", List.mem_of_getElem? (i := 262) (by decide +kernel)⟩
theorem lX3_50 : LK RX3 50 yJ9_min_7cf53 := Or.inl (List.mem_of_getElem? (i := 266) (by decide +kernel))
theorem lX3_61 : LK RX3 61 yX3_lightOf := Or.inl (List.mem_of_getElem? (i := 269) (by decide +kernel))
theorem lX3_74 : LK RX3 74 yX3_hasPatch := Or.inl (List.mem_of_getElem? (i := 273) (by decide +kernel))
theorem lX3_65 : LK RX3 65 yJ7_fill_53178 := Or.inl (List.mem_of_getElem? (i := 277) (by decide +kernel))
theorem lX3_71 : LK RX3 71 yX3_measureSlack := Or.inl (List.mem_of_getElem? (i := 280) (by decide +kernel))
theorem lX4_50 : LK RX4 50 yX2_forget := Or.inr ⟨"AimDesk", List.mem_of_getElem? (i := 284) (by decide +kernel)⟩
theorem lL_31 : LK RL 31 yX4_ceiling := Or.inl (List.mem_of_getElem? (i := 288) (by decide +kernel))
theorem lX4_59 : LK RX4 59 yX3_hasPatch := Or.inr ⟨"AimDesk", List.mem_of_getElem? (i := 292) (by decide +kernel)⟩
theorem lX4_67 : LK RX4 67 yX3_measureSlack := Or.inr ⟨"AimDesk", List.mem_of_getElem? (i := 293) (by decide +kernel)⟩
theorem lL_36 : LK RL 36 yX4_shade := Or.inl (List.mem_of_getElem? (i := 294) (by decide +kernel))
theorem lX4_70 : LK RX4 70 yX3_isRead := Or.inr ⟨"AimDesk", List.mem_of_getElem? (i := 298) (by decide +kernel)⟩
theorem lL_40 : LK RL 40 yX4_stuck := Or.inl (List.mem_of_getElem? (i := 302) (by decide +kernel))
theorem lX4_76 : LK RX4 76 yX3_hasMirror := Or.inr ⟨"AimDesk", List.mem_of_getElem? (i := 306) (by decide +kernel)⟩
theorem lX4_82 : LK RX4 82 yX4_bit := Or.inl (List.mem_of_getElem? (i := 310) (by decide +kernel))
theorem lL_45 : LK RL 45 yX4_aim := Or.inl (List.mem_of_getElem? (i := 313) (by decide +kernel))
theorem lX4_86 : LK RX4 86 yX3_isStuck := Or.inr ⟨"AimDesk", List.mem_of_getElem? (i := 317) (by decide +kernel)⟩
theorem lX3_37 : LK RX3 37 yX4_bit := Or.inr ⟨"AimDesk", List.mem_of_getElem? (i := 321) (by decide +kernel)⟩
theorem lX4_92 : LK RX4 92 yX3_heats := Or.inr ⟨"AimDesk", List.mem_of_getElem? (i := 322) (by decide +kernel)⟩
theorem lX3_82 : LK RX3 82 yX3_heatsWithout := Or.inl (List.mem_of_getElem? (i := 326) (by decide +kernel))
theorem lX3_85 : LK RX3 85 yX3_light := Or.inl (List.mem_of_getElem? (i := 330) (by decide +kernel))
theorem lX4_95 : LK RX4 95 yX3_isSafe := Or.inr ⟨"AimDesk", List.mem_of_getElem? (i := 334) (by decide +kernel)⟩
theorem lL_49 : LK RL 49 yX4_mirror := Or.inl (List.mem_of_getElem? (i := 339) (by decide +kernel))
theorem lX4_107 : LK RX4 107 yX3_isShaded := Or.inr ⟨"AimDesk", List.mem_of_getElem? (i := 343) (by decide +kernel)⟩
theorem lX4_110 : LK RX4 110 yX3_light := Or.inr ⟨"AimDesk", List.mem_of_getElem? (i := 347) (by decide +kernel)⟩
theorem lX4_113 : LK RX4 113 yX4_sum := Or.inl (List.mem_of_getElem? (i := 348) (by decide +kernel))
theorem lX4_117 : LK RX4 117 yX4_heatOf := Or.inl (List.mem_of_getElem? (i := 351) (by decide +kernel))
theorem lL_53 : LK RL 53 yX4_patch := Or.inl (List.mem_of_getElem? (i := 354) (by decide +kernel))
theorem lX4_120 : LK RX4 120 yX3_heatsWithout := Or.inr ⟨"AimDesk", List.mem_of_getElem? (i := 358) (by decide +kernel)⟩
theorem lX4_123 : LK RX4 123 yX3_aimingAt := Or.inr ⟨"AimDesk", List.mem_of_getElem? (i := 359) (by decide +kernel)⟩
theorem lL_57 : LK RL 57 yX4_best := Or.inl (List.mem_of_getElem? (i := 363) (by decide +kernel))
theorem lX4_126 : LK RX4 126 yX2_planWithBest := Or.inr ⟨"AimDesk", List.mem_of_getElem? (i := 367) (by decide +kernel)⟩
theorem lX2_34 : LK RX2 34 yX2_findBest := Or.inl (List.mem_of_getElem? (i := 371) (by decide +kernel))
theorem lX2_41 : LK RX2 41 yJ7_fill_53178 := Or.inl (List.mem_of_getElem? (i := 375) (by decide +kernel))
theorem lX2_54 : LK RX2 54 yX2_openFrom := Or.inl (List.mem_of_getElem? (i := 376) (by decide +kernel))
theorem lX2_58 : LK RX2 58 yX3_isSafe := Or.inr ⟨"AimDesk", List.mem_of_getElem? (i := 379) (by decide +kernel)⟩
theorem lX2_64 : LK RX2 64 yX3_hasMirror := Or.inr ⟨"AimDesk", List.mem_of_getElem? (i := 380) (by decide +kernel)⟩
theorem lX2_67 : LK RX2 67 yX3_isShaded := Or.inr ⟨"AimDesk", List.mem_of_getElem? (i := 381) (by decide +kernel)⟩
theorem lX2_73 : LK RX2 73 yX3_isStuck := Or.inr ⟨"AimDesk", List.mem_of_getElem? (i := 382) (by decide +kernel)⟩
theorem lX2_79 : LK RX2 79 yX3_light := Or.inr ⟨"AimDesk", List.mem_of_getElem? (i := 383) (by decide +kernel)⟩
theorem lX2_86 : LK RX2 86 yX4_sum := Or.inr ⟨"AimDesk", List.mem_of_getElem? (i := 384) (by decide +kernel)⟩
theorem lX4_135 : LK RX4 135 yX3_bound := Or.inr ⟨"AimDesk", List.mem_of_getElem? (i := 387) (by decide +kernel)⟩
theorem lX3_88 : LK RX3 88 yX3_isShaded := Or.inl (List.mem_of_getElem? (i := 391) (by decide +kernel))
theorem lX3_91 : LK RX3 91 yX3_isStuck := Or.inl (List.mem_of_getElem? (i := 392) (by decide +kernel))
theorem lX3_94 : LK RX3 94 yX4_sum := Or.inr ⟨"AimDesk", List.mem_of_getElem? (i := 393) (by decide +kernel)⟩
theorem lX3_97 : LK RX3 97 yX3_mostLight := Or.inl (List.mem_of_getElem? (i := 394) (by decide +kernel))
theorem lX3_100 : LK RX3 100 yJ9_max_7cf53 := Or.inl (List.mem_of_getElem? (i := 398) (by decide +kernel))
theorem lX4_141 : LK RX4 141 yX4_aimIn := Or.inl (List.mem_of_getElem? (i := 401) (by decide +kernel))
theorem lL_62 : LK RL 62 yX4_change := Or.inl (List.mem_of_getElem? (i := 404) (by decide +kernel))
theorem lX4_144 : LK RX4 144 yX2_planWithChange := Or.inr ⟨"AimDesk", List.mem_of_getElem? (i := 408) (by decide +kernel)⟩
theorem lX2_38 : LK RX2 38 yX2_findChange := Or.inl (List.mem_of_getElem? (i := 412) (by decide +kernel))
theorem lX2_96 : LK RX2 96 yX3_placeNow := Or.inr ⟨"AimDesk", List.mem_of_getElem? (i := 416) (by decide +kernel)⟩
theorem lX2_103 : LK RX2 103 yX2_widen := Or.inl (List.mem_of_getElem? (i := 421) (by decide +kernel))
theorem lX2_111 : LK RX2 111 yX2_markBeside := Or.inl (List.mem_of_getElem? (i := 425) (by decide +kernel))
theorem lX2_107 : LK RX2 107 yX2_noteMoves := Or.inl (List.mem_of_getElem? (i := 429) (by decide +kernel))
theorem lX2_118 : LK RX2 118 yJ9_min_7cf53 := Or.inl (List.mem_of_getElem? (i := 433) (by decide +kernel))
theorem lX2_123 : LK RX2 123 yX2_leastMove := Or.inl (List.mem_of_getElem? (i := 434) (by decide +kernel))
theorem lX2_130 : LK RX2 130 yX4_aimIn := Or.inr ⟨"AimDesk", List.mem_of_getElem? (i := 438) (by decide +kernel)⟩
theorem lX4_150 : LK RX4 150 yX1_moveAt := Or.inr ⟨"AimDesk", List.mem_of_getElem? (i := 439) (by decide +kernel)⟩
theorem lL_66 : LK RL 66 yX4_go := Or.inl (List.mem_of_getElem? (i := 443) (by decide +kernel))
theorem lL_71 : LK RL 71 yX4_trade := Or.inl (List.mem_of_getElem? (i := 447) (by decide +kernel))
theorem lX4_153 : LK RX4 153 yX3_bestTrade := Or.inr ⟨"AimDesk", List.mem_of_getElem? (i := 451) (by decide +kernel)⟩
theorem lX3_106 : LK RX3 106 yX3_heats := Or.inl (List.mem_of_getElem? (i := 455) (by decide +kernel))
theorem lX3_110 : LK RX3 110 yX3_heatsByTrade := Or.inl (List.mem_of_getElem? (i := 456) (by decide +kernel))
theorem lX3_116 : LK RX3 116 yX3_hasMirror := Or.inl (List.mem_of_getElem? (i := 460) (by decide +kernel))
theorem lX3_119 : LK RX3 119 yX3_swapAims := Or.inl (List.mem_of_getElem? (i := 461) (by decide +kernel))
theorem lX3_113 : LK RX3 113 yX3_isSafe := Or.inl (List.mem_of_getElem? (i := 465) (by decide +kernel))
theorem lX4_156 : LK RX4 156 yX3_heatsByTrade := Or.inr ⟨"AimDesk", List.mem_of_getElem? (i := 466) (by decide +kernel)⟩
theorem lL_75 : LK RL 75 yX4_relief := Or.inl (List.mem_of_getElem? (i := 467) (by decide +kernel))
theorem lX4_159 : LK RX4 159 yX3_bestRelief := Or.inr ⟨"AimDesk", List.mem_of_getElem? (i := 471) (by decide +kernel)⟩
theorem lX3_123 : LK RX3 123 yJ6_bitCount_0f7a4 := Or.inl (List.mem_of_getElem? (i := 475) (by decide +kernel))
theorem lL_79 : LK RL 79 yX4_count := Or.inl (List.mem_of_getElem? (i := 481) (by decide +kernel))
theorem lL_83 : LK RL 83 yX4_digest := Or.inl (List.mem_of_getElem? (i := 485) (by decide +kernel))
theorem lX4_167 : LK RX4 167 yX4_digestOfParts := Or.inl (List.mem_of_getElem? (i := 490) (by decide +kernel))
theorem lX4_192 : LK RX4 192 yX4_mirror := Or.inl (List.mem_of_getElem? (i := 495) (by decide +kernel))
theorem lX4_195 : LK RX4 195 yX4_patch := Or.inl (List.mem_of_getElem? (i := 496) (by decide +kernel))
theorem lX4_173 : LK RX4 173 yX4_best := Or.inl (List.mem_of_getElem? (i := 497) (by decide +kernel))
theorem lX4_177 : LK RX4 177 yX4_change := Or.inl (List.mem_of_getElem? (i := 498) (by decide +kernel))
theorem lX4_180 : LK RX4 180 yX4_trade := Or.inl (List.mem_of_getElem? (i := 499) (by decide +kernel))
theorem lX4_183 : LK RX4 183 yX4_relief := Or.inl (List.mem_of_getElem? (i := 500) (by decide +kernel))
theorem lX4_186 : LK RX4 186 yX0_codeAt := Or.inr ⟨"AimDesk", List.mem_of_getElem? (i := 501) (by decide +kernel)⟩
theorem lX4_189 : LK RX4 189 yX4_count := Or.inl (List.mem_of_getElem? (i := 502) (by decide +kernel))
theorem lL_17 : LK RL 17 yX5_letter := Or.inl (List.mem_of_getElem? (i := 583) (by decide +kernel))
theorem lX5_41 : LK RX5 41 yX5_within := Or.inl (List.mem_of_getElem? (i := 587) (by decide +kernel))
theorem lL_22 : LK RL 22 yX5_blank := Or.inl (List.mem_of_getElem? (i := 590) (by decide +kernel))
theorem lL_26 : LK RL 26 yX5_fault := Or.inl (List.mem_of_getElem? (i := 594) (by decide +kernel))
theorem lX5_53 : LK RX5 53 yX5_rightLetters := Or.inl (List.mem_of_getElem? (i := 598) (by decide +kernel))
theorem lX5_49 : LK RX5 49 yX5_isRight := Or.inl (List.mem_of_getElem? (i := 602) (by decide +kernel))
theorem lL_30 : LK RL 30 yX5_field := Or.inl (List.mem_of_getElem? (i := 606) (by decide +kernel))
theorem lL_35 : LK RL 35 yX5_ceiling := Or.inl (List.mem_of_getElem? (i := 610) (by decide +kernel))
theorem lX5_84 : LK RX5 84 yX5_isPatch := Or.inl (List.mem_of_getElem? (i := 614) (by decide +kernel))
theorem lL_39 : LK RL 39 yX5_shade := Or.inl (List.mem_of_getElem? (i := 618) (by decide +kernel))
theorem lL_44 : LK RL 44 yX5_stuck := Or.inl (List.mem_of_getElem? (i := 622) (by decide +kernel))
theorem lX5_87 : LK RX5 87 yX5_isMirror := Or.inl (List.mem_of_getElem? (i := 626) (by decide +kernel))
theorem lL_48 : LK RL 48 yX5_aim := Or.inl (List.mem_of_getElem? (i := 630) (by decide +kernel))
theorem lX5_90 : LK RX5 90 yX5_asTheyAre := Or.inl (List.mem_of_getElem? (i := 634) (by decide +kernel))
theorem lX5_76 : LK RX5 76 yX5_has := Or.inl (List.mem_of_getElem? (i := 638) (by decide +kernel))
theorem lX5_93 : LK RX5 93 yX5_isGood := Or.inl (List.mem_of_getElem? (i := 641) (by decide +kernel))
theorem lX5_80 : LK RX5 80 yX5_heatAt := Or.inl (List.mem_of_getElem? (i := 645) (by decide +kernel))
theorem lX5_72 : LK RX5 72 yX5_gives := Or.inl (List.mem_of_getElem? (i := 649) (by decide +kernel))
theorem lL_52 : LK RL 52 yX5_mirror := Or.inl (List.mem_of_getElem? (i := 653) (by decide +kernel))
theorem lX5_104 : LK RX5 104 yX5_ofMirror := Or.inl (List.mem_of_getElem? (i := 657) (by decide +kernel))
theorem lX5_100 : LK RX5 100 yX5_givesAll := Or.inl (List.mem_of_getElem? (i := 661) (by decide +kernel))
theorem lL_56 : LK RL 56 yX5_patch := Or.inl (List.mem_of_getElem? (i := 665) (by decide +kernel))
theorem lX5_111 : LK RX5 111 yX5_ofPatch := Or.inl (List.mem_of_getElem? (i := 669) (by decide +kernel))
theorem lX5_107 : LK RX5 107 yX5_aimedAt := Or.inl (List.mem_of_getElem? (i := 673) (by decide +kernel))
theorem lL_61 : LK RL 61 yX5_best := Or.inl (List.mem_of_getElem? (i := 677) (by decide +kernel))
theorem lX5_134 : LK RX5 134 yX5_layBest := Or.inl (List.mem_of_getElem? (i := 681) (by decide +kernel))
theorem lX5_120 : LK RX5 120 yX5_layCode := Or.inl (List.mem_of_getElem? (i := 685) (by decide +kernel))
theorem lX5_124 : LK RX5 124 yX5_areThere := Or.inl (List.mem_of_getElem? (i := 689) (by decide +kernel))
theorem lX5_128 : LK RX5 128 yX5_caught := Or.inl (List.mem_of_getElem? (i := 693) (by decide +kernel))
theorem lX5_138 : LK RX5 138 yX5_bestNow := Or.inl (List.mem_of_getElem? (i := 697) (by decide +kernel))
theorem lX5_131 : LK RX5 131 yX5_boundNow := Or.inl (List.mem_of_getElem? (i := 701) (by decide +kernel))
theorem lL_65 : LK RL 65 yX5_change := Or.inl (List.mem_of_getElem? (i := 705) (by decide +kernel))
theorem lX5_162 : LK RX5 162 yX5_layChange := Or.inl (List.mem_of_getElem? (i := 709) (by decide +kernel))
theorem lX5_147 : LK RX5 147 yX5_layFar := Or.inl (List.mem_of_getElem? (i := 713) (by decide +kernel))
theorem lX5_141 : LK RX5 141 yX5_unitOf := Or.inl (List.mem_of_getElem? (i := 717) (by decide +kernel))
theorem lX5_144 : LK RX5 144 yX5_figure := Or.inl (List.mem_of_getElem? (i := 721) (by decide +kernel))
theorem lX5_150 : LK RX5 150 yX5_codeNow := Or.inl (List.mem_of_getElem? (i := 724) (by decide +kernel))
theorem lX5_156 : LK RX5 156 yX5_moveFrom := Or.inl (List.mem_of_getElem? (i := 728) (by decide +kernel))
theorem lX5_159 : LK RX5 159 yX5_moved := Or.inl (List.mem_of_getElem? (i := 732) (by decide +kernel))
theorem lX5_165 : LK RX5 165 yX5_changeNow := Or.inl (List.mem_of_getElem? (i := 736) (by decide +kernel))
theorem lL_70 : LK RL 70 yX5_go := Or.inl (List.mem_of_getElem? (i := 740) (by decide +kernel))
theorem lL_74 : LK RL 74 yX5_trade := Or.inl (List.mem_of_getElem? (i := 744) (by decide +kernel))
theorem lX5_177 : LK RX5 177 yX5_layTrade := Or.inl (List.mem_of_getElem? (i := 748) (by decide +kernel))
theorem lX5_180 : LK RX5 180 yX5_tradeNow := Or.inl (List.mem_of_getElem? (i := 752) (by decide +kernel))
theorem lL_78 : LK RL 78 yX5_relief := Or.inl (List.mem_of_getElem? (i := 756) (by decide +kernel))
theorem lX5_186 : LK RX5 186 yX5_reliefNow := Or.inl (List.mem_of_getElem? (i := 760) (by decide +kernel))
theorem lX5_183 : LK RX5 183 yX5_ones := Or.inl (List.mem_of_getElem? (i := 764) (by decide +kernel))
theorem lL_82 : LK RL 82 yX5_count := Or.inl (List.mem_of_getElem? (i := 767) (by decide +kernel))
theorem lX5_189 : LK RX5 189 yX5_howMany := Or.inl (List.mem_of_getElem? (i := 771) (by decide +kernel))
theorem lL_87 : LK RL 87 yX5_digest := Or.inl (List.mem_of_getElem? (i := 775) (by decide +kernel))
theorem lX5_198 : LK RX5 198 yX5_mix := Or.inl (List.mem_of_getElem? (i := 780) (by decide +kernel))
theorem lX5_207 : LK RX5 207 yX5_mixField := Or.inl (List.mem_of_getElem? (i := 785) (by decide +kernel))
theorem lX5_202 : LK RX5 202 yX5_mixPlans := Or.inl (List.mem_of_getElem? (i := 789) (by decide +kernel))
theorem pX3_81 : Cond.constant RX3 81 (-2139062144) ∈ lw_tbl := List.mem_of_getElem? (i := 338) (by decide +kernel)
theorem pJ6_265 : Cond.constant RJ6 265 (1431655765) ∈ lw_tbl := List.mem_of_getElem? (i := 478) (by decide +kernel)
theorem pJ6_266 : Cond.constant RJ6 266 (858993459) ∈ lw_tbl := List.mem_of_getElem? (i := 479) (by decide +kernel)
theorem pJ6_267 : Cond.constant RJ6 267 (252645135) ∈ lw_tbl := List.mem_of_getElem? (i := 480) (by decide +kernel)
theorem pX4_165 : Cond.constantLong RX4 165 (1733) ∈ lw_tbl := List.mem_of_getElem? (i := 489) (by decide +kernel)
theorem pX4_171 : Cond.constantLong RX4 171 (31) ∈ lw_tbl := List.mem_of_getElem? (i := 494) (by decide +kernel)
theorem pX5_205 : Cond.constantLong RX5 205 (1733) ∈ lw_tbl := List.mem_of_getElem? (i := 779) (by decide +kernel)
theorem pX5_192 : Cond.constantLong RX5 192 (31) ∈ lw_tbl := List.mem_of_getElem? (i := 784) (by decide +kernel)
end
