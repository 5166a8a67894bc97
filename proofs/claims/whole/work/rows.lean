section
-- ===== PART A: goes FIRST, ahead of the names: the tables' words, and 'selects' of the private methods out of them =====
/-- a private method of a class that the tables say can be made, by its rows of tables_1 -/
def lw_okq (q : MethodName × Nat) : Prop := (q.1.cls ≠ "java/lang/invoke/MethodHandle" ∧ q.1.cls ≠ "java/lang/invoke/VarHandle") ∧ Cond.instantiable q.1.cls q.2 ∈ tables_1 ∧ Cond.privateMethod q.1 ∈ tables_1 ∧ Cond.instanceMethod q.1 ∈ tables_1
theorem lw_p0 : lw_okq (⟨"RoomMaker$Inputs", "drop", "()V"⟩, 3) := ⟨⟨by decide +kernel, by decide +kernel⟩, List.mem_of_getElem? (i := 55) (by decide +kernel), List.mem_of_getElem? (i := 193) (by decide +kernel), List.mem_of_getElem? (i := 194) (by decide +kernel)⟩
theorem lw_p1 : lw_okq (⟨"RoomMaker$Inputs", "append", "(I)I"⟩, 3) := ⟨⟨by decide +kernel, by decide +kernel⟩, List.mem_of_getElem? (i := 55) (by decide +kernel), List.mem_of_getElem? (i := 201) (by decide +kernel), List.mem_of_getElem? (i := 202) (by decide +kernel)⟩
theorem lw_p2 : lw_okq (⟨"RoomMaker$Spans", "mostAtOnce", "()I"⟩, 4) := ⟨⟨by decide +kernel, by decide +kernel⟩, List.mem_of_getElem? (i := 72) (by decide +kernel), List.mem_of_getElem? (i := 209) (by decide +kernel), List.mem_of_getElem? (i := 210) (by decide +kernel)⟩
theorem lw_p3 : lw_okq (⟨"RoomMaker$Spans", "spanning", "(I)I"⟩, 4) := ⟨⟨by decide +kernel, by decide +kernel⟩, List.mem_of_getElem? (i := 72) (by decide +kernel), List.mem_of_getElem? (i := 213) (by decide +kernel), List.mem_of_getElem? (i := 214) (by decide +kernel)⟩
theorem lw_p4 : lw_okq (⟨"RoomMaker$Machine", "begin", "()V"⟩, 14) := ⟨⟨by decide +kernel, by decide +kernel⟩, List.mem_of_getElem? (i := 120) (by decide +kernel), List.mem_of_getElem? (i := 224) (by decide +kernel), List.mem_of_getElem? (i := 225) (by decide +kernel)⟩
theorem lw_p5 : lw_okq (⟨"RoomMaker$Machine", "written", "(I)I"⟩, 14) := ⟨⟨by decide +kernel, by decide +kernel⟩, List.mem_of_getElem? (i := 120) (by decide +kernel), List.mem_of_getElem? (i := 235) (by decide +kernel), List.mem_of_getElem? (i := 236) (by decide +kernel)⟩
theorem lw_p6 : lw_okq (⟨"RoomMaker$Machine", "tally", "(I)I"⟩, 14) := ⟨⟨by decide +kernel, by decide +kernel⟩, List.mem_of_getElem? (i := 120) (by decide +kernel), List.mem_of_getElem? (i := 243) (by decide +kernel), List.mem_of_getElem? (i := 244) (by decide +kernel)⟩
theorem lw_p7 : lw_okq (⟨"RoomMaker$Machine", "isAtEnd", "()Z"⟩, 14) := ⟨⟨by decide +kernel, by decide +kernel⟩, List.mem_of_getElem? (i := 120) (by decide +kernel), List.mem_of_getElem? (i := 247) (by decide +kernel), List.mem_of_getElem? (i := 248) (by decide +kernel)⟩
theorem lw_p8 : lw_okq (⟨"java/lang/Throwable", "fillInStackTrace", "(I)Ljava/lang/Throwable;"⟩, 6) := ⟨⟨by decide +kernel, by decide +kernel⟩, List.mem_of_getElem? (i := 312) (by decide +kernel), List.mem_of_getElem? (i := 310) (by decide +kernel), List.mem_of_getElem? (i := 311) (by decide +kernel)⟩
theorem lw_p9 : lw_okq (⟨"RoomMaker$Program", "append", "(IIII)I"⟩, 5) := ⟨⟨by decide +kernel, by decide +kernel⟩, List.mem_of_getElem? (i := 25) (by decide +kernel), List.mem_of_getElem? (i := 342) (by decide +kernel), List.mem_of_getElem? (i := 343) (by decide +kernel)⟩
theorem lw_p10 : lw_okq (⟨"RoomMaker$Program", "leadsAstray", "()Z"⟩, 5) := ⟨⟨by decide +kernel, by decide +kernel⟩, List.mem_of_getElem? (i := 25) (by decide +kernel), List.mem_of_getElem? (i := 355) (by decide +kernel), List.mem_of_getElem? (i := 356) (by decide +kernel)⟩
theorem lw_p11 : lw_okq (⟨"RoomMaker$Program", "targetOf", "(I)I"⟩, 5) := ⟨⟨by decide +kernel, by decide +kernel⟩, List.mem_of_getElem? (i := 25) (by decide +kernel), List.mem_of_getElem? (i := 359) (by decide +kernel), List.mem_of_getElem? (i := 360) (by decide +kernel)⟩
theorem lw_p12 : lw_okq (⟨"RoomMaker$Spans", "find", "(LRoomMaker$Program;)V"⟩, 4) := ⟨⟨by decide +kernel, by decide +kernel⟩, List.mem_of_getElem? (i := 72) (by decide +kernel), List.mem_of_getElem? (i := 379) (by decide +kernel), List.mem_of_getElem? (i := 380) (by decide +kernel)⟩
theorem lw_p13 : lw_okq (⟨"RoomMaker$Spans", "passBack", "(LRoomMaker$Program;)Z"⟩, 4) := ⟨⟨by decide +kernel, by decide +kernel⟩, List.mem_of_getElem? (i := 72) (by decide +kernel), List.mem_of_getElem? (i := 384) (by decide +kernel), List.mem_of_getElem? (i := 385) (by decide +kernel)⟩
theorem lw_p14 : lw_okq (⟨"RoomMaker$Spans", "livingBehind", "(LRoomMaker$Program;I)I"⟩, 4) := ⟨⟨by decide +kernel, by decide +kernel⟩, List.mem_of_getElem? (i := 72) (by decide +kernel), List.mem_of_getElem? (i := 388) (by decide +kernel), List.mem_of_getElem? (i := 389) (by decide +kernel)⟩
theorem lw_p15 : lw_okq (⟨"RoomMaker$Program", "goesOn", "(I)Z"⟩, 5) := ⟨⟨by decide +kernel, by decide +kernel⟩, List.mem_of_getElem? (i := 25) (by decide +kernel), List.mem_of_getElem? (i := 392) (by decide +kernel), List.mem_of_getElem? (i := 393) (by decide +kernel)⟩
def lw_privs_1 : List (MethodName × Nat) := [(⟨"RoomMaker$Inputs", "drop", "()V"⟩, 3), (⟨"RoomMaker$Inputs", "append", "(I)I"⟩, 3), (⟨"RoomMaker$Spans", "mostAtOnce", "()I"⟩, 4), (⟨"RoomMaker$Spans", "spanning", "(I)I"⟩, 4), (⟨"RoomMaker$Machine", "begin", "()V"⟩, 14), (⟨"RoomMaker$Machine", "written", "(I)I"⟩, 14), (⟨"RoomMaker$Machine", "tally", "(I)I"⟩, 14), (⟨"RoomMaker$Machine", "isAtEnd", "()Z"⟩, 14), (⟨"java/lang/Throwable", "fillInStackTrace", "(I)Ljava/lang/Throwable;"⟩, 6), (⟨"RoomMaker$Program", "append", "(IIII)I"⟩, 5), (⟨"RoomMaker$Program", "leadsAstray", "()Z"⟩, 5), (⟨"RoomMaker$Program", "targetOf", "(I)I"⟩, 5), (⟨"RoomMaker$Spans", "find", "(LRoomMaker$Program;)V"⟩, 4), (⟨"RoomMaker$Spans", "passBack", "(LRoomMaker$Program;)Z"⟩, 4), (⟨"RoomMaker$Spans", "livingBehind", "(LRoomMaker$Program;I)I"⟩, 4), (⟨"RoomMaker$Program", "goesOn", "(I)Z"⟩, 5)]
theorem lw_r1 : ∀ q ∈ lw_privs_1, lw_okq q := List.forall_mem_cons.mpr ⟨lw_p0, List.forall_mem_cons.mpr ⟨lw_p1, List.forall_mem_cons.mpr ⟨lw_p2, List.forall_mem_cons.mpr ⟨lw_p3, List.forall_mem_cons.mpr ⟨lw_p4, List.forall_mem_cons.mpr ⟨lw_p5, List.forall_mem_cons.mpr ⟨lw_p6, List.forall_mem_cons.mpr ⟨lw_p7, List.forall_mem_cons.mpr ⟨lw_p8, List.forall_mem_cons.mpr ⟨lw_p9, List.forall_mem_cons.mpr ⟨lw_p10, List.forall_mem_cons.mpr ⟨lw_p11, List.forall_mem_cons.mpr ⟨lw_p12, List.forall_mem_cons.mpr ⟨lw_p13, List.forall_mem_cons.mpr ⟨lw_p14, List.forall_mem_cons.mpr ⟨lw_p15, fun _ h => absurd h List.not_mem_nil⟩⟩⟩⟩⟩⟩⟩⟩⟩⟩⟩⟩⟩⟩⟩⟩
theorem lw_p16 : lw_okq (⟨"RoomMaker$Spans", "livingAhead", "(I)I"⟩, 4) := ⟨⟨by decide +kernel, by decide +kernel⟩, List.mem_of_getElem? (i := 72) (by decide +kernel), List.mem_of_getElem? (i := 396) (by decide +kernel), List.mem_of_getElem? (i := 397) (by decide +kernel)⟩
theorem lw_p17 : lw_okq (⟨"RoomMaker$Program", "readBy", "(I)I"⟩, 5) := ⟨⟨by decide +kernel, by decide +kernel⟩, List.mem_of_getElem? (i := 25) (by decide +kernel), List.mem_of_getElem? (i := 401) (by decide +kernel), List.mem_of_getElem? (i := 402) (by decide +kernel)⟩
theorem lw_p18 : lw_okq (⟨"RoomMaker$Program", "setBy", "(I)I"⟩, 5) := ⟨⟨by decide +kernel, by decide +kernel⟩, List.mem_of_getElem? (i := 25) (by decide +kernel), List.mem_of_getElem? (i := 408) (by decide +kernel), List.mem_of_getElem? (i := 409) (by decide +kernel)⟩
theorem lw_p19 : lw_okq (⟨"RoomMaker$Spans", "measure", "(LRoomMaker$Program;)V"⟩, 4) := ⟨⟨by decide +kernel, by decide +kernel⟩, List.mem_of_getElem? (i := 72) (by decide +kernel), List.mem_of_getElem? (i := 412) (by decide +kernel), List.mem_of_getElem? (i := 413) (by decide +kernel)⟩
theorem lw_p20 : lw_okq (⟨"RoomMaker$Spans", "stretch", "(II)V"⟩, 4) := ⟨⟨by decide +kernel, by decide +kernel⟩, List.mem_of_getElem? (i := 72) (by decide +kernel), List.mem_of_getElem? (i := 416) (by decide +kernel), List.mem_of_getElem? (i := 417) (by decide +kernel)⟩
theorem lw_p21 : lw_okq (⟨"RoomMaker$Rooms", "share", "(LRoomMaker$Spans;I)V"⟩, 4) := ⟨⟨by decide +kernel, by decide +kernel⟩, List.mem_of_getElem? (i := 98) (by decide +kernel), List.mem_of_getElem? (i := 420) (by decide +kernel), List.mem_of_getElem? (i := 421) (by decide +kernel)⟩
theorem lw_p22 : lw_okq (⟨"RoomMaker$Rooms", "release", "(LRoomMaker$Spans;I)V"⟩, 4) := ⟨⟨by decide +kernel, by decide +kernel⟩, List.mem_of_getElem? (i := 98) (by decide +kernel), List.mem_of_getElem? (i := 425) (by decide +kernel), List.mem_of_getElem? (i := 426) (by decide +kernel)⟩
theorem lw_p23 : lw_okq (⟨"RoomMaker$Rooms", "settle", "(LRoomMaker$Spans;I)V"⟩, 4) := ⟨⟨by decide +kernel, by decide +kernel⟩, List.mem_of_getElem? (i := 98) (by decide +kernel), List.mem_of_getElem? (i := 429) (by decide +kernel), List.mem_of_getElem? (i := 430) (by decide +kernel)⟩
theorem lw_p24 : lw_okq (⟨"RoomMaker$Rooms", "leastFree", "()I"⟩, 4) := ⟨⟨by decide +kernel, by decide +kernel⟩, List.mem_of_getElem? (i := 98) (by decide +kernel), List.mem_of_getElem? (i := 433) (by decide +kernel), List.mem_of_getElem? (i := 434) (by decide +kernel)⟩
theorem lw_p25 : lw_okq (⟨"RoomMaker$Rooms", "longestOf", "(LRoomMaker$Spans;I)I"⟩, 4) := ⟨⟨by decide +kernel, by decide +kernel⟩, List.mem_of_getElem? (i := 98) (by decide +kernel), List.mem_of_getElem? (i := 437) (by decide +kernel), List.mem_of_getElem? (i := 438) (by decide +kernel)⟩
theorem lw_p26 : lw_okq (⟨"RoomMaker$Spans", "outlasts", "(II)Z"⟩, 4) := ⟨⟨by decide +kernel, by decide +kernel⟩, List.mem_of_getElem? (i := 72) (by decide +kernel), List.mem_of_getElem? (i := 441) (by decide +kernel), List.mem_of_getElem? (i := 442) (by decide +kernel)⟩
theorem lw_p27 : lw_okq (⟨"RoomMaker$Machine", "take", "(LRoomMaker$Program;LRoomMaker$Rooms;)V"⟩, 14) := ⟨⟨by decide +kernel, by decide +kernel⟩, List.mem_of_getElem? (i := 120) (by decide +kernel), List.mem_of_getElem? (i := 445) (by decide +kernel), List.mem_of_getElem? (i := 446) (by decide +kernel)⟩
theorem lw_p28 : lw_okq (⟨"RoomMaker$Machine", "advance", "(ILRoomMaker$Inputs;)I"⟩, 14) := ⟨⟨by decide +kernel, by decide +kernel⟩, List.mem_of_getElem? (i := 120) (by decide +kernel), List.mem_of_getElem? (i := 505) (by decide +kernel), List.mem_of_getElem? (i := 506) (by decide +kernel)⟩
theorem lw_p29 : lw_okq (⟨"RoomMaker$Machine", "step", "(LRoomMaker$Inputs;)V"⟩, 14) := ⟨⟨by decide +kernel, by decide +kernel⟩, List.mem_of_getElem? (i := 120) (by decide +kernel), List.mem_of_getElem? (i := 509) (by decide +kernel), List.mem_of_getElem? (i := 510) (by decide +kernel)⟩
theorem lw_p30 : lw_okq (⟨"RoomMaker$Machine", "assign", "(II)V"⟩, 14) := ⟨⟨by decide +kernel, by decide +kernel⟩, List.mem_of_getElem? (i := 120) (by decide +kernel), List.mem_of_getElem? (i := 513) (by decide +kernel), List.mem_of_getElem? (i := 514) (by decide +kernel)⟩
theorem lw_p31 : lw_okq (⟨"RoomMaker$Machine", "fetch", "(I)I"⟩, 14) := ⟨⟨by decide +kernel, by decide +kernel⟩, List.mem_of_getElem? (i := 120) (by decide +kernel), List.mem_of_getElem? (i := 517) (by decide +kernel), List.mem_of_getElem? (i := 518) (by decide +kernel)⟩
def lw_privs_2 : List (MethodName × Nat) := [(⟨"RoomMaker$Spans", "livingAhead", "(I)I"⟩, 4), (⟨"RoomMaker$Program", "readBy", "(I)I"⟩, 5), (⟨"RoomMaker$Program", "setBy", "(I)I"⟩, 5), (⟨"RoomMaker$Spans", "measure", "(LRoomMaker$Program;)V"⟩, 4), (⟨"RoomMaker$Spans", "stretch", "(II)V"⟩, 4), (⟨"RoomMaker$Rooms", "share", "(LRoomMaker$Spans;I)V"⟩, 4), (⟨"RoomMaker$Rooms", "release", "(LRoomMaker$Spans;I)V"⟩, 4), (⟨"RoomMaker$Rooms", "settle", "(LRoomMaker$Spans;I)V"⟩, 4), (⟨"RoomMaker$Rooms", "leastFree", "()I"⟩, 4), (⟨"RoomMaker$Rooms", "longestOf", "(LRoomMaker$Spans;I)I"⟩, 4), (⟨"RoomMaker$Spans", "outlasts", "(II)Z"⟩, 4), (⟨"RoomMaker$Machine", "take", "(LRoomMaker$Program;LRoomMaker$Rooms;)V"⟩, 14), (⟨"RoomMaker$Machine", "advance", "(ILRoomMaker$Inputs;)I"⟩, 14), (⟨"RoomMaker$Machine", "step", "(LRoomMaker$Inputs;)V"⟩, 14), (⟨"RoomMaker$Machine", "assign", "(II)V"⟩, 14), (⟨"RoomMaker$Machine", "fetch", "(I)I"⟩, 14)]
theorem lw_r2 : ∀ q ∈ lw_privs_2, lw_okq q := List.forall_mem_cons.mpr ⟨lw_p16, List.forall_mem_cons.mpr ⟨lw_p17, List.forall_mem_cons.mpr ⟨lw_p18, List.forall_mem_cons.mpr ⟨lw_p19, List.forall_mem_cons.mpr ⟨lw_p20, List.forall_mem_cons.mpr ⟨lw_p21, List.forall_mem_cons.mpr ⟨lw_p22, List.forall_mem_cons.mpr ⟨lw_p23, List.forall_mem_cons.mpr ⟨lw_p24, List.forall_mem_cons.mpr ⟨lw_p25, List.forall_mem_cons.mpr ⟨lw_p26, List.forall_mem_cons.mpr ⟨lw_p27, List.forall_mem_cons.mpr ⟨lw_p28, List.forall_mem_cons.mpr ⟨lw_p29, List.forall_mem_cons.mpr ⟨lw_p30, List.forall_mem_cons.mpr ⟨lw_p31, fun _ h => absurd h List.not_mem_nil⟩⟩⟩⟩⟩⟩⟩⟩⟩⟩⟩⟩⟩⟩⟩⟩
theorem lw_p32 : lw_okq (⟨"RoomMaker$Machine", "contentOf", "(I)I"⟩, 14) := ⟨⟨by decide +kernel, by decide +kernel⟩, List.mem_of_getElem? (i := 120) (by decide +kernel), List.mem_of_getElem? (i := 521) (by decide +kernel), List.mem_of_getElem? (i := 522) (by decide +kernel)⟩
theorem lw_p33 : lw_okq (⟨"RoomMaker$Inputs", "next", "()I"⟩, 3) := ⟨⟨by decide +kernel, by decide +kernel⟩, List.mem_of_getElem? (i := 55) (by decide +kernel), List.mem_of_getElem? (i := 525) (by decide +kernel), List.mem_of_getElem? (i := 526) (by decide +kernel)⟩
theorem lw_p34 : lw_okq (⟨"RoomMaker$Machine", "write", "(I)V"⟩, 14) := ⟨⟨by decide +kernel, by decide +kernel⟩, List.mem_of_getElem? (i := 120) (by decide +kernel), List.mem_of_getElem? (i := 529) (by decide +kernel), List.mem_of_getElem? (i := 530) (by decide +kernel)⟩
theorem lw_p35 : lw_okq (⟨"RoomMaker$Machine", "reckon", "(IIII)V"⟩, 14) := ⟨⟨by decide +kernel, by decide +kernel⟩, List.mem_of_getElem? (i := 120) (by decide +kernel), List.mem_of_getElem? (i := 533) (by decide +kernel), List.mem_of_getElem? (i := 534) (by decide +kernel)⟩
theorem lw_p36 : lw_okq (⟨"RoomMaker$Machine", "jump", "(IIII)V"⟩, 14) := ⟨⟨by decide +kernel, by decide +kernel⟩, List.mem_of_getElem? (i := 120) (by decide +kernel), List.mem_of_getElem? (i := 537) (by decide +kernel), List.mem_of_getElem? (i := 538) (by decide +kernel)⟩
theorem lw_p37 : lw_okq (⟨"RoomMakerModel", "forget", "()V"⟩, 24) := ⟨⟨by decide +kernel, by decide +kernel⟩, List.mem_of_getElem? (i := 551) (by decide +kernel), List.mem_of_getElem? (i := 648) (by decide +kernel), List.mem_of_getElem? (i := 649) (by decide +kernel)⟩
theorem lw_p38 : lw_okq (⟨"RoomMakerModel", "goesNowhere", "()Z"⟩, 24) := ⟨⟨by decide +kernel, by decide +kernel⟩, List.mem_of_getElem? (i := 551) (by decide +kernel), List.mem_of_getElem? (i := 664) (by decide +kernel), List.mem_of_getElem? (i := 665) (by decide +kernel)⟩
theorem lw_p39 : lw_okq (⟨"RoomMakerModel", "spans", "()V"⟩, 24) := ⟨⟨by decide +kernel, by decide +kernel⟩, List.mem_of_getElem? (i := 551) (by decide +kernel), List.mem_of_getElem? (i := 668) (by decide +kernel), List.mem_of_getElem? (i := 669) (by decide +kernel)⟩
theorem lw_p40 : lw_okq (⟨"RoomMakerModel", "isLiving", "(II)Z"⟩, 24) := ⟨⟨by decide +kernel, by decide +kernel⟩, List.mem_of_getElem? (i := 551) (by decide +kernel), List.mem_of_getElem? (i := 672) (by decide +kernel), List.mem_of_getElem? (i := 673) (by decide +kernel)⟩
theorem lw_p41 : lw_okq (⟨"RoomMakerModel", "come", "(I)V"⟩, 24) := ⟨⟨by decide +kernel, by decide +kernel⟩, List.mem_of_getElem? (i := 551) (by decide +kernel), List.mem_of_getElem? (i := 676) (by decide +kernel), List.mem_of_getElem? (i := 677) (by decide +kernel)⟩
theorem lw_p42 : lw_okq (⟨"RoomMakerModel", "reads", "(II)Z"⟩, 24) := ⟨⟨by decide +kernel, by decide +kernel⟩, List.mem_of_getElem? (i := 551) (by decide +kernel), List.mem_of_getElem? (i := 680) (by decide +kernel), List.mem_of_getElem? (i := 681) (by decide +kernel)⟩
theorem lw_p43 : lw_okq (⟨"RoomMakerModel", "sets", "(II)Z"⟩, 24) := ⟨⟨by decide +kernel, by decide +kernel⟩, List.mem_of_getElem? (i := 551) (by decide +kernel), List.mem_of_getElem? (i := 684) (by decide +kernel), List.mem_of_getElem? (i := 685) (by decide +kernel)⟩
theorem lw_p44 : lw_okq (⟨"RoomMakerModel", "next", "(I)I"⟩, 24) := ⟨⟨by decide +kernel, by decide +kernel⟩, List.mem_of_getElem? (i := 551) (by decide +kernel), List.mem_of_getElem? (i := 688) (by decide +kernel), List.mem_of_getElem? (i := 689) (by decide +kernel)⟩
theorem lw_p45 : lw_okq (⟨"RoomMakerModel", "settle", "(II)V"⟩, 24) := ⟨⟨by decide +kernel, by decide +kernel⟩, List.mem_of_getElem? (i := 551) (by decide +kernel), List.mem_of_getElem? (i := 692) (by decide +kernel), List.mem_of_getElem? (i := 693) (by decide +kernel)⟩
theorem lw_p46 : lw_okq (⟨"RoomMakerModel", "isTaken", "(II)Z"⟩, 24) := ⟨⟨by decide +kernel, by decide +kernel⟩, List.mem_of_getElem? (i := 551) (by decide +kernel), List.mem_of_getElem? (i := 696) (by decide +kernel), List.mem_of_getElem? (i := 697) (by decide +kernel)⟩
theorem lw_p47 : lw_okq (⟨"RoomMakerModel", "latest", "(II)I"⟩, 24) := ⟨⟨by decide +kernel, by decide +kernel⟩, List.mem_of_getElem? (i := 551) (by decide +kernel), List.mem_of_getElem? (i := 700) (by decide +kernel), List.mem_of_getElem? (i := 701) (by decide +kernel)⟩
def lw_privs_3 : List (MethodName × Nat) := [(⟨"RoomMaker$Machine", "contentOf", "(I)I"⟩, 14), (⟨"RoomMaker$Inputs", "next", "()I"⟩, 3), (⟨"RoomMaker$Machine", "write", "(I)V"⟩, 14), (⟨"RoomMaker$Machine", "reckon", "(IIII)V"⟩, 14), (⟨"RoomMaker$Machine", "jump", "(IIII)V"⟩, 14), (⟨"RoomMakerModel", "forget", "()V"⟩, 24), (⟨"RoomMakerModel", "goesNowhere", "()Z"⟩, 24), (⟨"RoomMakerModel", "spans", "()V"⟩, 24), (⟨"RoomMakerModel", "isLiving", "(II)Z"⟩, 24), (⟨"RoomMakerModel", "come", "(I)V"⟩, 24), (⟨"RoomMakerModel", "reads", "(II)Z"⟩, 24), (⟨"RoomMakerModel", "sets", "(II)Z"⟩, 24), (⟨"RoomMakerModel", "next", "(I)I"⟩, 24), (⟨"RoomMakerModel", "settle", "(II)V"⟩, 24), (⟨"RoomMakerModel", "isTaken", "(II)Z"⟩, 24), (⟨"RoomMakerModel", "latest", "(II)I"⟩, 24)]
theorem lw_r3 : ∀ q ∈ lw_privs_3, lw_okq q := List.forall_mem_cons.mpr ⟨lw_p32, List.forall_mem_cons.mpr ⟨lw_p33, List.forall_mem_cons.mpr ⟨lw_p34, List.forall_mem_cons.mpr ⟨lw_p35, List.forall_mem_cons.mpr ⟨lw_p36, List.forall_mem_cons.mpr ⟨lw_p37, List.forall_mem_cons.mpr ⟨lw_p38, List.forall_mem_cons.mpr ⟨lw_p39, List.forall_mem_cons.mpr ⟨lw_p40, List.forall_mem_cons.mpr ⟨lw_p41, List.forall_mem_cons.mpr ⟨lw_p42, List.forall_mem_cons.mpr ⟨lw_p43, List.forall_mem_cons.mpr ⟨lw_p44, List.forall_mem_cons.mpr ⟨lw_p45, List.forall_mem_cons.mpr ⟨lw_p46, List.forall_mem_cons.mpr ⟨lw_p47, fun _ h => absurd h List.not_mem_nil⟩⟩⟩⟩⟩⟩⟩⟩⟩⟩⟩⟩⟩⟩⟩⟩
theorem lw_p48 : lw_okq (⟨"RoomMakerModel", "begin", "()V"⟩, 24) := ⟨⟨by decide +kernel, by decide +kernel⟩, List.mem_of_getElem? (i := 551) (by decide +kernel), List.mem_of_getElem? (i := 704) (by decide +kernel), List.mem_of_getElem? (i := 705) (by decide +kernel)⟩
theorem lw_p49 : lw_okq (⟨"RoomMakerModel", "step", "()V"⟩, 24) := ⟨⟨by decide +kernel, by decide +kernel⟩, List.mem_of_getElem? (i := 551) (by decide +kernel), List.mem_of_getElem? (i := 728) (by decide +kernel), List.mem_of_getElem? (i := 729) (by decide +kernel)⟩
theorem lw_p50 : lw_okq (⟨"RoomMakerModel", "copy", "(II)V"⟩, 24) := ⟨⟨by decide +kernel, by decide +kernel⟩, List.mem_of_getElem? (i := 551) (by decide +kernel), List.mem_of_getElem? (i := 732) (by decide +kernel), List.mem_of_getElem? (i := 733) (by decide +kernel)⟩
theorem lw_p51 : lw_okq (⟨"RoomMakerModel", "get", "(I)I"⟩, 24) := ⟨⟨by decide +kernel, by decide +kernel⟩, List.mem_of_getElem? (i := 551) (by decide +kernel), List.mem_of_getElem? (i := 736) (by decide +kernel), List.mem_of_getElem? (i := 737) (by decide +kernel)⟩
theorem lw_p52 : lw_okq (⟨"RoomMakerModel", "bring", "(II)V"⟩, 24) := ⟨⟨by decide +kernel, by decide +kernel⟩, List.mem_of_getElem? (i := 551) (by decide +kernel), List.mem_of_getElem? (i := 740) (by decide +kernel), List.mem_of_getElem? (i := 741) (by decide +kernel)⟩
theorem lw_p53 : lw_okq (⟨"RoomMakerModel", "made", "(III)I"⟩, 24) := ⟨⟨by decide +kernel, by decide +kernel⟩, List.mem_of_getElem? (i := 551) (by decide +kernel), List.mem_of_getElem? (i := 744) (by decide +kernel), List.mem_of_getElem? (i := 745) (by decide +kernel)⟩
theorem lw_p54 : lw_okq (⟨"RoomMakerModel", "input", "()I"⟩, 24) := ⟨⟨by decide +kernel, by decide +kernel⟩, List.mem_of_getElem? (i := 551) (by decide +kernel), List.mem_of_getElem? (i := 748) (by decide +kernel), List.mem_of_getElem? (i := 749) (by decide +kernel)⟩
def lw_privs_4 : List (MethodName × Nat) := [(⟨"RoomMakerModel", "begin", "()V"⟩, 24), (⟨"RoomMakerModel", "step", "()V"⟩, 24), (⟨"RoomMakerModel", "copy", "(II)V"⟩, 24), (⟨"RoomMakerModel", "get", "(I)I"⟩, 24), (⟨"RoomMakerModel", "bring", "(II)V"⟩, 24), (⟨"RoomMakerModel", "made", "(III)I"⟩, 24), (⟨"RoomMakerModel", "input", "()I"⟩, 24)]
theorem lw_r4 : ∀ q ∈ lw_privs_4, lw_okq q := List.forall_mem_cons.mpr ⟨lw_p48, List.forall_mem_cons.mpr ⟨lw_p49, List.forall_mem_cons.mpr ⟨lw_p50, List.forall_mem_cons.mpr ⟨lw_p51, List.forall_mem_cons.mpr ⟨lw_p52, List.forall_mem_cons.mpr ⟨lw_p53, List.forall_mem_cons.mpr ⟨lw_p54, fun _ h => absurd h List.not_mem_nil⟩⟩⟩⟩⟩⟩⟩
def lw_privs : List (MethodName × Nat) := lw_privs_1 ++ (lw_privs_2 ++ (lw_privs_3 ++ (lw_privs_4)))
def lw_tbl : List Cond := k2_sels lw_privs ++ tables_1
theorem lw_privs_ok : ∀ q ∈ lw_privs, lw_okq q := by
  show ∀ q ∈ lw_privs_1 ++ (lw_privs_2 ++ (lw_privs_3 ++ (lw_privs_4))), lw_okq q
  exact List.forall_mem_append.mpr ⟨lw_r1, List.forall_mem_append.mpr ⟨lw_r2, List.forall_mem_append.mpr ⟨lw_r3, lw_r4⟩⟩⟩
end
section
/-! names: a class's fields in the order of the slots; a method's code and name -/
def rm_F : u_T := fun k => match k with
  | 0 => ("RoomMaker", "program", "LRoomMaker$Program;", true)
  | 1 => ("RoomMaker", "inputs", "LRoomMaker$Inputs;", true)
  | 2 => ("RoomMaker", "spans", "LRoomMaker$Spans;", true)
  | 3 => ("RoomMaker", "rooms", "LRoomMaker$Rooms;", true)
  | 4 => ("RoomMaker", "machine", "LRoomMaker$Machine;", true)
  | _ => ("RoomMaker", "built", "Z", false)
def rm_t : Nat → FieldType := fun k => match k with
  | 0 => .object "RoomMaker$Program"
  | 1 => .object "RoomMaker$Inputs"
  | 2 => .object "RoomMaker$Spans"
  | 3 => .object "RoomMaker$Rooms"
  | 4 => .object "RoomMaker$Machine"
  | _ => .boolean
theorem rm_n : ∀ a, a < 6 → ∀ b, b < 6 → a ≠ b → (rm_F a).2.1 ≠ (rm_F b).2.1 := by decide +kernel
theorem rm_ok : ∀ k, k < 6 → parseFieldDescriptor (rm_F k).2.2.1 = some (rm_t k) := by decide +kernel
def pg_F : u_T := fun k => match k with
  | 0 => ("RoomMaker$Program", "sorts", "[I", true)
  | 1 => ("RoomMaker$Program", "xs", "[I", true)
  | 2 => ("RoomMaker$Program", "ys", "[I", true)
  | 3 => ("RoomMaker$Program", "zs", "[I", true)
  | _ => ("RoomMaker$Program", "length", "I", false)
def pg_t : Nat → FieldType := fun k => match k with
  | 0 => .array .int
  | 1 => .array .int
  | 2 => .array .int
  | 3 => .array .int
  | _ => .int
theorem pg_n : ∀ a, a < 5 → ∀ b, b < 5 → a ≠ b → (pg_F a).2.1 ≠ (pg_F b).2.1 := by decide +kernel
theorem pg_ok : ∀ k, k < 5 → parseFieldDescriptor (pg_F k).2.2.1 = some (pg_t k) := by decide +kernel
def ip_F : u_T := fun k => match k with
  | 0 => ("RoomMaker$Inputs", "ring", "[I", true)
  | 1 => ("RoomMaker$Inputs", "head", "I", false)
  | _ => ("RoomMaker$Inputs", "waiting", "I", false)
def ip_t : Nat → FieldType := fun k => match k with
  | 0 => .array .int
  | 1 => .int
  | _ => .int
theorem ip_n : ∀ a, a < 3 → ∀ b, b < 3 → a ≠ b → (ip_F a).2.1 ≠ (ip_F b).2.1 := by decide +kernel
theorem ip_ok : ∀ k, k < 3 → parseFieldDescriptor (ip_F k).2.2.1 = some (ip_t k) := by decide +kernel
def sp_F : u_T := fun k => match k with
  | 0 => ("RoomMaker$Spans", "livingAt", "[I", true)
  | 1 => ("RoomMaker$Spans", "firstOf", "[I", true)
  | 2 => ("RoomMaker$Spans", "lastOf", "[I", true)
  | _ => ("RoomMaker$Spans", "points", "I", false)
def sp_t : Nat → FieldType := fun k => match k with
  | 0 => .array .int
  | 1 => .array .int
  | 2 => .array .int
  | _ => .int
theorem sp_n : ∀ a, a < 4 → ∀ b, b < 4 → a ≠ b → (sp_F a).2.1 ≠ (sp_F b).2.1 := by decide +kernel
theorem sp_ok : ∀ k, k < 4 → parseFieldDescriptor (sp_F k).2.2.1 = some (sp_t k) := by decide +kernel
def ro_F : u_T := fun k => match k with
  | 0 => ("RoomMaker$Rooms", "placeOf", "[I", true)
  | 1 => ("RoomMaker$Rooms", "holders", "[I", true)
  | 2 => ("RoomMaker$Rooms", "registers", "I", false)
  | _ => ("RoomMaker$Rooms", "stacked", "I", false)
def ro_t : Nat → FieldType := fun k => match k with
  | 0 => .array .int
  | 1 => .array .int
  | 2 => .int
  | _ => .int
theorem ro_n : ∀ a, a < 4 → ∀ b, b < 4 → a ≠ b → (ro_F a).2.1 ≠ (ro_F b).2.1 := by decide +kernel
theorem ro_ok : ∀ k, k < 4 → parseFieldDescriptor (ro_F k).2.2.1 = some (ro_t k) := by decide +kernel
def ma_F : u_T := fun k => match k with
  | 0 => ("RoomMaker$Machine", "sorts", "[I", true)
  | 1 => ("RoomMaker$Machine", "xs", "[I", true)
  | 2 => ("RoomMaker$Machine", "ys", "[I", true)
  | 3 => ("RoomMaker$Machine", "zs", "[I", true)
  | 4 => ("RoomMaker$Machine", "length", "I", false)
  | 5 => ("RoomMaker$Machine", "contents", "[I", true)
  | 6 => ("RoomMaker$Machine", "cells", "[I", true)
  | 7 => ("RoomMaker$Machine", "outputs", "[I", true)
  | 8 => ("RoomMaker$Machine", "next", "I", false)
  | 9 => ("RoomMaker$Machine", "done", "I", false)
  | 10 => ("RoomMaker$Machine", "loads", "I", false)
  | 11 => ("RoomMaker$Machine", "stores", "I", false)
  | 12 => ("RoomMaker$Machine", "leftOut", "I", false)
  | _ => ("RoomMaker$Machine", "outputsMade", "I", false)
def ma_t : Nat → FieldType := fun k => match k with
  | 0 => .array .int
  | 1 => .array .int
  | 2 => .array .int
  | 3 => .array .int
  | 4 => .int
  | 5 => .array .int
  | 6 => .array .int
  | 7 => .array .int
  | 8 => .int
  | 9 => .int
  | 10 => .int
  | 11 => .int
  | 12 => .int
  | _ => .int
theorem ma_n : ∀ a, a < 14 → ∀ b, b < 14 → a ≠ b → (ma_F a).2.1 ≠ (ma_F b).2.1 := by decide +kernel
theorem ma_ok : ∀ k, k < 14 → parseFieldDescriptor (ma_F k).2.2.1 = some (ma_t k) := by decide +kernel
def mo_F : u_T := fun k => match k with
  | 0 => ("RoomMakerModel", "thrown", "I", false)
  | 1 => ("RoomMakerModel", "code", "[I", true)
  | 2 => ("RoomMakerModel", "size", "I", false)
  | 3 => ("RoomMakerModel", "inputs", "[I", true)
  | 4 => ("RoomMakerModel", "waiting", "I", false)
  | 5 => ("RoomMakerModel", "built", "Z", false)
  | 6 => ("RoomMakerModel", "living", "[Z", true)
  | 7 => ("RoomMakerModel", "met", "[Z", true)
  | 8 => ("RoomMakerModel", "todo", "[I", true)
  | 9 => ("RoomMakerModel", "left", "I", false)
  | 10 => ("RoomMakerModel", "first", "[I", true)
  | 11 => ("RoomMakerModel", "last", "[I", true)
  | 12 => ("RoomMakerModel", "places", "[I", true)
  | 13 => ("RoomMakerModel", "stacked", "I", false)
  | 14 => ("RoomMakerModel", "registers", "[I", true)
  | 15 => ("RoomMakerModel", "stack", "[I", true)
  | 16 => ("RoomMakerModel", "cells", "[I", true)
  | 17 => ("RoomMakerModel", "written", "[I", true)
  | 18 => ("RoomMakerModel", "at", "I", false)
  | 19 => ("RoomMakerModel", "done", "I", false)
  | 20 => ("RoomMakerModel", "loads", "I", false)
  | 21 => ("RoomMakerModel", "stores", "I", false)
  | 22 => ("RoomMakerModel", "copies", "I", false)
  | _ => ("RoomMakerModel", "outputs", "I", false)
def mo_t : Nat → FieldType := fun k => match k with
  | 0 => .int
  | 1 => .array .int
  | 2 => .int
  | 3 => .array .int
  | 4 => .int
  | 5 => .boolean
  | 6 => .array .boolean
  | 7 => .array .boolean
  | 8 => .array .int
  | 9 => .int
  | 10 => .array .int
  | 11 => .array .int
  | 12 => .array .int
  | 13 => .int
  | 14 => .array .int
  | 15 => .array .int
  | 16 => .array .int
  | 17 => .array .int
  | 18 => .int
  | 19 => .int
  | 20 => .int
  | 21 => .int
  | 22 => .int
  | _ => .int
theorem mo_n : ∀ a, a < 24 → ∀ b, b < 24 → a ≠ b → (mo_F a).2.1 ≠ (mo_F b).2.1 := by decide +kernel
theorem mo_ok : ∀ k, k < 24 → parseFieldDescriptor (mo_F k).2.2.1 = some (mo_t k) := by decide +kernel
abbrev vwCl : List vw_C := [("RoomMaker", rm_F, 6), ("RoomMaker$Program", pg_F, 5), ("RoomMaker$Inputs", ip_F, 3), ("RoomMaker$Spans", sp_F, 4), ("RoomMaker$Rooms", ro_F, 4), ("RoomMaker$Machine", ma_F, 14), ("RoomMakerModel", mo_F, 24)]
abbrev rm_init_b : ByteArray := prog_1_method_1_code
abbrev rm_init_y : MethodName := ⟨"RoomMaker", "<init>", "()V"⟩
abbrev pg_init_b : ByteArray := prog_4_method_1_code
abbrev pg_init_y : MethodName := ⟨"RoomMaker$Program", "<init>", "()V"⟩
abbrev ip_init_b : ByteArray := prog_2_method_1_code
abbrev ip_init_y : MethodName := ⟨"RoomMaker$Inputs", "<init>", "()V"⟩
abbrev sp_init_b : ByteArray := prog_6_method_1_code
abbrev sp_init_y : MethodName := ⟨"RoomMaker$Spans", "<init>", "()V"⟩
abbrev ro_init_b : ByteArray := prog_5_method_1_code
abbrev ro_init_y : MethodName := ⟨"RoomMaker$Rooms", "<init>", "()V"⟩
abbrev ma_init_b : ByteArray := prog_3_method_1_code
abbrev ma_init_y : MethodName := ⟨"RoomMaker$Machine", "<init>", "()V"⟩
abbrev rm_clear_b : ByteArray := prog_1_method_3_code
abbrev rm_clear_y : MethodName := ⟨"RoomMaker", "clear", "()I"⟩
abbrev ip_drop_b : ByteArray := prog_2_method_4_code
abbrev ip_drop_y : MethodName := ⟨"RoomMaker$Inputs", "drop", "()V"⟩
abbrev rm_give_b : ByteArray := prog_1_method_4_code
abbrev rm_give_y : MethodName := ⟨"RoomMaker", "give", "(I)I"⟩
abbrev ip_append_b : ByteArray := prog_2_method_2_code
abbrev ip_append_y : MethodName := ⟨"RoomMaker$Inputs", "append", "(I)I"⟩
abbrev rm_pressure_b : ByteArray := prog_1_method_9_code
abbrev rm_pressure_y : MethodName := ⟨"RoomMaker", "pressure", "()I"⟩
abbrev sp_mostAtOnce_b : ByteArray := prog_6_method_8_code
abbrev sp_mostAtOnce_y : MethodName := ⟨"RoomMaker$Spans", "mostAtOnce", "()I"⟩
abbrev sp_spanning_b : ByteArray := prog_6_method_9_code
abbrev sp_spanning_y : MethodName := ⟨"RoomMaker$Spans", "spanning", "(I)I"⟩
abbrev mt_max_b : ByteArray := prog_13_method_65_code
abbrev mt_max_y : MethodName := ⟨"java/lang/Math", "max", "(II)I"⟩
abbrev rm_restart_b : ByteArray := prog_1_method_11_code
abbrev rm_restart_y : MethodName := ⟨"RoomMaker", "restart", "()Z"⟩
abbrev ma_begin_b : ByteArray := prog_3_method_4_code
abbrev ma_begin_y : MethodName := ⟨"RoomMaker$Machine", "begin", "()V"⟩
abbrev ar_fill_b : ByteArray := prog_17_method_103_code
abbrev ar_fill_y : MethodName := ⟨"java/util/Arrays", "fill", "([II)V"⟩
abbrev rm_output_b : ByteArray := prog_1_method_13_code
abbrev rm_output_y : MethodName := ⟨"RoomMaker", "output", "(I)I"⟩
abbrev ma_written_b : ByteArray := prog_3_method_14_code
abbrev ma_written_y : MethodName := ⟨"RoomMaker$Machine", "written", "(I)I"⟩
abbrev rm_count_b : ByteArray := prog_1_method_14_code
abbrev rm_count_y : MethodName := ⟨"RoomMaker", "count", "(I)I"⟩
abbrev ma_tally_b : ByteArray := prog_3_method_15_code
abbrev ma_tally_y : MethodName := ⟨"RoomMaker$Machine", "tally", "(I)I"⟩
abbrev ma_isAtEnd_b : ByteArray := prog_3_method_5_code
abbrev ma_isAtEnd_y : MethodName := ⟨"RoomMaker$Machine", "isAtEnd", "()Z"⟩
abbrev la_put_b : ByteArray := method_3_code
abbrev la_put_y : MethodName := ⟨"RoomMakerLaw", "put", "(LRoomMaker;IIII[J)I"⟩
abbrev rm_put_b : ByteArray := prog_1_method_2_code
abbrev rm_put_y : MethodName := ⟨"RoomMaker", "put", "(IIII)I"⟩
abbrev pg_allows_b : ByteArray := prog_4_method_2_code
abbrev pg_allows_y : MethodName := ⟨"RoomMaker$Program", "allows", "(IIII)Z"⟩
abbrev pg_fits_b : ByteArray := prog_4_method_3_code
abbrev pg_fits_y : MethodName := ⟨"RoomMaker$Program", "fits", "(II)Z"⟩
abbrev rm_isValue_b : ByteArray := prog_1_method_15_code
abbrev rm_isValue_y : MethodName := ⟨"RoomMaker", "isValue", "(I)Z"⟩
abbrev pg_append_b : ByteArray := prog_4_method_4_code
abbrev pg_append_y : MethodName := ⟨"RoomMaker$Program", "append", "(IIII)I"⟩
abbrev la_build_b : ByteArray := method_4_code
abbrev la_build_y : MethodName := ⟨"RoomMakerLaw", "build", "(LRoomMaker;I[J)I"⟩
abbrev rm_build_b : ByteArray := prog_1_method_5_code
abbrev rm_build_y : MethodName := ⟨"RoomMaker", "build", "(I)I"⟩
abbrev pg_leadsAstray_b : ByteArray := prog_4_method_10_code
abbrev pg_leadsAstray_y : MethodName := ⟨"RoomMaker$Program", "leadsAstray", "()Z"⟩
abbrev pg_targetOf_b : ByteArray := prog_4_method_8_code
abbrev pg_targetOf_y : MethodName := ⟨"RoomMaker$Program", "targetOf", "(I)I"⟩
abbrev sp_find_b : ByteArray := prog_6_method_2_code
abbrev sp_find_y : MethodName := ⟨"RoomMaker$Spans", "find", "(LRoomMaker$Program;)V"⟩
abbrev sp_passBack_b : ByteArray := prog_6_method_3_code
abbrev sp_passBack_y : MethodName := ⟨"RoomMaker$Spans", "passBack", "(LRoomMaker$Program;)Z"⟩
abbrev sp_livingBehind_b : ByteArray := prog_6_method_4_code
abbrev sp_livingBehind_y : MethodName := ⟨"RoomMaker$Spans", "livingBehind", "(LRoomMaker$Program;I)I"⟩
abbrev pg_goesOn_b : ByteArray := prog_4_method_9_code
abbrev pg_goesOn_y : MethodName := ⟨"RoomMaker$Program", "goesOn", "(I)Z"⟩
abbrev sp_livingAhead_b : ByteArray := prog_6_method_5_code
abbrev sp_livingAhead_y : MethodName := ⟨"RoomMaker$Spans", "livingAhead", "(I)I"⟩
abbrev pg_readBy_b : ByteArray := prog_4_method_5_code
abbrev pg_readBy_y : MethodName := ⟨"RoomMaker$Program", "readBy", "(I)I"⟩
abbrev pg_bitIf_b : ByteArray := prog_4_method_7_code
abbrev pg_bitIf_y : MethodName := ⟨"RoomMaker$Program", "bitIf", "(ZI)I"⟩
abbrev pg_setBy_b : ByteArray := prog_4_method_6_code
abbrev pg_setBy_y : MethodName := ⟨"RoomMaker$Program", "setBy", "(I)I"⟩
abbrev sp_measure_b : ByteArray := prog_6_method_6_code
abbrev sp_measure_y : MethodName := ⟨"RoomMaker$Spans", "measure", "(LRoomMaker$Program;)V"⟩
abbrev sp_stretch_b : ByteArray := prog_6_method_7_code
abbrev sp_stretch_y : MethodName := ⟨"RoomMaker$Spans", "stretch", "(II)V"⟩
abbrev ro_share_b : ByteArray := prog_5_method_2_code
abbrev ro_share_y : MethodName := ⟨"RoomMaker$Rooms", "share", "(LRoomMaker$Spans;I)V"⟩
abbrev ro_release_b : ByteArray := prog_5_method_3_code
abbrev ro_release_y : MethodName := ⟨"RoomMaker$Rooms", "release", "(LRoomMaker$Spans;I)V"⟩
abbrev ro_settle_b : ByteArray := prog_5_method_4_code
abbrev ro_settle_y : MethodName := ⟨"RoomMaker$Rooms", "settle", "(LRoomMaker$Spans;I)V"⟩
abbrev ro_leastFree_b : ByteArray := prog_5_method_5_code
abbrev ro_leastFree_y : MethodName := ⟨"RoomMaker$Rooms", "leastFree", "()I"⟩
abbrev ro_longestOf_b : ByteArray := prog_5_method_6_code
abbrev ro_longestOf_y : MethodName := ⟨"RoomMaker$Rooms", "longestOf", "(LRoomMaker$Spans;I)I"⟩
abbrev sp_outlasts_b : ByteArray := prog_6_method_10_code
abbrev sp_outlasts_y : MethodName := ⟨"RoomMaker$Spans", "outlasts", "(II)Z"⟩
abbrev ma_take_b : ByteArray := prog_3_method_2_code
abbrev ma_take_y : MethodName := ⟨"RoomMaker$Machine", "take", "(LRoomMaker$Program;LRoomMaker$Rooms;)V"⟩
abbrev ma_operand_b : ByteArray := prog_3_method_3_code
abbrev ma_operand_y : MethodName := ⟨"RoomMaker$Machine", "operand", "(IILRoomMaker$Rooms;)I"⟩
abbrev la_span_b : ByteArray := method_5_code
abbrev la_span_y : MethodName := ⟨"RoomMakerLaw", "span", "(LRoomMaker;IZ[J)I"⟩
abbrev rm_span_b : ByteArray := prog_1_method_6_code
abbrev rm_span_y : MethodName := ⟨"RoomMaker", "span", "(IZ)I"⟩
abbrev la_lives_b : ByteArray := method_6_code
abbrev la_lives_y : MethodName := ⟨"RoomMakerLaw", "lives", "(LRoomMaker;II[J)I"⟩
abbrev rm_lives_b : ByteArray := prog_1_method_7_code
abbrev rm_lives_y : MethodName := ⟨"RoomMaker", "lives", "(II)Z"⟩
abbrev la_place_b : ByteArray := method_7_code
abbrev la_place_y : MethodName := ⟨"RoomMakerLaw", "place", "(LRoomMaker;I[J)I"⟩
abbrev rm_place_b : ByteArray := prog_1_method_8_code
abbrev rm_place_y : MethodName := ⟨"RoomMaker", "place", "(I)I"⟩
abbrev la_run_b : ByteArray := method_8_code
abbrev la_run_y : MethodName := ⟨"RoomMakerLaw", "run", "(LRoomMaker;I[J)I"⟩
abbrev rm_run_b : ByteArray := prog_1_method_10_code
abbrev rm_run_y : MethodName := ⟨"RoomMaker", "run", "(I)I"⟩
abbrev ma_advance_b : ByteArray := prog_3_method_6_code
abbrev ma_advance_y : MethodName := ⟨"RoomMaker$Machine", "advance", "(ILRoomMaker$Inputs;)I"⟩
abbrev ma_step_b : ByteArray := prog_3_method_7_code
abbrev ma_step_y : MethodName := ⟨"RoomMaker$Machine", "step", "(LRoomMaker$Inputs;)V"⟩
abbrev ma_assign_b : ByteArray := prog_3_method_11_code
abbrev ma_assign_y : MethodName := ⟨"RoomMaker$Machine", "assign", "(II)V"⟩
abbrev ma_fetch_b : ByteArray := prog_3_method_10_code
abbrev ma_fetch_y : MethodName := ⟨"RoomMaker$Machine", "fetch", "(I)I"⟩
abbrev ma_contentOf_b : ByteArray := prog_3_method_12_code
abbrev ma_contentOf_y : MethodName := ⟨"RoomMaker$Machine", "contentOf", "(I)I"⟩
abbrev ip_next_b : ByteArray := prog_2_method_3_code
abbrev ip_next_y : MethodName := ⟨"RoomMaker$Inputs", "next", "()I"⟩
abbrev ma_write_b : ByteArray := prog_3_method_13_code
abbrev ma_write_y : MethodName := ⟨"RoomMaker$Machine", "write", "(I)V"⟩
abbrev ma_reckon_b : ByteArray := prog_3_method_8_code
abbrev ma_reckon_y : MethodName := ⟨"RoomMaker$Machine", "reckon", "(IIII)V"⟩
abbrev ma_jump_b : ByteArray := prog_3_method_9_code
abbrev ma_jump_y : MethodName := ⟨"RoomMaker$Machine", "jump", "(IIII)V"⟩
abbrev la_value_b : ByteArray := method_9_code
abbrev la_value_y : MethodName := ⟨"RoomMakerLaw", "value", "(LRoomMaker;I[J)I"⟩
abbrev rm_value_b : ByteArray := prog_1_method_12_code
abbrev rm_value_y : MethodName := ⟨"RoomMaker", "value", "(I)I"⟩
abbrev mo_init_b : ByteArray := prog_8_method_1_code
abbrev mo_init_y : MethodName := ⟨"RoomMakerModel", "<init>", "()V"⟩
abbrev mo_thrown_b : ByteArray := prog_8_method_2_code
abbrev mo_thrown_y : MethodName := ⟨"RoomMakerModel", "thrown", "()I"⟩
abbrev mo_put_b : ByteArray := prog_8_method_6_code
abbrev mo_put_y : MethodName := ⟨"RoomMakerModel", "put", "(IIII)I"⟩
abbrev mo_isRight_b : ByteArray := prog_8_method_5_code
abbrev mo_isRight_y : MethodName := ⟨"RoomMakerModel", "isRight", "(IIII)Z"⟩
abbrev mo_isValue_b : ByteArray := prog_8_method_3_code
abbrev mo_isValue_y : MethodName := ⟨"RoomMakerModel", "isValue", "(I)Z"⟩
abbrev mo_isTarget_b : ByteArray := prog_8_method_4_code
abbrev mo_isTarget_y : MethodName := ⟨"RoomMakerModel", "isTarget", "(I)Z"⟩
abbrev mo_forget_b : ByteArray := prog_8_method_7_code
abbrev mo_forget_y : MethodName := ⟨"RoomMakerModel", "forget", "()V"⟩
abbrev mo_clear_b : ByteArray := prog_8_method_8_code
abbrev mo_clear_y : MethodName := ⟨"RoomMakerModel", "clear", "()I"⟩
abbrev mo_give_b : ByteArray := prog_8_method_9_code
abbrev mo_give_y : MethodName := ⟨"RoomMakerModel", "give", "(I)I"⟩
abbrev mo_build_b : ByteArray := prog_8_method_20_code
abbrev mo_build_y : MethodName := ⟨"RoomMakerModel", "build", "(I)I"⟩
abbrev mo_goesNowhere_b : ByteArray := prog_8_method_19_code
abbrev mo_goesNowhere_y : MethodName := ⟨"RoomMakerModel", "goesNowhere", "()Z"⟩
abbrev mo_spans_b : ByteArray := prog_8_method_14_code
abbrev mo_spans_y : MethodName := ⟨"RoomMakerModel", "spans", "()V"⟩
abbrev mo_isLiving_b : ByteArray := prog_8_method_13_code
abbrev mo_isLiving_y : MethodName := ⟨"RoomMakerModel", "isLiving", "(II)Z"⟩
abbrev mo_come_b : ByteArray := prog_8_method_12_code
abbrev mo_come_y : MethodName := ⟨"RoomMakerModel", "come", "(I)V"⟩
abbrev mo_reads_b : ByteArray := prog_8_method_10_code
abbrev mo_reads_y : MethodName := ⟨"RoomMakerModel", "reads", "(II)Z"⟩
abbrev mo_sets_b : ByteArray := prog_8_method_11_code
abbrev mo_sets_y : MethodName := ⟨"RoomMakerModel", "sets", "(II)Z"⟩
abbrev mo_next_b : ByteArray := prog_8_method_15_code
abbrev mo_next_y : MethodName := ⟨"RoomMakerModel", "next", "(I)I"⟩
abbrev mo_settle_b : ByteArray := prog_8_method_18_code
abbrev mo_settle_y : MethodName := ⟨"RoomMakerModel", "settle", "(II)V"⟩
abbrev mo_isTaken_b : ByteArray := prog_8_method_16_code
abbrev mo_isTaken_y : MethodName := ⟨"RoomMakerModel", "isTaken", "(II)Z"⟩
abbrev mo_latest_b : ByteArray := prog_8_method_17_code
abbrev mo_latest_y : MethodName := ⟨"RoomMakerModel", "latest", "(II)I"⟩
abbrev mo_begin_b : ByteArray := prog_8_method_21_code
abbrev mo_begin_y : MethodName := ⟨"RoomMakerModel", "begin", "()V"⟩
abbrev mo_span_b : ByteArray := prog_8_method_22_code
abbrev mo_span_y : MethodName := ⟨"RoomMakerModel", "span", "(IZ)I"⟩
abbrev mo_lives_b : ByteArray := prog_8_method_23_code
abbrev mo_lives_y : MethodName := ⟨"RoomMakerModel", "lives", "(II)Z"⟩
abbrev mo_place_b : ByteArray := prog_8_method_24_code
abbrev mo_place_y : MethodName := ⟨"RoomMakerModel", "place", "(I)I"⟩
abbrev mo_pressure_b : ByteArray := prog_8_method_25_code
abbrev mo_pressure_y : MethodName := ⟨"RoomMakerModel", "pressure", "()I"⟩
abbrev mo_run_b : ByteArray := prog_8_method_32_code
abbrev mo_run_y : MethodName := ⟨"RoomMakerModel", "run", "(I)I"⟩
abbrev mo_step_b : ByteArray := prog_8_method_31_code
abbrev mo_step_y : MethodName := ⟨"RoomMakerModel", "step", "()V"⟩
abbrev mo_copy_b : ByteArray := prog_8_method_29_code
abbrev mo_copy_y : MethodName := ⟨"RoomMakerModel", "copy", "(II)V"⟩
abbrev mo_get_b : ByteArray := prog_8_method_26_code
abbrev mo_get_y : MethodName := ⟨"RoomMakerModel", "get", "(I)I"⟩
abbrev mo_bring_b : ByteArray := prog_8_method_27_code
abbrev mo_bring_y : MethodName := ⟨"RoomMakerModel", "bring", "(II)V"⟩
abbrev mo_made_b : ByteArray := prog_8_method_30_code
abbrev mo_made_y : MethodName := ⟨"RoomMakerModel", "made", "(III)I"⟩
abbrev mo_input_b : ByteArray := prog_8_method_28_code
abbrev mo_input_y : MethodName := ⟨"RoomMakerModel", "input", "()I"⟩
abbrev mo_restart_b : ByteArray := prog_8_method_33_code
abbrev mo_restart_y : MethodName := ⟨"RoomMakerModel", "restart", "()Z"⟩
abbrev mo_value_b : ByteArray := prog_8_method_34_code
abbrev mo_value_y : MethodName := ⟨"RoomMakerModel", "value", "(I)I"⟩
abbrev mo_output_b : ByteArray := prog_8_method_35_code
abbrev mo_output_y : MethodName := ⟨"RoomMakerModel", "output", "(I)I"⟩
abbrev mo_count_b : ByteArray := prog_8_method_36_code
abbrev mo_count_y : MethodName := ⟨"RoomMakerModel", "count", "(I)I"⟩
end
section
/-! ===== what an exception wants: that its class can be cast to itself and not to the others; its text; two statics of Throwable ===== -/
abbrev rx_IA : String := "java/lang/IllegalArgumentException"
abbrev rx_IS : String := "java/lang/IllegalStateException"
abbrev rx_IO : String := "java/lang/IndexOutOfBoundsException"
/-- the exceptions by number -/
def rx_nm (n : Nat) : String := match n with
  | 1 => rx_IA
  | 2 => rx_IS
  | _ => rx_IO
def rx_cast : List String := [rx_IA, rx_IS, rx_IO]
def rx_not : List (String × String) := [(rx_IS, rx_IA), (rx_IA, rx_IS), (rx_IO, rx_IS)]
def rx_text : List (Nat × String) := [(50, "no such instruction"), (73, "no such number of registers"), (81, "an instruction goes to where nothing is"), (108, "no such value"), (121, "no such point"), (136, "nothing is left to run"), (138, "no such number of instructions"), (144, "nothing is built"), (146, "no such value or cell")]
/-- a static of Throwable's: its cell lies outside A, and wherever that cell stays the two words on it hold -/
def rx_st (n d : String) (A : Nat → Prop) (U : State) (H : Heap) : Prop := ∃ (a : Nat) (cell : Cell), H[a]? = some cell ∧ ¬ A a ∧ ∀ V : State, V.vm = U.vm → V.heap[a]? = some cell → (Cond.laysStatic "java/lang/Throwable" n d).before #[] V = true ∧ (Cond.isRef (.static "java/lang/Throwable" n d)).before #[] V = true
theorem rx_st_of {args : Array Value} {s : State} {n d : String} {A : Nat → Prop} (h1 : (Cond.laysStatic "java/lang/Throwable" n d).before args s = true) (h2 : (Cond.isRef (.static "java/lang/Throwable" n d)).before args s = true) (hA : ∀ a : Nat, a < s.heap.size → ¬ A a) : rx_st n d A s s.heap := by
  obtain ⟨c, k, i, f, a, cell, hc, hf, hst, ha, hcell, hs, hcls, hlt, hty⟩ := Cond.laysStatic_spec h1
  refine ⟨a, cell, hcell, hA a (Array.getElem?_eq_some_iff.mp hcell).1, fun V hvm hV => ?_⟩
  have hc' : V.vm.findClass "java/lang/Throwable" = some c := by rw [hvm]; exact hc
  have hf' : V.fieldFound? "java/lang/Throwable" n d = some (c, k, i, f) := by
    unfold State.fieldFound? at hf ⊢
    rw [hvm]
    exact hf
  refine ⟨by simp [Cond.before, Cond.holds, Cond.value, hc', hf', ha, hV, hst, hs, hcls, hlt, hty], ?_⟩
  cases hv : (Term.static "java/lang/Throwable" n d).eval args s none [] s with
  | none => simp [Cond.before, Cond.holds, Cond.value, hv] at h2
  | some v =>
    obtain ⟨-, a', cell', ha', hcell', -, hslot⟩ := Term.static_spec hf hv
    cases Option.some.inj (ha.symm.trans ha')
    cases Option.some.inj (hcell.symm.trans hcell')
    have hv' : (Term.static "java/lang/Throwable" n d).eval #[] V none [] V = some v := by simp [Term.eval, State.fieldNamed?, hf', hst, ha, hV, hs, hslot]
    simp only [Cond.before, Cond.holds, Cond.value, hv] at h2
    simp only [Cond.before, Cond.holds, Cond.value, hv']
    exact h2
theorem rx_st.step {n d : String} {A B : Nat → Prop} {U U1 : State} {H H1 : Heap} (h : rx_st n d A U H) (hW : U.WarmedH U1.vm) (hq : ∀ a : Nat, a < H.size → ¬ A a → H1[a]? = H[a]?) (hAB : ∀ q, B q → A q) : rx_st n d B U1 H1 := by
  obtain ⟨a, cell, h1, h2, h3⟩ := h
  refine ⟨a, cell, by rw [hq a (Array.getElem?_eq_some_iff.mp h1).1 h2]; exact h1, fun z => h2 (hAB a z), fun V hvm hV => ?_⟩
  obtain ⟨w1, w2⟩ := h3 (V.setVm U.vm) rfl hV
  have hW' : (V.setVm U.vm).WarmedH U1.vm := hW
  have e : (V.setVm U.vm).setVm U1.vm = V := by rw [← hvm]; rfl
  have q1 := Cond.holds_shifted (args := #[]) (o := none) (State.Shifted.of_warmed hW') (Cond.laysStatic "java/lang/Throwable" n d) [] rfl w1
  have q2 := Cond.holds_shifted (args := #[]) (o := none) (State.Shifted.of_warmed hW') (Cond.isRef (.static "java/lang/Throwable" n d)) [] rfl w2
  rw [e] at q1 q2
  exact ⟨q1, q2⟩
def rx_E (A : Nat → Prop) (U : State) (H : Heap) : Prop := (∀ C ∈ rx_cast, va_Nw (.castable C C) U) ∧ (∀ q ∈ rx_not, va_Nc q.1 q.2 U) ∧ (∀ q ∈ rx_text, ∃ sa : Nat, vk_R "RoomMaker" q.1 q.2 sa U) ∧ rx_st "UNASSIGNED_STACK" "[Ljava/lang/StackTraceElement;" A U H ∧ rx_st "SUPPRESSED_SENTINEL" "Ljava/util/List;" A U H
theorem rx_Nc_moved {C T : String} {u U : State} (hvm : u.vm.Alike U.vm) (h : va_Nc C T u) : va_Nc C T U := by
  obtain ⟨c, t, h1, h2, h3⟩ := h
  exact ⟨c, t, by rw [hvm.findClass]; exact h1, by rw [hvm.findClass]; exact h2, by rw [hvm.assignable]; exact h3⟩
theorem rx_E.step {A B : Nat → Prop} {U U1 : State} {H H1 : Heap} (h : rx_E A U H) (hW : U.WarmedH U1.vm) (hq : ∀ a : Nat, a < H.size → ¬ A a → H1[a]? = H[a]?) (hAB : ∀ q, B q → A q) : rx_E B U1 H1 :=
  ⟨fun C hC => va_Nw.warmC hW (h.1 C hC), fun q hq' => rx_Nc_moved hW.alike (h.2.1 q hq'), fun q hq' => (h.2.2.1 q hq').elim fun sa hs => ⟨sa, vk_R.warm hW hs⟩, h.2.2.2.1.step hW hq hAB, h.2.2.2.2.step hW hq hAB⟩
end
section
/-! ===== the state of class and reference: S 0 the class's number fields, S 1 the reference's, S g the array that stands at place g of the world ===== -/
abbrev rb_S : Type := Nat → Nat → Int32
def rb_u (S : rb_S) (g j : Nat) (v : Int32) : rb_S := fun a => if a = g then upd (S g) j v else S a
/-- addresses of the world, of the static tables, the classes of the arrays, the classes' numbers and slots -/
abbrev rb_Z : Type := (Nat → Nat) × (Nat → Nat) × (Nat → ClassId) × va_G
abbrev rb_ts (Z : rb_Z) : Nat → Nat := Z.2.1
abbrev rb_ca (Z : rb_Z) : Nat → ClassId := Z.2.2.1
abbrev rb_D (Z : rb_Z) : va_G := Z.2.2.2
def rb_ty (Z : rb_Z) : List (ClassId × FieldType) := [(rb_ca Z 6, .int), (rb_ca Z 7, .int), (rb_ca Z 8, .int), (rb_ca Z 9, .int), (rb_ca Z 10, .int), (rb_ca Z 11, .int), (rb_ca Z 12, .int), (rb_ca Z 13, .int), (rb_ca Z 14, .int), (rb_ca Z 15, .int), (rb_ca Z 16, .int), (rb_ca Z 17, .int), (rb_ca Z 18, .int), (rb_ca Z 19, .int), (rb_ca Z 20, .int), (rb_ca Z 21, .int), (rb_ca Z 22, .int), (rb_ca Z 24, .int), (rb_ca Z 25, .int), (rb_ca Z 26, .boolean), (rb_ca Z 27, .boolean), (rb_ca Z 28, .int), (rb_ca Z 29, .int), (rb_ca Z 30, .int), (rb_ca Z 31, .int), (rb_ca Z 32, .int), (rb_ca Z 33, .int), (rb_ca Z 34, .int), (rb_ca Z 35, .int), (rb_ca Z 36, .long)]
def rb_w (Z : rb_Z) (S : rb_S) : va_W := [(Z.1 0, .inr (0, [.ref (Z.1 1), .ref (Z.1 2), .ref (Z.1 3), .ref (Z.1 4), .ref (Z.1 5), .int (S 0 0)])), (Z.1 1, .inr (1, [.ref (Z.1 6), .ref (Z.1 7), .ref (Z.1 8), .ref (Z.1 9), .int (S 0 1)])), (Z.1 2, .inr (2, [.ref (Z.1 10), .int (S 0 2), .int (S 0 3)])), (Z.1 3, .inr (3, [.ref (Z.1 11), .ref (Z.1 12), .ref (Z.1 13), .int (S 0 4)])), (Z.1 4, .inr (4, [.ref (Z.1 14), .ref (Z.1 15), .int (S 0 5), .int (S 0 6)])), (Z.1 5, .inr (5, [.ref (Z.1 16), .ref (Z.1 17), .ref (Z.1 18), .ref (Z.1 19), .int (S 0 7), .ref (Z.1 20), .ref (Z.1 21), .ref (Z.1 22), .int (S 0 8), .int (S 0 9), .int (S 0 10), .int (S 0 11), .int (S 0 12), .int (S 0 13)])), (Z.1 6, .inl (rb_ca Z 6, 64, .inl (S 6))), (Z.1 7, .inl (rb_ca Z 7, 64, .inl (S 7))), (Z.1 8, .inl (rb_ca Z 8, 64, .inl (S 8))), (Z.1 9, .inl (rb_ca Z 9, 64, .inl (S 9))), (Z.1 10, .inl (rb_ca Z 10, 32, .inl (S 10))), (Z.1 11, .inl (rb_ca Z 11, 128, .inl (S 11))), (Z.1 12, .inl (rb_ca Z 12, 16, .inl (S 12))), (Z.1 13, .inl (rb_ca Z 13, 16, .inl (S 13))), (Z.1 14, .inl (rb_ca Z 14, 16, .inl (S 14))), (Z.1 15, .inl (rb_ca Z 15, 8, .inl (S 15))), (Z.1 16, .inl (rb_ca Z 16, 64, .inl (S 16))), (Z.1 17, .inl (rb_ca Z 17, 64, .inl (S 17))), (Z.1 18, .inl (rb_ca Z 18, 64, .inl (S 18))), (Z.1 19, .inl (rb_ca Z 19, 64, .inl (S 19))), (Z.1 20, .inl (rb_ca Z 20, 32, .inl (S 20))), (Z.1 21, .inl (rb_ca Z 21, 16, .inl (S 21))), (Z.1 22, .inl (rb_ca Z 22, 16, .inl (S 22))), (Z.1 23, .inr (6, [.int (S 1 0), .ref (Z.1 24), .int (S 1 1), .ref (Z.1 25), .int (S 1 2), .int (S 1 3), .ref (Z.1 26), .ref (Z.1 27), .ref (Z.1 28), .int (S 1 4), .ref (Z.1 29), .ref (Z.1 30), .ref (Z.1 31), .int (S 1 5), .ref (Z.1 32), .ref (Z.1 33), .ref (Z.1 34), .ref (Z.1 35), .int (S 1 6), .int (S 1 7), .int (S 1 8), .int (S 1 9), .int (S 1 10), .int (S 1 11)])), (Z.1 24, .inl (rb_ca Z 24, 256, .inl (S 24))), (Z.1 25, .inl (rb_ca Z 25, 32, .inl (S 25))), (Z.1 26, .inl (rb_ca Z 26, 2048, .inl (S 26))), (Z.1 27, .inl (rb_ca Z 27, 128, .inl (S 27))), (Z.1 28, .inl (rb_ca Z 28, 256, .inl (S 28))), (Z.1 29, .inl (rb_ca Z 29, 16, .inl (S 29))), (Z.1 30, .inl (rb_ca Z 30, 16, .inl (S 30))), (Z.1 31, .inl (rb_ca Z 31, 16, .inl (S 31))), (Z.1 32, .inl (rb_ca Z 32, 8, .inl (S 32))), (Z.1 33, .inl (rb_ca Z 33, 16, .inl (S 33))), (Z.1 34, .inl (rb_ca Z 34, 16, .inl (S 34))), (Z.1 35, .inl (rb_ca Z 35, 16, .inl (S 35))), (Z.1 36, .inl (rb_ca Z 36, 1, .inr (.inl (fun j => (S 36 j).toInt64))))]
/-- what the static tables hold -/
def rb_rx : Nat → Int32 := fun k => match k with
  | 0 => 2
  | 1 => 2
  | 2 => 2
  | 3 => 2
  | 4 => 2
  | 5 => 2
  | 6 => 2
  | 7 => 3
  | 8 => 3
  | 9 => 4
  | 10 => 3
  | _ => 3
def rb_ry : Nat → Int32 := fun k => match k with
  | 0 => 1
  | 1 => 3
  | 2 => 3
  | 3 => 3
  | 4 => 3
  | 5 => 0
  | 6 => 3
  | 7 => 3
  | 8 => 0
  | 9 => 0
  | 10 => 3
  | _ => 3
def rb_rz : Nat → Int32 := fun k => match k with
  | 0 => 0
  | 1 => 3
  | 2 => 3
  | 3 => 3
  | 4 => 0
  | 5 => 0
  | 6 => 0
  | 7 => 0
  | 8 => 0
  | 9 => 0
  | 10 => 4
  | _ => 4
/-! ===== what every method is given: words that a call keeps, links of nest mates, the static tables ===== -/
def rb_ws : List Cond := lw_tbl.filter goodWord
def rb_isN : Cond → Bool
  | .fieldLinkNest .. => true
  | .methodLinkNest .. => true
  | _ => false
def rb_nest : List Cond := lw_tbl.filter rb_isN
theorem rb_good {w : Cond} (h : w ∈ rb_ws) : GoodIn rb_ws (w :: rb_ws) := fun v hv => by
  rcases List.mem_cons.mp hv with rfl | h1
  · exact ⟨h, good_of_word (List.mem_filter.mp h).2⟩
  · exact ⟨h1, good_of_word (List.mem_filter.mp h1).2⟩
theorem rb_Nw_same {w : Cond} (hw : rb_isN w = true) {u U : State} (h : u.vm = U.vm) (hZ : va_Nw w u) : va_Nw w U := by
  cases w <;> first | (cases hw; done) | exact va_Nw.same rfl h hZ
theorem rb_Nw_warm {w : Cond} (hw : rb_isN w = true) {s U : State} (h : s.WarmedH U.vm) (hZ : va_Nw w s) : va_Nw w U := by
  cases w <;> first | (cases hw; done) | exact va_Nw.warmF h hZ | exact va_Nw.warmM h hZ
/-- the static tables of the class -/
def rb_T (Z : rb_Z) (A : Nat → Prop) (U : State) (H : Heap) : Prop :=
  (va_Z "RoomMaker" "X_ROLES" "[I" (.ref (rb_ts Z 0)) A U H ∧ va_T .int (rb_ts Z 0) 12 (fun j => .int (rb_rx j)) A U H) ∧
  (va_Z "RoomMaker" "Y_ROLES" "[I" (.ref (rb_ts Z 1)) A U H ∧ va_T .int (rb_ts Z 1) 12 (fun j => .int (rb_ry j)) A U H) ∧
  (va_Z "RoomMaker" "Z_ROLES" "[I" (.ref (rb_ts Z 2)) A U H ∧ va_T .int (rb_ts Z 2) 12 (fun j => .int (rb_rz j)) A U H)
theorem rb_T.step {Z : rb_Z} {A B : Nat → Prop} {u U : State} {H H1 : Heap} (h : rb_T Z A u H) (hvm : u.vm.Alike U.vm) (hq : ∀ a : Nat, a < H.size → ¬ A a → H1[a]? = H[a]?) (hAB : ∀ q, B q → A q) : rb_T Z B U H1 :=
  ⟨⟨((h.1.1.moved hvm).kept hq).narrow hAB, ((h.1.2.moved hvm).kept hq).narrow hAB⟩, ⟨((h.2.1.1.moved hvm).kept hq).narrow hAB, ((h.2.1.2.moved hvm).kept hq).narrow hAB⟩, ⟨((h.2.2.1.moved hvm).kept hq).narrow hAB, ((h.2.2.2.moved hvm).kept hq).narrow hAB⟩⟩
def rb_K (Z : rb_Z) (A : Nat → Prop) (U : State) : Prop := va_K (rb_D Z) vwCl (rb_ty Z) U ∧ (∀ w ∈ rb_nest, va_Nw w U) ∧ rb_T Z A U U.heap ∧ rx_E A U U.heap
theorem rb_K.calling {Z : rb_Z} {A : Nat → Prop} {U : State} (h : rb_K Z A U) (g : JFrame) (mk : MethodId) (a : Array Value) : rb_K Z A (U.calling g mk a) :=
  ⟨va_K.moved (u := U) (U := U.calling g mk a) (Vm.Alike.refl U.vm) h.1, fun w hw => rb_Nw_same (u := U) (U := U.calling g mk a) (List.mem_filter.mp hw).2 rfl (h.2.1 w hw), rb_T.step (u := U) (U := U.calling g mk a) h.2.2.1 (Vm.Alike.refl U.vm) (fun _ _ _ => rfl) (fun _ q => q), rx_E.step (U := U) (U1 := U.calling g mk a) h.2.2.2 (State.WarmedH.refl U) (fun _ _ _ => rfl) (fun _ q => q)⟩
theorem rb_K.step {Z : rb_Z} {A B : Nat → Prop} {s U : State} {H : Heap} {locs : List Loc} (h : rb_K Z A s) (hW : s.WarmedH U.vm) (hU : U.heap = H) (hS : va_S A s.heap H locs) (hAB : ∀ q, B q → A q) : rb_K Z B U :=
  ⟨va_K.moved hW.alike h.1, fun w hw => rb_Nw_warm (List.mem_filter.mp hw).2 hW (h.2.1 w hw), rb_T.step h.2.2.1 hW.alike (fun a h1 h2 => by rw [hU]; exact hS.2.1 a h1 h2) hAB, rx_E.step h.2.2.2 hW (fun a h1 h2 => by rw [hU]; exact hS.2.1 a h1 h2) hAB⟩
/-- a method's context: the machine, its code, the words, the tables -/
def rb_X (p : Program) (s : State) (m : MethodId) (args : Array Value) (meth : Method) (c : Code) (A : Nat → Prop) (Z : rb_Z) (cc : ByteArray) (nL : Nat) (own : String) (ret : Option FieldType) : Prop :=
  CallFix p m c cc nL s args rb_ws own ∧ rb_K Z A s ∧ (∀ q, s.heap.size ≤ q → A q) ∧ meth.sig.returnType = ret ∧ meth.locks = false
/-- the machine, at pc, with locals L, stack st, and the world that S says, comes to Q -/
def rb_V (p : Program) (l : Launch) (e : Env) (R : Room) (s : State) (m : MethodId) (args : Array Value) (below : List Frame) (meth : Method) (c : Code) (A : Nat → Prop) (Q : State → Prop) (Z : rb_Z) (nL pc : Nat) (L : List (Nat × Value)) (st : List Value) (S : rb_S) (kc ks : Nat) : Prop :=
  ∀ (H : Heap) (locs : List Loc) (ls : Array Slot), va_P (rb_D Z) vwCl (rb_w Z S) H → va_D A (rb_w Z S) → va_S A s.heap H locs → lv_has ls nL L → W p l e R s m args below meth c H locs kc ks Q (F0 m pc ls st)
/-- a contract's start -/
def rb_Pc (Z : rb_Z) (as : List Value) (S : rb_S) (sz : Nat) : Array Value → State → Prop := va_Pc as (fun U => U.heap.size = sz ∧ va_P (rb_D Z) vwCl (rb_w Z S) U.heap ∧ rb_K Z (va_A (rb_w Z S) sz) U ∧ va_D (fun _ => True) (rb_w Z S))
/-- the world behind a method -/
def rb_B (Z : rb_Z) (A : Nat → Prop) (u : rb_S) (t : State) : Prop := va_P (rb_D Z) vwCl (rb_w Z u) t.heap ∧ va_D A (rb_w Z u)
theorem rb_blind {Z : rb_Z} {as : List Value} {S : rb_S} {sz : Nat} : FrameBlind (rb_Pc Z as S sz) := fun a U g mk q => ⟨q.1, q.2.1, q.2.2.1, q.2.2.2.1.calling g mk a, q.2.2.2.2⟩
/-- contracts: an int (or boolean) answer; none -/
def rb_Mi (l : Launch) (y : MethodName) (bytes : ByteArray) (maxL : Nat) (rt : Option FieldType) (rm : Room) (Z : rb_Z) (as : List Value) (S : rb_S) (K : Int32 → rb_S → Prop) : Prop :=
  ∀ sz : Nat, Met l y (Cond.code y bytes maxL rt :: rb_ws) rm (rb_Pc Z as S sz) (va_Qi K (rb_B Z (va_A (rb_w Z S) sz)) (va_A (rb_w Z S) sz)) rm.cells rm.slots (va_A (rb_w Z S) sz)
def rb_Mv (l : Launch) (y : MethodName) (bytes : ByteArray) (maxL : Nat) (rm : Room) (Z : rb_Z) (as : List Value) (S : rb_S) (K : rb_S → Prop) : Prop :=
  ∀ sz : Nat, Met l y (Cond.code y bytes maxL none :: rb_ws) rm (rb_Pc Z as S sz) (va_Qv K (rb_B Z (va_A (rb_w Z S) sz)) (va_A (rb_w Z S) sz)) rm.cells rm.slots (va_A (rb_w Z S) sz)
section RB
variable {p : Program} {l : Launch} {e : Env} {R : Room} {s : State} {m : MethodId} {args : Array Value} {below : List Frame} {meth : Method} {c : Code} {A : Nat → Prop} {Q : State → Prop} {Z : rb_Z} {nL pc : Nat} {L L' : List (Nat × Value)} {st : List Value} {S : rb_S} {kc ks : Nat} {cc : ByteArray} {own : String} {ret : Option FieldType}
theorem rb_iconst (X : rb_X p s m args meth c A Z cc nL own ret) {n : Int} (v : Int32) (d : decode cc pc = .ok (.iconst n, 1)) (hv : Int32.ofInt n = v) (k : rb_V p l e R s m args below meth c A Q Z nL (pc + 1) (L) (.int v :: st) (S) (kc) (ks)) : rb_V p l e R s m args below meth c A Q Z nL (pc) (L) (st) (S) (kc) (ks) := fun H locs ls hP hD hS hl => lv_iconst X.1.1 X.1.2.1 d hv (k H locs ls hP hD hS hl)
theorem rb_bipush (X : rb_X p s m args meth c A Z cc nL own ret) {n : Int} (v : Int32) (d : decode cc pc = .ok (.bipush n, 2)) (hv : (Int8.ofInt n).toInt32 = v) (k : rb_V p l e R s m args below meth c A Q Z nL (pc + 2) (L) (.int v :: st) (S) (kc) (ks)) : rb_V p l e R s m args below meth c A Q Z nL (pc) (L) (st) (S) (kc) (ks) := fun H locs ls hP hD hS hl => lv_bipush X.1.1 X.1.2.1 d hv (k H locs ls hP hD hS hl)
theorem rb_sipush (X : rb_X p s m args meth c A Z cc nL own ret) {n : Int} (v : Int32) (d : decode cc pc = .ok (.sipush n, 3)) (hv : (Int16.ofInt n).toInt32 = v) (k : rb_V p l e R s m args below meth c A Q Z nL (pc + 3) (L) (.int v :: st) (S) (kc) (ks)) : rb_V p l e R s m args below meth c A Q Z nL (pc) (L) (st) (S) (kc) (ks) := fun H locs ls hP hD hS hl => lv_sipush X.1.1 X.1.2.1 d hv (k H locs ls hP hD hS hl)
theorem rb_lconst (X : rb_X p s m args meth c A Z cc nL own ret) {n : Fin 2} (v : Int64) (d : decode cc pc = .ok (.lconst n, 1)) (hv : Int64.ofNat (n : Nat) = v) (k : rb_V p l e R s m args below meth c A Q Z nL (pc + 1) (L) (.long v :: st) (S) (kc) (ks)) : rb_V p l e R s m args below meth c A Q Z nL (pc) (L) (st) (S) (kc) (ks) := fun H locs ls hP hD hS hl => lv_lconst X.1.1 X.1.2.1 d hv (k H locs ls hP hD hS hl)
theorem rb_iload_n (X : rb_X p s m args meth c A Z cc nL own ret) {j : Fin 4} {x : Int32} (i : Nat) (d : decode cc pc = .ok (.iload_n j, 1)) (hj : (j : Nat) = i) (j0 : Nat) (hx : L[j0]? = some (i, .int x)) (k : rb_V p l e R s m args below meth c A Q Z nL (pc + 1) (L) (.int x :: st) (S) (kc) (ks)) : rb_V p l e R s m args below meth c A Q Z nL (pc) (L) (st) (S) (kc) (ks) := fun H locs ls hP hD hS hl => lv_iload_n X.1.1 X.1.2.1 d hj (lv_at hl j0 hx) (k H locs ls hP hD hS hl)
theorem rb_iload (X : rb_X p s m args meth c A Z cc nL own ret) {x : Int32} (i : Nat) (d : decode cc pc = .ok (.iload i, 2)) (j0 : Nat) (hx : L[j0]? = some (i, .int x)) (k : rb_V p l e R s m args below meth c A Q Z nL (pc + 2) (L) (.int x :: st) (S) (kc) (ks)) : rb_V p l e R s m args below meth c A Q Z nL (pc) (L) (st) (S) (kc) (ks) := fun H locs ls hP hD hS hl => lv_iload X.1.1 X.1.2.1 d (lv_at hl j0 hx) (k H locs ls hP hD hS hl)
theorem rb_aload_n (X : rb_X p s m args meth c A Z cc nL own ret) {j : Fin 4} {x : Nat} (i : Nat) (d : decode cc pc = .ok (.aload_n j, 1)) (hj : (j : Nat) = i) (j0 : Nat) (hx : L[j0]? = some (i, .ref x)) (k : rb_V p l e R s m args below meth c A Q Z nL (pc + 1) (L) (.ref x :: st) (S) (kc) (ks)) : rb_V p l e R s m args below meth c A Q Z nL (pc) (L) (st) (S) (kc) (ks) := fun H locs ls hP hD hS hl => lv_aload_n X.1.1 X.1.2.1 d hj (lv_at hl j0 hx) (k H locs ls hP hD hS hl)
theorem rb_aload (X : rb_X p s m args meth c A Z cc nL own ret) {x : Nat} (i : Nat) (d : decode cc pc = .ok (.aload i, 2)) (j0 : Nat) (hx : L[j0]? = some (i, .ref x)) (k : rb_V p l e R s m args below meth c A Q Z nL (pc + 2) (L) (.ref x :: st) (S) (kc) (ks)) : rb_V p l e R s m args below meth c A Q Z nL (pc) (L) (st) (S) (kc) (ks) := fun H locs ls hP hD hS hl => lv_aload X.1.1 X.1.2.1 d (lv_at hl j0 hx) (k H locs ls hP hD hS hl)
theorem rb_istore_n (X : rb_X p s m args meth c A Z cc nL own ret) {x : Int32} {j : Fin 4} (i : Nat) (is : List Nat) (d : decode cc pc = .ok (.istore_n j, 1)) (hj : (j : Nat) = i) (hn : i < nL) (hk : lv_pick ((i, Value.int x) :: L.filter (fun q => !(q.1 == i) && !(q.1 + 1 == i && q.2.category == 2))) is = L') (k : rb_V p l e R s m args below meth c A Q Z nL (pc + 1) (L') (st) (S) (kc) (ks)) : rb_V p l e R s m args below meth c A Q Z nL (pc) (L) (.int x :: st) (S) (kc) (ks) := fun H locs ls hP hD hS hl => lv_istore_n X.1.1 X.1.2.1 d hj hl hn rfl (fun ls' hl' => k H locs ls' hP hD hS (lv_sub hl' is hk))
theorem rb_istore (X : rb_X p s m args meth c A Z cc nL own ret) {x : Int32} (i : Nat) (is : List Nat) (d : decode cc pc = .ok (.istore i, 2)) (hn : i < nL) (hk : lv_pick ((i, Value.int x) :: L.filter (fun q => !(q.1 == i) && !(q.1 + 1 == i && q.2.category == 2))) is = L') (k : rb_V p l e R s m args below meth c A Q Z nL (pc + 2) (L') (st) (S) (kc) (ks)) : rb_V p l e R s m args below meth c A Q Z nL (pc) (L) (.int x :: st) (S) (kc) (ks) := fun H locs ls hP hD hS hl => lv_istore X.1.1 X.1.2.1 d hl hn rfl (fun ls' hl' => k H locs ls' hP hD hS (lv_sub hl' is hk))
theorem rb_astore_n (X : rb_X p s m args meth c A Z cc nL own ret) {x : Nat} {j : Fin 4} (i : Nat) (is : List Nat) (d : decode cc pc = .ok (.astore_n j, 1)) (hj : (j : Nat) = i) (hn : i < nL) (hk : lv_pick ((i, Value.ref x) :: L.filter (fun q => !(q.1 == i) && !(q.1 + 1 == i && q.2.category == 2))) is = L') (k : rb_V p l e R s m args below meth c A Q Z nL (pc + 1) (L') (st) (S) (kc) (ks)) : rb_V p l e R s m args below meth c A Q Z nL (pc) (L) (.ref x :: st) (S) (kc) (ks) := fun H locs ls hP hD hS hl => lv_astore_n X.1.1 X.1.2.1 d hj hl hn rfl (fun ls' hl' => k H locs ls' hP hD hS (lv_sub hl' is hk))
theorem rb_astore (X : rb_X p s m args meth c A Z cc nL own ret) {x : Nat} (i : Nat) (is : List Nat) (d : decode cc pc = .ok (.astore i, 2)) (hn : i < nL) (hk : lv_pick ((i, Value.ref x) :: L.filter (fun q => !(q.1 == i) && !(q.1 + 1 == i && q.2.category == 2))) is = L') (k : rb_V p l e R s m args below meth c A Q Z nL (pc + 2) (L') (st) (S) (kc) (ks)) : rb_V p l e R s m args below meth c A Q Z nL (pc) (L) (.ref x :: st) (S) (kc) (ks) := fun H locs ls hP hD hS hl => lv_astore X.1.1 X.1.2.1 d hl hn rfl (fun ls' hl' => k H locs ls' hP hD hS (lv_sub hl' is hk))
theorem rb_iinc (X : rb_X p s m args meth c A Z cc nL own ret) {x : Int32} {n : Int} (k1 : Int32) (i : Nat) (is : List Nat) (L1 : Int32 → List (Nat × Value)) (d : decode cc pc = .ok (.iinc i n, 3)) (j0 : Nat) (hx : L[j0]? = some (i, .int x)) (hv : Int32.ofInt n = k1) (hn : i < nL) (hk : ∀ v : Int32, lv_pick ((i, Value.int v) :: L.filter (fun q => !(q.1 == i) && !(q.1 + 1 == i && q.2.category == 2))) is = L1 v) (k : ∀ v : Int32, v = x + k1 → rb_V p l e R s m args below meth c A Q Z nL (pc + 3) (L1 v) (st) (S) (kc) (ks)) : rb_V p l e R s m args below meth c A Q Z nL (pc) (L) (st) (S) (kc) (ks) := fun H locs ls hP hD hS hl => lv_iinc (k := j0) X.1.1 X.1.2.1 d hl hx rfl hn rfl (fun ls' hl' => k _ (by rw [hv]) H locs ls' hP hD hS (lv_sub hl' is (hk _)))
theorem rb_cut (is : List Nat) (hk : lv_pick L is = L') (k : rb_V p l e R s m args below meth c A Q Z nL (pc) (L') (st) (S) (kc) (ks)) : rb_V p l e R s m args below meth c A Q Z nL (pc) (L) (st) (S) (kc) (ks) := fun H locs ls hP hD hS hl => k H locs ls hP hD hS (lv_sub hl is hk)
theorem rb_iadd (X : rb_X p s m args meth c A Z cc nL own ret) {x y : Int32} (d : decode cc pc = .ok (.iadd, 1)) (k : rb_V p l e R s m args below meth c A Q Z nL (pc + 1) (L) (.int (x + y) :: st) (S) (kc) (ks)) : rb_V p l e R s m args below meth c A Q Z nL (pc) (L) (.int y :: .int x :: st) (S) (kc) (ks) := fun H locs ls hP hD hS hl => lv_iadd X.1.1 X.1.2.1 d (k H locs ls hP hD hS hl)
theorem rb_isub (X : rb_X p s m args meth c A Z cc nL own ret) {x y : Int32} (d : decode cc pc = .ok (.isub, 1)) (k : rb_V p l e R s m args below meth c A Q Z nL (pc + 1) (L) (.int (x - y) :: st) (S) (kc) (ks)) : rb_V p l e R s m args below meth c A Q Z nL (pc) (L) (.int y :: .int x :: st) (S) (kc) (ks) := fun H locs ls hP hD hS hl => lv_isub X.1.1 X.1.2.1 d (k H locs ls hP hD hS hl)
theorem rb_imul (X : rb_X p s m args meth c A Z cc nL own ret) {x y : Int32} (d : decode cc pc = .ok (.imul, 1)) (k : rb_V p l e R s m args below meth c A Q Z nL (pc + 1) (L) (.int (x * y) :: st) (S) (kc) (ks)) : rb_V p l e R s m args below meth c A Q Z nL (pc) (L) (.int y :: .int x :: st) (S) (kc) (ks) := fun H locs ls hP hD hS hl => lv_imul X.1.1 X.1.2.1 d (k H locs ls hP hD hS hl)
theorem rb_iand (X : rb_X p s m args meth c A Z cc nL own ret) {x y : Int32} (d : decode cc pc = .ok (.iand, 1)) (k : rb_V p l e R s m args below meth c A Q Z nL (pc + 1) (L) (.int (x &&& y) :: st) (S) (kc) (ks)) : rb_V p l e R s m args below meth c A Q Z nL (pc) (L) (.int y :: .int x :: st) (S) (kc) (ks) := fun H locs ls hP hD hS hl => lv_iand X.1.1 X.1.2.1 d (k H locs ls hP hD hS hl)
theorem rb_ior (X : rb_X p s m args meth c A Z cc nL own ret) {x y : Int32} (d : decode cc pc = .ok (.ior, 1)) (k : rb_V p l e R s m args below meth c A Q Z nL (pc + 1) (L) (.int (x ||| y) :: st) (S) (kc) (ks)) : rb_V p l e R s m args below meth c A Q Z nL (pc) (L) (.int y :: .int x :: st) (S) (kc) (ks) := fun H locs ls hP hD hS hl => lv_ior X.1.1 X.1.2.1 d (k H locs ls hP hD hS hl)
theorem rb_ixor (X : rb_X p s m args meth c A Z cc nL own ret) {x y : Int32} (d : decode cc pc = .ok (.ixor, 1)) (k : rb_V p l e R s m args below meth c A Q Z nL (pc + 1) (L) (.int (x ^^^ y) :: st) (S) (kc) (ks)) : rb_V p l e R s m args below meth c A Q Z nL (pc) (L) (.int y :: .int x :: st) (S) (kc) (ks) := fun H locs ls hP hD hS hl => lv_ixor X.1.1 X.1.2.1 d (k H locs ls hP hD hS hl)
theorem rb_ishl (X : rb_X p s m args meth c A Z cc nL own ret) {x y : Int32} (d : decode cc pc = .ok (.ishl, 1)) (k : rb_V p l e R s m args below meth c A Q Z nL (pc + 1) (L) (.int (x <<< (y &&& 31)) :: st) (S) (kc) (ks)) : rb_V p l e R s m args below meth c A Q Z nL (pc) (L) (.int y :: .int x :: st) (S) (kc) (ks) := fun H locs ls hP hD hS hl => lv_ishl X.1.1 X.1.2.1 d (k H locs ls hP hD hS hl)
theorem rb_ishr (X : rb_X p s m args meth c A Z cc nL own ret) {x y : Int32} (d : decode cc pc = .ok (.ishr, 1)) (k : rb_V p l e R s m args below meth c A Q Z nL (pc + 1) (L) (.int (x >>> (y &&& 31)) :: st) (S) (kc) (ks)) : rb_V p l e R s m args below meth c A Q Z nL (pc) (L) (.int y :: .int x :: st) (S) (kc) (ks) := fun H locs ls hP hD hS hl => lv_ishr X.1.1 X.1.2.1 d (k H locs ls hP hD hS hl)
theorem rb_idiv (X : rb_X p s m args meth c A Z cc nL own ret) {x y : Int32} (d : decode cc pc = .ok (.idiv, 1)) (hne : ¬ y = 0) (k : rb_V p l e R s m args below meth c A Q Z nL (pc + 1) (L) (.int (x / y) :: st) (S) (kc) (ks)) : rb_V p l e R s m args below meth c A Q Z nL (pc) (L) (.int y :: .int x :: st) (S) (kc) (ks) := fun H locs ls hP hD hS hl => lv_idiv X.1.1 X.1.2.1 d hne (k H locs ls hP hD hS hl)
theorem rb_irem (X : rb_X p s m args meth c A Z cc nL own ret) {x y : Int32} (d : decode cc pc = .ok (.irem, 1)) (hne : ¬ y = 0) (k : rb_V p l e R s m args below meth c A Q Z nL (pc + 1) (L) (.int (x - x / y * y) :: st) (S) (kc) (ks)) : rb_V p l e R s m args below meth c A Q Z nL (pc) (L) (.int y :: .int x :: st) (S) (kc) (ks) := fun H locs ls hP hD hS hl => lv_irem X.1.1 X.1.2.1 d hne (k H locs ls hP hD hS hl)
theorem rb_i2l (X : rb_X p s m args meth c A Z cc nL own ret) {x : Int32} (d : decode cc pc = .ok (.i2l, 1)) (k : rb_V p l e R s m args below meth c A Q Z nL (pc + 1) (L) (.long x.toInt64 :: st) (S) (kc) (ks)) : rb_V p l e R s m args below meth c A Q Z nL (pc) (L) (.int x :: st) (S) (kc) (ks) := fun H locs ls hP hD hS hl => lv_i2l X.1.1 X.1.2.1 d rfl (k H locs ls hP hD hS hl)
theorem rb_lcmp (X : rb_X p s m args meth c A Z cc nL own ret) {x y : Int64} (d : decode cc pc = .ok (.lcmp, 1)) (k : rb_V p l e R s m args below meth c A Q Z nL (pc + 1) (L) (.int (lg_cmp x y) :: st) (S) (kc) (ks)) : rb_V p l e R s m args below meth c A Q Z nL (pc) (L) (.long y :: .long x :: st) (S) (kc) (ks) := fun H locs ls hP hD hS hl => W.lcmp X.1.1 X.1.2.1 d (k H locs ls hP hD hS hl)
theorem rb_dup (X : rb_X p s m args meth c A Z cc nL own ret) {a : Value} (d : decode cc pc = .ok (.dup, 1)) (ha : a.category = 1) (k : rb_V p l e R s m args below meth c A Q Z nL (pc + 1) (L) (a :: a :: st) (S) (kc) (ks)) : rb_V p l e R s m args below meth c A Q Z nL (pc) (L) (a :: st) (S) (kc) (ks) := fun H locs ls hP hD hS hl => lv_dup X.1.1 X.1.2.1 d ha (k H locs ls hP hD hS hl)
theorem rb_pop (X : rb_X p s m args meth c A Z cc nL own ret) {a : Value} (d : decode cc pc = .ok (.pop, 1)) (ha : a.category = 1) (k : rb_V p l e R s m args below meth c A Q Z nL (pc + 1) (L) (st) (S) (kc) (ks)) : rb_V p l e R s m args below meth c A Q Z nL (pc) (L) (a :: st) (S) (kc) (ks) := fun H locs ls hP hD hS hl => lv_pop X.1.1 X.1.2.1 d ha (k H locs ls hP hD hS hl)
theorem rb_dup_x1 (X : rb_X p s m args meth c A Z cc nL own ret) {a b : Value} (d : decode cc pc = .ok (.dup_x1, 1)) (ha : a.category = 1) (hb : b.category = 1) (k : rb_V p l e R s m args below meth c A Q Z nL (pc + 1) (L) (a :: b :: a :: st) (S) (kc) (ks)) : rb_V p l e R s m args below meth c A Q Z nL (pc) (L) (a :: b :: st) (S) (kc) (ks) := fun H locs ls hP hD hS hl => lv_dup_x1 X.1.1 X.1.2.1 d ha hb (k H locs ls hP hD hS hl)
theorem rb_dup2 (X : rb_X p s m args meth c A Z cc nL own ret) {a b : Value} (d : decode cc pc = .ok (.dup2, 1)) (ha : a.category = 1) (hb : b.category = 1) (k : rb_V p l e R s m args below meth c A Q Z nL (pc + 1) (L) (a :: b :: a :: b :: st) (S) (kc) (ks)) : rb_V p l e R s m args below meth c A Q Z nL (pc) (L) (a :: b :: st) (S) (kc) (ks) := fun H locs ls hP hD hS hl => lv_dup2_11 X.1.1 X.1.2.1 d ha hb (k H locs ls hP hD hS hl)
theorem rb_if_eq (X : rb_X p s m args meth c A Z cc nL own ret) {x : Int32} {off : Int} (tgt : Nat) (d : decode cc pc = .ok (.ifCond .eq off, 3)) (ht : (pc : Int) + off = (tgt : Int)) (kt : x = 0 → rb_V p l e R s m args below meth c A Q Z nL (tgt) (L) (st) (S) (kc) (ks)) (kf : ¬ x = 0 → rb_V p l e R s m args below meth c A Q Z nL (pc + 3) (L) (st) (S) (kc) (ks)) : rb_V p l e R s m args below meth c A Q Z nL (pc) (L) (.int x :: st) (S) (kc) (ks) := fun H locs ls hP hD hS hl => lv_if_eq X.1.1 X.1.2.1 d ht (fun q => kt q H locs ls hP hD hS hl) (fun q => kf q H locs ls hP hD hS hl)
theorem rb_if_ne (X : rb_X p s m args meth c A Z cc nL own ret) {x : Int32} {off : Int} (tgt : Nat) (d : decode cc pc = .ok (.ifCond .ne off, 3)) (ht : (pc : Int) + off = (tgt : Int)) (kt : ¬ x = 0 → rb_V p l e R s m args below meth c A Q Z nL (tgt) (L) (st) (S) (kc) (ks)) (kf : x = 0 → rb_V p l e R s m args below meth c A Q Z nL (pc + 3) (L) (st) (S) (kc) (ks)) : rb_V p l e R s m args below meth c A Q Z nL (pc) (L) (.int x :: st) (S) (kc) (ks) := fun H locs ls hP hD hS hl => lv_if_ne X.1.1 X.1.2.1 d ht (fun q => kt q H locs ls hP hD hS hl) (fun q => kf q H locs ls hP hD hS hl)
theorem rb_if_lt (X : rb_X p s m args meth c A Z cc nL own ret) {x : Int32} {off : Int} (tgt : Nat) (d : decode cc pc = .ok (.ifCond .lt off, 3)) (ht : (pc : Int) + off = (tgt : Int)) (kt : x < 0 → rb_V p l e R s m args below meth c A Q Z nL (tgt) (L) (st) (S) (kc) (ks)) (kf : ¬ x < 0 → rb_V p l e R s m args below meth c A Q Z nL (pc + 3) (L) (st) (S) (kc) (ks)) : rb_V p l e R s m args below meth c A Q Z nL (pc) (L) (.int x :: st) (S) (kc) (ks) := fun H locs ls hP hD hS hl => lv_if_lt X.1.1 X.1.2.1 d ht (fun q => kt q H locs ls hP hD hS hl) (fun q => kf q H locs ls hP hD hS hl)
theorem rb_if_ge (X : rb_X p s m args meth c A Z cc nL own ret) {x : Int32} {off : Int} (tgt : Nat) (d : decode cc pc = .ok (.ifCond .ge off, 3)) (ht : (pc : Int) + off = (tgt : Int)) (kt : 0 ≤ x → rb_V p l e R s m args below meth c A Q Z nL (tgt) (L) (st) (S) (kc) (ks)) (kf : ¬ 0 ≤ x → rb_V p l e R s m args below meth c A Q Z nL (pc + 3) (L) (st) (S) (kc) (ks)) : rb_V p l e R s m args below meth c A Q Z nL (pc) (L) (.int x :: st) (S) (kc) (ks) := fun H locs ls hP hD hS hl => lv_if_ge X.1.1 X.1.2.1 d ht (fun q => kt q H locs ls hP hD hS hl) (fun q => kf q H locs ls hP hD hS hl)
theorem rb_if_gt (X : rb_X p s m args meth c A Z cc nL own ret) {x : Int32} {off : Int} (tgt : Nat) (d : decode cc pc = .ok (.ifCond .gt off, 3)) (ht : (pc : Int) + off = (tgt : Int)) (kt : 0 < x → rb_V p l e R s m args below meth c A Q Z nL (tgt) (L) (st) (S) (kc) (ks)) (kf : ¬ 0 < x → rb_V p l e R s m args below meth c A Q Z nL (pc + 3) (L) (st) (S) (kc) (ks)) : rb_V p l e R s m args below meth c A Q Z nL (pc) (L) (.int x :: st) (S) (kc) (ks) := fun H locs ls hP hD hS hl => lv_if_gt X.1.1 X.1.2.1 d ht (fun q => kt q H locs ls hP hD hS hl) (fun q => kf q H locs ls hP hD hS hl)
theorem rb_if_le (X : rb_X p s m args meth c A Z cc nL own ret) {x : Int32} {off : Int} (tgt : Nat) (d : decode cc pc = .ok (.ifCond .le off, 3)) (ht : (pc : Int) + off = (tgt : Int)) (kt : x ≤ 0 → rb_V p l e R s m args below meth c A Q Z nL (tgt) (L) (st) (S) (kc) (ks)) (kf : ¬ x ≤ 0 → rb_V p l e R s m args below meth c A Q Z nL (pc + 3) (L) (st) (S) (kc) (ks)) : rb_V p l e R s m args below meth c A Q Z nL (pc) (L) (.int x :: st) (S) (kc) (ks) := fun H locs ls hP hD hS hl => lv_if_le X.1.1 X.1.2.1 d ht (fun q => kt q H locs ls hP hD hS hl) (fun q => kf q H locs ls hP hD hS hl)
theorem rb_icmp_eq (X : rb_X p s m args meth c A Z cc nL own ret) {x y : Int32} {off : Int} (tgt : Nat) (d : decode cc pc = .ok (.if_icmp .eq off, 3)) (ht : (pc : Int) + off = (tgt : Int)) (kt : x = y → rb_V p l e R s m args below meth c A Q Z nL (tgt) (L) (st) (S) (kc) (ks)) (kf : ¬ x = y → rb_V p l e R s m args below meth c A Q Z nL (pc + 3) (L) (st) (S) (kc) (ks)) : rb_V p l e R s m args below meth c A Q Z nL (pc) (L) (.int y :: .int x :: st) (S) (kc) (ks) := fun H locs ls hP hD hS hl => lv_icmp_eq X.1.1 X.1.2.1 d ht (fun q => kt q H locs ls hP hD hS hl) (fun q => kf q H locs ls hP hD hS hl)
theorem rb_icmp_ne (X : rb_X p s m args meth c A Z cc nL own ret) {x y : Int32} {off : Int} (tgt : Nat) (d : decode cc pc = .ok (.if_icmp .ne off, 3)) (ht : (pc : Int) + off = (tgt : Int)) (kt : ¬ x = y → rb_V p l e R s m args below meth c A Q Z nL (tgt) (L) (st) (S) (kc) (ks)) (kf : x = y → rb_V p l e R s m args below meth c A Q Z nL (pc + 3) (L) (st) (S) (kc) (ks)) : rb_V p l e R s m args below meth c A Q Z nL (pc) (L) (.int y :: .int x :: st) (S) (kc) (ks) := fun H locs ls hP hD hS hl => lv_icmp_ne X.1.1 X.1.2.1 d ht (fun q => kt q H locs ls hP hD hS hl) (fun q => kf q H locs ls hP hD hS hl)
theorem rb_icmp_lt (X : rb_X p s m args meth c A Z cc nL own ret) {x y : Int32} {off : Int} (tgt : Nat) (d : decode cc pc = .ok (.if_icmp .lt off, 3)) (ht : (pc : Int) + off = (tgt : Int)) (kt : x < y → rb_V p l e R s m args below meth c A Q Z nL (tgt) (L) (st) (S) (kc) (ks)) (kf : ¬ x < y → rb_V p l e R s m args below meth c A Q Z nL (pc + 3) (L) (st) (S) (kc) (ks)) : rb_V p l e R s m args below meth c A Q Z nL (pc) (L) (.int y :: .int x :: st) (S) (kc) (ks) := fun H locs ls hP hD hS hl => lv_icmp_lt X.1.1 X.1.2.1 d ht (fun q => kt q H locs ls hP hD hS hl) (fun q => kf q H locs ls hP hD hS hl)
theorem rb_icmp_ge (X : rb_X p s m args meth c A Z cc nL own ret) {x y : Int32} {off : Int} (tgt : Nat) (d : decode cc pc = .ok (.if_icmp .ge off, 3)) (ht : (pc : Int) + off = (tgt : Int)) (kt : y ≤ x → rb_V p l e R s m args below meth c A Q Z nL (tgt) (L) (st) (S) (kc) (ks)) (kf : ¬ y ≤ x → rb_V p l e R s m args below meth c A Q Z nL (pc + 3) (L) (st) (S) (kc) (ks)) : rb_V p l e R s m args below meth c A Q Z nL (pc) (L) (.int y :: .int x :: st) (S) (kc) (ks) := fun H locs ls hP hD hS hl => lv_icmp_ge X.1.1 X.1.2.1 d ht (fun q => kt q H locs ls hP hD hS hl) (fun q => kf q H locs ls hP hD hS hl)
theorem rb_icmp_gt (X : rb_X p s m args meth c A Z cc nL own ret) {x y : Int32} {off : Int} (tgt : Nat) (d : decode cc pc = .ok (.if_icmp .gt off, 3)) (ht : (pc : Int) + off = (tgt : Int)) (kt : y < x → rb_V p l e R s m args below meth c A Q Z nL (tgt) (L) (st) (S) (kc) (ks)) (kf : ¬ y < x → rb_V p l e R s m args below meth c A Q Z nL (pc + 3) (L) (st) (S) (kc) (ks)) : rb_V p l e R s m args below meth c A Q Z nL (pc) (L) (.int y :: .int x :: st) (S) (kc) (ks) := fun H locs ls hP hD hS hl => lv_icmp_gt X.1.1 X.1.2.1 d ht (fun q => kt q H locs ls hP hD hS hl) (fun q => kf q H locs ls hP hD hS hl)
theorem rb_icmp_le (X : rb_X p s m args meth c A Z cc nL own ret) {x y : Int32} {off : Int} (tgt : Nat) (d : decode cc pc = .ok (.if_icmp .le off, 3)) (ht : (pc : Int) + off = (tgt : Int)) (kt : x ≤ y → rb_V p l e R s m args below meth c A Q Z nL (tgt) (L) (st) (S) (kc) (ks)) (kf : ¬ x ≤ y → rb_V p l e R s m args below meth c A Q Z nL (pc + 3) (L) (st) (S) (kc) (ks)) : rb_V p l e R s m args below meth c A Q Z nL (pc) (L) (.int y :: .int x :: st) (S) (kc) (ks) := fun H locs ls hP hD hS hl => lv_icmp_le X.1.1 X.1.2.1 d ht (fun q => kt q H locs ls hP hD hS hl) (fun q => kf q H locs ls hP hD hS hl)
theorem rb_goto (X : rb_X p s m args meth c A Z cc nL own ret) {off : Int} (tgt : Nat) (d : decode cc pc = .ok (.goto off, 3)) (ht : (pc : Int) + off = (tgt : Int)) (k : rb_V p l e R s m args below meth c A Q Z nL (tgt) (L) (st) (S) (kc) (ks)) : rb_V p l e R s m args below meth c A Q Z nL (pc) (L) (st) (S) (kc) (ks) := fun H locs ls hP hD hS hl => lv_goto X.1.1 X.1.2.1 d ht (k H locs ls hP hD hS hl)
theorem rb_tabOut (X : rb_X p s m args meth c A Z cc nL own ret) {x : Int32} {dflt lo hi : Int} {offs : Array Int} {len : Nat} (tgt : Nat) (d : decode cc pc = .ok (.tableswitch dflt lo hi offs, len)) (h : x.toInt < lo ∨ hi < x.toInt) (ht : (pc : Int) + dflt = (tgt : Int)) (k : rb_V p l e R s m args below meth c A Q Z nL (tgt) (L) (st) (S) (kc) (ks)) : rb_V p l e R s m args below meth c A Q Z nL (pc) (L) (.int x :: st) (S) (kc) (ks) := fun H locs ls hP hD hS hl => lv_tableOut X.1.1 X.1.2.1 d h ht (k H locs ls hP hD hS hl)
theorem rb_tabIn (X : rb_X p s m args meth c A Z cc nL own ret) {x : Int32} {dflt lo hi off : Int} {offs : Array Int} {len : Nat} (tgt : Nat) (d : decode cc pc = .ok (.tableswitch dflt lo hi offs, len)) (h1 : ¬ x.toInt < lo) (h2 : ¬ hi < x.toInt) (ho : offs[(x.toInt - lo).toNat]? = some off) (ht : (pc : Int) + off = (tgt : Int)) (k : rb_V p l e R s m args below meth c A Q Z nL (tgt) (L) (st) (S) (kc) (ks)) : rb_V p l e R s m args below meth c A Q Z nL (pc) (L) (.int x :: st) (S) (kc) (ks) := fun H locs ls hP hD hS hl => lv_tableIn X.1.1 X.1.2.1 d h1 h2 ho ht (k H locs ls hP hD hS hl)
theorem rb_lookup (X : rb_X p s m args meth c A Z cc nL own ret) {x : Int32} {dflt off : Int} {ps : Array (Int × Int)} {len : Nat} (tgt : Nat) (d : decode cc pc = .ok (.lookupswitch dflt ps, len)) (hp : (ps.toList.zip (ps.toList.drop 1)).all (fun (a, next) => a.1 < next.1) = true) (ho : Op.lookupswitch.offset ps.toList dflt x.toInt = off) (ht : (pc : Int) + off = (tgt : Int)) (k : rb_V p l e R s m args below meth c A Q Z nL (tgt) (L) (st) (S) (kc) (ks)) : rb_V p l e R s m args below meth c A Q Z nL (pc) (L) (.int x :: st) (S) (kc) (ks) := fun H locs ls hP hD hS hl => lv_lookup X.1.1 X.1.2.1 d hp ho ht (k H locs ls hP hD hS hl)
/-- at place g of every world stands the int array S g of n places; a store there is a store in S g -/
def rb_isA (ty : FieldType) (Z : rb_Z) (g n : Nat) : Prop := (∃ t0 : Nat, (rb_ty Z)[t0]? = some (rb_ca Z g, ty)) ∧ (∀ S : rb_S, (rb_w Z S)[g]? = some (Z.1 g, .inl (rb_ca Z g, n, .inl (S g)))) ∧ ∀ (S : rb_S) (j : Nat) (v : Int32), (rb_w Z S).set g (Z.1 g, .inl (rb_ca Z g, n, .inl (upd (S g) j v))) = rb_w Z (rb_u S g j v)
abbrev rb_isI (Z : rb_Z) (g n : Nat) : Prop := rb_isA .int Z g n
abbrev rb_isZ (Z : rb_Z) (g n : Nat) : Prop := rb_isA .boolean Z g n
theorem rb_iald (X : rb_X p s m args meth c A Z cc nL own ret) (g : Nat) {n : Nat} {i : Int32} (hg : rb_isI Z g n) (d : decode cc pc = .ok (.iaload, 1)) (hin : vp_in i n) (k : rb_V p l e R s m args below meth c A Q Z nL (pc + 1) (L) (.int (S g i.toNatClampNeg) :: st) (S) (kc) (ks)) : rb_V p l e R s m args below meth c A Q Z nL (pc) (L) (.int i :: .ref (Z.1 g) :: st) (S) (kc) (ks) := fun H locs ls hP hD hS hl => hg.1.elim fun t0 ht => va_iald X.1.1 X.1.2.1 X.2.1.1 hP g t0 (hg.2.1 S) ht hin d (k H locs ls hP hD hS hl)
theorem rb_zald (X : rb_X p s m args meth c A Z cc nL own ret) (g : Nat) {n : Nat} {i : Int32} (hg : rb_isZ Z g n) (d : decode cc pc = .ok (.baload, 1)) (hin : vp_in i n) (k : rb_V p l e R s m args below meth c A Q Z nL (pc + 1) (L) (.int (S g i.toNatClampNeg) :: st) (S) (kc) (ks)) : rb_V p l e R s m args below meth c A Q Z nL (pc) (L) (.int i :: .ref (Z.1 g) :: st) (S) (kc) (ks) := fun H locs ls hP hD hS hl => hg.1.elim fun t0 ht => va_zald X.1.1 X.1.2.1 X.2.1.1 hP g t0 (hg.2.1 S) ht hin d (k H locs ls hP hD hS hl)
theorem rb_iast (X : rb_X p s m args meth c A Z cc nL own ret) (g : Nat) {n : Nat} {i x : Int32} (hg : rb_isI Z g n) (d : decode cc pc = .ok (.iastore, 1)) (hin : vp_in i n) (k : ∀ S1 : rb_S, S1 = rb_u S g i.toNatClampNeg x → rb_V p l e R s m args below meth c A Q Z nL (pc + 1) (L) (st) (S1) (kc) (ks)) : rb_V p l e R s m args below meth c A Q Z nL (pc) (L) (.int x :: .int i :: .ref (Z.1 g) :: st) (S) (kc) (ks) := fun H locs ls hP hD hS hl => hg.1.elim fun t0 ht => va_iast X.1.1 X.1.2.1 X.2.1.1 hP hD hS g t0 (hg.2.1 S) ht hin d (fun H1 locs1 hP1 hD1 hS1 => k _ rfl H1 locs1 ls (by rw [hg.2.2] at hP1; exact hP1) (by rw [hg.2.2] at hD1; exact hD1) hS1 hl)
theorem rb_zast (X : rb_X p s m args meth c A Z cc nL own ret) (g : Nat) {n : Nat} {i x : Int32} (hg : rb_isZ Z g n) (d : decode cc pc = .ok (.bastore, 1)) (hin : vp_in i n) (k : ∀ S1 : rb_S, S1 = rb_u S g i.toNatClampNeg (vp_nar .boolean x) → rb_V p l e R s m args below meth c A Q Z nL (pc + 1) (L) (st) (S1) (kc) (ks)) : rb_V p l e R s m args below meth c A Q Z nL (pc) (L) (.int x :: .int i :: .ref (Z.1 g) :: st) (S) (kc) (ks) := fun H locs ls hP hD hS hl => hg.1.elim fun t0 ht => va_zast X.1.1 X.1.2.1 X.2.1.1 hP hD hS g t0 (hg.2.1 S) ht hin d (fun H1 locs1 hP1 hD1 hS1 => k _ rfl H1 locs1 ls (by rw [hg.2.2] at hP1; exact hP1) (by rw [hg.2.2] at hD1; exact hD1) hS1 hl)
theorem rb_alen (X : rb_X p s m args meth c A Z cc nL own ret) (g : Nat) {n : Nat} {v : Int32} (hg : rb_isI Z g n) (d : decode cc pc = .ok (.arraylength, 1)) (hv : Int32.ofNat n = v) (k : rb_V p l e R s m args below meth c A Q Z nL (pc + 1) (L) (.int v :: st) (S) (kc) (ks)) : rb_V p l e R s m args below meth c A Q Z nL (pc) (L) (.ref (Z.1 g) :: st) (S) (kc) (ks) := fun H locs ls hP hD hS hl => hg.1.elim fun t0 ht => va_alen X.1.1 X.1.2.1 X.2.1.1 hP g t0 (hg.2.1 S) ht hv d (k H locs ls hP hD hS hl)
theorem rb_topi {x : Int32} (k : ∀ y : Int32, y = x → rb_V p l e R s m args below meth c A Q Z nL (pc) (L) (.int y :: st) (S) (kc) (ks)) : rb_V p l e R s m args below meth c A Q Z nL (pc) (L) (.int x :: st) (S) (kc) (ks) := k x rfl
theorem rb_mmax (X : rb_X p s m args meth c A Z cc nL own ret) {x y : Int32} {index : Nat} (h1 : Cond.methodLink own index Lib.Math.max.name ∈ rb_ws) (h2 : Cond.static Lib.Math.max.name ∈ rb_ws) (h3 : Cond.initialized "java/lang/Math" ∈ rb_ws) (h4 : Cond.code Lib.Math.max.name Lib.Math.max.code 2 (some .int) ∈ rb_ws) (hf : 1 ≤ R.frames) (hlo : (st.map fun v => v.category).sum + 13 ≤ R.locals) (hkc : kc ≤ R.cells) (hks : ks ≤ R.slots) (d : decode cc pc = .ok (.invokestatic index, 3)) (k : rb_V p l e R s m args below meth c A Q Z nL (pc + 3) (L) (.int (if x < y then y else x) :: st) (S) (kc) (ks)) : rb_V p l e R s m args below meth c A Q Z nL (pc) (L) (.int y :: .int x :: st) (S) (kc) (ks) := fun H locs ls hP hD hS hl => va_mmax X.1.1 X.1.2.1 (X.1.2.2.1.trans hl.1.symm) X.1.2.2.2.1 (X.1.2.2.2.2 _ h1) (X.1.2.2.2.2 _ h2) (X.1.2.2.2.2 _ h3) (X.1.2.2.2.2 _ h4) hf hlo hkc hks d (k H locs ls hP hD hS hl)
theorem rb_tald0 (X : rb_X p s m args meth c A Z cc nL own ret) {i : Int32} (d : decode cc pc = .ok (.iaload, 1)) (hin : vp_in i 12) (k : rb_V p l e R s m args below meth c A Q Z nL (pc + 1) (L) (.int (rb_rx i.toNatClampNeg) :: st) (S) (kc) (ks)) : rb_V p l e R s m args below meth c A Q Z nL (pc) (L) (.int i :: .ref (rb_ts Z 0) :: st) (S) (kc) (ks) := fun H locs ls hP hD hS hl => va_ti X.1.1 X.1.2.1 X.2.1.2.2.1.1.2 hS hin rfl d (k H locs ls hP hD hS hl)
theorem rb_tald1 (X : rb_X p s m args meth c A Z cc nL own ret) {i : Int32} (d : decode cc pc = .ok (.iaload, 1)) (hin : vp_in i 12) (k : rb_V p l e R s m args below meth c A Q Z nL (pc + 1) (L) (.int (rb_ry i.toNatClampNeg) :: st) (S) (kc) (ks)) : rb_V p l e R s m args below meth c A Q Z nL (pc) (L) (.int i :: .ref (rb_ts Z 1) :: st) (S) (kc) (ks) := fun H locs ls hP hD hS hl => va_ti X.1.1 X.1.2.1 X.2.1.2.2.1.2.1.2 hS hin rfl d (k H locs ls hP hD hS hl)
theorem rb_tald2 (X : rb_X p s m args meth c A Z cc nL own ret) {i : Int32} (d : decode cc pc = .ok (.iaload, 1)) (hin : vp_in i 12) (k : rb_V p l e R s m args below meth c A Q Z nL (pc + 1) (L) (.int (rb_rz i.toNatClampNeg) :: st) (S) (kc) (ks)) : rb_V p l e R s m args below meth c A Q Z nL (pc) (L) (.int i :: .ref (rb_ts Z 2) :: st) (S) (kc) (ks) := fun H locs ls hP hD hS hl => va_ti X.1.1 X.1.2.1 X.2.1.2.2.1.2.2.2 hS hin rfl d (k H locs ls hP hD hS hl)
theorem rb_widen {kc' ks' : Nat} (h1 : kc ≤ kc') (h2 : ks ≤ ks') (k : rb_V p l e R s m args below meth c A Q Z nL (pc) (L) (st) (S) (kc') (ks')) : rb_V p l e R s m args below meth c A Q Z nL (pc) (L) (st) (S) (kc) (ks) := fun H locs ls hP hD hS hl => W.widen h1 h2 (k H locs ls hP hD hS hl)
end RB
section RC
variable {p : Program} {l : Launch} {e : Env} {R : Room} {s : State} {m : MethodId} {args : Array Value} {below : List Frame} {meth : Method} {c : Code} {A : Nat → Prop} {Q : State → Prop} {Z : rb_Z} {nL pc : Nat} {L L' : List (Nat × Value)} {st : List Value} {S : rb_S} {kc ks : Nat} {cc : ByteArray} {own : String} {ret : Option FieldType}
theorem rb_hts (X : rb_X p s m args meth c A Z cc nL own ret) : ∀ w ∈ rb_ws, w.before args s = true := X.1.2.2.2.2
theorem rb_freeA {H : Heap} {locs : List Loc} (X : rb_X p s m args meth c A Z cc nL own ret) (hD : va_D A (rb_w Z S)) (hS : va_S A s.heap H locs) : ∀ q, va_A (rb_w Z S) H.size q → A q := fun q h => by
  rcases h with ⟨k, e, he⟩ | h
  · exact hD.2 k _ he
  · exact X.2.2.1 q (Nat.le_trans hS.1 h)
/-- a contract's start, met at a call -/
theorem rb_pre {as : List Value} {H : Heap} {locs : List Loc} (X : rb_X p s m args meth c A Z cc nL own ret) (hP : va_P (rb_D Z) vwCl (rb_w Z S) H) (hD : va_D A (rb_w Z S)) (hS : va_S A s.heap H locs) : ∀ U : State, U.heap = H → s.WarmedH U.vm → rb_Pc Z as S H.size as.toArray U := fun U hU hW =>
  ⟨rfl, by rw [hU], by rw [hU]; exact hP, X.2.1.step hW hU hS (rb_freeA X hD hS), hD.weaken (fun _ _ _ _ => trivial)⟩
theorem rb_desc {y : MethodName} {n : Nat} (h : (parseMethodDescriptor y.desc).map (fun d => d.parameters.length) = some n) : ∀ sig, parseMethodDescriptor y.desc = some sig → n = sig.parameters.length := fun sig h1 => by
  rw [h1] at h
  exact (Option.some.inj h).symm
/-- what a call of y wants of the tables and of the room -/
def rb_cw (y : MethodName) (bytes : ByteArray) (maxL : Nat) (rt : Option FieldType) (n : Nat) : Prop :=
  Cond.code y bytes maxL rt ∈ rb_ws ∧ Cond.initialized y.cls ∈ rb_ws ∧ (y.cls ≠ "java/lang/invoke/MethodHandle" ∧ y.cls ≠ "java/lang/invoke/VarHandle") ∧ (parseMethodDescriptor y.desc).map (fun d => d.parameters.length) = some n
theorem rb_cb {y : MethodName} {bytes : ByteArray} {maxL n index : Nat} {rt : Option FieldType} {rm : Room} (X : rb_X p s m args meth c A Z cc nL own ret) (h : rb_cw y bytes maxL rt n) (hR : rm.frames + 1 ≤ R.frames ∧ 8 + (maxL + 11) + rm.locals ≤ R.locals) (hl : Cond.methodLink own index y ∈ rb_ws) :
    CallB R s args own index y bytes maxL rt (Cond.code y bytes maxL rt :: rb_ws) rm rm.cells rm.slots n :=
  callB_of n (rb_hts X) (rb_good h.1) rfl rfl rfl (rb_hts X _ h.2.1) (rb_hts X _ hl) ⟨h.2.2.1.1, h.2.2.1.2, h.2.2.2⟩ hR
theorem rb_cn {y : MethodName} {bytes : ByteArray} {maxL n index : Nat} {rt : Option FieldType} {rm : Room} {host : String} (X : rb_X p s m args meth c A Z cc nL own ret) (h : rb_cw y bytes maxL rt n) (hR : rm.frames + 1 ≤ R.frames ∧ 8 + (maxL + 11) + rm.locals ≤ R.locals) (hl : Cond.methodLinkNest own index y host ∈ rb_nest) :
    va_CN R s args own index y host bytes maxL rt (Cond.code y bytes maxL rt :: rb_ws) rm rm.cells rm.slots n :=
  va_cnB n (rb_hts X) (rb_good h.1) rfl rfl rfl (X.2.1.2.1 _ hl) (rb_hts X _ h.2.1) ⟨h.2.2.1.1, h.2.2.1.2, h.2.2.2⟩ hR
theorem rb_recv {H : Heap} {q0 ci : Nat} {q : vw_C} {fs : List Value} (X : rb_X p s m args meth c A Z cc nL own ret) (hP : va_P (rb_D Z) vwCl (rb_w Z S) H) (he : (rb_w Z S)[q0]? = some (Z.1 q0, .inr (ci, fs))) (hc : vwCl[ci]? = some q) : ∃ cell : Cell, H[Z.1 q0]? = some cell ∧ cell.vm.isStatics = false ∧ s.vm.findClass q.1 = some cell.cls :=
  va_recv X.2.1.1 hP hc he
section I
variable {y : MethodName} {bytes : ByteArray} {maxL n index q0 ci : Nat} {rt : Option FieldType} {rm : Room} {As rest st0 fs : List Value} {K : Int32 → rb_S → Prop} {C host : String} {T : u_T} {N : Nat}
theorem rb_callVi (X : rb_X p s m args meth c A Z cc nL own ret) (hM : rb_Mi l y bytes maxL rt rm Z (.ref (Z.1 q0) :: As) S K) (cw : rb_cw y bytes maxL rt n) (hR : rm.frames + 1 ≤ R.frames ∧ 8 + (maxL + 11) + rm.locals ≤ R.locals) (hl : Cond.methodLink own index y ∈ rb_ws) (hi : Cond.instanceMethod y ∈ rb_ws) (hs : Cond.selects y.cls y y ∈ rb_ws) (he : (rb_w Z S)[q0]? = some (Z.1 q0, .inr (ci, fs))) (hc : vwCl[ci]? = some (y.cls, T, N)) (hn : As.length = n) (hst : st0 = As.reverse ++ .ref (Z.1 q0) :: rest) (hr : (rest.map fun v => v.category).sum ≤ 8) (d : decode cc pc = .ok (.invokevirtual index, 3)) (hf : kc + rm.cells ≤ R.cells ∧ ks + rm.slots ≤ R.slots) (k : ∀ (r : Int32) (S' : rb_S), K r S' → rb_V p l e R s m args below meth c A Q Z nL (pc + 3) L (.int r :: rest) (S') (kc + rm.cells) (ks + rm.slots)) : rb_V p l e R s m args below meth c A Q Z nL (pc) L (st0) (S) (kc) (ks) := by
  subst hst
  intro H locs ls hP hD hS hl'
  have hF := rb_freeA X hD hS
  exact va_calli (va_runV (As := As) (rest := rest) (b := Z.1 q0) X.1 (hM H.size) ⟨rb_cb X cw hR hl, rb_hts X _ hi, rb_hts X _ hs⟩ ⟨rb_blind, rb_recv X hP he hc, rb_pre X hP hD hS⟩ rfl hn hl'.1 rfl (lv_room hr) d hf) hS (fun q _ h => hF q h) hF (fun r u t H1 locs1 ht hvm hp hB hz hk hS1 => k r u hp H1 locs1 ls (by rw [← ht]; exact hB.1) (hB.2.weaken (fun _ q _ h => hF q.1 h)) hS1 hl')
theorem rb_callVNi (X : rb_X p s m args meth c A Z cc nL own ret) (hM : rb_Mi l y bytes maxL rt rm Z (.ref (Z.1 q0) :: As) S K) (cw : rb_cw y bytes maxL rt n) (hR : rm.frames + 1 ≤ R.frames ∧ 8 + (maxL + 11) + rm.locals ≤ R.locals) (hl : Cond.methodLinkNest own index y host ∈ rb_nest) (hi : Cond.instanceMethod y ∈ rb_ws) (hs : Cond.selects y.cls y y ∈ rb_ws) (he : (rb_w Z S)[q0]? = some (Z.1 q0, .inr (ci, fs))) (hc : vwCl[ci]? = some (y.cls, T, N)) (hn : As.length = n) (hst : st0 = As.reverse ++ .ref (Z.1 q0) :: rest) (hr : (rest.map fun v => v.category).sum ≤ 8) (d : decode cc pc = .ok (.invokevirtual index, 3)) (hf : kc + rm.cells ≤ R.cells ∧ ks + rm.slots ≤ R.slots) (k : ∀ (r : Int32) (S' : rb_S), K r S' → rb_V p l e R s m args below meth c A Q Z nL (pc + 3) L (.int r :: rest) (S') (kc + rm.cells) (ks + rm.slots)) : rb_V p l e R s m args below meth c A Q Z nL (pc) L (st0) (S) (kc) (ks) := by
  subst hst
  intro H locs ls hP hD hS hl'
  have hF := rb_freeA X hD hS
  exact va_calli (va_runVN (As := As) (rest := rest) (b := Z.1 q0) X.1 (hM H.size) ⟨rb_cn X cw hR hl, rb_hts X _ hi, rb_hts X _ hs⟩ ⟨rb_blind, rb_recv X hP he hc, rb_pre X hP hD hS⟩ rfl hn hl'.1 rfl (lv_room hr) d hf) hS (fun q _ h => hF q h) hF (fun r u t H1 locs1 ht hvm hp hB hz hk hS1 => k r u hp H1 locs1 ls (by rw [← ht]; exact hB.1) (hB.2.weaken (fun _ q _ h => hF q.1 h)) hS1 hl')
theorem rb_callSi (X : rb_X p s m args meth c A Z cc nL own ret) (hM : rb_Mi l y bytes maxL rt rm Z As S K) (cw : rb_cw y bytes maxL rt n) (hR : rm.frames + 1 ≤ R.frames ∧ 8 + (maxL + 11) + rm.locals ≤ R.locals) (hl : Cond.methodLink own index y ∈ rb_ws) (hi : Cond.static y ∈ rb_ws) (hn : As.length = n) (hst : st0 = As.reverse ++ rest) (hr : (rest.map fun v => v.category).sum ≤ 8) (d : decode cc pc = .ok (.invokestatic index, 3)) (hf : kc + rm.cells ≤ R.cells ∧ ks + rm.slots ≤ R.slots) (k : ∀ (r : Int32) (S' : rb_S), K r S' → rb_V p l e R s m args below meth c A Q Z nL (pc + 3) L (.int r :: rest) (S') (kc + rm.cells) (ks + rm.slots)) : rb_V p l e R s m args below meth c A Q Z nL (pc) L (st0) (S) (kc) (ks) := by
  subst hst
  intro H locs ls hP hD hS hl'
  have hF := rb_freeA X hD hS
  exact va_calli (va_runS (As := As) (rest := rest) X.1 (hM H.size) ⟨rb_cb X cw hR hl, rb_hts X _ hi⟩ ⟨rb_blind, rb_pre X hP hD hS⟩ rfl hn hl'.1 rfl (lv_room hr) d hf) hS (fun q _ h => hF q h) hF (fun r u t H1 locs1 ht hvm hp hB hz hk hS1 => k r u hp H1 locs1 ls (by rw [← ht]; exact hB.1) (hB.2.weaken (fun _ q _ h => hF q.1 h)) hS1 hl')
theorem rb_callSNi (X : rb_X p s m args meth c A Z cc nL own ret) (hM : rb_Mi l y bytes maxL rt rm Z As S K) (cw : rb_cw y bytes maxL rt n) (hR : rm.frames + 1 ≤ R.frames ∧ 8 + (maxL + 11) + rm.locals ≤ R.locals) (hl : Cond.methodLinkNest own index y host ∈ rb_nest) (hi : Cond.static y ∈ rb_ws) (hn : As.length = n) (hst : st0 = As.reverse ++ rest) (hr : (rest.map fun v => v.category).sum ≤ 8) (d : decode cc pc = .ok (.invokestatic index, 3)) (hf : kc + rm.cells ≤ R.cells ∧ ks + rm.slots ≤ R.slots) (k : ∀ (r : Int32) (S' : rb_S), K r S' → rb_V p l e R s m args below meth c A Q Z nL (pc + 3) L (.int r :: rest) (S') (kc + rm.cells) (ks + rm.slots)) : rb_V p l e R s m args below meth c A Q Z nL (pc) L (st0) (S) (kc) (ks) := by
  subst hst
  intro H locs ls hP hD hS hl'
  have hF := rb_freeA X hD hS
  exact va_calli (va_runSN (As := As) (rest := rest) X.1 (hM H.size) ⟨rb_cn X cw hR hl, rb_hts X _ hi, trivial⟩ ⟨rb_blind, rb_pre X hP hD hS⟩ rfl hn hl'.1 rfl (lv_room hr) d hf) hS (fun q _ h => hF q h) hF (fun r u t H1 locs1 ht hvm hp hB hz hk hS1 => k r u hp H1 locs1 ls (by rw [← ht]; exact hB.1) (hB.2.weaken (fun _ q _ h => hF q.1 h)) hS1 hl')
end I
section V
variable {y : MethodName} {bytes : ByteArray} {maxL n index q0 ci : Nat} {rm : Room} {As rest st0 fs : List Value} {K : rb_S → Prop} {C host : String} {T : u_T} {N : Nat}
theorem rb_callVv (X : rb_X p s m args meth c A Z cc nL own ret) (hM : rb_Mv l y bytes maxL rm Z (.ref (Z.1 q0) :: As) S K) (cw : rb_cw y bytes maxL none n) (hR : rm.frames + 1 ≤ R.frames ∧ 8 + (maxL + 11) + rm.locals ≤ R.locals) (hl : Cond.methodLink own index y ∈ rb_ws) (hi : Cond.instanceMethod y ∈ rb_ws) (hs : Cond.selects y.cls y y ∈ rb_ws) (he : (rb_w Z S)[q0]? = some (Z.1 q0, .inr (ci, fs))) (hc : vwCl[ci]? = some (y.cls, T, N)) (hn : As.length = n) (hst : st0 = As.reverse ++ .ref (Z.1 q0) :: rest) (hr : (rest.map fun v => v.category).sum ≤ 8) (d : decode cc pc = .ok (.invokevirtual index, 3)) (hf : kc + rm.cells ≤ R.cells ∧ ks + rm.slots ≤ R.slots) (k : ∀ (S' : rb_S), K S' → rb_V p l e R s m args below meth c A Q Z nL (pc + 3) L (rest) (S') (kc + rm.cells) (ks + rm.slots)) : rb_V p l e R s m args below meth c A Q Z nL (pc) L (st0) (S) (kc) (ks) := by
  subst hst
  intro H locs ls hP hD hS hl'
  have hF := rb_freeA X hD hS
  exact va_callv (va_runV (As := As) (rest := rest) (b := Z.1 q0) X.1 (hM H.size) ⟨rb_cb X cw hR hl, rb_hts X _ hi, rb_hts X _ hs⟩ ⟨rb_blind, rb_recv X hP he hc, rb_pre X hP hD hS⟩ rfl hn hl'.1 rfl (lv_room hr) d hf) hS (fun q _ h => hF q h) hF (fun u t H1 locs1 ht hvm hp hB hz hk hS1 => k u hp H1 locs1 ls (by rw [← ht]; exact hB.1) (hB.2.weaken (fun _ q _ h => hF q.1 h)) hS1 hl')
theorem rb_callVNv (X : rb_X p s m args meth c A Z cc nL own ret) (hM : rb_Mv l y bytes maxL rm Z (.ref (Z.1 q0) :: As) S K) (cw : rb_cw y bytes maxL none n) (hR : rm.frames + 1 ≤ R.frames ∧ 8 + (maxL + 11) + rm.locals ≤ R.locals) (hl : Cond.methodLinkNest own index y host ∈ rb_nest) (hi : Cond.instanceMethod y ∈ rb_ws) (hs : Cond.selects y.cls y y ∈ rb_ws) (he : (rb_w Z S)[q0]? = some (Z.1 q0, .inr (ci, fs))) (hc : vwCl[ci]? = some (y.cls, T, N)) (hn : As.length = n) (hst : st0 = As.reverse ++ .ref (Z.1 q0) :: rest) (hr : (rest.map fun v => v.category).sum ≤ 8) (d : decode cc pc = .ok (.invokevirtual index, 3)) (hf : kc + rm.cells ≤ R.cells ∧ ks + rm.slots ≤ R.slots) (k : ∀ (S' : rb_S), K S' → rb_V p l e R s m args below meth c A Q Z nL (pc + 3) L (rest) (S') (kc + rm.cells) (ks + rm.slots)) : rb_V p l e R s m args below meth c A Q Z nL (pc) L (st0) (S) (kc) (ks) := by
  subst hst
  intro H locs ls hP hD hS hl'
  have hF := rb_freeA X hD hS
  exact va_callv (va_runVN (As := As) (rest := rest) (b := Z.1 q0) X.1 (hM H.size) ⟨rb_cn X cw hR hl, rb_hts X _ hi, rb_hts X _ hs⟩ ⟨rb_blind, rb_recv X hP he hc, rb_pre X hP hD hS⟩ rfl hn hl'.1 rfl (lv_room hr) d hf) hS (fun q _ h => hF q h) hF (fun u t H1 locs1 ht hvm hp hB hz hk hS1 => k u hp H1 locs1 ls (by rw [← ht]; exact hB.1) (hB.2.weaken (fun _ q _ h => hF q.1 h)) hS1 hl')
theorem rb_callSv (X : rb_X p s m args meth c A Z cc nL own ret) (hM : rb_Mv l y bytes maxL rm Z As S K) (cw : rb_cw y bytes maxL none n) (hR : rm.frames + 1 ≤ R.frames ∧ 8 + (maxL + 11) + rm.locals ≤ R.locals) (hl : Cond.methodLink own index y ∈ rb_ws) (hi : Cond.static y ∈ rb_ws) (hn : As.length = n) (hst : st0 = As.reverse ++ rest) (hr : (rest.map fun v => v.category).sum ≤ 8) (d : decode cc pc = .ok (.invokestatic index, 3)) (hf : kc + rm.cells ≤ R.cells ∧ ks + rm.slots ≤ R.slots) (k : ∀ (S' : rb_S), K S' → rb_V p l e R s m args below meth c A Q Z nL (pc + 3) L (rest) (S') (kc + rm.cells) (ks + rm.slots)) : rb_V p l e R s m args below meth c A Q Z nL (pc) L (st0) (S) (kc) (ks) := by
  subst hst
  intro H locs ls hP hD hS hl'
  have hF := rb_freeA X hD hS
  exact va_callv (va_runS (As := As) (rest := rest) X.1 (hM H.size) ⟨rb_cb X cw hR hl, rb_hts X _ hi⟩ ⟨rb_blind, rb_pre X hP hD hS⟩ rfl hn hl'.1 rfl (lv_room hr) d hf) hS (fun q _ h => hF q h) hF (fun u t H1 locs1 ht hvm hp hB hz hk hS1 => k u hp H1 locs1 ls (by rw [← ht]; exact hB.1) (hB.2.weaken (fun _ q _ h => hF q.1 h)) hS1 hl')
theorem rb_callSNv (X : rb_X p s m args meth c A Z cc nL own ret) (hM : rb_Mv l y bytes maxL rm Z As S K) (cw : rb_cw y bytes maxL none n) (hR : rm.frames + 1 ≤ R.frames ∧ 8 + (maxL + 11) + rm.locals ≤ R.locals) (hl : Cond.methodLinkNest own index y host ∈ rb_nest) (hi : Cond.static y ∈ rb_ws) (hn : As.length = n) (hst : st0 = As.reverse ++ rest) (hr : (rest.map fun v => v.category).sum ≤ 8) (d : decode cc pc = .ok (.invokestatic index, 3)) (hf : kc + rm.cells ≤ R.cells ∧ ks + rm.slots ≤ R.slots) (k : ∀ (S' : rb_S), K S' → rb_V p l e R s m args below meth c A Q Z nL (pc + 3) L (rest) (S') (kc + rm.cells) (ks + rm.slots)) : rb_V p l e R s m args below meth c A Q Z nL (pc) L (st0) (S) (kc) (ks) := by
  subst hst
  intro H locs ls hP hD hS hl'
  have hF := rb_freeA X hD hS
  exact va_callv (va_runSN (As := As) (rest := rest) X.1 (hM H.size) ⟨rb_cn X cw hR hl, rb_hts X _ hi, trivial⟩ ⟨rb_blind, rb_pre X hP hD hS⟩ rfl hn hl'.1 rfl (lv_room hr) d hf) hS (fun q _ h => hF q h) hF (fun u t H1 locs1 ht hvm hp hB hz hk hS1 => k u hp H1 locs1 ls (by rw [← ht]; exact hB.1) (hB.2.weaken (fun _ q _ h => hF q.1 h)) hS1 hl')
end V
/-- the ends -/
theorem rb_iret {K : Int32 → rb_S → Prop} {r : Int32} (X : rb_X p s m args meth c A Z cc nL own (some .int)) (d : decode cc pc = .ok (.ireturn, 1)) (h : K r S) : rb_V p l e R s m args below meth c A (MQ below (va_Qi K (rb_B Z A) A) args s kc ks A) Z nL pc L [.int r] S kc ks := fun H locs ls hP hD hS hl =>
  W.iret X.1.1 X.1.2.1 X.2.2.2.1 (fun t ht _ => ⟨⟨r, S, rfl, h, by rw [ht]; exact hP, hD⟩, hS.F ht⟩) hS.2.2 d X.2.2.2.2
theorem rb_zret {K : Int32 → rb_S → Prop} {r : Int32} (X : rb_X p s m args meth c A Z cc nL own (some .boolean)) (d : decode cc pc = .ok (.ireturn, 1)) (hn : narrow .boolean (.int r) = .int r) (h : K r S) : rb_V p l e R s m args below meth c A (MQ below (va_Qi K (rb_B Z A) A) args s kc ks A) Z nL pc L [.int r] S kc ks := fun H locs ls hP hD hS hl =>
  W.zret X.1.1 X.1.2.1 X.2.2.2.1 hn (fun t ht _ => ⟨⟨r, S, rfl, h, by rw [ht]; exact hP, hD⟩, hS.F ht⟩) hS.2.2 d X.2.2.2.2
theorem rb_vret {K : rb_S → Prop} (X : rb_X p s m args meth c A Z cc nL own none) (d : decode cc pc = .ok (.return_, 1)) (h : K S) : rb_V p l e R s m args below meth c A (MQ below (va_Qv K (rb_B Z A) A) args s kc ks A) Z nL pc L [] S kc ks := fun H locs ls hP hD hS hl =>
  W.vret X.1.1 X.1.2.1 X.2.2.2.1 (fun t ht _ => ⟨⟨S, rfl, h, by rw [ht]; exact hP, hD⟩, hS.F ht⟩) hS.2.2 d X.2.2.2.2
end RC
/-- a contract out of a walk -/
theorem rb_startI {l : Launch} {y : MethodName} {bytes : ByteArray} {maxL : Nat} {rt : Option FieldType} {rm : Room} {Z : rb_Z} {as : List Value} {S : rb_S} {K : Int32 → rb_S → Prop} (hy : plainName y.cls = true) (hn : (lg_sl as).length ≤ maxL)
    (h : ∀ (p : Program) (e : Env) (s : State) (m : MethodId) (args : Array Value) (below : List Frame) (meth : Method) (c : Code) (A : Nat → Prop), rb_X p s m args meth c A Z bytes maxL y.cls rt → rb_V p l e rm s m args below meth c A (MQ below (va_Qi K (rb_B Z A) A) args s rm.cells rm.slots A) Z maxL 0 (lv_args 0 as) [] S 0 0) : rb_Mi l y bytes maxL rt rm Z as S K := by
  intro sz
  refine Met.ofW (cc := bytes) (maxL := maxL) (ret := rt) hy rfl ?_
  intro p e s m args below meth c s₁ B hml hv
  obtain ⟨rfl, hsz, hP, hK, hD0⟩ := hv
  subst hsz
  have hts := atoms_spec (ws := Cond.code y bytes maxL rt :: rb_ws) B.pre
  have hown : s.vm.findClass y.cls = some m.cls := findClass_of_methodNamed B.named
  have hl := lv_entry as (n := maxL) hn
  rw [lg_entry_eq]
  exact h p e s m as.toArray below meth c (va_A (rb_w Z S) s.heap.size) ⟨⟨B.exec, B.bytes, hml, hown, fun w hw => hts w (List.mem_cons_of_mem _ hw)⟩, hK, fun q hq => Or.inr hq, B.returns, B.notSynchronized⟩ s.heap [] _ hP (hD0.self (sz := s.heap.size)) va_S.rf hl
theorem rb_startV {l : Launch} {y : MethodName} {bytes : ByteArray} {maxL : Nat} {rm : Room} {Z : rb_Z} {as : List Value} {S : rb_S} {K : rb_S → Prop} (hy : plainName y.cls = true) (hn : (lg_sl as).length ≤ maxL)
    (h : ∀ (p : Program) (e : Env) (s : State) (m : MethodId) (args : Array Value) (below : List Frame) (meth : Method) (c : Code) (A : Nat → Prop), rb_X p s m args meth c A Z bytes maxL y.cls none → rb_V p l e rm s m args below meth c A (MQ below (va_Qv K (rb_B Z A) A) args s rm.cells rm.slots A) Z maxL 0 (lv_args 0 as) [] S 0 0) : rb_Mv l y bytes maxL rm Z as S K := by
  intro sz
  refine Met.ofW (cc := bytes) (maxL := maxL) (ret := none) hy rfl ?_
  intro p e s m args below meth c s₁ B hml hv
  obtain ⟨rfl, hsz, hP, hK, hD0⟩ := hv
  subst hsz
  have hts := atoms_spec (ws := Cond.code y bytes maxL none :: rb_ws) B.pre
  have hown : s.vm.findClass y.cls = some m.cls := findClass_of_methodNamed B.named
  have hl := lv_entry as (n := maxL) hn
  rw [lg_entry_eq]
  exact h p e s m as.toArray below meth c (va_A (rb_w Z S) s.heap.size) ⟨⟨B.exec, B.bytes, hml, hown, fun w hw => hts w (List.mem_cons_of_mem _ hw)⟩, hK, fun q hq => Or.inr hq, B.returns, B.notSynchronized⟩ s.heap [] _ hP (hD0.self (sz := s.heap.size)) va_S.rf hl
end
section
theorem rb_mw {w : Cond} (i : Nat) (h : tables_1[i]? = some w) (hg : goodWord w = true) : w ∈ rb_ws := List.mem_filter.mpr ⟨List.mem_append_right _ (List.mem_of_getElem? h), hg⟩
theorem rb_mn {w : Cond} (i : Nat) (h : tables_1[i]? = some w) (hg : rb_isN w = true) : w ∈ rb_nest := List.mem_filter.mpr ⟨List.mem_append_right _ (List.mem_of_getElem? h), hg⟩
theorem rb_ms {w : Cond} (i : Nat) (h : (k2_sels lw_privs)[i]? = some w) (hg : goodWord w = true) : w ∈ rb_ws := List.mem_filter.mpr ⟨List.mem_append_left _ (List.mem_of_getElem? h), hg⟩
theorem rw_1 : (Jvm.Cond.initialized "RoomMaker") ∈ rb_ws := rb_mw 1 (by decide +kernel) (by decide +kernel)
theorem rw_2 : (Jvm.Cond.initialized "RoomMaker$Program") ∈ rb_ws := rb_mw 2 (by decide +kernel) (by decide +kernel)
theorem rw_3 : (Jvm.Cond.initialized "RoomMaker$Inputs") ∈ rb_ws := rb_mw 3 (by decide +kernel) (by decide +kernel)
theorem rw_4 : (Jvm.Cond.initialized "RoomMaker$Spans") ∈ rb_ws := rb_mw 4 (by decide +kernel) (by decide +kernel)
theorem rw_5 : (Jvm.Cond.initialized "RoomMaker$Rooms") ∈ rb_ws := rb_mw 5 (by decide +kernel) (by decide +kernel)
theorem rw_6 : (Jvm.Cond.initialized "RoomMaker$Machine") ∈ rb_ws := rb_mw 6 (by decide +kernel) (by decide +kernel)
theorem rw_7 : (Jvm.Cond.initialized "RoomMakerModel") ∈ rb_ws := rb_mw 7 (by decide +kernel) (by decide +kernel)
theorem rw_13 : (Jvm.Cond.initialized "java/util/Arrays") ∈ rb_ws := rb_mw 13 (by decide +kernel) (by decide +kernel)
theorem rw_15 : (Jvm.Cond.initialized "java/lang/Math") ∈ rb_ws := rb_mw 15 (by decide +kernel) (by decide +kernel)
theorem rw_30 : (Jvm.Cond.fieldLink "RoomMaker$Program" (9 : Nat) "RoomMaker$Program" "sorts" "[I") ∈ rb_ws := rb_mw 30 (by decide +kernel) (by decide +kernel)
theorem rw_32 : (Jvm.Cond.fieldLink "RoomMaker$Program" (15 : Nat) "RoomMaker$Program" "xs" "[I") ∈ rb_ws := rb_mw 32 (by decide +kernel) (by decide +kernel)
theorem rw_34 : (Jvm.Cond.fieldLink "RoomMaker$Program" (18 : Nat) "RoomMaker$Program" "ys" "[I") ∈ rb_ws := rb_mw 34 (by decide +kernel) (by decide +kernel)
theorem rw_36 : (Jvm.Cond.fieldLink "RoomMaker$Program" (21 : Nat) "RoomMaker$Program" "zs" "[I") ∈ rb_ws := rb_mw 36 (by decide +kernel) (by decide +kernel)
theorem rw_41 : (Jvm.Cond.fieldLink "RoomMaker$Program" (41 : Nat) "RoomMaker$Program" "length" "I") ∈ rb_ws := rb_mw 41 (by decide +kernel) (by decide +kernel)
theorem rw_60 : (Jvm.Cond.fieldLink "RoomMaker$Inputs" (9 : Nat) "RoomMaker$Inputs" "ring" "[I") ∈ rb_ws := rb_mw 60 (by decide +kernel) (by decide +kernel)
theorem rw_61 : (Jvm.Cond.fieldLink "RoomMaker$Inputs" (19 : Nat) "RoomMaker$Inputs" "head" "I") ∈ rb_ws := rb_mw 61 (by decide +kernel) (by decide +kernel)
theorem rw_62 : (Jvm.Cond.fieldLink "RoomMaker$Inputs" (15 : Nat) "RoomMaker$Inputs" "waiting" "I") ∈ rb_ws := rb_mw 62 (by decide +kernel) (by decide +kernel)
theorem rw_77 : (Jvm.Cond.fieldLink "RoomMaker$Spans" (9 : Nat) "RoomMaker$Spans" "livingAt" "[I") ∈ rb_ws := rb_mw 77 (by decide +kernel) (by decide +kernel)
theorem rw_79 : (Jvm.Cond.fieldLink "RoomMaker$Spans" (15 : Nat) "RoomMaker$Spans" "firstOf" "[I") ∈ rb_ws := rb_mw 79 (by decide +kernel) (by decide +kernel)
theorem rw_82 : (Jvm.Cond.fieldLink "RoomMaker$Spans" (18 : Nat) "RoomMaker$Spans" "lastOf" "[I") ∈ rb_ws := rb_mw 82 (by decide +kernel) (by decide +kernel)
theorem rw_85 : (Jvm.Cond.fieldLink "RoomMaker$Spans" (27 : Nat) "RoomMaker$Spans" "points" "I") ∈ rb_ws := rb_mw 85 (by decide +kernel) (by decide +kernel)
theorem rw_103 : (Jvm.Cond.fieldLink "RoomMaker$Rooms" (9 : Nat) "RoomMaker$Rooms" "placeOf" "[I") ∈ rb_ws := rb_mw 103 (by decide +kernel) (by decide +kernel)
theorem rw_106 : (Jvm.Cond.fieldLink "RoomMaker$Rooms" (15 : Nat) "RoomMaker$Rooms" "holders" "[I") ∈ rb_ws := rb_mw 106 (by decide +kernel) (by decide +kernel)
theorem rw_107 : (Jvm.Cond.fieldLink "RoomMaker$Rooms" (18 : Nat) "RoomMaker$Rooms" "registers" "I") ∈ rb_ws := rb_mw 107 (by decide +kernel) (by decide +kernel)
theorem rw_108 : (Jvm.Cond.fieldLink "RoomMaker$Rooms" (22 : Nat) "RoomMaker$Rooms" "stacked" "I") ∈ rb_ws := rb_mw 108 (by decide +kernel) (by decide +kernel)
theorem rw_125 : (Jvm.Cond.fieldLink "RoomMaker$Machine" (9 : Nat) "RoomMaker$Machine" "sorts" "[I") ∈ rb_ws := rb_mw 125 (by decide +kernel) (by decide +kernel)
theorem rw_126 : (Jvm.Cond.fieldLink "RoomMaker$Machine" (15 : Nat) "RoomMaker$Machine" "xs" "[I") ∈ rb_ws := rb_mw 126 (by decide +kernel) (by decide +kernel)
theorem rw_127 : (Jvm.Cond.fieldLink "RoomMaker$Machine" (18 : Nat) "RoomMaker$Machine" "ys" "[I") ∈ rb_ws := rb_mw 127 (by decide +kernel) (by decide +kernel)
theorem rw_128 : (Jvm.Cond.fieldLink "RoomMaker$Machine" (21 : Nat) "RoomMaker$Machine" "zs" "[I") ∈ rb_ws := rb_mw 128 (by decide +kernel) (by decide +kernel)
theorem rw_129 : (Jvm.Cond.fieldLink "RoomMaker$Machine" (39 : Nat) "RoomMaker$Machine" "length" "I") ∈ rb_ws := rb_mw 129 (by decide +kernel) (by decide +kernel)
theorem rw_130 : (Jvm.Cond.fieldLink "RoomMaker$Machine" (24 : Nat) "RoomMaker$Machine" "contents" "[I") ∈ rb_ws := rb_mw 130 (by decide +kernel) (by decide +kernel)
theorem rw_131 : (Jvm.Cond.fieldLink "RoomMaker$Machine" (27 : Nat) "RoomMaker$Machine" "cells" "[I") ∈ rb_ws := rb_mw 131 (by decide +kernel) (by decide +kernel)
theorem rw_133 : (Jvm.Cond.fieldLink "RoomMaker$Machine" (30 : Nat) "RoomMaker$Machine" "outputs" "[I") ∈ rb_ws := rb_mw 133 (by decide +kernel) (by decide +kernel)
theorem rw_134 : (Jvm.Cond.fieldLink "RoomMaker$Machine" (68 : Nat) "RoomMaker$Machine" "next" "I") ∈ rb_ws := rb_mw 134 (by decide +kernel) (by decide +kernel)
theorem rw_135 : (Jvm.Cond.fieldLink "RoomMaker$Machine" (71 : Nat) "RoomMaker$Machine" "done" "I") ∈ rb_ws := rb_mw 135 (by decide +kernel) (by decide +kernel)
theorem rw_136 : (Jvm.Cond.fieldLink "RoomMaker$Machine" (74 : Nat) "RoomMaker$Machine" "loads" "I") ∈ rb_ws := rb_mw 136 (by decide +kernel) (by decide +kernel)
theorem rw_137 : (Jvm.Cond.fieldLink "RoomMaker$Machine" (77 : Nat) "RoomMaker$Machine" "stores" "I") ∈ rb_ws := rb_mw 137 (by decide +kernel) (by decide +kernel)
theorem rw_138 : (Jvm.Cond.fieldLink "RoomMaker$Machine" (80 : Nat) "RoomMaker$Machine" "leftOut" "I") ∈ rb_ws := rb_mw 138 (by decide +kernel) (by decide +kernel)
theorem rw_139 : (Jvm.Cond.fieldLink "RoomMaker$Machine" (83 : Nat) "RoomMaker$Machine" "outputsMade" "I") ∈ rb_ws := rb_mw 139 (by decide +kernel) (by decide +kernel)
theorem rw_169 : (Jvm.Cond.fieldLink "RoomMaker" (12 : Nat) "RoomMaker" "program" "LRoomMaker$Program;") ∈ rb_ws := rb_mw 169 (by decide +kernel) (by decide +kernel)
theorem rw_170 : (Jvm.Cond.fieldLink "RoomMaker" (19 : Nat) "RoomMaker" "inputs" "LRoomMaker$Inputs;") ∈ rb_ws := rb_mw 170 (by decide +kernel) (by decide +kernel)
theorem rw_171 : (Jvm.Cond.fieldLink "RoomMaker" (26 : Nat) "RoomMaker" "spans" "LRoomMaker$Spans;") ∈ rb_ws := rb_mw 171 (by decide +kernel) (by decide +kernel)
theorem rw_173 : (Jvm.Cond.fieldLink "RoomMaker" (40 : Nat) "RoomMaker" "machine" "LRoomMaker$Machine;") ∈ rb_ws := rb_mw 173 (by decide +kernel) (by decide +kernel)
theorem rw_174 : (Jvm.Cond.fieldLink "RoomMaker" (55 : Nat) "RoomMaker" "built" "Z") ∈ rb_ws := rb_mw 174 (by decide +kernel) (by decide +kernel)
theorem rw_191 : (Jvm.Cond.code ({ cls := "RoomMaker", name := "clear", desc := "()I" } : Jvm.MethodName) prog_1_method_3_code (2 : Nat) (Option.some Jvm.ClassFile.FieldType.int)) ∈ rb_ws := rb_mw 191 (by decide +kernel) (by decide +kernel)
theorem rw_194 : (Jvm.Cond.instanceMethod ({ cls := "RoomMaker$Inputs", name := "drop", desc := "()V" } : Jvm.MethodName)) ∈ rb_ws := rb_mw 194 (by decide +kernel) (by decide +kernel)
theorem rw_195 : (Jvm.Cond.code ({ cls := "RoomMaker$Inputs", name := "drop", desc := "()V" } : Jvm.MethodName) prog_2_method_4_code (1 : Nat) (Option.none : Option Jvm.ClassFile.FieldType)) ∈ rb_ws := rb_mw 195 (by decide +kernel) (by decide +kernel)
theorem rw_199 : (Jvm.Cond.code ({ cls := "RoomMaker", name := "give", desc := "(I)I" } : Jvm.MethodName) prog_1_method_4_code (2 : Nat) (Option.some Jvm.ClassFile.FieldType.int)) ∈ rb_ws := rb_mw 199 (by decide +kernel) (by decide +kernel)
theorem rw_202 : (Jvm.Cond.instanceMethod ({ cls := "RoomMaker$Inputs", name := "append", desc := "(I)I" } : Jvm.MethodName)) ∈ rb_ws := rb_mw 202 (by decide +kernel) (by decide +kernel)
theorem rw_203 : (Jvm.Cond.code ({ cls := "RoomMaker$Inputs", name := "append", desc := "(I)I" } : Jvm.MethodName) prog_2_method_2_code (2 : Nat) (Option.some Jvm.ClassFile.FieldType.int)) ∈ rb_ws := rb_mw 203 (by decide +kernel) (by decide +kernel)
theorem rw_207 : (Jvm.Cond.code ({ cls := "RoomMaker", name := "pressure", desc := "()I" } : Jvm.MethodName) prog_1_method_9_code (1 : Nat) (Option.some Jvm.ClassFile.FieldType.int)) ∈ rb_ws := rb_mw 207 (by decide +kernel) (by decide +kernel)
theorem rw_210 : (Jvm.Cond.instanceMethod ({ cls := "RoomMaker$Spans", name := "mostAtOnce", desc := "()I" } : Jvm.MethodName)) ∈ rb_ws := rb_mw 210 (by decide +kernel) (by decide +kernel)
theorem rw_211 : (Jvm.Cond.code ({ cls := "RoomMaker$Spans", name := "mostAtOnce", desc := "()I" } : Jvm.MethodName) prog_6_method_8_code (3 : Nat) (Option.some Jvm.ClassFile.FieldType.int)) ∈ rb_ws := rb_mw 211 (by decide +kernel) (by decide +kernel)
theorem rw_212 : (Jvm.Cond.methodLink "RoomMaker$Spans" (69 : Nat) ({ cls := "RoomMaker$Spans", name := "spanning", desc := "(I)I" } : Jvm.MethodName)) ∈ rb_ws := rb_mw 212 (by decide +kernel) (by decide +kernel)
theorem rw_214 : (Jvm.Cond.instanceMethod ({ cls := "RoomMaker$Spans", name := "spanning", desc := "(I)I" } : Jvm.MethodName)) ∈ rb_ws := rb_mw 214 (by decide +kernel) (by decide +kernel)
theorem rw_215 : (Jvm.Cond.code ({ cls := "RoomMaker$Spans", name := "spanning", desc := "(I)I" } : Jvm.MethodName) prog_6_method_9_code (4 : Nat) (Option.some Jvm.ClassFile.FieldType.int)) ∈ rb_ws := rb_mw 215 (by decide +kernel) (by decide +kernel)
theorem rw_216 : (Jvm.Cond.methodLink "RoomMaker$Spans" (72 : Nat) ({ cls := "java/lang/Math", name := "max", desc := "(II)I" } : Jvm.MethodName)) ∈ rb_ws := rb_mw 216 (by decide +kernel) (by decide +kernel)
theorem rw_217 : (Jvm.Cond.static ({ cls := "java/lang/Math", name := "max", desc := "(II)I" } : Jvm.MethodName)) ∈ rb_ws := rb_mw 217 (by decide +kernel) (by decide +kernel)
theorem rw_218 : (Jvm.Cond.code ({ cls := "java/lang/Math", name := "max", desc := "(II)I" } : Jvm.MethodName) prog_13_method_65_code (2 : Nat) (Option.some Jvm.ClassFile.FieldType.int)) ∈ rb_ws := rb_mw 218 (by decide +kernel) (by decide +kernel)
theorem rw_222 : (Jvm.Cond.code ({ cls := "RoomMaker", name := "restart", desc := "()Z" } : Jvm.MethodName) prog_1_method_11_code (1 : Nat) (Option.some Jvm.ClassFile.FieldType.boolean)) ∈ rb_ws := rb_mw 222 (by decide +kernel) (by decide +kernel)
theorem rw_225 : (Jvm.Cond.instanceMethod ({ cls := "RoomMaker$Machine", name := "begin", desc := "()V" } : Jvm.MethodName)) ∈ rb_ws := rb_mw 225 (by decide +kernel) (by decide +kernel)
theorem rw_226 : (Jvm.Cond.code ({ cls := "RoomMaker$Machine", name := "begin", desc := "()V" } : Jvm.MethodName) prog_3_method_4_code (1 : Nat) (Option.none : Option Jvm.ClassFile.FieldType)) ∈ rb_ws := rb_mw 226 (by decide +kernel) (by decide +kernel)
theorem rw_227 : (Jvm.Cond.methodLink "RoomMaker$Machine" (62 : Nat) ({ cls := "java/util/Arrays", name := "fill", desc := "([II)V" } : Jvm.MethodName)) ∈ rb_ws := rb_mw 227 (by decide +kernel) (by decide +kernel)
theorem rw_228 : (Jvm.Cond.static ({ cls := "java/util/Arrays", name := "fill", desc := "([II)V" } : Jvm.MethodName)) ∈ rb_ws := rb_mw 228 (by decide +kernel) (by decide +kernel)
theorem rw_229 : (Jvm.Cond.code ({ cls := "java/util/Arrays", name := "fill", desc := "([II)V" } : Jvm.MethodName) prog_17_method_103_code (4 : Nat) (Option.none : Option Jvm.ClassFile.FieldType)) ∈ rb_ws := rb_mw 229 (by decide +kernel) (by decide +kernel)
theorem rw_233 : (Jvm.Cond.code ({ cls := "RoomMaker", name := "output", desc := "(I)I" } : Jvm.MethodName) prog_1_method_13_code (2 : Nat) (Option.some Jvm.ClassFile.FieldType.int)) ∈ rb_ws := rb_mw 233 (by decide +kernel) (by decide +kernel)
theorem rw_236 : (Jvm.Cond.instanceMethod ({ cls := "RoomMaker$Machine", name := "written", desc := "(I)I" } : Jvm.MethodName)) ∈ rb_ws := rb_mw 236 (by decide +kernel) (by decide +kernel)
theorem rw_237 : (Jvm.Cond.code ({ cls := "RoomMaker$Machine", name := "written", desc := "(I)I" } : Jvm.MethodName) prog_3_method_14_code (2 : Nat) (Option.some Jvm.ClassFile.FieldType.int)) ∈ rb_ws := rb_mw 237 (by decide +kernel) (by decide +kernel)
theorem rw_241 : (Jvm.Cond.code ({ cls := "RoomMaker", name := "count", desc := "(I)I" } : Jvm.MethodName) prog_1_method_14_code (2 : Nat) (Option.some Jvm.ClassFile.FieldType.int)) ∈ rb_ws := rb_mw 241 (by decide +kernel) (by decide +kernel)
theorem rw_244 : (Jvm.Cond.instanceMethod ({ cls := "RoomMaker$Machine", name := "tally", desc := "(I)I" } : Jvm.MethodName)) ∈ rb_ws := rb_mw 244 (by decide +kernel) (by decide +kernel)
theorem rw_245 : (Jvm.Cond.code ({ cls := "RoomMaker$Machine", name := "tally", desc := "(I)I" } : Jvm.MethodName) prog_3_method_15_code (2 : Nat) (Option.some Jvm.ClassFile.FieldType.int)) ∈ rb_ws := rb_mw 245 (by decide +kernel) (by decide +kernel)
theorem rw_246 : (Jvm.Cond.methodLink "RoomMaker$Machine" (86 : Nat) ({ cls := "RoomMaker$Machine", name := "isAtEnd", desc := "()Z" } : Jvm.MethodName)) ∈ rb_ws := rb_mw 246 (by decide +kernel) (by decide +kernel)
theorem rw_248 : (Jvm.Cond.instanceMethod ({ cls := "RoomMaker$Machine", name := "isAtEnd", desc := "()Z" } : Jvm.MethodName)) ∈ rb_ws := rb_mw 248 (by decide +kernel) (by decide +kernel)
theorem rw_249 : (Jvm.Cond.code ({ cls := "RoomMaker$Machine", name := "isAtEnd", desc := "()Z" } : Jvm.MethodName) prog_3_method_5_code (1 : Nat) (Option.some Jvm.ClassFile.FieldType.boolean)) ∈ rb_ws := rb_mw 249 (by decide +kernel) (by decide +kernel)
theorem rw_260 : (Jvm.Cond.code ({ cls := "RoomMaker$Program", name := "allows", desc := "(IIII)Z" } : Jvm.MethodName) prog_4_method_2_code (4 : Nat) (Option.some Jvm.ClassFile.FieldType.boolean)) ∈ rb_ws := rb_mw 260 (by decide +kernel) (by decide +kernel)
theorem rw_263 : (Jvm.Cond.methodLink "RoomMaker$Program" (27 : Nat) ({ cls := "RoomMaker$Program", name := "fits", desc := "(II)Z" } : Jvm.MethodName)) ∈ rb_ws := rb_mw 263 (by decide +kernel) (by decide +kernel)
theorem rw_264 : (Jvm.Cond.static ({ cls := "RoomMaker$Program", name := "fits", desc := "(II)Z" } : Jvm.MethodName)) ∈ rb_ws := rb_mw 264 (by decide +kernel) (by decide +kernel)
theorem rw_265 : (Jvm.Cond.code ({ cls := "RoomMaker$Program", name := "fits", desc := "(II)Z" } : Jvm.MethodName) prog_4_method_3_code (2 : Nat) (Option.some Jvm.ClassFile.FieldType.boolean)) ∈ rb_ws := rb_mw 265 (by decide +kernel) (by decide +kernel)
theorem rw_267 : (Jvm.Cond.static ({ cls := "RoomMaker", name := "isValue", desc := "(I)Z" } : Jvm.MethodName)) ∈ rb_ws := rb_mw 267 (by decide +kernel) (by decide +kernel)
theorem rw_268 : (Jvm.Cond.code ({ cls := "RoomMaker", name := "isValue", desc := "(I)Z" } : Jvm.MethodName) prog_1_method_15_code (1 : Nat) (Option.some Jvm.ClassFile.FieldType.boolean)) ∈ rb_ws := rb_mw 268 (by decide +kernel) (by decide +kernel)
theorem rw_344 : (Jvm.Cond.code ({ cls := "RoomMaker$Program", name := "append", desc := "(IIII)I" } : Jvm.MethodName) prog_4_method_4_code (5 : Nat) (Option.some Jvm.ClassFile.FieldType.int)) ∈ rb_ws := rb_mw 344 (by decide +kernel) (by decide +kernel)
theorem rw_357 : (Jvm.Cond.code ({ cls := "RoomMaker$Program", name := "leadsAstray", desc := "()Z" } : Jvm.MethodName) prog_4_method_10_code (2 : Nat) (Option.some Jvm.ClassFile.FieldType.boolean)) ∈ rb_ws := rb_mw 357 (by decide +kernel) (by decide +kernel)
theorem rw_358 : (Jvm.Cond.methodLink "RoomMaker$Program" (49 : Nat) ({ cls := "RoomMaker$Program", name := "targetOf", desc := "(I)I" } : Jvm.MethodName)) ∈ rb_ws := rb_mw 358 (by decide +kernel) (by decide +kernel)
theorem rw_360 : (Jvm.Cond.instanceMethod ({ cls := "RoomMaker$Program", name := "targetOf", desc := "(I)I" } : Jvm.MethodName)) ∈ rb_ws := rb_mw 360 (by decide +kernel) (by decide +kernel)
theorem rw_361 : (Jvm.Cond.code ({ cls := "RoomMaker$Program", name := "targetOf", desc := "(I)I" } : Jvm.MethodName) prog_4_method_8_code (2 : Nat) (Option.some Jvm.ClassFile.FieldType.int)) ∈ rb_ws := rb_mw 361 (by decide +kernel) (by decide +kernel)
theorem rw_381 : (Jvm.Cond.code ({ cls := "RoomMaker$Spans", name := "find", desc := "(LRoomMaker$Program;)V" } : Jvm.MethodName) prog_6_method_2_code (4 : Nat) (Option.none : Option Jvm.ClassFile.FieldType)) ∈ rb_ws := rb_mw 381 (by decide +kernel) (by decide +kernel)
theorem rw_382 : (Jvm.Cond.methodLink "RoomMaker$Spans" (30 : Nat) ({ cls := "java/util/Arrays", name := "fill", desc := "([II)V" } : Jvm.MethodName)) ∈ rb_ws := rb_mw 382 (by decide +kernel) (by decide +kernel)
theorem rw_383 : (Jvm.Cond.methodLink "RoomMaker$Spans" (36 : Nat) ({ cls := "RoomMaker$Spans", name := "passBack", desc := "(LRoomMaker$Program;)Z" } : Jvm.MethodName)) ∈ rb_ws := rb_mw 383 (by decide +kernel) (by decide +kernel)
theorem rw_385 : (Jvm.Cond.instanceMethod ({ cls := "RoomMaker$Spans", name := "passBack", desc := "(LRoomMaker$Program;)Z" } : Jvm.MethodName)) ∈ rb_ws := rb_mw 385 (by decide +kernel) (by decide +kernel)
theorem rw_386 : (Jvm.Cond.code ({ cls := "RoomMaker$Spans", name := "passBack", desc := "(LRoomMaker$Program;)Z" } : Jvm.MethodName) prog_6_method_3_code (6 : Nat) (Option.some Jvm.ClassFile.FieldType.boolean)) ∈ rb_ws := rb_mw 386 (by decide +kernel) (by decide +kernel)
theorem rw_387 : (Jvm.Cond.methodLink "RoomMaker$Spans" (44 : Nat) ({ cls := "RoomMaker$Spans", name := "livingBehind", desc := "(LRoomMaker$Program;I)I" } : Jvm.MethodName)) ∈ rb_ws := rb_mw 387 (by decide +kernel) (by decide +kernel)
theorem rw_389 : (Jvm.Cond.instanceMethod ({ cls := "RoomMaker$Spans", name := "livingBehind", desc := "(LRoomMaker$Program;I)I" } : Jvm.MethodName)) ∈ rb_ws := rb_mw 389 (by decide +kernel) (by decide +kernel)
theorem rw_390 : (Jvm.Cond.code ({ cls := "RoomMaker$Spans", name := "livingBehind", desc := "(LRoomMaker$Program;I)I" } : Jvm.MethodName) prog_6_method_4_code (4 : Nat) (Option.some Jvm.ClassFile.FieldType.int)) ∈ rb_ws := rb_mw 390 (by decide +kernel) (by decide +kernel)
theorem rw_393 : (Jvm.Cond.instanceMethod ({ cls := "RoomMaker$Program", name := "goesOn", desc := "(I)Z" } : Jvm.MethodName)) ∈ rb_ws := rb_mw 393 (by decide +kernel) (by decide +kernel)
theorem rw_394 : (Jvm.Cond.code ({ cls := "RoomMaker$Program", name := "goesOn", desc := "(I)Z" } : Jvm.MethodName) prog_4_method_9_code (2 : Nat) (Option.some Jvm.ClassFile.FieldType.boolean)) ∈ rb_ws := rb_mw 394 (by decide +kernel) (by decide +kernel)
theorem rw_395 : (Jvm.Cond.methodLink "RoomMaker$Spans" (59 : Nat) ({ cls := "RoomMaker$Spans", name := "livingAhead", desc := "(I)I" } : Jvm.MethodName)) ∈ rb_ws := rb_mw 395 (by decide +kernel) (by decide +kernel)
theorem rw_397 : (Jvm.Cond.instanceMethod ({ cls := "RoomMaker$Spans", name := "livingAhead", desc := "(I)I" } : Jvm.MethodName)) ∈ rb_ws := rb_mw 397 (by decide +kernel) (by decide +kernel)
theorem rw_398 : (Jvm.Cond.code ({ cls := "RoomMaker$Spans", name := "livingAhead", desc := "(I)I" } : Jvm.MethodName) prog_6_method_5_code (2 : Nat) (Option.some Jvm.ClassFile.FieldType.int)) ∈ rb_ws := rb_mw 398 (by decide +kernel) (by decide +kernel)
theorem rw_402 : (Jvm.Cond.instanceMethod ({ cls := "RoomMaker$Program", name := "readBy", desc := "(I)I" } : Jvm.MethodName)) ∈ rb_ws := rb_mw 402 (by decide +kernel) (by decide +kernel)
theorem rw_403 : (Jvm.Cond.code ({ cls := "RoomMaker$Program", name := "readBy", desc := "(I)I" } : Jvm.MethodName) prog_4_method_5_code (3 : Nat) (Option.some Jvm.ClassFile.FieldType.int)) ∈ rb_ws := rb_mw 403 (by decide +kernel) (by decide +kernel)
theorem rw_404 : (Jvm.Cond.methodLink "RoomMaker$Program" (45 : Nat) ({ cls := "RoomMaker$Program", name := "bitIf", desc := "(ZI)I" } : Jvm.MethodName)) ∈ rb_ws := rb_mw 404 (by decide +kernel) (by decide +kernel)
theorem rw_405 : (Jvm.Cond.static ({ cls := "RoomMaker$Program", name := "bitIf", desc := "(ZI)I" } : Jvm.MethodName)) ∈ rb_ws := rb_mw 405 (by decide +kernel) (by decide +kernel)
theorem rw_406 : (Jvm.Cond.code ({ cls := "RoomMaker$Program", name := "bitIf", desc := "(ZI)I" } : Jvm.MethodName) prog_4_method_7_code (2 : Nat) (Option.some Jvm.ClassFile.FieldType.int)) ∈ rb_ws := rb_mw 406 (by decide +kernel) (by decide +kernel)
theorem rw_409 : (Jvm.Cond.instanceMethod ({ cls := "RoomMaker$Program", name := "setBy", desc := "(I)I" } : Jvm.MethodName)) ∈ rb_ws := rb_mw 409 (by decide +kernel) (by decide +kernel)
theorem rw_410 : (Jvm.Cond.code ({ cls := "RoomMaker$Program", name := "setBy", desc := "(I)I" } : Jvm.MethodName) prog_4_method_6_code (2 : Nat) (Option.some Jvm.ClassFile.FieldType.int)) ∈ rb_ws := rb_mw 410 (by decide +kernel) (by decide +kernel)
theorem rw_411 : (Jvm.Cond.methodLink "RoomMaker$Spans" (40 : Nat) ({ cls := "RoomMaker$Spans", name := "measure", desc := "(LRoomMaker$Program;)V" } : Jvm.MethodName)) ∈ rb_ws := rb_mw 411 (by decide +kernel) (by decide +kernel)
theorem rw_413 : (Jvm.Cond.instanceMethod ({ cls := "RoomMaker$Spans", name := "measure", desc := "(LRoomMaker$Program;)V" } : Jvm.MethodName)) ∈ rb_ws := rb_mw 413 (by decide +kernel) (by decide +kernel)
theorem rw_414 : (Jvm.Cond.code ({ cls := "RoomMaker$Spans", name := "measure", desc := "(LRoomMaker$Program;)V" } : Jvm.MethodName) prog_6_method_6_code (4 : Nat) (Option.none : Option Jvm.ClassFile.FieldType)) ∈ rb_ws := rb_mw 414 (by decide +kernel) (by decide +kernel)
theorem rw_415 : (Jvm.Cond.methodLink "RoomMaker$Spans" (65 : Nat) ({ cls := "RoomMaker$Spans", name := "stretch", desc := "(II)V" } : Jvm.MethodName)) ∈ rb_ws := rb_mw 415 (by decide +kernel) (by decide +kernel)
theorem rw_417 : (Jvm.Cond.instanceMethod ({ cls := "RoomMaker$Spans", name := "stretch", desc := "(II)V" } : Jvm.MethodName)) ∈ rb_ws := rb_mw 417 (by decide +kernel) (by decide +kernel)
theorem rw_418 : (Jvm.Cond.code ({ cls := "RoomMaker$Spans", name := "stretch", desc := "(II)V" } : Jvm.MethodName) prog_6_method_7_code (4 : Nat) (Option.none : Option Jvm.ClassFile.FieldType)) ∈ rb_ws := rb_mw 418 (by decide +kernel) (by decide +kernel)
theorem rw_422 : (Jvm.Cond.code ({ cls := "RoomMaker$Rooms", name := "share", desc := "(LRoomMaker$Spans;I)V" } : Jvm.MethodName) prog_5_method_2_code (5 : Nat) (Option.none : Option Jvm.ClassFile.FieldType)) ∈ rb_ws := rb_mw 422 (by decide +kernel) (by decide +kernel)
theorem rw_423 : (Jvm.Cond.methodLink "RoomMaker$Rooms" (25 : Nat) ({ cls := "java/util/Arrays", name := "fill", desc := "([II)V" } : Jvm.MethodName)) ∈ rb_ws := rb_mw 423 (by decide +kernel) (by decide +kernel)
theorem rw_424 : (Jvm.Cond.methodLink "RoomMaker$Rooms" (39 : Nat) ({ cls := "RoomMaker$Rooms", name := "release", desc := "(LRoomMaker$Spans;I)V" } : Jvm.MethodName)) ∈ rb_ws := rb_mw 424 (by decide +kernel) (by decide +kernel)
theorem rw_426 : (Jvm.Cond.instanceMethod ({ cls := "RoomMaker$Rooms", name := "release", desc := "(LRoomMaker$Spans;I)V" } : Jvm.MethodName)) ∈ rb_ws := rb_mw 426 (by decide +kernel) (by decide +kernel)
theorem rw_427 : (Jvm.Cond.code ({ cls := "RoomMaker$Rooms", name := "release", desc := "(LRoomMaker$Spans;I)V" } : Jvm.MethodName) prog_5_method_3_code (4 : Nat) (Option.none : Option Jvm.ClassFile.FieldType)) ∈ rb_ws := rb_mw 427 (by decide +kernel) (by decide +kernel)
theorem rw_428 : (Jvm.Cond.methodLink "RoomMaker$Rooms" (43 : Nat) ({ cls := "RoomMaker$Rooms", name := "settle", desc := "(LRoomMaker$Spans;I)V" } : Jvm.MethodName)) ∈ rb_ws := rb_mw 428 (by decide +kernel) (by decide +kernel)
theorem rw_430 : (Jvm.Cond.instanceMethod ({ cls := "RoomMaker$Rooms", name := "settle", desc := "(LRoomMaker$Spans;I)V" } : Jvm.MethodName)) ∈ rb_ws := rb_mw 430 (by decide +kernel) (by decide +kernel)
theorem rw_431 : (Jvm.Cond.code ({ cls := "RoomMaker$Rooms", name := "settle", desc := "(LRoomMaker$Spans;I)V" } : Jvm.MethodName) prog_5_method_4_code (5 : Nat) (Option.none : Option Jvm.ClassFile.FieldType)) ∈ rb_ws := rb_mw 431 (by decide +kernel) (by decide +kernel)
theorem rw_432 : (Jvm.Cond.methodLink "RoomMaker$Rooms" (49 : Nat) ({ cls := "RoomMaker$Rooms", name := "leastFree", desc := "()I" } : Jvm.MethodName)) ∈ rb_ws := rb_mw 432 (by decide +kernel) (by decide +kernel)
theorem rw_434 : (Jvm.Cond.instanceMethod ({ cls := "RoomMaker$Rooms", name := "leastFree", desc := "()I" } : Jvm.MethodName)) ∈ rb_ws := rb_mw 434 (by decide +kernel) (by decide +kernel)
theorem rw_435 : (Jvm.Cond.code ({ cls := "RoomMaker$Rooms", name := "leastFree", desc := "()I" } : Jvm.MethodName) prog_5_method_5_code (2 : Nat) (Option.some Jvm.ClassFile.FieldType.int)) ∈ rb_ws := rb_mw 435 (by decide +kernel) (by decide +kernel)
theorem rw_436 : (Jvm.Cond.methodLink "RoomMaker$Rooms" (53 : Nat) ({ cls := "RoomMaker$Rooms", name := "longestOf", desc := "(LRoomMaker$Spans;I)I" } : Jvm.MethodName)) ∈ rb_ws := rb_mw 436 (by decide +kernel) (by decide +kernel)
theorem rw_438 : (Jvm.Cond.instanceMethod ({ cls := "RoomMaker$Rooms", name := "longestOf", desc := "(LRoomMaker$Spans;I)I" } : Jvm.MethodName)) ∈ rb_ws := rb_mw 438 (by decide +kernel) (by decide +kernel)
theorem rw_439 : (Jvm.Cond.code ({ cls := "RoomMaker$Rooms", name := "longestOf", desc := "(LRoomMaker$Spans;I)I" } : Jvm.MethodName) prog_5_method_6_code (5 : Nat) (Option.some Jvm.ClassFile.FieldType.int)) ∈ rb_ws := rb_mw 439 (by decide +kernel) (by decide +kernel)
theorem rw_442 : (Jvm.Cond.instanceMethod ({ cls := "RoomMaker$Spans", name := "outlasts", desc := "(II)Z" } : Jvm.MethodName)) ∈ rb_ws := rb_mw 442 (by decide +kernel) (by decide +kernel)
theorem rw_443 : (Jvm.Cond.code ({ cls := "RoomMaker$Spans", name := "outlasts", desc := "(II)Z" } : Jvm.MethodName) prog_6_method_10_code (3 : Nat) (Option.some Jvm.ClassFile.FieldType.boolean)) ∈ rb_ws := rb_mw 443 (by decide +kernel) (by decide +kernel)
theorem rw_447 : (Jvm.Cond.code ({ cls := "RoomMaker$Machine", name := "take", desc := "(LRoomMaker$Program;LRoomMaker$Rooms;)V" } : Jvm.MethodName) prog_3_method_2_code (6 : Nat) (Option.none : Option Jvm.ClassFile.FieldType)) ∈ rb_ws := rb_mw 447 (by decide +kernel) (by decide +kernel)
theorem rw_449 : (Jvm.Cond.methodLink "RoomMaker$Machine" (45 : Nat) ({ cls := "RoomMaker$Machine", name := "operand", desc := "(IILRoomMaker$Rooms;)I" } : Jvm.MethodName)) ∈ rb_ws := rb_mw 449 (by decide +kernel) (by decide +kernel)
theorem rw_450 : (Jvm.Cond.static ({ cls := "RoomMaker$Machine", name := "operand", desc := "(IILRoomMaker$Rooms;)I" } : Jvm.MethodName)) ∈ rb_ws := rb_mw 450 (by decide +kernel) (by decide +kernel)
theorem rw_451 : (Jvm.Cond.code ({ cls := "RoomMaker$Machine", name := "operand", desc := "(IILRoomMaker$Rooms;)I" } : Jvm.MethodName) prog_3_method_3_code (3 : Nat) (Option.some Jvm.ClassFile.FieldType.int)) ∈ rb_ws := rb_mw 451 (by decide +kernel) (by decide +kernel)
theorem rw_507 : (Jvm.Cond.code ({ cls := "RoomMaker$Machine", name := "advance", desc := "(ILRoomMaker$Inputs;)I" } : Jvm.MethodName) prog_3_method_6_code (4 : Nat) (Option.some Jvm.ClassFile.FieldType.int)) ∈ rb_ws := rb_mw 507 (by decide +kernel) (by decide +kernel)
theorem rw_508 : (Jvm.Cond.methodLink "RoomMaker$Machine" (90 : Nat) ({ cls := "RoomMaker$Machine", name := "step", desc := "(LRoomMaker$Inputs;)V" } : Jvm.MethodName)) ∈ rb_ws := rb_mw 508 (by decide +kernel) (by decide +kernel)
theorem rw_510 : (Jvm.Cond.instanceMethod ({ cls := "RoomMaker$Machine", name := "step", desc := "(LRoomMaker$Inputs;)V" } : Jvm.MethodName)) ∈ rb_ws := rb_mw 510 (by decide +kernel) (by decide +kernel)
theorem rw_511 : (Jvm.Cond.code ({ cls := "RoomMaker$Machine", name := "step", desc := "(LRoomMaker$Inputs;)V" } : Jvm.MethodName) prog_3_method_7_code (5 : Nat) (Option.none : Option Jvm.ClassFile.FieldType)) ∈ rb_ws := rb_mw 511 (by decide +kernel) (by decide +kernel)
theorem rw_512 : (Jvm.Cond.methodLink "RoomMaker$Machine" (94 : Nat) ({ cls := "RoomMaker$Machine", name := "assign", desc := "(II)V" } : Jvm.MethodName)) ∈ rb_ws := rb_mw 512 (by decide +kernel) (by decide +kernel)
theorem rw_514 : (Jvm.Cond.instanceMethod ({ cls := "RoomMaker$Machine", name := "assign", desc := "(II)V" } : Jvm.MethodName)) ∈ rb_ws := rb_mw 514 (by decide +kernel) (by decide +kernel)
theorem rw_515 : (Jvm.Cond.code ({ cls := "RoomMaker$Machine", name := "assign", desc := "(II)V" } : Jvm.MethodName) prog_3_method_11_code (3 : Nat) (Option.none : Option Jvm.ClassFile.FieldType)) ∈ rb_ws := rb_mw 515 (by decide +kernel) (by decide +kernel)
theorem rw_516 : (Jvm.Cond.methodLink "RoomMaker$Machine" (98 : Nat) ({ cls := "RoomMaker$Machine", name := "fetch", desc := "(I)I" } : Jvm.MethodName)) ∈ rb_ws := rb_mw 516 (by decide +kernel) (by decide +kernel)
theorem rw_518 : (Jvm.Cond.instanceMethod ({ cls := "RoomMaker$Machine", name := "fetch", desc := "(I)I" } : Jvm.MethodName)) ∈ rb_ws := rb_mw 518 (by decide +kernel) (by decide +kernel)
theorem rw_519 : (Jvm.Cond.code ({ cls := "RoomMaker$Machine", name := "fetch", desc := "(I)I" } : Jvm.MethodName) prog_3_method_10_code (2 : Nat) (Option.some Jvm.ClassFile.FieldType.int)) ∈ rb_ws := rb_mw 519 (by decide +kernel) (by decide +kernel)
theorem rw_520 : (Jvm.Cond.methodLink "RoomMaker$Machine" (118 : Nat) ({ cls := "RoomMaker$Machine", name := "contentOf", desc := "(I)I" } : Jvm.MethodName)) ∈ rb_ws := rb_mw 520 (by decide +kernel) (by decide +kernel)
theorem rw_522 : (Jvm.Cond.instanceMethod ({ cls := "RoomMaker$Machine", name := "contentOf", desc := "(I)I" } : Jvm.MethodName)) ∈ rb_ws := rb_mw 522 (by decide +kernel) (by decide +kernel)
theorem rw_523 : (Jvm.Cond.code ({ cls := "RoomMaker$Machine", name := "contentOf", desc := "(I)I" } : Jvm.MethodName) prog_3_method_12_code (2 : Nat) (Option.some Jvm.ClassFile.FieldType.int)) ∈ rb_ws := rb_mw 523 (by decide +kernel) (by decide +kernel)
theorem rw_526 : (Jvm.Cond.instanceMethod ({ cls := "RoomMaker$Inputs", name := "next", desc := "()I" } : Jvm.MethodName)) ∈ rb_ws := rb_mw 526 (by decide +kernel) (by decide +kernel)
theorem rw_527 : (Jvm.Cond.code ({ cls := "RoomMaker$Inputs", name := "next", desc := "()I" } : Jvm.MethodName) prog_2_method_3_code (2 : Nat) (Option.some Jvm.ClassFile.FieldType.int)) ∈ rb_ws := rb_mw 527 (by decide +kernel) (by decide +kernel)
theorem rw_528 : (Jvm.Cond.methodLink "RoomMaker$Machine" (107 : Nat) ({ cls := "RoomMaker$Machine", name := "write", desc := "(I)V" } : Jvm.MethodName)) ∈ rb_ws := rb_mw 528 (by decide +kernel) (by decide +kernel)
theorem rw_530 : (Jvm.Cond.instanceMethod ({ cls := "RoomMaker$Machine", name := "write", desc := "(I)V" } : Jvm.MethodName)) ∈ rb_ws := rb_mw 530 (by decide +kernel) (by decide +kernel)
theorem rw_531 : (Jvm.Cond.code ({ cls := "RoomMaker$Machine", name := "write", desc := "(I)V" } : Jvm.MethodName) prog_3_method_13_code (2 : Nat) (Option.none : Option Jvm.ClassFile.FieldType)) ∈ rb_ws := rb_mw 531 (by decide +kernel) (by decide +kernel)
theorem rw_532 : (Jvm.Cond.methodLink "RoomMaker$Machine" (111 : Nat) ({ cls := "RoomMaker$Machine", name := "reckon", desc := "(IIII)V" } : Jvm.MethodName)) ∈ rb_ws := rb_mw 532 (by decide +kernel) (by decide +kernel)
theorem rw_534 : (Jvm.Cond.instanceMethod ({ cls := "RoomMaker$Machine", name := "reckon", desc := "(IIII)V" } : Jvm.MethodName)) ∈ rb_ws := rb_mw 534 (by decide +kernel) (by decide +kernel)
theorem rw_535 : (Jvm.Cond.code ({ cls := "RoomMaker$Machine", name := "reckon", desc := "(IIII)V" } : Jvm.MethodName) prog_3_method_8_code (7 : Nat) (Option.none : Option Jvm.ClassFile.FieldType)) ∈ rb_ws := rb_mw 535 (by decide +kernel) (by decide +kernel)
theorem rw_536 : (Jvm.Cond.methodLink "RoomMaker$Machine" (115 : Nat) ({ cls := "RoomMaker$Machine", name := "jump", desc := "(IIII)V" } : Jvm.MethodName)) ∈ rb_ws := rb_mw 536 (by decide +kernel) (by decide +kernel)
theorem rw_538 : (Jvm.Cond.instanceMethod ({ cls := "RoomMaker$Machine", name := "jump", desc := "(IIII)V" } : Jvm.MethodName)) ∈ rb_ws := rb_mw 538 (by decide +kernel) (by decide +kernel)
theorem rw_539 : (Jvm.Cond.code ({ cls := "RoomMaker$Machine", name := "jump", desc := "(IIII)V" } : Jvm.MethodName) prog_3_method_9_code (7 : Nat) (Option.none : Option Jvm.ClassFile.FieldType)) ∈ rb_ws := rb_mw 539 (by decide +kernel) (by decide +kernel)
theorem rw_556 : (Jvm.Cond.fieldLink "RoomMakerModel" (47 : Nat) "RoomMakerModel" "thrown" "I") ∈ rb_ws := rb_mw 556 (by decide +kernel) (by decide +kernel)
theorem rw_557 : (Jvm.Cond.fieldLink "RoomMakerModel" (7 : Nat) "RoomMakerModel" "code" "[I") ∈ rb_ws := rb_mw 557 (by decide +kernel) (by decide +kernel)
theorem rw_558 : (Jvm.Cond.fieldLink "RoomMakerModel" (65 : Nat) "RoomMakerModel" "size" "I") ∈ rb_ws := rb_mw 558 (by decide +kernel) (by decide +kernel)
theorem rw_559 : (Jvm.Cond.fieldLink "RoomMakerModel" (13 : Nat) "RoomMakerModel" "inputs" "[I") ∈ rb_ws := rb_mw 559 (by decide +kernel) (by decide +kernel)
theorem rw_560 : (Jvm.Cond.fieldLink "RoomMakerModel" (75 : Nat) "RoomMakerModel" "waiting" "I") ∈ rb_ws := rb_mw 560 (by decide +kernel) (by decide +kernel)
theorem rw_561 : (Jvm.Cond.fieldLink "RoomMakerModel" (68 : Nat) "RoomMakerModel" "built" "Z") ∈ rb_ws := rb_mw 561 (by decide +kernel) (by decide +kernel)
theorem rw_562 : (Jvm.Cond.fieldLink "RoomMakerModel" (16 : Nat) "RoomMakerModel" "living" "[Z") ∈ rb_ws := rb_mw 562 (by decide +kernel) (by decide +kernel)
theorem rw_563 : (Jvm.Cond.fieldLink "RoomMakerModel" (20 : Nat) "RoomMakerModel" "met" "[Z") ∈ rb_ws := rb_mw 563 (by decide +kernel) (by decide +kernel)
theorem rw_564 : (Jvm.Cond.fieldLink "RoomMakerModel" (23 : Nat) "RoomMakerModel" "todo" "[I") ∈ rb_ws := rb_mw 564 (by decide +kernel) (by decide +kernel)
theorem rw_565 : (Jvm.Cond.fieldLink "RoomMakerModel" (78 : Nat) "RoomMakerModel" "left" "I") ∈ rb_ws := rb_mw 565 (by decide +kernel) (by decide +kernel)
theorem rw_566 : (Jvm.Cond.fieldLink "RoomMakerModel" (26 : Nat) "RoomMakerModel" "first" "[I") ∈ rb_ws := rb_mw 566 (by decide +kernel) (by decide +kernel)
theorem rw_567 : (Jvm.Cond.fieldLink "RoomMakerModel" (29 : Nat) "RoomMakerModel" "last" "[I") ∈ rb_ws := rb_mw 567 (by decide +kernel) (by decide +kernel)
theorem rw_568 : (Jvm.Cond.fieldLink "RoomMakerModel" (32 : Nat) "RoomMakerModel" "places" "[I") ∈ rb_ws := rb_mw 568 (by decide +kernel) (by decide +kernel)
theorem rw_569 : (Jvm.Cond.fieldLink "RoomMakerModel" (102 : Nat) "RoomMakerModel" "stacked" "I") ∈ rb_ws := rb_mw 569 (by decide +kernel) (by decide +kernel)
theorem rw_570 : (Jvm.Cond.fieldLink "RoomMakerModel" (35 : Nat) "RoomMakerModel" "registers" "[I") ∈ rb_ws := rb_mw 570 (by decide +kernel) (by decide +kernel)
theorem rw_571 : (Jvm.Cond.fieldLink "RoomMakerModel" (38 : Nat) "RoomMakerModel" "stack" "[I") ∈ rb_ws := rb_mw 571 (by decide +kernel) (by decide +kernel)
theorem rw_572 : (Jvm.Cond.fieldLink "RoomMakerModel" (41 : Nat) "RoomMakerModel" "cells" "[I") ∈ rb_ws := rb_mw 572 (by decide +kernel) (by decide +kernel)
theorem rw_573 : (Jvm.Cond.fieldLink "RoomMakerModel" (44 : Nat) "RoomMakerModel" "written" "[I") ∈ rb_ws := rb_mw 573 (by decide +kernel) (by decide +kernel)
theorem rw_574 : (Jvm.Cond.fieldLink "RoomMakerModel" (123 : Nat) "RoomMakerModel" "at" "I") ∈ rb_ws := rb_mw 574 (by decide +kernel) (by decide +kernel)
theorem rw_575 : (Jvm.Cond.fieldLink "RoomMakerModel" (126 : Nat) "RoomMakerModel" "done" "I") ∈ rb_ws := rb_mw 575 (by decide +kernel) (by decide +kernel)
theorem rw_576 : (Jvm.Cond.fieldLink "RoomMakerModel" (129 : Nat) "RoomMakerModel" "loads" "I") ∈ rb_ws := rb_mw 576 (by decide +kernel) (by decide +kernel)
theorem rw_577 : (Jvm.Cond.fieldLink "RoomMakerModel" (132 : Nat) "RoomMakerModel" "stores" "I") ∈ rb_ws := rb_mw 577 (by decide +kernel) (by decide +kernel)
theorem rw_578 : (Jvm.Cond.fieldLink "RoomMakerModel" (135 : Nat) "RoomMakerModel" "copies" "I") ∈ rb_ws := rb_mw 578 (by decide +kernel) (by decide +kernel)
theorem rw_579 : (Jvm.Cond.fieldLink "RoomMakerModel" (72 : Nat) "RoomMakerModel" "outputs" "I") ∈ rb_ws := rb_mw 579 (by decide +kernel) (by decide +kernel)
theorem rw_633 : (Jvm.Cond.code ({ cls := "RoomMakerModel", name := "thrown", desc := "()I" } : Jvm.MethodName) prog_8_method_2_code (1 : Nat) (Option.some Jvm.ClassFile.FieldType.int)) ∈ rb_ws := rb_mw 633 (by decide +kernel) (by decide +kernel)
theorem rw_637 : (Jvm.Cond.code ({ cls := "RoomMakerModel", name := "put", desc := "(IIII)I" } : Jvm.MethodName) prog_8_method_6_code (5 : Nat) (Option.some Jvm.ClassFile.FieldType.int)) ∈ rb_ws := rb_mw 637 (by decide +kernel) (by decide +kernel)
theorem rw_638 : (Jvm.Cond.methodLink "RoomMakerModel" (58 : Nat) ({ cls := "RoomMakerModel", name := "isRight", desc := "(IIII)Z" } : Jvm.MethodName)) ∈ rb_ws := rb_mw 638 (by decide +kernel) (by decide +kernel)
theorem rw_639 : (Jvm.Cond.static ({ cls := "RoomMakerModel", name := "isRight", desc := "(IIII)Z" } : Jvm.MethodName)) ∈ rb_ws := rb_mw 639 (by decide +kernel) (by decide +kernel)
theorem rw_640 : (Jvm.Cond.code ({ cls := "RoomMakerModel", name := "isRight", desc := "(IIII)Z" } : Jvm.MethodName) prog_8_method_5_code (4 : Nat) (Option.some Jvm.ClassFile.FieldType.boolean)) ∈ rb_ws := rb_mw 640 (by decide +kernel) (by decide +kernel)
theorem rw_641 : (Jvm.Cond.methodLink "RoomMakerModel" (51 : Nat) ({ cls := "RoomMakerModel", name := "isValue", desc := "(I)Z" } : Jvm.MethodName)) ∈ rb_ws := rb_mw 641 (by decide +kernel) (by decide +kernel)
theorem rw_642 : (Jvm.Cond.static ({ cls := "RoomMakerModel", name := "isValue", desc := "(I)Z" } : Jvm.MethodName)) ∈ rb_ws := rb_mw 642 (by decide +kernel) (by decide +kernel)
theorem rw_643 : (Jvm.Cond.code ({ cls := "RoomMakerModel", name := "isValue", desc := "(I)Z" } : Jvm.MethodName) prog_8_method_3_code (1 : Nat) (Option.some Jvm.ClassFile.FieldType.boolean)) ∈ rb_ws := rb_mw 643 (by decide +kernel) (by decide +kernel)
theorem rw_644 : (Jvm.Cond.methodLink "RoomMakerModel" (55 : Nat) ({ cls := "RoomMakerModel", name := "isTarget", desc := "(I)Z" } : Jvm.MethodName)) ∈ rb_ws := rb_mw 644 (by decide +kernel) (by decide +kernel)
theorem rw_645 : (Jvm.Cond.static ({ cls := "RoomMakerModel", name := "isTarget", desc := "(I)Z" } : Jvm.MethodName)) ∈ rb_ws := rb_mw 645 (by decide +kernel) (by decide +kernel)
theorem rw_646 : (Jvm.Cond.code ({ cls := "RoomMakerModel", name := "isTarget", desc := "(I)Z" } : Jvm.MethodName) prog_8_method_4_code (1 : Nat) (Option.some Jvm.ClassFile.FieldType.boolean)) ∈ rb_ws := rb_mw 646 (by decide +kernel) (by decide +kernel)
theorem rw_647 : (Jvm.Cond.methodLink "RoomMakerModel" (62 : Nat) ({ cls := "RoomMakerModel", name := "forget", desc := "()V" } : Jvm.MethodName)) ∈ rb_ws := rb_mw 647 (by decide +kernel) (by decide +kernel)
theorem rw_649 : (Jvm.Cond.instanceMethod ({ cls := "RoomMakerModel", name := "forget", desc := "()V" } : Jvm.MethodName)) ∈ rb_ws := rb_mw 649 (by decide +kernel) (by decide +kernel)
theorem rw_650 : (Jvm.Cond.code ({ cls := "RoomMakerModel", name := "forget", desc := "()V" } : Jvm.MethodName) prog_8_method_7_code (1 : Nat) (Option.none : Option Jvm.ClassFile.FieldType)) ∈ rb_ws := rb_mw 650 (by decide +kernel) (by decide +kernel)
theorem rw_654 : (Jvm.Cond.code ({ cls := "RoomMakerModel", name := "clear", desc := "()I" } : Jvm.MethodName) prog_8_method_8_code (2 : Nat) (Option.some Jvm.ClassFile.FieldType.int)) ∈ rb_ws := rb_mw 654 (by decide +kernel) (by decide +kernel)
theorem rw_658 : (Jvm.Cond.code ({ cls := "RoomMakerModel", name := "give", desc := "(I)I" } : Jvm.MethodName) prog_8_method_9_code (2 : Nat) (Option.some Jvm.ClassFile.FieldType.int)) ∈ rb_ws := rb_mw 658 (by decide +kernel) (by decide +kernel)
theorem rw_662 : (Jvm.Cond.code ({ cls := "RoomMakerModel", name := "build", desc := "(I)I" } : Jvm.MethodName) prog_8_method_20_code (3 : Nat) (Option.some Jvm.ClassFile.FieldType.int)) ∈ rb_ws := rb_mw 662 (by decide +kernel) (by decide +kernel)
theorem rw_663 : (Jvm.Cond.methodLink "RoomMakerModel" (105 : Nat) ({ cls := "RoomMakerModel", name := "goesNowhere", desc := "()Z" } : Jvm.MethodName)) ∈ rb_ws := rb_mw 663 (by decide +kernel) (by decide +kernel)
theorem rw_665 : (Jvm.Cond.instanceMethod ({ cls := "RoomMakerModel", name := "goesNowhere", desc := "()Z" } : Jvm.MethodName)) ∈ rb_ws := rb_mw 665 (by decide +kernel) (by decide +kernel)
theorem rw_666 : (Jvm.Cond.code ({ cls := "RoomMakerModel", name := "goesNowhere", desc := "()Z" } : Jvm.MethodName) prog_8_method_19_code (5 : Nat) (Option.some Jvm.ClassFile.FieldType.boolean)) ∈ rb_ws := rb_mw 666 (by decide +kernel) (by decide +kernel)
theorem rw_667 : (Jvm.Cond.methodLink "RoomMakerModel" (109 : Nat) ({ cls := "RoomMakerModel", name := "spans", desc := "()V" } : Jvm.MethodName)) ∈ rb_ws := rb_mw 667 (by decide +kernel) (by decide +kernel)
theorem rw_669 : (Jvm.Cond.instanceMethod ({ cls := "RoomMakerModel", name := "spans", desc := "()V" } : Jvm.MethodName)) ∈ rb_ws := rb_mw 669 (by decide +kernel) (by decide +kernel)
theorem rw_670 : (Jvm.Cond.code ({ cls := "RoomMakerModel", name := "spans", desc := "()V" } : Jvm.MethodName) prog_8_method_14_code (3 : Nat) (Option.none : Option Jvm.ClassFile.FieldType)) ∈ rb_ws := rb_mw 670 (by decide +kernel) (by decide +kernel)
theorem rw_671 : (Jvm.Cond.methodLink "RoomMakerModel" (92 : Nat) ({ cls := "RoomMakerModel", name := "isLiving", desc := "(II)Z" } : Jvm.MethodName)) ∈ rb_ws := rb_mw 671 (by decide +kernel) (by decide +kernel)
theorem rw_673 : (Jvm.Cond.instanceMethod ({ cls := "RoomMakerModel", name := "isLiving", desc := "(II)Z" } : Jvm.MethodName)) ∈ rb_ws := rb_mw 673 (by decide +kernel) (by decide +kernel)
theorem rw_674 : (Jvm.Cond.code ({ cls := "RoomMakerModel", name := "isLiving", desc := "(II)Z" } : Jvm.MethodName) prog_8_method_13_code (6 : Nat) (Option.some Jvm.ClassFile.FieldType.boolean)) ∈ rb_ws := rb_mw 674 (by decide +kernel) (by decide +kernel)
theorem rw_675 : (Jvm.Cond.methodLink "RoomMakerModel" (81 : Nat) ({ cls := "RoomMakerModel", name := "come", desc := "(I)V" } : Jvm.MethodName)) ∈ rb_ws := rb_mw 675 (by decide +kernel) (by decide +kernel)
theorem rw_677 : (Jvm.Cond.instanceMethod ({ cls := "RoomMakerModel", name := "come", desc := "(I)V" } : Jvm.MethodName)) ∈ rb_ws := rb_mw 677 (by decide +kernel) (by decide +kernel)
theorem rw_678 : (Jvm.Cond.code ({ cls := "RoomMakerModel", name := "come", desc := "(I)V" } : Jvm.MethodName) prog_8_method_12_code (2 : Nat) (Option.none : Option Jvm.ClassFile.FieldType)) ∈ rb_ws := rb_mw 678 (by decide +kernel) (by decide +kernel)
theorem rw_679 : (Jvm.Cond.methodLink "RoomMakerModel" (85 : Nat) ({ cls := "RoomMakerModel", name := "reads", desc := "(II)Z" } : Jvm.MethodName)) ∈ rb_ws := rb_mw 679 (by decide +kernel) (by decide +kernel)
theorem rw_681 : (Jvm.Cond.instanceMethod ({ cls := "RoomMakerModel", name := "reads", desc := "(II)Z" } : Jvm.MethodName)) ∈ rb_ws := rb_mw 681 (by decide +kernel) (by decide +kernel)
theorem rw_682 : (Jvm.Cond.code ({ cls := "RoomMakerModel", name := "reads", desc := "(II)Z" } : Jvm.MethodName) prog_8_method_10_code (7 : Nat) (Option.some Jvm.ClassFile.FieldType.boolean)) ∈ rb_ws := rb_mw 682 (by decide +kernel) (by decide +kernel)
theorem rw_683 : (Jvm.Cond.methodLink "RoomMakerModel" (89 : Nat) ({ cls := "RoomMakerModel", name := "sets", desc := "(II)Z" } : Jvm.MethodName)) ∈ rb_ws := rb_mw 683 (by decide +kernel) (by decide +kernel)
theorem rw_685 : (Jvm.Cond.instanceMethod ({ cls := "RoomMakerModel", name := "sets", desc := "(II)Z" } : Jvm.MethodName)) ∈ rb_ws := rb_mw 685 (by decide +kernel) (by decide +kernel)
theorem rw_686 : (Jvm.Cond.code ({ cls := "RoomMakerModel", name := "sets", desc := "(II)Z" } : Jvm.MethodName) prog_8_method_11_code (3 : Nat) (Option.some Jvm.ClassFile.FieldType.boolean)) ∈ rb_ws := rb_mw 686 (by decide +kernel) (by decide +kernel)
theorem rw_687 : (Jvm.Cond.methodLink "RoomMakerModel" (112 : Nat) ({ cls := "RoomMakerModel", name := "next", desc := "(I)I" } : Jvm.MethodName)) ∈ rb_ws := rb_mw 687 (by decide +kernel) (by decide +kernel)
theorem rw_689 : (Jvm.Cond.instanceMethod ({ cls := "RoomMakerModel", name := "next", desc := "(I)I" } : Jvm.MethodName)) ∈ rb_ws := rb_mw 689 (by decide +kernel) (by decide +kernel)
theorem rw_690 : (Jvm.Cond.code ({ cls := "RoomMakerModel", name := "next", desc := "(I)I" } : Jvm.MethodName) prog_8_method_15_code (5 : Nat) (Option.some Jvm.ClassFile.FieldType.int)) ∈ rb_ws := rb_mw 690 (by decide +kernel) (by decide +kernel)
theorem rw_691 : (Jvm.Cond.methodLink "RoomMakerModel" (116 : Nat) ({ cls := "RoomMakerModel", name := "settle", desc := "(II)V" } : Jvm.MethodName)) ∈ rb_ws := rb_mw 691 (by decide +kernel) (by decide +kernel)
theorem rw_693 : (Jvm.Cond.instanceMethod ({ cls := "RoomMakerModel", name := "settle", desc := "(II)V" } : Jvm.MethodName)) ∈ rb_ws := rb_mw 693 (by decide +kernel) (by decide +kernel)
theorem rw_694 : (Jvm.Cond.code ({ cls := "RoomMakerModel", name := "settle", desc := "(II)V" } : Jvm.MethodName) prog_8_method_18_code (5 : Nat) (Option.none : Option Jvm.ClassFile.FieldType)) ∈ rb_ws := rb_mw 694 (by decide +kernel) (by decide +kernel)
theorem rw_695 : (Jvm.Cond.methodLink "RoomMakerModel" (95 : Nat) ({ cls := "RoomMakerModel", name := "isTaken", desc := "(II)Z" } : Jvm.MethodName)) ∈ rb_ws := rb_mw 695 (by decide +kernel) (by decide +kernel)
theorem rw_697 : (Jvm.Cond.instanceMethod ({ cls := "RoomMakerModel", name := "isTaken", desc := "(II)Z" } : Jvm.MethodName)) ∈ rb_ws := rb_mw 697 (by decide +kernel) (by decide +kernel)
theorem rw_698 : (Jvm.Cond.code ({ cls := "RoomMakerModel", name := "isTaken", desc := "(II)Z" } : Jvm.MethodName) prog_8_method_16_code (5 : Nat) (Option.some Jvm.ClassFile.FieldType.boolean)) ∈ rb_ws := rb_mw 698 (by decide +kernel) (by decide +kernel)
theorem rw_699 : (Jvm.Cond.methodLink "RoomMakerModel" (98 : Nat) ({ cls := "RoomMakerModel", name := "latest", desc := "(II)I" } : Jvm.MethodName)) ∈ rb_ws := rb_mw 699 (by decide +kernel) (by decide +kernel)
theorem rw_701 : (Jvm.Cond.instanceMethod ({ cls := "RoomMakerModel", name := "latest", desc := "(II)I" } : Jvm.MethodName)) ∈ rb_ws := rb_mw 701 (by decide +kernel) (by decide +kernel)
theorem rw_702 : (Jvm.Cond.code ({ cls := "RoomMakerModel", name := "latest", desc := "(II)I" } : Jvm.MethodName) prog_8_method_17_code (6 : Nat) (Option.some Jvm.ClassFile.FieldType.int)) ∈ rb_ws := rb_mw 702 (by decide +kernel) (by decide +kernel)
theorem rw_703 : (Jvm.Cond.methodLink "RoomMakerModel" (120 : Nat) ({ cls := "RoomMakerModel", name := "begin", desc := "()V" } : Jvm.MethodName)) ∈ rb_ws := rb_mw 703 (by decide +kernel) (by decide +kernel)
theorem rw_705 : (Jvm.Cond.instanceMethod ({ cls := "RoomMakerModel", name := "begin", desc := "()V" } : Jvm.MethodName)) ∈ rb_ws := rb_mw 705 (by decide +kernel) (by decide +kernel)
theorem rw_706 : (Jvm.Cond.code ({ cls := "RoomMakerModel", name := "begin", desc := "()V" } : Jvm.MethodName) prog_8_method_21_code (2 : Nat) (Option.none : Option Jvm.ClassFile.FieldType)) ∈ rb_ws := rb_mw 706 (by decide +kernel) (by decide +kernel)
theorem rw_710 : (Jvm.Cond.code ({ cls := "RoomMakerModel", name := "span", desc := "(IZ)I" } : Jvm.MethodName) prog_8_method_22_code (3 : Nat) (Option.some Jvm.ClassFile.FieldType.int)) ∈ rb_ws := rb_mw 710 (by decide +kernel) (by decide +kernel)
theorem rw_714 : (Jvm.Cond.code ({ cls := "RoomMakerModel", name := "lives", desc := "(II)Z" } : Jvm.MethodName) prog_8_method_23_code (3 : Nat) (Option.some Jvm.ClassFile.FieldType.boolean)) ∈ rb_ws := rb_mw 714 (by decide +kernel) (by decide +kernel)
theorem rw_718 : (Jvm.Cond.code ({ cls := "RoomMakerModel", name := "place", desc := "(I)I" } : Jvm.MethodName) prog_8_method_24_code (2 : Nat) (Option.some Jvm.ClassFile.FieldType.int)) ∈ rb_ws := rb_mw 718 (by decide +kernel) (by decide +kernel)
theorem rw_722 : (Jvm.Cond.code ({ cls := "RoomMakerModel", name := "pressure", desc := "()I" } : Jvm.MethodName) prog_8_method_25_code (5 : Nat) (Option.some Jvm.ClassFile.FieldType.int)) ∈ rb_ws := rb_mw 722 (by decide +kernel) (by decide +kernel)
theorem rw_726 : (Jvm.Cond.code ({ cls := "RoomMakerModel", name := "run", desc := "(I)I" } : Jvm.MethodName) prog_8_method_32_code (3 : Nat) (Option.some Jvm.ClassFile.FieldType.int)) ∈ rb_ws := rb_mw 726 (by decide +kernel) (by decide +kernel)
theorem rw_727 : (Jvm.Cond.methodLink "RoomMakerModel" (155 : Nat) ({ cls := "RoomMakerModel", name := "step", desc := "()V" } : Jvm.MethodName)) ∈ rb_ws := rb_mw 727 (by decide +kernel) (by decide +kernel)
theorem rw_729 : (Jvm.Cond.instanceMethod ({ cls := "RoomMakerModel", name := "step", desc := "()V" } : Jvm.MethodName)) ∈ rb_ws := rb_mw 729 (by decide +kernel) (by decide +kernel)
theorem rw_730 : (Jvm.Cond.code ({ cls := "RoomMakerModel", name := "step", desc := "()V" } : Jvm.MethodName) prog_8_method_31_code (7 : Nat) (Option.none : Option Jvm.ClassFile.FieldType)) ∈ rb_ws := rb_mw 730 (by decide +kernel) (by decide +kernel)
theorem rw_731 : (Jvm.Cond.methodLink "RoomMakerModel" (148 : Nat) ({ cls := "RoomMakerModel", name := "copy", desc := "(II)V" } : Jvm.MethodName)) ∈ rb_ws := rb_mw 731 (by decide +kernel) (by decide +kernel)
theorem rw_733 : (Jvm.Cond.instanceMethod ({ cls := "RoomMakerModel", name := "copy", desc := "(II)V" } : Jvm.MethodName)) ∈ rb_ws := rb_mw 733 (by decide +kernel) (by decide +kernel)
theorem rw_734 : (Jvm.Cond.code ({ cls := "RoomMakerModel", name := "copy", desc := "(II)V" } : Jvm.MethodName) prog_8_method_29_code (4 : Nat) (Option.none : Option Jvm.ClassFile.FieldType)) ∈ rb_ws := rb_mw 734 (by decide +kernel) (by decide +kernel)
theorem rw_735 : (Jvm.Cond.methodLink "RoomMakerModel" (138 : Nat) ({ cls := "RoomMakerModel", name := "get", desc := "(I)I" } : Jvm.MethodName)) ∈ rb_ws := rb_mw 735 (by decide +kernel) (by decide +kernel)
theorem rw_737 : (Jvm.Cond.instanceMethod ({ cls := "RoomMakerModel", name := "get", desc := "(I)I" } : Jvm.MethodName)) ∈ rb_ws := rb_mw 737 (by decide +kernel) (by decide +kernel)
theorem rw_738 : (Jvm.Cond.code ({ cls := "RoomMakerModel", name := "get", desc := "(I)I" } : Jvm.MethodName) prog_8_method_26_code (3 : Nat) (Option.some Jvm.ClassFile.FieldType.int)) ∈ rb_ws := rb_mw 738 (by decide +kernel) (by decide +kernel)
theorem rw_739 : (Jvm.Cond.methodLink "RoomMakerModel" (141 : Nat) ({ cls := "RoomMakerModel", name := "bring", desc := "(II)V" } : Jvm.MethodName)) ∈ rb_ws := rb_mw 739 (by decide +kernel) (by decide +kernel)
theorem rw_741 : (Jvm.Cond.instanceMethod ({ cls := "RoomMakerModel", name := "bring", desc := "(II)V" } : Jvm.MethodName)) ∈ rb_ws := rb_mw 741 (by decide +kernel) (by decide +kernel)
theorem rw_742 : (Jvm.Cond.code ({ cls := "RoomMakerModel", name := "bring", desc := "(II)V" } : Jvm.MethodName) prog_8_method_27_code (4 : Nat) (Option.none : Option Jvm.ClassFile.FieldType)) ∈ rb_ws := rb_mw 742 (by decide +kernel) (by decide +kernel)
theorem rw_743 : (Jvm.Cond.methodLink "RoomMakerModel" (151 : Nat) ({ cls := "RoomMakerModel", name := "made", desc := "(III)I" } : Jvm.MethodName)) ∈ rb_ws := rb_mw 743 (by decide +kernel) (by decide +kernel)
theorem rw_745 : (Jvm.Cond.instanceMethod ({ cls := "RoomMakerModel", name := "made", desc := "(III)I" } : Jvm.MethodName)) ∈ rb_ws := rb_mw 745 (by decide +kernel) (by decide +kernel)
theorem rw_746 : (Jvm.Cond.code ({ cls := "RoomMakerModel", name := "made", desc := "(III)I" } : Jvm.MethodName) prog_8_method_30_code (6 : Nat) (Option.some Jvm.ClassFile.FieldType.int)) ∈ rb_ws := rb_mw 746 (by decide +kernel) (by decide +kernel)
theorem rw_747 : (Jvm.Cond.methodLink "RoomMakerModel" (144 : Nat) ({ cls := "RoomMakerModel", name := "input", desc := "()I" } : Jvm.MethodName)) ∈ rb_ws := rb_mw 747 (by decide +kernel) (by decide +kernel)
theorem rw_749 : (Jvm.Cond.instanceMethod ({ cls := "RoomMakerModel", name := "input", desc := "()I" } : Jvm.MethodName)) ∈ rb_ws := rb_mw 749 (by decide +kernel) (by decide +kernel)
theorem rw_750 : (Jvm.Cond.code ({ cls := "RoomMakerModel", name := "input", desc := "()I" } : Jvm.MethodName) prog_8_method_28_code (3 : Nat) (Option.some Jvm.ClassFile.FieldType.int)) ∈ rb_ws := rb_mw 750 (by decide +kernel) (by decide +kernel)
theorem rw_754 : (Jvm.Cond.code ({ cls := "RoomMakerModel", name := "restart", desc := "()Z" } : Jvm.MethodName) prog_8_method_33_code (1 : Nat) (Option.some Jvm.ClassFile.FieldType.boolean)) ∈ rb_ws := rb_mw 754 (by decide +kernel) (by decide +kernel)
theorem rw_758 : (Jvm.Cond.code ({ cls := "RoomMakerModel", name := "value", desc := "(I)I" } : Jvm.MethodName) prog_8_method_34_code (3 : Nat) (Option.some Jvm.ClassFile.FieldType.int)) ∈ rb_ws := rb_mw 758 (by decide +kernel) (by decide +kernel)
theorem rw_762 : (Jvm.Cond.code ({ cls := "RoomMakerModel", name := "output", desc := "(I)I" } : Jvm.MethodName) prog_8_method_35_code (2 : Nat) (Option.some Jvm.ClassFile.FieldType.int)) ∈ rb_ws := rb_mw 762 (by decide +kernel) (by decide +kernel)
theorem rw_766 : (Jvm.Cond.code ({ cls := "RoomMakerModel", name := "count", desc := "(I)I" } : Jvm.MethodName) prog_8_method_36_code (2 : Nat) (Option.some Jvm.ClassFile.FieldType.int)) ∈ rb_ws := rb_mw 766 (by decide +kernel) (by decide +kernel)
theorem rn_31 : (Jvm.Cond.fieldLinkNest "RoomMaker$Machine" (40 : Nat) "RoomMaker$Program" "sorts" "[I" "RoomMaker") ∈ rb_nest := rb_mn 31 (by decide +kernel) rfl
theorem rn_33 : (Jvm.Cond.fieldLinkNest "RoomMaker$Machine" (44 : Nat) "RoomMaker$Program" "xs" "[I" "RoomMaker") ∈ rb_nest := rb_mn 33 (by decide +kernel) rfl
theorem rn_35 : (Jvm.Cond.fieldLinkNest "RoomMaker$Machine" (52 : Nat) "RoomMaker$Program" "ys" "[I" "RoomMaker") ∈ rb_nest := rb_mn 35 (by decide +kernel) rfl
theorem rn_37 : (Jvm.Cond.fieldLinkNest "RoomMaker$Machine" (56 : Nat) "RoomMaker$Program" "zs" "[I" "RoomMaker") ∈ rb_nest := rb_mn 37 (by decide +kernel) rfl
theorem rn_38 : (Jvm.Cond.fieldLinkNest "RoomMaker$Machine" (33 : Nat) "RoomMaker$Program" "length" "I" "RoomMaker") ∈ rb_nest := rb_mn 38 (by decide +kernel) rfl
theorem rn_39 : (Jvm.Cond.fieldLinkNest "RoomMaker$Spans" (21 : Nat) "RoomMaker$Program" "length" "I" "RoomMaker") ∈ rb_nest := rb_mn 39 (by decide +kernel) rfl
theorem rn_40 : (Jvm.Cond.fieldLinkNest "RoomMaker" (63 : Nat) "RoomMaker$Program" "length" "I" "RoomMaker") ∈ rb_nest := rb_mn 40 (by decide +kernel) rfl
theorem rn_63 : (Jvm.Cond.fieldLinkNest "RoomMaker" (157 : Nat) "RoomMaker$Inputs" "waiting" "I" "RoomMaker") ∈ rb_nest := rb_mn 63 (by decide +kernel) rfl
theorem rn_80 : (Jvm.Cond.fieldLinkNest "RoomMaker$Rooms" (36 : Nat) "RoomMaker$Spans" "firstOf" "[I" "RoomMaker") ∈ rb_nest := rb_mn 80 (by decide +kernel) rfl
theorem rn_83 : (Jvm.Cond.fieldLinkNest "RoomMaker$Rooms" (46 : Nat) "RoomMaker$Spans" "lastOf" "[I" "RoomMaker") ∈ rb_nest := rb_mn 83 (by decide +kernel) rfl
theorem rn_86 : (Jvm.Cond.fieldLinkNest "RoomMaker$Rooms" (31 : Nat) "RoomMaker$Spans" "points" "I" "RoomMaker") ∈ rb_nest := rb_mn 86 (by decide +kernel) rfl
theorem rn_104 : (Jvm.Cond.fieldLinkNest "RoomMaker$Machine" (57 : Nat) "RoomMaker$Rooms" "placeOf" "[I" "RoomMaker") ∈ rb_nest := rb_mn 104 (by decide +kernel) rfl
theorem rn_192 : (Jvm.Cond.methodLinkNest "RoomMaker" (67 : Nat) ({ cls := "RoomMaker$Inputs", name := "drop", desc := "()V" } : Jvm.MethodName) "RoomMaker") ∈ rb_nest := rb_mn 192 (by decide +kernel) rfl
theorem rn_200 : (Jvm.Cond.methodLinkNest "RoomMaker" (70 : Nat) ({ cls := "RoomMaker$Inputs", name := "append", desc := "(I)I" } : Jvm.MethodName) "RoomMaker") ∈ rb_nest := rb_mn 200 (by decide +kernel) rfl
theorem rn_208 : (Jvm.Cond.methodLinkNest "RoomMaker" (129 : Nat) ({ cls := "RoomMaker$Spans", name := "mostAtOnce", desc := "()I" } : Jvm.MethodName) "RoomMaker") ∈ rb_nest := rb_mn 208 (by decide +kernel) rfl
theorem rn_223 : (Jvm.Cond.methodLinkNest "RoomMaker" (96 : Nat) ({ cls := "RoomMaker$Machine", name := "begin", desc := "()V" } : Jvm.MethodName) "RoomMaker") ∈ rb_nest := rb_mn 223 (by decide +kernel) rfl
theorem rn_234 : (Jvm.Cond.methodLinkNest "RoomMaker" (154 : Nat) ({ cls := "RoomMaker$Machine", name := "written", desc := "(I)I" } : Jvm.MethodName) "RoomMaker") ∈ rb_nest := rb_mn 234 (by decide +kernel) rfl
theorem rn_242 : (Jvm.Cond.methodLinkNest "RoomMaker" (160 : Nat) ({ cls := "RoomMaker$Machine", name := "tally", desc := "(I)I" } : Jvm.MethodName) "RoomMaker") ∈ rb_nest := rb_mn 242 (by decide +kernel) rfl
theorem rn_261 : (Jvm.Cond.fieldLinkNest "RoomMaker$Program" (24 : Nat) "RoomMaker" "X_ROLES" "[I" "RoomMaker") ∈ rb_nest := rb_mn 261 (by decide +kernel) rfl
theorem rn_266 : (Jvm.Cond.methodLinkNest "RoomMaker$Program" (37 : Nat) ({ cls := "RoomMaker", name := "isValue", desc := "(I)Z" } : Jvm.MethodName) "RoomMaker") ∈ rb_nest := rb_mn 266 (by decide +kernel) rfl
theorem rn_269 : (Jvm.Cond.fieldLinkNest "RoomMaker$Program" (31 : Nat) "RoomMaker" "Y_ROLES" "[I" "RoomMaker") ∈ rb_nest := rb_mn 269 (by decide +kernel) rfl
theorem rn_271 : (Jvm.Cond.fieldLinkNest "RoomMaker$Program" (34 : Nat) "RoomMaker" "Z_ROLES" "[I" "RoomMaker") ∈ rb_nest := rb_mn 271 (by decide +kernel) rfl
theorem rn_391 : (Jvm.Cond.methodLinkNest "RoomMaker$Spans" (55 : Nat) ({ cls := "RoomMaker$Program", name := "goesOn", desc := "(I)Z" } : Jvm.MethodName) "RoomMaker") ∈ rb_nest := rb_mn 391 (by decide +kernel) rfl
theorem rn_399 : (Jvm.Cond.methodLinkNest "RoomMaker$Spans" (62 : Nat) ({ cls := "RoomMaker$Program", name := "targetOf", desc := "(I)I" } : Jvm.MethodName) "RoomMaker") ∈ rb_nest := rb_mn 399 (by decide +kernel) rfl
theorem rn_400 : (Jvm.Cond.methodLinkNest "RoomMaker$Spans" (48 : Nat) ({ cls := "RoomMaker$Program", name := "readBy", desc := "(I)I" } : Jvm.MethodName) "RoomMaker") ∈ rb_nest := rb_mn 400 (by decide +kernel) rfl
theorem rn_407 : (Jvm.Cond.methodLinkNest "RoomMaker$Spans" (52 : Nat) ({ cls := "RoomMaker$Program", name := "setBy", desc := "(I)I" } : Jvm.MethodName) "RoomMaker") ∈ rb_nest := rb_mn 407 (by decide +kernel) rfl
theorem rn_440 : (Jvm.Cond.methodLinkNest "RoomMaker$Rooms" (57 : Nat) ({ cls := "RoomMaker$Spans", name := "outlasts", desc := "(II)Z" } : Jvm.MethodName) "RoomMaker") ∈ rb_nest := rb_mn 440 (by decide +kernel) rfl
theorem rn_448 : (Jvm.Cond.fieldLinkNest "RoomMaker$Machine" (41 : Nat) "RoomMaker" "X_ROLES" "[I" "RoomMaker") ∈ rb_nest := rb_mn 448 (by decide +kernel) rfl
theorem rn_452 : (Jvm.Cond.fieldLinkNest "RoomMaker$Machine" (49 : Nat) "RoomMaker" "Y_ROLES" "[I" "RoomMaker") ∈ rb_nest := rb_mn 452 (by decide +kernel) rfl
theorem rn_453 : (Jvm.Cond.fieldLinkNest "RoomMaker$Machine" (53 : Nat) "RoomMaker" "Z_ROLES" "[I" "RoomMaker") ∈ rb_nest := rb_mn 453 (by decide +kernel) rfl
theorem rn_524 : (Jvm.Cond.methodLinkNest "RoomMaker$Machine" (102 : Nat) ({ cls := "RoomMaker$Inputs", name := "next", desc := "()I" } : Jvm.MethodName) "RoomMaker") ∈ rb_nest := rb_mn 524 (by decide +kernel) rfl
theorem rs_0 : (Jvm.Cond.selects "RoomMaker$Inputs" ({ cls := "RoomMaker$Inputs", name := "drop", desc := "()V" } : Jvm.MethodName) ({ cls := "RoomMaker$Inputs", name := "drop", desc := "()V" } : Jvm.MethodName)) ∈ rb_ws := rb_ms 0 (by decide +kernel) (by decide +kernel)
theorem rs_1 : (Jvm.Cond.selects "RoomMaker$Inputs" ({ cls := "RoomMaker$Inputs", name := "append", desc := "(I)I" } : Jvm.MethodName) ({ cls := "RoomMaker$Inputs", name := "append", desc := "(I)I" } : Jvm.MethodName)) ∈ rb_ws := rb_ms 1 (by decide +kernel) (by decide +kernel)
theorem rs_11 : (Jvm.Cond.selects "RoomMaker$Program" ({ cls := "RoomMaker$Program", name := "targetOf", desc := "(I)I" } : Jvm.MethodName) ({ cls := "RoomMaker$Program", name := "targetOf", desc := "(I)I" } : Jvm.MethodName)) ∈ rb_ws := rb_ms 11 (by decide +kernel) (by decide +kernel)
theorem rs_13 : (Jvm.Cond.selects "RoomMaker$Spans" ({ cls := "RoomMaker$Spans", name := "passBack", desc := "(LRoomMaker$Program;)Z" } : Jvm.MethodName) ({ cls := "RoomMaker$Spans", name := "passBack", desc := "(LRoomMaker$Program;)Z" } : Jvm.MethodName)) ∈ rb_ws := rb_ms 13 (by decide +kernel) (by decide +kernel)
theorem rs_14 : (Jvm.Cond.selects "RoomMaker$Spans" ({ cls := "RoomMaker$Spans", name := "livingBehind", desc := "(LRoomMaker$Program;I)I" } : Jvm.MethodName) ({ cls := "RoomMaker$Spans", name := "livingBehind", desc := "(LRoomMaker$Program;I)I" } : Jvm.MethodName)) ∈ rb_ws := rb_ms 14 (by decide +kernel) (by decide +kernel)
theorem rs_15 : (Jvm.Cond.selects "RoomMaker$Program" ({ cls := "RoomMaker$Program", name := "goesOn", desc := "(I)Z" } : Jvm.MethodName) ({ cls := "RoomMaker$Program", name := "goesOn", desc := "(I)Z" } : Jvm.MethodName)) ∈ rb_ws := rb_ms 15 (by decide +kernel) (by decide +kernel)
theorem rs_16 : (Jvm.Cond.selects "RoomMaker$Spans" ({ cls := "RoomMaker$Spans", name := "livingAhead", desc := "(I)I" } : Jvm.MethodName) ({ cls := "RoomMaker$Spans", name := "livingAhead", desc := "(I)I" } : Jvm.MethodName)) ∈ rb_ws := rb_ms 16 (by decide +kernel) (by decide +kernel)
theorem rs_17 : (Jvm.Cond.selects "RoomMaker$Program" ({ cls := "RoomMaker$Program", name := "readBy", desc := "(I)I" } : Jvm.MethodName) ({ cls := "RoomMaker$Program", name := "readBy", desc := "(I)I" } : Jvm.MethodName)) ∈ rb_ws := rb_ms 17 (by decide +kernel) (by decide +kernel)
theorem rs_18 : (Jvm.Cond.selects "RoomMaker$Program" ({ cls := "RoomMaker$Program", name := "setBy", desc := "(I)I" } : Jvm.MethodName) ({ cls := "RoomMaker$Program", name := "setBy", desc := "(I)I" } : Jvm.MethodName)) ∈ rb_ws := rb_ms 18 (by decide +kernel) (by decide +kernel)
theorem rs_19 : (Jvm.Cond.selects "RoomMaker$Spans" ({ cls := "RoomMaker$Spans", name := "measure", desc := "(LRoomMaker$Program;)V" } : Jvm.MethodName) ({ cls := "RoomMaker$Spans", name := "measure", desc := "(LRoomMaker$Program;)V" } : Jvm.MethodName)) ∈ rb_ws := rb_ms 19 (by decide +kernel) (by decide +kernel)
theorem rs_2 : (Jvm.Cond.selects "RoomMaker$Spans" ({ cls := "RoomMaker$Spans", name := "mostAtOnce", desc := "()I" } : Jvm.MethodName) ({ cls := "RoomMaker$Spans", name := "mostAtOnce", desc := "()I" } : Jvm.MethodName)) ∈ rb_ws := rb_ms 2 (by decide +kernel) (by decide +kernel)
theorem rs_20 : (Jvm.Cond.selects "RoomMaker$Spans" ({ cls := "RoomMaker$Spans", name := "stretch", desc := "(II)V" } : Jvm.MethodName) ({ cls := "RoomMaker$Spans", name := "stretch", desc := "(II)V" } : Jvm.MethodName)) ∈ rb_ws := rb_ms 20 (by decide +kernel) (by decide +kernel)
theorem rs_22 : (Jvm.Cond.selects "RoomMaker$Rooms" ({ cls := "RoomMaker$Rooms", name := "release", desc := "(LRoomMaker$Spans;I)V" } : Jvm.MethodName) ({ cls := "RoomMaker$Rooms", name := "release", desc := "(LRoomMaker$Spans;I)V" } : Jvm.MethodName)) ∈ rb_ws := rb_ms 22 (by decide +kernel) (by decide +kernel)
theorem rs_23 : (Jvm.Cond.selects "RoomMaker$Rooms" ({ cls := "RoomMaker$Rooms", name := "settle", desc := "(LRoomMaker$Spans;I)V" } : Jvm.MethodName) ({ cls := "RoomMaker$Rooms", name := "settle", desc := "(LRoomMaker$Spans;I)V" } : Jvm.MethodName)) ∈ rb_ws := rb_ms 23 (by decide +kernel) (by decide +kernel)
theorem rs_24 : (Jvm.Cond.selects "RoomMaker$Rooms" ({ cls := "RoomMaker$Rooms", name := "leastFree", desc := "()I" } : Jvm.MethodName) ({ cls := "RoomMaker$Rooms", name := "leastFree", desc := "()I" } : Jvm.MethodName)) ∈ rb_ws := rb_ms 24 (by decide +kernel) (by decide +kernel)
theorem rs_25 : (Jvm.Cond.selects "RoomMaker$Rooms" ({ cls := "RoomMaker$Rooms", name := "longestOf", desc := "(LRoomMaker$Spans;I)I" } : Jvm.MethodName) ({ cls := "RoomMaker$Rooms", name := "longestOf", desc := "(LRoomMaker$Spans;I)I" } : Jvm.MethodName)) ∈ rb_ws := rb_ms 25 (by decide +kernel) (by decide +kernel)
theorem rs_26 : (Jvm.Cond.selects "RoomMaker$Spans" ({ cls := "RoomMaker$Spans", name := "outlasts", desc := "(II)Z" } : Jvm.MethodName) ({ cls := "RoomMaker$Spans", name := "outlasts", desc := "(II)Z" } : Jvm.MethodName)) ∈ rb_ws := rb_ms 26 (by decide +kernel) (by decide +kernel)
theorem rs_29 : (Jvm.Cond.selects "RoomMaker$Machine" ({ cls := "RoomMaker$Machine", name := "step", desc := "(LRoomMaker$Inputs;)V" } : Jvm.MethodName) ({ cls := "RoomMaker$Machine", name := "step", desc := "(LRoomMaker$Inputs;)V" } : Jvm.MethodName)) ∈ rb_ws := rb_ms 29 (by decide +kernel) (by decide +kernel)
theorem rs_3 : (Jvm.Cond.selects "RoomMaker$Spans" ({ cls := "RoomMaker$Spans", name := "spanning", desc := "(I)I" } : Jvm.MethodName) ({ cls := "RoomMaker$Spans", name := "spanning", desc := "(I)I" } : Jvm.MethodName)) ∈ rb_ws := rb_ms 3 (by decide +kernel) (by decide +kernel)
theorem rs_30 : (Jvm.Cond.selects "RoomMaker$Machine" ({ cls := "RoomMaker$Machine", name := "assign", desc := "(II)V" } : Jvm.MethodName) ({ cls := "RoomMaker$Machine", name := "assign", desc := "(II)V" } : Jvm.MethodName)) ∈ rb_ws := rb_ms 30 (by decide +kernel) (by decide +kernel)
theorem rs_31 : (Jvm.Cond.selects "RoomMaker$Machine" ({ cls := "RoomMaker$Machine", name := "fetch", desc := "(I)I" } : Jvm.MethodName) ({ cls := "RoomMaker$Machine", name := "fetch", desc := "(I)I" } : Jvm.MethodName)) ∈ rb_ws := rb_ms 31 (by decide +kernel) (by decide +kernel)
theorem rs_32 : (Jvm.Cond.selects "RoomMaker$Machine" ({ cls := "RoomMaker$Machine", name := "contentOf", desc := "(I)I" } : Jvm.MethodName) ({ cls := "RoomMaker$Machine", name := "contentOf", desc := "(I)I" } : Jvm.MethodName)) ∈ rb_ws := rb_ms 32 (by decide +kernel) (by decide +kernel)
theorem rs_33 : (Jvm.Cond.selects "RoomMaker$Inputs" ({ cls := "RoomMaker$Inputs", name := "next", desc := "()I" } : Jvm.MethodName) ({ cls := "RoomMaker$Inputs", name := "next", desc := "()I" } : Jvm.MethodName)) ∈ rb_ws := rb_ms 33 (by decide +kernel) (by decide +kernel)
theorem rs_34 : (Jvm.Cond.selects "RoomMaker$Machine" ({ cls := "RoomMaker$Machine", name := "write", desc := "(I)V" } : Jvm.MethodName) ({ cls := "RoomMaker$Machine", name := "write", desc := "(I)V" } : Jvm.MethodName)) ∈ rb_ws := rb_ms 34 (by decide +kernel) (by decide +kernel)
theorem rs_35 : (Jvm.Cond.selects "RoomMaker$Machine" ({ cls := "RoomMaker$Machine", name := "reckon", desc := "(IIII)V" } : Jvm.MethodName) ({ cls := "RoomMaker$Machine", name := "reckon", desc := "(IIII)V" } : Jvm.MethodName)) ∈ rb_ws := rb_ms 35 (by decide +kernel) (by decide +kernel)
theorem rs_36 : (Jvm.Cond.selects "RoomMaker$Machine" ({ cls := "RoomMaker$Machine", name := "jump", desc := "(IIII)V" } : Jvm.MethodName) ({ cls := "RoomMaker$Machine", name := "jump", desc := "(IIII)V" } : Jvm.MethodName)) ∈ rb_ws := rb_ms 36 (by decide +kernel) (by decide +kernel)
theorem rs_37 : (Jvm.Cond.selects "RoomMakerModel" ({ cls := "RoomMakerModel", name := "forget", desc := "()V" } : Jvm.MethodName) ({ cls := "RoomMakerModel", name := "forget", desc := "()V" } : Jvm.MethodName)) ∈ rb_ws := rb_ms 37 (by decide +kernel) (by decide +kernel)
theorem rs_38 : (Jvm.Cond.selects "RoomMakerModel" ({ cls := "RoomMakerModel", name := "goesNowhere", desc := "()Z" } : Jvm.MethodName) ({ cls := "RoomMakerModel", name := "goesNowhere", desc := "()Z" } : Jvm.MethodName)) ∈ rb_ws := rb_ms 38 (by decide +kernel) (by decide +kernel)
theorem rs_39 : (Jvm.Cond.selects "RoomMakerModel" ({ cls := "RoomMakerModel", name := "spans", desc := "()V" } : Jvm.MethodName) ({ cls := "RoomMakerModel", name := "spans", desc := "()V" } : Jvm.MethodName)) ∈ rb_ws := rb_ms 39 (by decide +kernel) (by decide +kernel)
theorem rs_4 : (Jvm.Cond.selects "RoomMaker$Machine" ({ cls := "RoomMaker$Machine", name := "begin", desc := "()V" } : Jvm.MethodName) ({ cls := "RoomMaker$Machine", name := "begin", desc := "()V" } : Jvm.MethodName)) ∈ rb_ws := rb_ms 4 (by decide +kernel) (by decide +kernel)
theorem rs_40 : (Jvm.Cond.selects "RoomMakerModel" ({ cls := "RoomMakerModel", name := "isLiving", desc := "(II)Z" } : Jvm.MethodName) ({ cls := "RoomMakerModel", name := "isLiving", desc := "(II)Z" } : Jvm.MethodName)) ∈ rb_ws := rb_ms 40 (by decide +kernel) (by decide +kernel)
theorem rs_41 : (Jvm.Cond.selects "RoomMakerModel" ({ cls := "RoomMakerModel", name := "come", desc := "(I)V" } : Jvm.MethodName) ({ cls := "RoomMakerModel", name := "come", desc := "(I)V" } : Jvm.MethodName)) ∈ rb_ws := rb_ms 41 (by decide +kernel) (by decide +kernel)
theorem rs_42 : (Jvm.Cond.selects "RoomMakerModel" ({ cls := "RoomMakerModel", name := "reads", desc := "(II)Z" } : Jvm.MethodName) ({ cls := "RoomMakerModel", name := "reads", desc := "(II)Z" } : Jvm.MethodName)) ∈ rb_ws := rb_ms 42 (by decide +kernel) (by decide +kernel)
theorem rs_43 : (Jvm.Cond.selects "RoomMakerModel" ({ cls := "RoomMakerModel", name := "sets", desc := "(II)Z" } : Jvm.MethodName) ({ cls := "RoomMakerModel", name := "sets", desc := "(II)Z" } : Jvm.MethodName)) ∈ rb_ws := rb_ms 43 (by decide +kernel) (by decide +kernel)
theorem rs_44 : (Jvm.Cond.selects "RoomMakerModel" ({ cls := "RoomMakerModel", name := "next", desc := "(I)I" } : Jvm.MethodName) ({ cls := "RoomMakerModel", name := "next", desc := "(I)I" } : Jvm.MethodName)) ∈ rb_ws := rb_ms 44 (by decide +kernel) (by decide +kernel)
theorem rs_45 : (Jvm.Cond.selects "RoomMakerModel" ({ cls := "RoomMakerModel", name := "settle", desc := "(II)V" } : Jvm.MethodName) ({ cls := "RoomMakerModel", name := "settle", desc := "(II)V" } : Jvm.MethodName)) ∈ rb_ws := rb_ms 45 (by decide +kernel) (by decide +kernel)
theorem rs_46 : (Jvm.Cond.selects "RoomMakerModel" ({ cls := "RoomMakerModel", name := "isTaken", desc := "(II)Z" } : Jvm.MethodName) ({ cls := "RoomMakerModel", name := "isTaken", desc := "(II)Z" } : Jvm.MethodName)) ∈ rb_ws := rb_ms 46 (by decide +kernel) (by decide +kernel)
theorem rs_47 : (Jvm.Cond.selects "RoomMakerModel" ({ cls := "RoomMakerModel", name := "latest", desc := "(II)I" } : Jvm.MethodName) ({ cls := "RoomMakerModel", name := "latest", desc := "(II)I" } : Jvm.MethodName)) ∈ rb_ws := rb_ms 47 (by decide +kernel) (by decide +kernel)
theorem rs_48 : (Jvm.Cond.selects "RoomMakerModel" ({ cls := "RoomMakerModel", name := "begin", desc := "()V" } : Jvm.MethodName) ({ cls := "RoomMakerModel", name := "begin", desc := "()V" } : Jvm.MethodName)) ∈ rb_ws := rb_ms 48 (by decide +kernel) (by decide +kernel)
theorem rs_49 : (Jvm.Cond.selects "RoomMakerModel" ({ cls := "RoomMakerModel", name := "step", desc := "()V" } : Jvm.MethodName) ({ cls := "RoomMakerModel", name := "step", desc := "()V" } : Jvm.MethodName)) ∈ rb_ws := rb_ms 49 (by decide +kernel) (by decide +kernel)
theorem rs_5 : (Jvm.Cond.selects "RoomMaker$Machine" ({ cls := "RoomMaker$Machine", name := "written", desc := "(I)I" } : Jvm.MethodName) ({ cls := "RoomMaker$Machine", name := "written", desc := "(I)I" } : Jvm.MethodName)) ∈ rb_ws := rb_ms 5 (by decide +kernel) (by decide +kernel)
theorem rs_50 : (Jvm.Cond.selects "RoomMakerModel" ({ cls := "RoomMakerModel", name := "copy", desc := "(II)V" } : Jvm.MethodName) ({ cls := "RoomMakerModel", name := "copy", desc := "(II)V" } : Jvm.MethodName)) ∈ rb_ws := rb_ms 50 (by decide +kernel) (by decide +kernel)
theorem rs_51 : (Jvm.Cond.selects "RoomMakerModel" ({ cls := "RoomMakerModel", name := "get", desc := "(I)I" } : Jvm.MethodName) ({ cls := "RoomMakerModel", name := "get", desc := "(I)I" } : Jvm.MethodName)) ∈ rb_ws := rb_ms 51 (by decide +kernel) (by decide +kernel)
theorem rs_52 : (Jvm.Cond.selects "RoomMakerModel" ({ cls := "RoomMakerModel", name := "bring", desc := "(II)V" } : Jvm.MethodName) ({ cls := "RoomMakerModel", name := "bring", desc := "(II)V" } : Jvm.MethodName)) ∈ rb_ws := rb_ms 52 (by decide +kernel) (by decide +kernel)
theorem rs_53 : (Jvm.Cond.selects "RoomMakerModel" ({ cls := "RoomMakerModel", name := "made", desc := "(III)I" } : Jvm.MethodName) ({ cls := "RoomMakerModel", name := "made", desc := "(III)I" } : Jvm.MethodName)) ∈ rb_ws := rb_ms 53 (by decide +kernel) (by decide +kernel)
theorem rs_54 : (Jvm.Cond.selects "RoomMakerModel" ({ cls := "RoomMakerModel", name := "input", desc := "()I" } : Jvm.MethodName) ({ cls := "RoomMakerModel", name := "input", desc := "()I" } : Jvm.MethodName)) ∈ rb_ws := rb_ms 54 (by decide +kernel) (by decide +kernel)
theorem rs_6 : (Jvm.Cond.selects "RoomMaker$Machine" ({ cls := "RoomMaker$Machine", name := "tally", desc := "(I)I" } : Jvm.MethodName) ({ cls := "RoomMaker$Machine", name := "tally", desc := "(I)I" } : Jvm.MethodName)) ∈ rb_ws := rb_ms 6 (by decide +kernel) (by decide +kernel)
theorem rs_7 : (Jvm.Cond.selects "RoomMaker$Machine" ({ cls := "RoomMaker$Machine", name := "isAtEnd", desc := "()Z" } : Jvm.MethodName) ({ cls := "RoomMaker$Machine", name := "isAtEnd", desc := "()Z" } : Jvm.MethodName)) ∈ rb_ws := rb_ms 7 (by decide +kernel) (by decide +kernel)
theorem rm_in : ∀ w ∈ u_ws "RoomMaker" rm_F 6, w ∈ rb_ws := fun w hw => List.mem_filter.mpr ⟨List.mem_append_right _ ((by decide +kernel : ∀ w ∈ u_ws "RoomMaker" rm_F 6, w ∈ tables_1) w hw), (by decide +kernel : ∀ w ∈ u_ws "RoomMaker" rm_F 6, goodWord w = true) w hw⟩
theorem pg_in : ∀ w ∈ u_ws "RoomMaker$Program" pg_F 5, w ∈ rb_ws := fun w hw => List.mem_filter.mpr ⟨List.mem_append_right _ ((by decide +kernel : ∀ w ∈ u_ws "RoomMaker$Program" pg_F 5, w ∈ tables_1) w hw), (by decide +kernel : ∀ w ∈ u_ws "RoomMaker$Program" pg_F 5, goodWord w = true) w hw⟩
theorem ip_in : ∀ w ∈ u_ws "RoomMaker$Inputs" ip_F 3, w ∈ rb_ws := fun w hw => List.mem_filter.mpr ⟨List.mem_append_right _ ((by decide +kernel : ∀ w ∈ u_ws "RoomMaker$Inputs" ip_F 3, w ∈ tables_1) w hw), (by decide +kernel : ∀ w ∈ u_ws "RoomMaker$Inputs" ip_F 3, goodWord w = true) w hw⟩
theorem sp_in : ∀ w ∈ u_ws "RoomMaker$Spans" sp_F 4, w ∈ rb_ws := fun w hw => List.mem_filter.mpr ⟨List.mem_append_right _ ((by decide +kernel : ∀ w ∈ u_ws "RoomMaker$Spans" sp_F 4, w ∈ tables_1) w hw), (by decide +kernel : ∀ w ∈ u_ws "RoomMaker$Spans" sp_F 4, goodWord w = true) w hw⟩
theorem ro_in : ∀ w ∈ u_ws "RoomMaker$Rooms" ro_F 4, w ∈ rb_ws := fun w hw => List.mem_filter.mpr ⟨List.mem_append_right _ ((by decide +kernel : ∀ w ∈ u_ws "RoomMaker$Rooms" ro_F 4, w ∈ tables_1) w hw), (by decide +kernel : ∀ w ∈ u_ws "RoomMaker$Rooms" ro_F 4, goodWord w = true) w hw⟩
theorem ma_in : ∀ w ∈ u_ws "RoomMaker$Machine" ma_F 14, w ∈ rb_ws := fun w hw => List.mem_filter.mpr ⟨List.mem_append_right _ ((by decide +kernel : ∀ w ∈ u_ws "RoomMaker$Machine" ma_F 14, w ∈ tables_1) w hw), (by decide +kernel : ∀ w ∈ u_ws "RoomMaker$Machine" ma_F 14, goodWord w = true) w hw⟩
theorem mo_in : ∀ w ∈ u_ws "RoomMakerModel" mo_F 24, w ∈ rb_ws := fun w hw => List.mem_filter.mpr ⟨List.mem_append_right _ ((by decide +kernel : ∀ w ∈ u_ws "RoomMakerModel" mo_F 24, w ∈ tables_1) w hw), (by decide +kernel : ∀ w ∈ u_ws "RoomMakerModel" mo_F 24, goodWord w = true) w hw⟩
end
section
section
variable {p : Program} {l : Launch} {e : Env} {R : Room} {s : State} {m : MethodId} {args : Array Value} {below : List Frame} {meth : Method} {c : Code} {A : Nat → Prop} {Q : State → Prop} {Z : rb_Z} {nL pc : Nat} {L : List (Nat × Value)} {st : List Value} {S : rb_S} {kc ks : Nat} {cc : ByteArray} {ret : Option FieldType}
theorem rb_a6 (Z : rb_Z) : rb_isI Z 6 64 := ⟨⟨0, rfl⟩, fun _ => rfl, fun _ _ _ => rfl⟩
theorem rb_a7 (Z : rb_Z) : rb_isI Z 7 64 := ⟨⟨1, rfl⟩, fun _ => rfl, fun _ _ _ => rfl⟩
theorem rb_a8 (Z : rb_Z) : rb_isI Z 8 64 := ⟨⟨2, rfl⟩, fun _ => rfl, fun _ _ _ => rfl⟩
theorem rb_a9 (Z : rb_Z) : rb_isI Z 9 64 := ⟨⟨3, rfl⟩, fun _ => rfl, fun _ _ _ => rfl⟩
theorem rb_a10 (Z : rb_Z) : rb_isI Z 10 32 := ⟨⟨4, rfl⟩, fun _ => rfl, fun _ _ _ => rfl⟩
theorem rb_a11 (Z : rb_Z) : rb_isI Z 11 128 := ⟨⟨5, rfl⟩, fun _ => rfl, fun _ _ _ => rfl⟩
theorem rb_a12 (Z : rb_Z) : rb_isI Z 12 16 := ⟨⟨6, rfl⟩, fun _ => rfl, fun _ _ _ => rfl⟩
theorem rb_a13 (Z : rb_Z) : rb_isI Z 13 16 := ⟨⟨7, rfl⟩, fun _ => rfl, fun _ _ _ => rfl⟩
theorem rb_a14 (Z : rb_Z) : rb_isI Z 14 16 := ⟨⟨8, rfl⟩, fun _ => rfl, fun _ _ _ => rfl⟩
theorem rb_a15 (Z : rb_Z) : rb_isI Z 15 8 := ⟨⟨9, rfl⟩, fun _ => rfl, fun _ _ _ => rfl⟩
theorem rb_a16 (Z : rb_Z) : rb_isI Z 16 64 := ⟨⟨10, rfl⟩, fun _ => rfl, fun _ _ _ => rfl⟩
theorem rb_a17 (Z : rb_Z) : rb_isI Z 17 64 := ⟨⟨11, rfl⟩, fun _ => rfl, fun _ _ _ => rfl⟩
theorem rb_a18 (Z : rb_Z) : rb_isI Z 18 64 := ⟨⟨12, rfl⟩, fun _ => rfl, fun _ _ _ => rfl⟩
theorem rb_a19 (Z : rb_Z) : rb_isI Z 19 64 := ⟨⟨13, rfl⟩, fun _ => rfl, fun _ _ _ => rfl⟩
theorem rb_a20 (Z : rb_Z) : rb_isI Z 20 32 := ⟨⟨14, rfl⟩, fun _ => rfl, fun _ _ _ => rfl⟩
theorem rb_a21 (Z : rb_Z) : rb_isI Z 21 16 := ⟨⟨15, rfl⟩, fun _ => rfl, fun _ _ _ => rfl⟩
theorem rb_a22 (Z : rb_Z) : rb_isI Z 22 16 := ⟨⟨16, rfl⟩, fun _ => rfl, fun _ _ _ => rfl⟩
theorem rb_a24 (Z : rb_Z) : rb_isI Z 24 256 := ⟨⟨17, rfl⟩, fun _ => rfl, fun _ _ _ => rfl⟩
theorem rb_a25 (Z : rb_Z) : rb_isI Z 25 32 := ⟨⟨18, rfl⟩, fun _ => rfl, fun _ _ _ => rfl⟩
theorem rb_a26 (Z : rb_Z) : rb_isZ Z 26 2048 := ⟨⟨19, rfl⟩, fun _ => rfl, fun _ _ _ => rfl⟩
theorem rb_a27 (Z : rb_Z) : rb_isZ Z 27 128 := ⟨⟨20, rfl⟩, fun _ => rfl, fun _ _ _ => rfl⟩
theorem rb_a28 (Z : rb_Z) : rb_isI Z 28 256 := ⟨⟨21, rfl⟩, fun _ => rfl, fun _ _ _ => rfl⟩
theorem rb_a29 (Z : rb_Z) : rb_isI Z 29 16 := ⟨⟨22, rfl⟩, fun _ => rfl, fun _ _ _ => rfl⟩
theorem rb_a30 (Z : rb_Z) : rb_isI Z 30 16 := ⟨⟨23, rfl⟩, fun _ => rfl, fun _ _ _ => rfl⟩
theorem rb_a31 (Z : rb_Z) : rb_isI Z 31 16 := ⟨⟨24, rfl⟩, fun _ => rfl, fun _ _ _ => rfl⟩
theorem rb_a32 (Z : rb_Z) : rb_isI Z 32 8 := ⟨⟨25, rfl⟩, fun _ => rfl, fun _ _ _ => rfl⟩
theorem rb_a33 (Z : rb_Z) : rb_isI Z 33 16 := ⟨⟨26, rfl⟩, fun _ => rfl, fun _ _ _ => rfl⟩
theorem rb_a34 (Z : rb_Z) : rb_isI Z 34 16 := ⟨⟨27, rfl⟩, fun _ => rfl, fun _ _ _ => rfl⟩
theorem rb_a35 (Z : rb_Z) : rb_isI Z 35 16 := ⟨⟨28, rfl⟩, fun _ => rfl, fun _ _ _ => rfl⟩
theorem ip_g15 (X : rb_X p s m args meth c A Z cc nL "RoomMaker$Inputs" ret) (d : decode cc pc = .ok (.getfield 15, 3)) (k : rb_V p l e R s m args below meth c A Q Z nL (pc + 3) L (.int (S 0 3) :: st) S kc ks) : rb_V p l e R s m args below meth c A Q Z nL (pc) L (.ref (Z.1 2) :: st) S kc ks := fun H locs ls hP hD hS hl => va_get (C := "RoomMaker$Inputs") (T := ip_F) (N := 3) (ci := 2) (ref := "RoomMaker$Inputs") X.1.1 X.1.2.1 (rb_hts X) ip_in X.1.2.2.2.1 X.2.1.1 hP 2 rfl rfl 2 (by decide) (rb_hts X _ rw_62) (fun _ h => h) rfl d (k H locs ls hP hD hS hl)
theorem ip_g19 (X : rb_X p s m args meth c A Z cc nL "RoomMaker$Inputs" ret) (d : decode cc pc = .ok (.getfield 19, 3)) (k : rb_V p l e R s m args below meth c A Q Z nL (pc + 3) L (.int (S 0 2) :: st) S kc ks) : rb_V p l e R s m args below meth c A Q Z nL (pc) L (.ref (Z.1 2) :: st) S kc ks := fun H locs ls hP hD hS hl => va_get (C := "RoomMaker$Inputs") (T := ip_F) (N := 3) (ci := 2) (ref := "RoomMaker$Inputs") X.1.1 X.1.2.1 (rb_hts X) ip_in X.1.2.2.2.1 X.2.1.1 hP 2 rfl rfl 1 (by decide) (rb_hts X _ rw_61) (fun _ h => h) rfl d (k H locs ls hP hD hS hl)
theorem ip_g9 (X : rb_X p s m args meth c A Z cc nL "RoomMaker$Inputs" ret) (d : decode cc pc = .ok (.getfield 9, 3)) (k : rb_V p l e R s m args below meth c A Q Z nL (pc + 3) L (.ref (Z.1 10) :: st) S kc ks) : rb_V p l e R s m args below meth c A Q Z nL (pc) L (.ref (Z.1 2) :: st) S kc ks := fun H locs ls hP hD hS hl => va_get (C := "RoomMaker$Inputs") (T := ip_F) (N := 3) (ci := 2) (ref := "RoomMaker$Inputs") X.1.1 X.1.2.1 (rb_hts X) ip_in X.1.2.2.2.1 X.2.1.1 hP 2 rfl rfl 0 (by decide) (rb_hts X _ rw_60) (fun _ h => h) rfl d (k H locs ls hP hD hS hl)
theorem ip_q15 {x : Int32} (X : rb_X p s m args meth c A Z cc nL "RoomMaker$Inputs" ret) (d : decode cc pc = .ok (.putfield 15, 3)) (k : ∀ S1 : rb_S, S1 = rb_u S 0 3 x → rb_V p l e R s m args below meth c A Q Z nL (pc + 3) L (st) S1 kc ks) : rb_V p l e R s m args below meth c A Q Z nL (pc) L (.int x :: .ref (Z.1 2) :: st) S kc ks := fun H locs ls hP hD hS hl => va_put (C := "RoomMaker$Inputs") (T := ip_F) (N := 3) (ci := 2) (ref := "RoomMaker$Inputs") (ty := .int) X.1.1 X.1.2.1 (rb_hts X) ip_in ip_t ip_ok ip_n X.1.2.2.2.1 X.2.1.1 hP hD hS 2 rfl rfl 2 (by decide) (rb_hts X _ rw_62) (fun _ h => h) rfl (by decide +kernel) rfl rfl (Nat.le_of_ble_eq_true rfl) d (fun H1 locs1 hP1 hD1 hS1 => k _ rfl H1 locs1 ls (show va_P _ _ (rb_w Z (rb_u S 0 3 x)) H1 from hP1) (show va_D A (rb_w Z (rb_u S 0 3 x)) from hD1) hS1 hl)
theorem ip_q19 {x : Int32} (X : rb_X p s m args meth c A Z cc nL "RoomMaker$Inputs" ret) (d : decode cc pc = .ok (.putfield 19, 3)) (k : ∀ S1 : rb_S, S1 = rb_u S 0 2 x → rb_V p l e R s m args below meth c A Q Z nL (pc + 3) L (st) S1 kc ks) : rb_V p l e R s m args below meth c A Q Z nL (pc) L (.int x :: .ref (Z.1 2) :: st) S kc ks := fun H locs ls hP hD hS hl => va_put (C := "RoomMaker$Inputs") (T := ip_F) (N := 3) (ci := 2) (ref := "RoomMaker$Inputs") (ty := .int) X.1.1 X.1.2.1 (rb_hts X) ip_in ip_t ip_ok ip_n X.1.2.2.2.1 X.2.1.1 hP hD hS 2 rfl rfl 1 (by decide) (rb_hts X _ rw_61) (fun _ h => h) rfl (by decide +kernel) rfl rfl (Nat.le_of_ble_eq_true rfl) d (fun H1 locs1 hP1 hD1 hS1 => k _ rfl H1 locs1 ls (show va_P _ _ (rb_w Z (rb_u S 0 2 x)) H1 from hP1) (show va_D A (rb_w Z (rb_u S 0 2 x)) from hD1) hS1 hl)
theorem ma_g15 (X : rb_X p s m args meth c A Z cc nL "RoomMaker$Machine" ret) (d : decode cc pc = .ok (.getfield 15, 3)) (k : rb_V p l e R s m args below meth c A Q Z nL (pc + 3) L (.ref (Z.1 17) :: st) S kc ks) : rb_V p l e R s m args below meth c A Q Z nL (pc) L (.ref (Z.1 5) :: st) S kc ks := fun H locs ls hP hD hS hl => va_get (C := "RoomMaker$Machine") (T := ma_F) (N := 14) (ci := 5) (ref := "RoomMaker$Machine") X.1.1 X.1.2.1 (rb_hts X) ma_in X.1.2.2.2.1 X.2.1.1 hP 5 rfl rfl 1 (by decide) (rb_hts X _ rw_126) (fun _ h => h) rfl d (k H locs ls hP hD hS hl)
theorem ma_g18 (X : rb_X p s m args meth c A Z cc nL "RoomMaker$Machine" ret) (d : decode cc pc = .ok (.getfield 18, 3)) (k : rb_V p l e R s m args below meth c A Q Z nL (pc + 3) L (.ref (Z.1 18) :: st) S kc ks) : rb_V p l e R s m args below meth c A Q Z nL (pc) L (.ref (Z.1 5) :: st) S kc ks := fun H locs ls hP hD hS hl => va_get (C := "RoomMaker$Machine") (T := ma_F) (N := 14) (ci := 5) (ref := "RoomMaker$Machine") X.1.1 X.1.2.1 (rb_hts X) ma_in X.1.2.2.2.1 X.2.1.1 hP 5 rfl rfl 2 (by decide) (rb_hts X _ rw_127) (fun _ h => h) rfl d (k H locs ls hP hD hS hl)
theorem ma_g21 (X : rb_X p s m args meth c A Z cc nL "RoomMaker$Machine" ret) (d : decode cc pc = .ok (.getfield 21, 3)) (k : rb_V p l e R s m args below meth c A Q Z nL (pc + 3) L (.ref (Z.1 19) :: st) S kc ks) : rb_V p l e R s m args below meth c A Q Z nL (pc) L (.ref (Z.1 5) :: st) S kc ks := fun H locs ls hP hD hS hl => va_get (C := "RoomMaker$Machine") (T := ma_F) (N := 14) (ci := 5) (ref := "RoomMaker$Machine") X.1.1 X.1.2.1 (rb_hts X) ma_in X.1.2.2.2.1 X.2.1.1 hP 5 rfl rfl 3 (by decide) (rb_hts X _ rw_128) (fun _ h => h) rfl d (k H locs ls hP hD hS hl)
theorem ma_g24 (X : rb_X p s m args meth c A Z cc nL "RoomMaker$Machine" ret) (d : decode cc pc = .ok (.getfield 24, 3)) (k : rb_V p l e R s m args below meth c A Q Z nL (pc + 3) L (.ref (Z.1 20) :: st) S kc ks) : rb_V p l e R s m args below meth c A Q Z nL (pc) L (.ref (Z.1 5) :: st) S kc ks := fun H locs ls hP hD hS hl => va_get (C := "RoomMaker$Machine") (T := ma_F) (N := 14) (ci := 5) (ref := "RoomMaker$Machine") X.1.1 X.1.2.1 (rb_hts X) ma_in X.1.2.2.2.1 X.2.1.1 hP 5 rfl rfl 5 (by decide) (rb_hts X _ rw_130) (fun _ h => h) rfl d (k H locs ls hP hD hS hl)
theorem ma_g27 (X : rb_X p s m args meth c A Z cc nL "RoomMaker$Machine" ret) (d : decode cc pc = .ok (.getfield 27, 3)) (k : rb_V p l e R s m args below meth c A Q Z nL (pc + 3) L (.ref (Z.1 21) :: st) S kc ks) : rb_V p l e R s m args below meth c A Q Z nL (pc) L (.ref (Z.1 5) :: st) S kc ks := fun H locs ls hP hD hS hl => va_get (C := "RoomMaker$Machine") (T := ma_F) (N := 14) (ci := 5) (ref := "RoomMaker$Machine") X.1.1 X.1.2.1 (rb_hts X) ma_in X.1.2.2.2.1 X.2.1.1 hP 5 rfl rfl 6 (by decide) (rb_hts X _ rw_131) (fun _ h => h) rfl d (k H locs ls hP hD hS hl)
theorem ma_g30 (X : rb_X p s m args meth c A Z cc nL "RoomMaker$Machine" ret) (d : decode cc pc = .ok (.getfield 30, 3)) (k : rb_V p l e R s m args below meth c A Q Z nL (pc + 3) L (.ref (Z.1 22) :: st) S kc ks) : rb_V p l e R s m args below meth c A Q Z nL (pc) L (.ref (Z.1 5) :: st) S kc ks := fun H locs ls hP hD hS hl => va_get (C := "RoomMaker$Machine") (T := ma_F) (N := 14) (ci := 5) (ref := "RoomMaker$Machine") X.1.1 X.1.2.1 (rb_hts X) ma_in X.1.2.2.2.1 X.2.1.1 hP 5 rfl rfl 7 (by decide) (rb_hts X _ rw_133) (fun _ h => h) rfl d (k H locs ls hP hD hS hl)
theorem ma_g33 (X : rb_X p s m args meth c A Z cc nL "RoomMaker$Machine" ret) (d : decode cc pc = .ok (.getfield 33, 3)) (k : rb_V p l e R s m args below meth c A Q Z nL (pc + 3) L (.int (S 0 1) :: st) S kc ks) : rb_V p l e R s m args below meth c A Q Z nL (pc) L (.ref (Z.1 1) :: st) S kc ks := fun H locs ls hP hD hS hl => va_getN (C := "RoomMaker$Program") (T := pg_F) (N := 5) (ci := 1) (ref := "RoomMaker$Program") X.1.1 X.1.2.1 (rb_hts X) pg_in X.1.2.2.2.1 X.2.1.1 hP 1 rfl rfl 4 (by decide) (va_Nw.use rfl (X.2.1.2.1 _ rn_38)) (fun _ h => h) rfl d (k H locs ls hP hD hS hl)
theorem ma_g39 (X : rb_X p s m args meth c A Z cc nL "RoomMaker$Machine" ret) (d : decode cc pc = .ok (.getfield 39, 3)) (k : rb_V p l e R s m args below meth c A Q Z nL (pc + 3) L (.int (S 0 7) :: st) S kc ks) : rb_V p l e R s m args below meth c A Q Z nL (pc) L (.ref (Z.1 5) :: st) S kc ks := fun H locs ls hP hD hS hl => va_get (C := "RoomMaker$Machine") (T := ma_F) (N := 14) (ci := 5) (ref := "RoomMaker$Machine") X.1.1 X.1.2.1 (rb_hts X) ma_in X.1.2.2.2.1 X.2.1.1 hP 5 rfl rfl 4 (by decide) (rb_hts X _ rw_129) (fun _ h => h) rfl d (k H locs ls hP hD hS hl)
theorem ma_g40 (X : rb_X p s m args meth c A Z cc nL "RoomMaker$Machine" ret) (d : decode cc pc = .ok (.getfield 40, 3)) (k : rb_V p l e R s m args below meth c A Q Z nL (pc + 3) L (.ref (Z.1 6) :: st) S kc ks) : rb_V p l e R s m args below meth c A Q Z nL (pc) L (.ref (Z.1 1) :: st) S kc ks := fun H locs ls hP hD hS hl => va_getN (C := "RoomMaker$Program") (T := pg_F) (N := 5) (ci := 1) (ref := "RoomMaker$Program") X.1.1 X.1.2.1 (rb_hts X) pg_in X.1.2.2.2.1 X.2.1.1 hP 1 rfl rfl 0 (by decide) (va_Nw.use rfl (X.2.1.2.1 _ rn_31)) (fun _ h => h) rfl d (k H locs ls hP hD hS hl)
theorem ma_g44 (X : rb_X p s m args meth c A Z cc nL "RoomMaker$Machine" ret) (d : decode cc pc = .ok (.getfield 44, 3)) (k : rb_V p l e R s m args below meth c A Q Z nL (pc + 3) L (.ref (Z.1 7) :: st) S kc ks) : rb_V p l e R s m args below meth c A Q Z nL (pc) L (.ref (Z.1 1) :: st) S kc ks := fun H locs ls hP hD hS hl => va_getN (C := "RoomMaker$Program") (T := pg_F) (N := 5) (ci := 1) (ref := "RoomMaker$Program") X.1.1 X.1.2.1 (rb_hts X) pg_in X.1.2.2.2.1 X.2.1.1 hP 1 rfl rfl 1 (by decide) (va_Nw.use rfl (X.2.1.2.1 _ rn_33)) (fun _ h => h) rfl d (k H locs ls hP hD hS hl)
theorem ma_g52 (X : rb_X p s m args meth c A Z cc nL "RoomMaker$Machine" ret) (d : decode cc pc = .ok (.getfield 52, 3)) (k : rb_V p l e R s m args below meth c A Q Z nL (pc + 3) L (.ref (Z.1 8) :: st) S kc ks) : rb_V p l e R s m args below meth c A Q Z nL (pc) L (.ref (Z.1 1) :: st) S kc ks := fun H locs ls hP hD hS hl => va_getN (C := "RoomMaker$Program") (T := pg_F) (N := 5) (ci := 1) (ref := "RoomMaker$Program") X.1.1 X.1.2.1 (rb_hts X) pg_in X.1.2.2.2.1 X.2.1.1 hP 1 rfl rfl 2 (by decide) (va_Nw.use rfl (X.2.1.2.1 _ rn_35)) (fun _ h => h) rfl d (k H locs ls hP hD hS hl)
theorem ma_g56 (X : rb_X p s m args meth c A Z cc nL "RoomMaker$Machine" ret) (d : decode cc pc = .ok (.getfield 56, 3)) (k : rb_V p l e R s m args below meth c A Q Z nL (pc + 3) L (.ref (Z.1 9) :: st) S kc ks) : rb_V p l e R s m args below meth c A Q Z nL (pc) L (.ref (Z.1 1) :: st) S kc ks := fun H locs ls hP hD hS hl => va_getN (C := "RoomMaker$Program") (T := pg_F) (N := 5) (ci := 1) (ref := "RoomMaker$Program") X.1.1 X.1.2.1 (rb_hts X) pg_in X.1.2.2.2.1 X.2.1.1 hP 1 rfl rfl 3 (by decide) (va_Nw.use rfl (X.2.1.2.1 _ rn_37)) (fun _ h => h) rfl d (k H locs ls hP hD hS hl)
theorem ma_g57 (X : rb_X p s m args meth c A Z cc nL "RoomMaker$Machine" ret) (d : decode cc pc = .ok (.getfield 57, 3)) (k : rb_V p l e R s m args below meth c A Q Z nL (pc + 3) L (.ref (Z.1 14) :: st) S kc ks) : rb_V p l e R s m args below meth c A Q Z nL (pc) L (.ref (Z.1 4) :: st) S kc ks := fun H locs ls hP hD hS hl => va_getN (C := "RoomMaker$Rooms") (T := ro_F) (N := 4) (ci := 4) (ref := "RoomMaker$Rooms") X.1.1 X.1.2.1 (rb_hts X) ro_in X.1.2.2.2.1 X.2.1.1 hP 4 rfl rfl 0 (by decide) (va_Nw.use rfl (X.2.1.2.1 _ rn_104)) (fun _ h => h) rfl d (k H locs ls hP hD hS hl)
theorem ma_g68 (X : rb_X p s m args meth c A Z cc nL "RoomMaker$Machine" ret) (d : decode cc pc = .ok (.getfield 68, 3)) (k : rb_V p l e R s m args below meth c A Q Z nL (pc + 3) L (.int (S 0 8) :: st) S kc ks) : rb_V p l e R s m args below meth c A Q Z nL (pc) L (.ref (Z.1 5) :: st) S kc ks := fun H locs ls hP hD hS hl => va_get (C := "RoomMaker$Machine") (T := ma_F) (N := 14) (ci := 5) (ref := "RoomMaker$Machine") X.1.1 X.1.2.1 (rb_hts X) ma_in X.1.2.2.2.1 X.2.1.1 hP 5 rfl rfl 8 (by decide) (rb_hts X _ rw_134) (fun _ h => h) rfl d (k H locs ls hP hD hS hl)
theorem ma_g71 (X : rb_X p s m args meth c A Z cc nL "RoomMaker$Machine" ret) (d : decode cc pc = .ok (.getfield 71, 3)) (k : rb_V p l e R s m args below meth c A Q Z nL (pc + 3) L (.int (S 0 9) :: st) S kc ks) : rb_V p l e R s m args below meth c A Q Z nL (pc) L (.ref (Z.1 5) :: st) S kc ks := fun H locs ls hP hD hS hl => va_get (C := "RoomMaker$Machine") (T := ma_F) (N := 14) (ci := 5) (ref := "RoomMaker$Machine") X.1.1 X.1.2.1 (rb_hts X) ma_in X.1.2.2.2.1 X.2.1.1 hP 5 rfl rfl 9 (by decide) (rb_hts X _ rw_135) (fun _ h => h) rfl d (k H locs ls hP hD hS hl)
theorem ma_g74 (X : rb_X p s m args meth c A Z cc nL "RoomMaker$Machine" ret) (d : decode cc pc = .ok (.getfield 74, 3)) (k : rb_V p l e R s m args below meth c A Q Z nL (pc + 3) L (.int (S 0 10) :: st) S kc ks) : rb_V p l e R s m args below meth c A Q Z nL (pc) L (.ref (Z.1 5) :: st) S kc ks := fun H locs ls hP hD hS hl => va_get (C := "RoomMaker$Machine") (T := ma_F) (N := 14) (ci := 5) (ref := "RoomMaker$Machine") X.1.1 X.1.2.1 (rb_hts X) ma_in X.1.2.2.2.1 X.2.1.1 hP 5 rfl rfl 10 (by decide) (rb_hts X _ rw_136) (fun _ h => h) rfl d (k H locs ls hP hD hS hl)
theorem ma_g77 (X : rb_X p s m args meth c A Z cc nL "RoomMaker$Machine" ret) (d : decode cc pc = .ok (.getfield 77, 3)) (k : rb_V p l e R s m args below meth c A Q Z nL (pc + 3) L (.int (S 0 11) :: st) S kc ks) : rb_V p l e R s m args below meth c A Q Z nL (pc) L (.ref (Z.1 5) :: st) S kc ks := fun H locs ls hP hD hS hl => va_get (C := "RoomMaker$Machine") (T := ma_F) (N := 14) (ci := 5) (ref := "RoomMaker$Machine") X.1.1 X.1.2.1 (rb_hts X) ma_in X.1.2.2.2.1 X.2.1.1 hP 5 rfl rfl 11 (by decide) (rb_hts X _ rw_137) (fun _ h => h) rfl d (k H locs ls hP hD hS hl)
theorem ma_g80 (X : rb_X p s m args meth c A Z cc nL "RoomMaker$Machine" ret) (d : decode cc pc = .ok (.getfield 80, 3)) (k : rb_V p l e R s m args below meth c A Q Z nL (pc + 3) L (.int (S 0 12) :: st) S kc ks) : rb_V p l e R s m args below meth c A Q Z nL (pc) L (.ref (Z.1 5) :: st) S kc ks := fun H locs ls hP hD hS hl => va_get (C := "RoomMaker$Machine") (T := ma_F) (N := 14) (ci := 5) (ref := "RoomMaker$Machine") X.1.1 X.1.2.1 (rb_hts X) ma_in X.1.2.2.2.1 X.2.1.1 hP 5 rfl rfl 12 (by decide) (rb_hts X _ rw_138) (fun _ h => h) rfl d (k H locs ls hP hD hS hl)
theorem ma_g83 (X : rb_X p s m args meth c A Z cc nL "RoomMaker$Machine" ret) (d : decode cc pc = .ok (.getfield 83, 3)) (k : rb_V p l e R s m args below meth c A Q Z nL (pc + 3) L (.int (S 0 13) :: st) S kc ks) : rb_V p l e R s m args below meth c A Q Z nL (pc) L (.ref (Z.1 5) :: st) S kc ks := fun H locs ls hP hD hS hl => va_get (C := "RoomMaker$Machine") (T := ma_F) (N := 14) (ci := 5) (ref := "RoomMaker$Machine") X.1.1 X.1.2.1 (rb_hts X) ma_in X.1.2.2.2.1 X.2.1.1 hP 5 rfl rfl 13 (by decide) (rb_hts X _ rw_139) (fun _ h => h) rfl d (k H locs ls hP hD hS hl)
theorem ma_g9 (X : rb_X p s m args meth c A Z cc nL "RoomMaker$Machine" ret) (d : decode cc pc = .ok (.getfield 9, 3)) (k : rb_V p l e R s m args below meth c A Q Z nL (pc + 3) L (.ref (Z.1 16) :: st) S kc ks) : rb_V p l e R s m args below meth c A Q Z nL (pc) L (.ref (Z.1 5) :: st) S kc ks := fun H locs ls hP hD hS hl => va_get (C := "RoomMaker$Machine") (T := ma_F) (N := 14) (ci := 5) (ref := "RoomMaker$Machine") X.1.1 X.1.2.1 (rb_hts X) ma_in X.1.2.2.2.1 X.2.1.1 hP 5 rfl rfl 0 (by decide) (rb_hts X _ rw_125) (fun _ h => h) rfl d (k H locs ls hP hD hS hl)
theorem ma_q39 {x : Int32} (X : rb_X p s m args meth c A Z cc nL "RoomMaker$Machine" ret) (d : decode cc pc = .ok (.putfield 39, 3)) (k : ∀ S1 : rb_S, S1 = rb_u S 0 7 x → rb_V p l e R s m args below meth c A Q Z nL (pc + 3) L (st) S1 kc ks) : rb_V p l e R s m args below meth c A Q Z nL (pc) L (.int x :: .ref (Z.1 5) :: st) S kc ks := fun H locs ls hP hD hS hl => va_put (C := "RoomMaker$Machine") (T := ma_F) (N := 14) (ci := 5) (ref := "RoomMaker$Machine") (ty := .int) X.1.1 X.1.2.1 (rb_hts X) ma_in ma_t ma_ok ma_n X.1.2.2.2.1 X.2.1.1 hP hD hS 5 rfl rfl 4 (by decide) (rb_hts X _ rw_129) (fun _ h => h) rfl (by decide +kernel) rfl rfl (Nat.le_of_ble_eq_true rfl) d (fun H1 locs1 hP1 hD1 hS1 => k _ rfl H1 locs1 ls (show va_P _ _ (rb_w Z (rb_u S 0 7 x)) H1 from hP1) (show va_D A (rb_w Z (rb_u S 0 7 x)) from hD1) hS1 hl)
theorem ma_q68 {x : Int32} (X : rb_X p s m args meth c A Z cc nL "RoomMaker$Machine" ret) (d : decode cc pc = .ok (.putfield 68, 3)) (k : ∀ S1 : rb_S, S1 = rb_u S 0 8 x → rb_V p l e R s m args below meth c A Q Z nL (pc + 3) L (st) S1 kc ks) : rb_V p l e R s m args below meth c A Q Z nL (pc) L (.int x :: .ref (Z.1 5) :: st) S kc ks := fun H locs ls hP hD hS hl => va_put (C := "RoomMaker$Machine") (T := ma_F) (N := 14) (ci := 5) (ref := "RoomMaker$Machine") (ty := .int) X.1.1 X.1.2.1 (rb_hts X) ma_in ma_t ma_ok ma_n X.1.2.2.2.1 X.2.1.1 hP hD hS 5 rfl rfl 8 (by decide) (rb_hts X _ rw_134) (fun _ h => h) rfl (by decide +kernel) rfl rfl (Nat.le_of_ble_eq_true rfl) d (fun H1 locs1 hP1 hD1 hS1 => k _ rfl H1 locs1 ls (show va_P _ _ (rb_w Z (rb_u S 0 8 x)) H1 from hP1) (show va_D A (rb_w Z (rb_u S 0 8 x)) from hD1) hS1 hl)
theorem ma_q71 {x : Int32} (X : rb_X p s m args meth c A Z cc nL "RoomMaker$Machine" ret) (d : decode cc pc = .ok (.putfield 71, 3)) (k : ∀ S1 : rb_S, S1 = rb_u S 0 9 x → rb_V p l e R s m args below meth c A Q Z nL (pc + 3) L (st) S1 kc ks) : rb_V p l e R s m args below meth c A Q Z nL (pc) L (.int x :: .ref (Z.1 5) :: st) S kc ks := fun H locs ls hP hD hS hl => va_put (C := "RoomMaker$Machine") (T := ma_F) (N := 14) (ci := 5) (ref := "RoomMaker$Machine") (ty := .int) X.1.1 X.1.2.1 (rb_hts X) ma_in ma_t ma_ok ma_n X.1.2.2.2.1 X.2.1.1 hP hD hS 5 rfl rfl 9 (by decide) (rb_hts X _ rw_135) (fun _ h => h) rfl (by decide +kernel) rfl rfl (Nat.le_of_ble_eq_true rfl) d (fun H1 locs1 hP1 hD1 hS1 => k _ rfl H1 locs1 ls (show va_P _ _ (rb_w Z (rb_u S 0 9 x)) H1 from hP1) (show va_D A (rb_w Z (rb_u S 0 9 x)) from hD1) hS1 hl)
theorem ma_q74 {x : Int32} (X : rb_X p s m args meth c A Z cc nL "RoomMaker$Machine" ret) (d : decode cc pc = .ok (.putfield 74, 3)) (k : ∀ S1 : rb_S, S1 = rb_u S 0 10 x → rb_V p l e R s m args below meth c A Q Z nL (pc + 3) L (st) S1 kc ks) : rb_V p l e R s m args below meth c A Q Z nL (pc) L (.int x :: .ref (Z.1 5) :: st) S kc ks := fun H locs ls hP hD hS hl => va_put (C := "RoomMaker$Machine") (T := ma_F) (N := 14) (ci := 5) (ref := "RoomMaker$Machine") (ty := .int) X.1.1 X.1.2.1 (rb_hts X) ma_in ma_t ma_ok ma_n X.1.2.2.2.1 X.2.1.1 hP hD hS 5 rfl rfl 10 (by decide) (rb_hts X _ rw_136) (fun _ h => h) rfl (by decide +kernel) rfl rfl (Nat.le_of_ble_eq_true rfl) d (fun H1 locs1 hP1 hD1 hS1 => k _ rfl H1 locs1 ls (show va_P _ _ (rb_w Z (rb_u S 0 10 x)) H1 from hP1) (show va_D A (rb_w Z (rb_u S 0 10 x)) from hD1) hS1 hl)
theorem ma_q77 {x : Int32} (X : rb_X p s m args meth c A Z cc nL "RoomMaker$Machine" ret) (d : decode cc pc = .ok (.putfield 77, 3)) (k : ∀ S1 : rb_S, S1 = rb_u S 0 11 x → rb_V p l e R s m args below meth c A Q Z nL (pc + 3) L (st) S1 kc ks) : rb_V p l e R s m args below meth c A Q Z nL (pc) L (.int x :: .ref (Z.1 5) :: st) S kc ks := fun H locs ls hP hD hS hl => va_put (C := "RoomMaker$Machine") (T := ma_F) (N := 14) (ci := 5) (ref := "RoomMaker$Machine") (ty := .int) X.1.1 X.1.2.1 (rb_hts X) ma_in ma_t ma_ok ma_n X.1.2.2.2.1 X.2.1.1 hP hD hS 5 rfl rfl 11 (by decide) (rb_hts X _ rw_137) (fun _ h => h) rfl (by decide +kernel) rfl rfl (Nat.le_of_ble_eq_true rfl) d (fun H1 locs1 hP1 hD1 hS1 => k _ rfl H1 locs1 ls (show va_P _ _ (rb_w Z (rb_u S 0 11 x)) H1 from hP1) (show va_D A (rb_w Z (rb_u S 0 11 x)) from hD1) hS1 hl)
theorem ma_q80 {x : Int32} (X : rb_X p s m args meth c A Z cc nL "RoomMaker$Machine" ret) (d : decode cc pc = .ok (.putfield 80, 3)) (k : ∀ S1 : rb_S, S1 = rb_u S 0 12 x → rb_V p l e R s m args below meth c A Q Z nL (pc + 3) L (st) S1 kc ks) : rb_V p l e R s m args below meth c A Q Z nL (pc) L (.int x :: .ref (Z.1 5) :: st) S kc ks := fun H locs ls hP hD hS hl => va_put (C := "RoomMaker$Machine") (T := ma_F) (N := 14) (ci := 5) (ref := "RoomMaker$Machine") (ty := .int) X.1.1 X.1.2.1 (rb_hts X) ma_in ma_t ma_ok ma_n X.1.2.2.2.1 X.2.1.1 hP hD hS 5 rfl rfl 12 (by decide) (rb_hts X _ rw_138) (fun _ h => h) rfl (by decide +kernel) rfl rfl (Nat.le_of_ble_eq_true rfl) d (fun H1 locs1 hP1 hD1 hS1 => k _ rfl H1 locs1 ls (show va_P _ _ (rb_w Z (rb_u S 0 12 x)) H1 from hP1) (show va_D A (rb_w Z (rb_u S 0 12 x)) from hD1) hS1 hl)
theorem ma_q83 {x : Int32} (X : rb_X p s m args meth c A Z cc nL "RoomMaker$Machine" ret) (d : decode cc pc = .ok (.putfield 83, 3)) (k : ∀ S1 : rb_S, S1 = rb_u S 0 13 x → rb_V p l e R s m args below meth c A Q Z nL (pc + 3) L (st) S1 kc ks) : rb_V p l e R s m args below meth c A Q Z nL (pc) L (.int x :: .ref (Z.1 5) :: st) S kc ks := fun H locs ls hP hD hS hl => va_put (C := "RoomMaker$Machine") (T := ma_F) (N := 14) (ci := 5) (ref := "RoomMaker$Machine") (ty := .int) X.1.1 X.1.2.1 (rb_hts X) ma_in ma_t ma_ok ma_n X.1.2.2.2.1 X.2.1.1 hP hD hS 5 rfl rfl 13 (by decide) (rb_hts X _ rw_139) (fun _ h => h) rfl (by decide +kernel) rfl rfl (Nat.le_of_ble_eq_true rfl) d (fun H1 locs1 hP1 hD1 hS1 => k _ rfl H1 locs1 ls (show va_P _ _ (rb_w Z (rb_u S 0 13 x)) H1 from hP1) (show va_D A (rb_w Z (rb_u S 0 13 x)) from hD1) hS1 hl)
theorem ma_s41 (X : rb_X p s m args meth c A Z cc nL "RoomMaker$Machine" ret) (d : decode cc pc = .ok (.getstatic 41, 3)) (k : rb_V p l e R s m args below meth c A Q Z nL (pc + 3) L (.ref (rb_ts Z 0) :: st) S kc ks) : rb_V p l e R s m args below meth c A Q Z nL (pc) L (st) S kc ks := fun H locs ls hP hD hS hl => va_getsN X.1.1 X.1.2.1 X.2.1.2.2.1.1.1 hS X.1.2.2.2.1 (va_Nw.use rfl (X.2.1.2.1 _ rn_448)) (fun _ h => h) d (k H locs ls hP hD hS hl)
theorem ma_s49 (X : rb_X p s m args meth c A Z cc nL "RoomMaker$Machine" ret) (d : decode cc pc = .ok (.getstatic 49, 3)) (k : rb_V p l e R s m args below meth c A Q Z nL (pc + 3) L (.ref (rb_ts Z 1) :: st) S kc ks) : rb_V p l e R s m args below meth c A Q Z nL (pc) L (st) S kc ks := fun H locs ls hP hD hS hl => va_getsN X.1.1 X.1.2.1 X.2.1.2.2.1.2.1.1 hS X.1.2.2.2.1 (va_Nw.use rfl (X.2.1.2.1 _ rn_452)) (fun _ h => h) d (k H locs ls hP hD hS hl)
theorem ma_s53 (X : rb_X p s m args meth c A Z cc nL "RoomMaker$Machine" ret) (d : decode cc pc = .ok (.getstatic 53, 3)) (k : rb_V p l e R s m args below meth c A Q Z nL (pc + 3) L (.ref (rb_ts Z 2) :: st) S kc ks) : rb_V p l e R s m args below meth c A Q Z nL (pc) L (st) S kc ks := fun H locs ls hP hD hS hl => va_getsN X.1.1 X.1.2.1 X.2.1.2.2.1.2.2.1 hS X.1.2.2.2.1 (va_Nw.use rfl (X.2.1.2.1 _ rn_453)) (fun _ h => h) d (k H locs ls hP hD hS hl)
theorem mo_g102 (X : rb_X p s m args meth c A Z cc nL "RoomMakerModel" ret) (d : decode cc pc = .ok (.getfield 102, 3)) (k : rb_V p l e R s m args below meth c A Q Z nL (pc + 3) L (.int (S 1 5) :: st) S kc ks) : rb_V p l e R s m args below meth c A Q Z nL (pc) L (.ref (Z.1 23) :: st) S kc ks := fun H locs ls hP hD hS hl => va_get (C := "RoomMakerModel") (T := mo_F) (N := 24) (ci := 6) (ref := "RoomMakerModel") X.1.1 X.1.2.1 (rb_hts X) mo_in X.1.2.2.2.1 X.2.1.1 hP 23 rfl rfl 13 (by decide) (rb_hts X _ rw_569) (fun _ h => h) rfl d (k H locs ls hP hD hS hl)
theorem mo_g123 (X : rb_X p s m args meth c A Z cc nL "RoomMakerModel" ret) (d : decode cc pc = .ok (.getfield 123, 3)) (k : rb_V p l e R s m args below meth c A Q Z nL (pc + 3) L (.int (S 1 6) :: st) S kc ks) : rb_V p l e R s m args below meth c A Q Z nL (pc) L (.ref (Z.1 23) :: st) S kc ks := fun H locs ls hP hD hS hl => va_get (C := "RoomMakerModel") (T := mo_F) (N := 24) (ci := 6) (ref := "RoomMakerModel") X.1.1 X.1.2.1 (rb_hts X) mo_in X.1.2.2.2.1 X.2.1.1 hP 23 rfl rfl 18 (by decide) (rb_hts X _ rw_574) (fun _ h => h) rfl d (k H locs ls hP hD hS hl)
theorem mo_g126 (X : rb_X p s m args meth c A Z cc nL "RoomMakerModel" ret) (d : decode cc pc = .ok (.getfield 126, 3)) (k : rb_V p l e R s m args below meth c A Q Z nL (pc + 3) L (.int (S 1 7) :: st) S kc ks) : rb_V p l e R s m args below meth c A Q Z nL (pc) L (.ref (Z.1 23) :: st) S kc ks := fun H locs ls hP hD hS hl => va_get (C := "RoomMakerModel") (T := mo_F) (N := 24) (ci := 6) (ref := "RoomMakerModel") X.1.1 X.1.2.1 (rb_hts X) mo_in X.1.2.2.2.1 X.2.1.1 hP 23 rfl rfl 19 (by decide) (rb_hts X _ rw_575) (fun _ h => h) rfl d (k H locs ls hP hD hS hl)
theorem mo_g129 (X : rb_X p s m args meth c A Z cc nL "RoomMakerModel" ret) (d : decode cc pc = .ok (.getfield 129, 3)) (k : rb_V p l e R s m args below meth c A Q Z nL (pc + 3) L (.int (S 1 8) :: st) S kc ks) : rb_V p l e R s m args below meth c A Q Z nL (pc) L (.ref (Z.1 23) :: st) S kc ks := fun H locs ls hP hD hS hl => va_get (C := "RoomMakerModel") (T := mo_F) (N := 24) (ci := 6) (ref := "RoomMakerModel") X.1.1 X.1.2.1 (rb_hts X) mo_in X.1.2.2.2.1 X.2.1.1 hP 23 rfl rfl 20 (by decide) (rb_hts X _ rw_576) (fun _ h => h) rfl d (k H locs ls hP hD hS hl)
theorem mo_g13 (X : rb_X p s m args meth c A Z cc nL "RoomMakerModel" ret) (d : decode cc pc = .ok (.getfield 13, 3)) (k : rb_V p l e R s m args below meth c A Q Z nL (pc + 3) L (.ref (Z.1 25) :: st) S kc ks) : rb_V p l e R s m args below meth c A Q Z nL (pc) L (.ref (Z.1 23) :: st) S kc ks := fun H locs ls hP hD hS hl => va_get (C := "RoomMakerModel") (T := mo_F) (N := 24) (ci := 6) (ref := "RoomMakerModel") X.1.1 X.1.2.1 (rb_hts X) mo_in X.1.2.2.2.1 X.2.1.1 hP 23 rfl rfl 3 (by decide) (rb_hts X _ rw_559) (fun _ h => h) rfl d (k H locs ls hP hD hS hl)
theorem mo_g132 (X : rb_X p s m args meth c A Z cc nL "RoomMakerModel" ret) (d : decode cc pc = .ok (.getfield 132, 3)) (k : rb_V p l e R s m args below meth c A Q Z nL (pc + 3) L (.int (S 1 9) :: st) S kc ks) : rb_V p l e R s m args below meth c A Q Z nL (pc) L (.ref (Z.1 23) :: st) S kc ks := fun H locs ls hP hD hS hl => va_get (C := "RoomMakerModel") (T := mo_F) (N := 24) (ci := 6) (ref := "RoomMakerModel") X.1.1 X.1.2.1 (rb_hts X) mo_in X.1.2.2.2.1 X.2.1.1 hP 23 rfl rfl 21 (by decide) (rb_hts X _ rw_577) (fun _ h => h) rfl d (k H locs ls hP hD hS hl)
theorem mo_g135 (X : rb_X p s m args meth c A Z cc nL "RoomMakerModel" ret) (d : decode cc pc = .ok (.getfield 135, 3)) (k : rb_V p l e R s m args below meth c A Q Z nL (pc + 3) L (.int (S 1 10) :: st) S kc ks) : rb_V p l e R s m args below meth c A Q Z nL (pc) L (.ref (Z.1 23) :: st) S kc ks := fun H locs ls hP hD hS hl => va_get (C := "RoomMakerModel") (T := mo_F) (N := 24) (ci := 6) (ref := "RoomMakerModel") X.1.1 X.1.2.1 (rb_hts X) mo_in X.1.2.2.2.1 X.2.1.1 hP 23 rfl rfl 22 (by decide) (rb_hts X _ rw_578) (fun _ h => h) rfl d (k H locs ls hP hD hS hl)
theorem mo_g16 (X : rb_X p s m args meth c A Z cc nL "RoomMakerModel" ret) (d : decode cc pc = .ok (.getfield 16, 3)) (k : rb_V p l e R s m args below meth c A Q Z nL (pc + 3) L (.ref (Z.1 26) :: st) S kc ks) : rb_V p l e R s m args below meth c A Q Z nL (pc) L (.ref (Z.1 23) :: st) S kc ks := fun H locs ls hP hD hS hl => va_get (C := "RoomMakerModel") (T := mo_F) (N := 24) (ci := 6) (ref := "RoomMakerModel") X.1.1 X.1.2.1 (rb_hts X) mo_in X.1.2.2.2.1 X.2.1.1 hP 23 rfl rfl 6 (by decide) (rb_hts X _ rw_562) (fun _ h => h) rfl d (k H locs ls hP hD hS hl)
theorem mo_g20 (X : rb_X p s m args meth c A Z cc nL "RoomMakerModel" ret) (d : decode cc pc = .ok (.getfield 20, 3)) (k : rb_V p l e R s m args below meth c A Q Z nL (pc + 3) L (.ref (Z.1 27) :: st) S kc ks) : rb_V p l e R s m args below meth c A Q Z nL (pc) L (.ref (Z.1 23) :: st) S kc ks := fun H locs ls hP hD hS hl => va_get (C := "RoomMakerModel") (T := mo_F) (N := 24) (ci := 6) (ref := "RoomMakerModel") X.1.1 X.1.2.1 (rb_hts X) mo_in X.1.2.2.2.1 X.2.1.1 hP 23 rfl rfl 7 (by decide) (rb_hts X _ rw_563) (fun _ h => h) rfl d (k H locs ls hP hD hS hl)
theorem mo_g23 (X : rb_X p s m args meth c A Z cc nL "RoomMakerModel" ret) (d : decode cc pc = .ok (.getfield 23, 3)) (k : rb_V p l e R s m args below meth c A Q Z nL (pc + 3) L (.ref (Z.1 28) :: st) S kc ks) : rb_V p l e R s m args below meth c A Q Z nL (pc) L (.ref (Z.1 23) :: st) S kc ks := fun H locs ls hP hD hS hl => va_get (C := "RoomMakerModel") (T := mo_F) (N := 24) (ci := 6) (ref := "RoomMakerModel") X.1.1 X.1.2.1 (rb_hts X) mo_in X.1.2.2.2.1 X.2.1.1 hP 23 rfl rfl 8 (by decide) (rb_hts X _ rw_564) (fun _ h => h) rfl d (k H locs ls hP hD hS hl)
theorem mo_g26 (X : rb_X p s m args meth c A Z cc nL "RoomMakerModel" ret) (d : decode cc pc = .ok (.getfield 26, 3)) (k : rb_V p l e R s m args below meth c A Q Z nL (pc + 3) L (.ref (Z.1 29) :: st) S kc ks) : rb_V p l e R s m args below meth c A Q Z nL (pc) L (.ref (Z.1 23) :: st) S kc ks := fun H locs ls hP hD hS hl => va_get (C := "RoomMakerModel") (T := mo_F) (N := 24) (ci := 6) (ref := "RoomMakerModel") X.1.1 X.1.2.1 (rb_hts X) mo_in X.1.2.2.2.1 X.2.1.1 hP 23 rfl rfl 10 (by decide) (rb_hts X _ rw_566) (fun _ h => h) rfl d (k H locs ls hP hD hS hl)
theorem mo_g29 (X : rb_X p s m args meth c A Z cc nL "RoomMakerModel" ret) (d : decode cc pc = .ok (.getfield 29, 3)) (k : rb_V p l e R s m args below meth c A Q Z nL (pc + 3) L (.ref (Z.1 30) :: st) S kc ks) : rb_V p l e R s m args below meth c A Q Z nL (pc) L (.ref (Z.1 23) :: st) S kc ks := fun H locs ls hP hD hS hl => va_get (C := "RoomMakerModel") (T := mo_F) (N := 24) (ci := 6) (ref := "RoomMakerModel") X.1.1 X.1.2.1 (rb_hts X) mo_in X.1.2.2.2.1 X.2.1.1 hP 23 rfl rfl 11 (by decide) (rb_hts X _ rw_567) (fun _ h => h) rfl d (k H locs ls hP hD hS hl)
theorem mo_g32 (X : rb_X p s m args meth c A Z cc nL "RoomMakerModel" ret) (d : decode cc pc = .ok (.getfield 32, 3)) (k : rb_V p l e R s m args below meth c A Q Z nL (pc + 3) L (.ref (Z.1 31) :: st) S kc ks) : rb_V p l e R s m args below meth c A Q Z nL (pc) L (.ref (Z.1 23) :: st) S kc ks := fun H locs ls hP hD hS hl => va_get (C := "RoomMakerModel") (T := mo_F) (N := 24) (ci := 6) (ref := "RoomMakerModel") X.1.1 X.1.2.1 (rb_hts X) mo_in X.1.2.2.2.1 X.2.1.1 hP 23 rfl rfl 12 (by decide) (rb_hts X _ rw_568) (fun _ h => h) rfl d (k H locs ls hP hD hS hl)
theorem mo_g35 (X : rb_X p s m args meth c A Z cc nL "RoomMakerModel" ret) (d : decode cc pc = .ok (.getfield 35, 3)) (k : rb_V p l e R s m args below meth c A Q Z nL (pc + 3) L (.ref (Z.1 32) :: st) S kc ks) : rb_V p l e R s m args below meth c A Q Z nL (pc) L (.ref (Z.1 23) :: st) S kc ks := fun H locs ls hP hD hS hl => va_get (C := "RoomMakerModel") (T := mo_F) (N := 24) (ci := 6) (ref := "RoomMakerModel") X.1.1 X.1.2.1 (rb_hts X) mo_in X.1.2.2.2.1 X.2.1.1 hP 23 rfl rfl 14 (by decide) (rb_hts X _ rw_570) (fun _ h => h) rfl d (k H locs ls hP hD hS hl)
theorem mo_g38 (X : rb_X p s m args meth c A Z cc nL "RoomMakerModel" ret) (d : decode cc pc = .ok (.getfield 38, 3)) (k : rb_V p l e R s m args below meth c A Q Z nL (pc + 3) L (.ref (Z.1 33) :: st) S kc ks) : rb_V p l e R s m args below meth c A Q Z nL (pc) L (.ref (Z.1 23) :: st) S kc ks := fun H locs ls hP hD hS hl => va_get (C := "RoomMakerModel") (T := mo_F) (N := 24) (ci := 6) (ref := "RoomMakerModel") X.1.1 X.1.2.1 (rb_hts X) mo_in X.1.2.2.2.1 X.2.1.1 hP 23 rfl rfl 15 (by decide) (rb_hts X _ rw_571) (fun _ h => h) rfl d (k H locs ls hP hD hS hl)
theorem mo_g41 (X : rb_X p s m args meth c A Z cc nL "RoomMakerModel" ret) (d : decode cc pc = .ok (.getfield 41, 3)) (k : rb_V p l e R s m args below meth c A Q Z nL (pc + 3) L (.ref (Z.1 34) :: st) S kc ks) : rb_V p l e R s m args below meth c A Q Z nL (pc) L (.ref (Z.1 23) :: st) S kc ks := fun H locs ls hP hD hS hl => va_get (C := "RoomMakerModel") (T := mo_F) (N := 24) (ci := 6) (ref := "RoomMakerModel") X.1.1 X.1.2.1 (rb_hts X) mo_in X.1.2.2.2.1 X.2.1.1 hP 23 rfl rfl 16 (by decide) (rb_hts X _ rw_572) (fun _ h => h) rfl d (k H locs ls hP hD hS hl)
theorem mo_g44 (X : rb_X p s m args meth c A Z cc nL "RoomMakerModel" ret) (d : decode cc pc = .ok (.getfield 44, 3)) (k : rb_V p l e R s m args below meth c A Q Z nL (pc + 3) L (.ref (Z.1 35) :: st) S kc ks) : rb_V p l e R s m args below meth c A Q Z nL (pc) L (.ref (Z.1 23) :: st) S kc ks := fun H locs ls hP hD hS hl => va_get (C := "RoomMakerModel") (T := mo_F) (N := 24) (ci := 6) (ref := "RoomMakerModel") X.1.1 X.1.2.1 (rb_hts X) mo_in X.1.2.2.2.1 X.2.1.1 hP 23 rfl rfl 17 (by decide) (rb_hts X _ rw_573) (fun _ h => h) rfl d (k H locs ls hP hD hS hl)
theorem mo_g47 (X : rb_X p s m args meth c A Z cc nL "RoomMakerModel" ret) (d : decode cc pc = .ok (.getfield 47, 3)) (k : rb_V p l e R s m args below meth c A Q Z nL (pc + 3) L (.int (S 1 0) :: st) S kc ks) : rb_V p l e R s m args below meth c A Q Z nL (pc) L (.ref (Z.1 23) :: st) S kc ks := fun H locs ls hP hD hS hl => va_get (C := "RoomMakerModel") (T := mo_F) (N := 24) (ci := 6) (ref := "RoomMakerModel") X.1.1 X.1.2.1 (rb_hts X) mo_in X.1.2.2.2.1 X.2.1.1 hP 23 rfl rfl 0 (by decide) (rb_hts X _ rw_556) (fun _ h => h) rfl d (k H locs ls hP hD hS hl)
theorem mo_g65 (X : rb_X p s m args meth c A Z cc nL "RoomMakerModel" ret) (d : decode cc pc = .ok (.getfield 65, 3)) (k : rb_V p l e R s m args below meth c A Q Z nL (pc + 3) L (.int (S 1 1) :: st) S kc ks) : rb_V p l e R s m args below meth c A Q Z nL (pc) L (.ref (Z.1 23) :: st) S kc ks := fun H locs ls hP hD hS hl => va_get (C := "RoomMakerModel") (T := mo_F) (N := 24) (ci := 6) (ref := "RoomMakerModel") X.1.1 X.1.2.1 (rb_hts X) mo_in X.1.2.2.2.1 X.2.1.1 hP 23 rfl rfl 2 (by decide) (rb_hts X _ rw_558) (fun _ h => h) rfl d (k H locs ls hP hD hS hl)
theorem mo_g68 (X : rb_X p s m args meth c A Z cc nL "RoomMakerModel" ret) (d : decode cc pc = .ok (.getfield 68, 3)) (k : rb_V p l e R s m args below meth c A Q Z nL (pc + 3) L (.int (S 1 3) :: st) S kc ks) : rb_V p l e R s m args below meth c A Q Z nL (pc) L (.ref (Z.1 23) :: st) S kc ks := fun H locs ls hP hD hS hl => va_get (C := "RoomMakerModel") (T := mo_F) (N := 24) (ci := 6) (ref := "RoomMakerModel") X.1.1 X.1.2.1 (rb_hts X) mo_in X.1.2.2.2.1 X.2.1.1 hP 23 rfl rfl 5 (by decide) (rb_hts X _ rw_561) (fun _ h => h) rfl d (k H locs ls hP hD hS hl)
theorem mo_g7 (X : rb_X p s m args meth c A Z cc nL "RoomMakerModel" ret) (d : decode cc pc = .ok (.getfield 7, 3)) (k : rb_V p l e R s m args below meth c A Q Z nL (pc + 3) L (.ref (Z.1 24) :: st) S kc ks) : rb_V p l e R s m args below meth c A Q Z nL (pc) L (.ref (Z.1 23) :: st) S kc ks := fun H locs ls hP hD hS hl => va_get (C := "RoomMakerModel") (T := mo_F) (N := 24) (ci := 6) (ref := "RoomMakerModel") X.1.1 X.1.2.1 (rb_hts X) mo_in X.1.2.2.2.1 X.2.1.1 hP 23 rfl rfl 1 (by decide) (rb_hts X _ rw_557) (fun _ h => h) rfl d (k H locs ls hP hD hS hl)
theorem mo_g72 (X : rb_X p s m args meth c A Z cc nL "RoomMakerModel" ret) (d : decode cc pc = .ok (.getfield 72, 3)) (k : rb_V p l e R s m args below meth c A Q Z nL (pc + 3) L (.int (S 1 11) :: st) S kc ks) : rb_V p l e R s m args below meth c A Q Z nL (pc) L (.ref (Z.1 23) :: st) S kc ks := fun H locs ls hP hD hS hl => va_get (C := "RoomMakerModel") (T := mo_F) (N := 24) (ci := 6) (ref := "RoomMakerModel") X.1.1 X.1.2.1 (rb_hts X) mo_in X.1.2.2.2.1 X.2.1.1 hP 23 rfl rfl 23 (by decide) (rb_hts X _ rw_579) (fun _ h => h) rfl d (k H locs ls hP hD hS hl)
theorem mo_g75 (X : rb_X p s m args meth c A Z cc nL "RoomMakerModel" ret) (d : decode cc pc = .ok (.getfield 75, 3)) (k : rb_V p l e R s m args below meth c A Q Z nL (pc + 3) L (.int (S 1 2) :: st) S kc ks) : rb_V p l e R s m args below meth c A Q Z nL (pc) L (.ref (Z.1 23) :: st) S kc ks := fun H locs ls hP hD hS hl => va_get (C := "RoomMakerModel") (T := mo_F) (N := 24) (ci := 6) (ref := "RoomMakerModel") X.1.1 X.1.2.1 (rb_hts X) mo_in X.1.2.2.2.1 X.2.1.1 hP 23 rfl rfl 4 (by decide) (rb_hts X _ rw_560) (fun _ h => h) rfl d (k H locs ls hP hD hS hl)
theorem mo_g78 (X : rb_X p s m args meth c A Z cc nL "RoomMakerModel" ret) (d : decode cc pc = .ok (.getfield 78, 3)) (k : rb_V p l e R s m args below meth c A Q Z nL (pc + 3) L (.int (S 1 4) :: st) S kc ks) : rb_V p l e R s m args below meth c A Q Z nL (pc) L (.ref (Z.1 23) :: st) S kc ks := fun H locs ls hP hD hS hl => va_get (C := "RoomMakerModel") (T := mo_F) (N := 24) (ci := 6) (ref := "RoomMakerModel") X.1.1 X.1.2.1 (rb_hts X) mo_in X.1.2.2.2.1 X.2.1.1 hP 23 rfl rfl 9 (by decide) (rb_hts X _ rw_565) (fun _ h => h) rfl d (k H locs ls hP hD hS hl)
theorem mo_q102 {x : Int32} (X : rb_X p s m args meth c A Z cc nL "RoomMakerModel" ret) (d : decode cc pc = .ok (.putfield 102, 3)) (k : ∀ S1 : rb_S, S1 = rb_u S 1 5 x → rb_V p l e R s m args below meth c A Q Z nL (pc + 3) L (st) S1 kc ks) : rb_V p l e R s m args below meth c A Q Z nL (pc) L (.int x :: .ref (Z.1 23) :: st) S kc ks := fun H locs ls hP hD hS hl => va_put (C := "RoomMakerModel") (T := mo_F) (N := 24) (ci := 6) (ref := "RoomMakerModel") (ty := .int) X.1.1 X.1.2.1 (rb_hts X) mo_in mo_t mo_ok mo_n X.1.2.2.2.1 X.2.1.1 hP hD hS 23 rfl rfl 13 (by decide) (rb_hts X _ rw_569) (fun _ h => h) rfl (by decide +kernel) rfl rfl (Nat.le_of_ble_eq_true rfl) d (fun H1 locs1 hP1 hD1 hS1 => k _ rfl H1 locs1 ls (show va_P _ _ (rb_w Z (rb_u S 1 5 x)) H1 from hP1) (show va_D A (rb_w Z (rb_u S 1 5 x)) from hD1) hS1 hl)
theorem mo_q123 {x : Int32} (X : rb_X p s m args meth c A Z cc nL "RoomMakerModel" ret) (d : decode cc pc = .ok (.putfield 123, 3)) (k : ∀ S1 : rb_S, S1 = rb_u S 1 6 x → rb_V p l e R s m args below meth c A Q Z nL (pc + 3) L (st) S1 kc ks) : rb_V p l e R s m args below meth c A Q Z nL (pc) L (.int x :: .ref (Z.1 23) :: st) S kc ks := fun H locs ls hP hD hS hl => va_put (C := "RoomMakerModel") (T := mo_F) (N := 24) (ci := 6) (ref := "RoomMakerModel") (ty := .int) X.1.1 X.1.2.1 (rb_hts X) mo_in mo_t mo_ok mo_n X.1.2.2.2.1 X.2.1.1 hP hD hS 23 rfl rfl 18 (by decide) (rb_hts X _ rw_574) (fun _ h => h) rfl (by decide +kernel) rfl rfl (Nat.le_of_ble_eq_true rfl) d (fun H1 locs1 hP1 hD1 hS1 => k _ rfl H1 locs1 ls (show va_P _ _ (rb_w Z (rb_u S 1 6 x)) H1 from hP1) (show va_D A (rb_w Z (rb_u S 1 6 x)) from hD1) hS1 hl)
theorem mo_q126 {x : Int32} (X : rb_X p s m args meth c A Z cc nL "RoomMakerModel" ret) (d : decode cc pc = .ok (.putfield 126, 3)) (k : ∀ S1 : rb_S, S1 = rb_u S 1 7 x → rb_V p l e R s m args below meth c A Q Z nL (pc + 3) L (st) S1 kc ks) : rb_V p l e R s m args below meth c A Q Z nL (pc) L (.int x :: .ref (Z.1 23) :: st) S kc ks := fun H locs ls hP hD hS hl => va_put (C := "RoomMakerModel") (T := mo_F) (N := 24) (ci := 6) (ref := "RoomMakerModel") (ty := .int) X.1.1 X.1.2.1 (rb_hts X) mo_in mo_t mo_ok mo_n X.1.2.2.2.1 X.2.1.1 hP hD hS 23 rfl rfl 19 (by decide) (rb_hts X _ rw_575) (fun _ h => h) rfl (by decide +kernel) rfl rfl (Nat.le_of_ble_eq_true rfl) d (fun H1 locs1 hP1 hD1 hS1 => k _ rfl H1 locs1 ls (show va_P _ _ (rb_w Z (rb_u S 1 7 x)) H1 from hP1) (show va_D A (rb_w Z (rb_u S 1 7 x)) from hD1) hS1 hl)
theorem mo_q129 {x : Int32} (X : rb_X p s m args meth c A Z cc nL "RoomMakerModel" ret) (d : decode cc pc = .ok (.putfield 129, 3)) (k : ∀ S1 : rb_S, S1 = rb_u S 1 8 x → rb_V p l e R s m args below meth c A Q Z nL (pc + 3) L (st) S1 kc ks) : rb_V p l e R s m args below meth c A Q Z nL (pc) L (.int x :: .ref (Z.1 23) :: st) S kc ks := fun H locs ls hP hD hS hl => va_put (C := "RoomMakerModel") (T := mo_F) (N := 24) (ci := 6) (ref := "RoomMakerModel") (ty := .int) X.1.1 X.1.2.1 (rb_hts X) mo_in mo_t mo_ok mo_n X.1.2.2.2.1 X.2.1.1 hP hD hS 23 rfl rfl 20 (by decide) (rb_hts X _ rw_576) (fun _ h => h) rfl (by decide +kernel) rfl rfl (Nat.le_of_ble_eq_true rfl) d (fun H1 locs1 hP1 hD1 hS1 => k _ rfl H1 locs1 ls (show va_P _ _ (rb_w Z (rb_u S 1 8 x)) H1 from hP1) (show va_D A (rb_w Z (rb_u S 1 8 x)) from hD1) hS1 hl)
theorem mo_q132 {x : Int32} (X : rb_X p s m args meth c A Z cc nL "RoomMakerModel" ret) (d : decode cc pc = .ok (.putfield 132, 3)) (k : ∀ S1 : rb_S, S1 = rb_u S 1 9 x → rb_V p l e R s m args below meth c A Q Z nL (pc + 3) L (st) S1 kc ks) : rb_V p l e R s m args below meth c A Q Z nL (pc) L (.int x :: .ref (Z.1 23) :: st) S kc ks := fun H locs ls hP hD hS hl => va_put (C := "RoomMakerModel") (T := mo_F) (N := 24) (ci := 6) (ref := "RoomMakerModel") (ty := .int) X.1.1 X.1.2.1 (rb_hts X) mo_in mo_t mo_ok mo_n X.1.2.2.2.1 X.2.1.1 hP hD hS 23 rfl rfl 21 (by decide) (rb_hts X _ rw_577) (fun _ h => h) rfl (by decide +kernel) rfl rfl (Nat.le_of_ble_eq_true rfl) d (fun H1 locs1 hP1 hD1 hS1 => k _ rfl H1 locs1 ls (show va_P _ _ (rb_w Z (rb_u S 1 9 x)) H1 from hP1) (show va_D A (rb_w Z (rb_u S 1 9 x)) from hD1) hS1 hl)
theorem mo_q135 {x : Int32} (X : rb_X p s m args meth c A Z cc nL "RoomMakerModel" ret) (d : decode cc pc = .ok (.putfield 135, 3)) (k : ∀ S1 : rb_S, S1 = rb_u S 1 10 x → rb_V p l e R s m args below meth c A Q Z nL (pc + 3) L (st) S1 kc ks) : rb_V p l e R s m args below meth c A Q Z nL (pc) L (.int x :: .ref (Z.1 23) :: st) S kc ks := fun H locs ls hP hD hS hl => va_put (C := "RoomMakerModel") (T := mo_F) (N := 24) (ci := 6) (ref := "RoomMakerModel") (ty := .int) X.1.1 X.1.2.1 (rb_hts X) mo_in mo_t mo_ok mo_n X.1.2.2.2.1 X.2.1.1 hP hD hS 23 rfl rfl 22 (by decide) (rb_hts X _ rw_578) (fun _ h => h) rfl (by decide +kernel) rfl rfl (Nat.le_of_ble_eq_true rfl) d (fun H1 locs1 hP1 hD1 hS1 => k _ rfl H1 locs1 ls (show va_P _ _ (rb_w Z (rb_u S 1 10 x)) H1 from hP1) (show va_D A (rb_w Z (rb_u S 1 10 x)) from hD1) hS1 hl)
theorem mo_q47 {x : Int32} (X : rb_X p s m args meth c A Z cc nL "RoomMakerModel" ret) (d : decode cc pc = .ok (.putfield 47, 3)) (k : ∀ S1 : rb_S, S1 = rb_u S 1 0 x → rb_V p l e R s m args below meth c A Q Z nL (pc + 3) L (st) S1 kc ks) : rb_V p l e R s m args below meth c A Q Z nL (pc) L (.int x :: .ref (Z.1 23) :: st) S kc ks := fun H locs ls hP hD hS hl => va_put (C := "RoomMakerModel") (T := mo_F) (N := 24) (ci := 6) (ref := "RoomMakerModel") (ty := .int) X.1.1 X.1.2.1 (rb_hts X) mo_in mo_t mo_ok mo_n X.1.2.2.2.1 X.2.1.1 hP hD hS 23 rfl rfl 0 (by decide) (rb_hts X _ rw_556) (fun _ h => h) rfl (by decide +kernel) rfl rfl (Nat.le_of_ble_eq_true rfl) d (fun H1 locs1 hP1 hD1 hS1 => k _ rfl H1 locs1 ls (show va_P _ _ (rb_w Z (rb_u S 1 0 x)) H1 from hP1) (show va_D A (rb_w Z (rb_u S 1 0 x)) from hD1) hS1 hl)
theorem mo_q65 {x : Int32} (X : rb_X p s m args meth c A Z cc nL "RoomMakerModel" ret) (d : decode cc pc = .ok (.putfield 65, 3)) (k : ∀ S1 : rb_S, S1 = rb_u S 1 1 x → rb_V p l e R s m args below meth c A Q Z nL (pc + 3) L (st) S1 kc ks) : rb_V p l e R s m args below meth c A Q Z nL (pc) L (.int x :: .ref (Z.1 23) :: st) S kc ks := fun H locs ls hP hD hS hl => va_put (C := "RoomMakerModel") (T := mo_F) (N := 24) (ci := 6) (ref := "RoomMakerModel") (ty := .int) X.1.1 X.1.2.1 (rb_hts X) mo_in mo_t mo_ok mo_n X.1.2.2.2.1 X.2.1.1 hP hD hS 23 rfl rfl 2 (by decide) (rb_hts X _ rw_558) (fun _ h => h) rfl (by decide +kernel) rfl rfl (Nat.le_of_ble_eq_true rfl) d (fun H1 locs1 hP1 hD1 hS1 => k _ rfl H1 locs1 ls (show va_P _ _ (rb_w Z (rb_u S 1 1 x)) H1 from hP1) (show va_D A (rb_w Z (rb_u S 1 1 x)) from hD1) hS1 hl)
theorem mo_q68 {x : Int32} (X : rb_X p s m args meth c A Z cc nL "RoomMakerModel" ret) (d : decode cc pc = .ok (.putfield 68, 3)) (hn : narrow .boolean (.int x) = .int x) (hfi : fits .boolean (.int x) = true) (k : ∀ S1 : rb_S, S1 = rb_u S 1 3 x → rb_V p l e R s m args below meth c A Q Z nL (pc + 3) L (st) S1 kc ks) : rb_V p l e R s m args below meth c A Q Z nL (pc) L (.int x :: .ref (Z.1 23) :: st) S kc ks := fun H locs ls hP hD hS hl => va_put (C := "RoomMakerModel") (T := mo_F) (N := 24) (ci := 6) (ref := "RoomMakerModel") (ty := .boolean) X.1.1 X.1.2.1 (rb_hts X) mo_in mo_t mo_ok mo_n X.1.2.2.2.1 X.2.1.1 hP hD hS 23 rfl rfl 5 (by decide) (rb_hts X _ rw_561) (fun _ h => h) rfl (by decide +kernel) hn hfi (Nat.le_of_ble_eq_true rfl) d (fun H1 locs1 hP1 hD1 hS1 => k _ rfl H1 locs1 ls (show va_P _ _ (rb_w Z (rb_u S 1 3 x)) H1 from hP1) (show va_D A (rb_w Z (rb_u S 1 3 x)) from hD1) hS1 hl)
theorem mo_q72 {x : Int32} (X : rb_X p s m args meth c A Z cc nL "RoomMakerModel" ret) (d : decode cc pc = .ok (.putfield 72, 3)) (k : ∀ S1 : rb_S, S1 = rb_u S 1 11 x → rb_V p l e R s m args below meth c A Q Z nL (pc + 3) L (st) S1 kc ks) : rb_V p l e R s m args below meth c A Q Z nL (pc) L (.int x :: .ref (Z.1 23) :: st) S kc ks := fun H locs ls hP hD hS hl => va_put (C := "RoomMakerModel") (T := mo_F) (N := 24) (ci := 6) (ref := "RoomMakerModel") (ty := .int) X.1.1 X.1.2.1 (rb_hts X) mo_in mo_t mo_ok mo_n X.1.2.2.2.1 X.2.1.1 hP hD hS 23 rfl rfl 23 (by decide) (rb_hts X _ rw_579) (fun _ h => h) rfl (by decide +kernel) rfl rfl (Nat.le_of_ble_eq_true rfl) d (fun H1 locs1 hP1 hD1 hS1 => k _ rfl H1 locs1 ls (show va_P _ _ (rb_w Z (rb_u S 1 11 x)) H1 from hP1) (show va_D A (rb_w Z (rb_u S 1 11 x)) from hD1) hS1 hl)
theorem mo_q75 {x : Int32} (X : rb_X p s m args meth c A Z cc nL "RoomMakerModel" ret) (d : decode cc pc = .ok (.putfield 75, 3)) (k : ∀ S1 : rb_S, S1 = rb_u S 1 2 x → rb_V p l e R s m args below meth c A Q Z nL (pc + 3) L (st) S1 kc ks) : rb_V p l e R s m args below meth c A Q Z nL (pc) L (.int x :: .ref (Z.1 23) :: st) S kc ks := fun H locs ls hP hD hS hl => va_put (C := "RoomMakerModel") (T := mo_F) (N := 24) (ci := 6) (ref := "RoomMakerModel") (ty := .int) X.1.1 X.1.2.1 (rb_hts X) mo_in mo_t mo_ok mo_n X.1.2.2.2.1 X.2.1.1 hP hD hS 23 rfl rfl 4 (by decide) (rb_hts X _ rw_560) (fun _ h => h) rfl (by decide +kernel) rfl rfl (Nat.le_of_ble_eq_true rfl) d (fun H1 locs1 hP1 hD1 hS1 => k _ rfl H1 locs1 ls (show va_P _ _ (rb_w Z (rb_u S 1 2 x)) H1 from hP1) (show va_D A (rb_w Z (rb_u S 1 2 x)) from hD1) hS1 hl)
theorem mo_q78 {x : Int32} (X : rb_X p s m args meth c A Z cc nL "RoomMakerModel" ret) (d : decode cc pc = .ok (.putfield 78, 3)) (k : ∀ S1 : rb_S, S1 = rb_u S 1 4 x → rb_V p l e R s m args below meth c A Q Z nL (pc + 3) L (st) S1 kc ks) : rb_V p l e R s m args below meth c A Q Z nL (pc) L (.int x :: .ref (Z.1 23) :: st) S kc ks := fun H locs ls hP hD hS hl => va_put (C := "RoomMakerModel") (T := mo_F) (N := 24) (ci := 6) (ref := "RoomMakerModel") (ty := .int) X.1.1 X.1.2.1 (rb_hts X) mo_in mo_t mo_ok mo_n X.1.2.2.2.1 X.2.1.1 hP hD hS 23 rfl rfl 9 (by decide) (rb_hts X _ rw_565) (fun _ h => h) rfl (by decide +kernel) rfl rfl (Nat.le_of_ble_eq_true rfl) d (fun H1 locs1 hP1 hD1 hS1 => k _ rfl H1 locs1 ls (show va_P _ _ (rb_w Z (rb_u S 1 4 x)) H1 from hP1) (show va_D A (rb_w Z (rb_u S 1 4 x)) from hD1) hS1 hl)
theorem pg_g15 (X : rb_X p s m args meth c A Z cc nL "RoomMaker$Program" ret) (d : decode cc pc = .ok (.getfield 15, 3)) (k : rb_V p l e R s m args below meth c A Q Z nL (pc + 3) L (.ref (Z.1 7) :: st) S kc ks) : rb_V p l e R s m args below meth c A Q Z nL (pc) L (.ref (Z.1 1) :: st) S kc ks := fun H locs ls hP hD hS hl => va_get (C := "RoomMaker$Program") (T := pg_F) (N := 5) (ci := 1) (ref := "RoomMaker$Program") X.1.1 X.1.2.1 (rb_hts X) pg_in X.1.2.2.2.1 X.2.1.1 hP 1 rfl rfl 1 (by decide) (rb_hts X _ rw_32) (fun _ h => h) rfl d (k H locs ls hP hD hS hl)
theorem pg_g18 (X : rb_X p s m args meth c A Z cc nL "RoomMaker$Program" ret) (d : decode cc pc = .ok (.getfield 18, 3)) (k : rb_V p l e R s m args below meth c A Q Z nL (pc + 3) L (.ref (Z.1 8) :: st) S kc ks) : rb_V p l e R s m args below meth c A Q Z nL (pc) L (.ref (Z.1 1) :: st) S kc ks := fun H locs ls hP hD hS hl => va_get (C := "RoomMaker$Program") (T := pg_F) (N := 5) (ci := 1) (ref := "RoomMaker$Program") X.1.1 X.1.2.1 (rb_hts X) pg_in X.1.2.2.2.1 X.2.1.1 hP 1 rfl rfl 2 (by decide) (rb_hts X _ rw_34) (fun _ h => h) rfl d (k H locs ls hP hD hS hl)
theorem pg_g21 (X : rb_X p s m args meth c A Z cc nL "RoomMaker$Program" ret) (d : decode cc pc = .ok (.getfield 21, 3)) (k : rb_V p l e R s m args below meth c A Q Z nL (pc + 3) L (.ref (Z.1 9) :: st) S kc ks) : rb_V p l e R s m args below meth c A Q Z nL (pc) L (.ref (Z.1 1) :: st) S kc ks := fun H locs ls hP hD hS hl => va_get (C := "RoomMaker$Program") (T := pg_F) (N := 5) (ci := 1) (ref := "RoomMaker$Program") X.1.1 X.1.2.1 (rb_hts X) pg_in X.1.2.2.2.1 X.2.1.1 hP 1 rfl rfl 3 (by decide) (rb_hts X _ rw_36) (fun _ h => h) rfl d (k H locs ls hP hD hS hl)
theorem pg_g41 (X : rb_X p s m args meth c A Z cc nL "RoomMaker$Program" ret) (d : decode cc pc = .ok (.getfield 41, 3)) (k : rb_V p l e R s m args below meth c A Q Z nL (pc + 3) L (.int (S 0 1) :: st) S kc ks) : rb_V p l e R s m args below meth c A Q Z nL (pc) L (.ref (Z.1 1) :: st) S kc ks := fun H locs ls hP hD hS hl => va_get (C := "RoomMaker$Program") (T := pg_F) (N := 5) (ci := 1) (ref := "RoomMaker$Program") X.1.1 X.1.2.1 (rb_hts X) pg_in X.1.2.2.2.1 X.2.1.1 hP 1 rfl rfl 4 (by decide) (rb_hts X _ rw_41) (fun _ h => h) rfl d (k H locs ls hP hD hS hl)
theorem pg_g9 (X : rb_X p s m args meth c A Z cc nL "RoomMaker$Program" ret) (d : decode cc pc = .ok (.getfield 9, 3)) (k : rb_V p l e R s m args below meth c A Q Z nL (pc + 3) L (.ref (Z.1 6) :: st) S kc ks) : rb_V p l e R s m args below meth c A Q Z nL (pc) L (.ref (Z.1 1) :: st) S kc ks := fun H locs ls hP hD hS hl => va_get (C := "RoomMaker$Program") (T := pg_F) (N := 5) (ci := 1) (ref := "RoomMaker$Program") X.1.1 X.1.2.1 (rb_hts X) pg_in X.1.2.2.2.1 X.2.1.1 hP 1 rfl rfl 0 (by decide) (rb_hts X _ rw_30) (fun _ h => h) rfl d (k H locs ls hP hD hS hl)
theorem pg_q41 {x : Int32} (X : rb_X p s m args meth c A Z cc nL "RoomMaker$Program" ret) (d : decode cc pc = .ok (.putfield 41, 3)) (k : ∀ S1 : rb_S, S1 = rb_u S 0 1 x → rb_V p l e R s m args below meth c A Q Z nL (pc + 3) L (st) S1 kc ks) : rb_V p l e R s m args below meth c A Q Z nL (pc) L (.int x :: .ref (Z.1 1) :: st) S kc ks := fun H locs ls hP hD hS hl => va_put (C := "RoomMaker$Program") (T := pg_F) (N := 5) (ci := 1) (ref := "RoomMaker$Program") (ty := .int) X.1.1 X.1.2.1 (rb_hts X) pg_in pg_t pg_ok pg_n X.1.2.2.2.1 X.2.1.1 hP hD hS 1 rfl rfl 4 (by decide) (rb_hts X _ rw_41) (fun _ h => h) rfl (by decide +kernel) rfl rfl (Nat.le_of_ble_eq_true rfl) d (fun H1 locs1 hP1 hD1 hS1 => k _ rfl H1 locs1 ls (show va_P _ _ (rb_w Z (rb_u S 0 1 x)) H1 from hP1) (show va_D A (rb_w Z (rb_u S 0 1 x)) from hD1) hS1 hl)
theorem pg_s24 (X : rb_X p s m args meth c A Z cc nL "RoomMaker$Program" ret) (d : decode cc pc = .ok (.getstatic 24, 3)) (k : rb_V p l e R s m args below meth c A Q Z nL (pc + 3) L (.ref (rb_ts Z 0) :: st) S kc ks) : rb_V p l e R s m args below meth c A Q Z nL (pc) L (st) S kc ks := fun H locs ls hP hD hS hl => va_getsN X.1.1 X.1.2.1 X.2.1.2.2.1.1.1 hS X.1.2.2.2.1 (va_Nw.use rfl (X.2.1.2.1 _ rn_261)) (fun _ h => h) d (k H locs ls hP hD hS hl)
theorem pg_s31 (X : rb_X p s m args meth c A Z cc nL "RoomMaker$Program" ret) (d : decode cc pc = .ok (.getstatic 31, 3)) (k : rb_V p l e R s m args below meth c A Q Z nL (pc + 3) L (.ref (rb_ts Z 1) :: st) S kc ks) : rb_V p l e R s m args below meth c A Q Z nL (pc) L (st) S kc ks := fun H locs ls hP hD hS hl => va_getsN X.1.1 X.1.2.1 X.2.1.2.2.1.2.1.1 hS X.1.2.2.2.1 (va_Nw.use rfl (X.2.1.2.1 _ rn_269)) (fun _ h => h) d (k H locs ls hP hD hS hl)
theorem pg_s34 (X : rb_X p s m args meth c A Z cc nL "RoomMaker$Program" ret) (d : decode cc pc = .ok (.getstatic 34, 3)) (k : rb_V p l e R s m args below meth c A Q Z nL (pc + 3) L (.ref (rb_ts Z 2) :: st) S kc ks) : rb_V p l e R s m args below meth c A Q Z nL (pc) L (st) S kc ks := fun H locs ls hP hD hS hl => va_getsN X.1.1 X.1.2.1 X.2.1.2.2.1.2.2.1 hS X.1.2.2.2.1 (va_Nw.use rfl (X.2.1.2.1 _ rn_271)) (fun _ h => h) d (k H locs ls hP hD hS hl)
theorem rm_g12 (X : rb_X p s m args meth c A Z cc nL "RoomMaker" ret) (d : decode cc pc = .ok (.getfield 12, 3)) (k : rb_V p l e R s m args below meth c A Q Z nL (pc + 3) L (.ref (Z.1 1) :: st) S kc ks) : rb_V p l e R s m args below meth c A Q Z nL (pc) L (.ref (Z.1 0) :: st) S kc ks := fun H locs ls hP hD hS hl => va_get (C := "RoomMaker") (T := rm_F) (N := 6) (ci := 0) (ref := "RoomMaker") X.1.1 X.1.2.1 (rb_hts X) rm_in X.1.2.2.2.1 X.2.1.1 hP 0 rfl rfl 0 (by decide) (rb_hts X _ rw_169) (fun _ h => h) rfl d (k H locs ls hP hD hS hl)
theorem rm_g157 (X : rb_X p s m args meth c A Z cc nL "RoomMaker" ret) (d : decode cc pc = .ok (.getfield 157, 3)) (k : rb_V p l e R s m args below meth c A Q Z nL (pc + 3) L (.int (S 0 3) :: st) S kc ks) : rb_V p l e R s m args below meth c A Q Z nL (pc) L (.ref (Z.1 2) :: st) S kc ks := fun H locs ls hP hD hS hl => va_getN (C := "RoomMaker$Inputs") (T := ip_F) (N := 3) (ci := 2) (ref := "RoomMaker$Inputs") X.1.1 X.1.2.1 (rb_hts X) ip_in X.1.2.2.2.1 X.2.1.1 hP 2 rfl rfl 2 (by decide) (va_Nw.use rfl (X.2.1.2.1 _ rn_63)) (fun _ h => h) rfl d (k H locs ls hP hD hS hl)
theorem rm_g19 (X : rb_X p s m args meth c A Z cc nL "RoomMaker" ret) (d : decode cc pc = .ok (.getfield 19, 3)) (k : rb_V p l e R s m args below meth c A Q Z nL (pc + 3) L (.ref (Z.1 2) :: st) S kc ks) : rb_V p l e R s m args below meth c A Q Z nL (pc) L (.ref (Z.1 0) :: st) S kc ks := fun H locs ls hP hD hS hl => va_get (C := "RoomMaker") (T := rm_F) (N := 6) (ci := 0) (ref := "RoomMaker") X.1.1 X.1.2.1 (rb_hts X) rm_in X.1.2.2.2.1 X.2.1.1 hP 0 rfl rfl 1 (by decide) (rb_hts X _ rw_170) (fun _ h => h) rfl d (k H locs ls hP hD hS hl)
theorem rm_g26 (X : rb_X p s m args meth c A Z cc nL "RoomMaker" ret) (d : decode cc pc = .ok (.getfield 26, 3)) (k : rb_V p l e R s m args below meth c A Q Z nL (pc + 3) L (.ref (Z.1 3) :: st) S kc ks) : rb_V p l e R s m args below meth c A Q Z nL (pc) L (.ref (Z.1 0) :: st) S kc ks := fun H locs ls hP hD hS hl => va_get (C := "RoomMaker") (T := rm_F) (N := 6) (ci := 0) (ref := "RoomMaker") X.1.1 X.1.2.1 (rb_hts X) rm_in X.1.2.2.2.1 X.2.1.1 hP 0 rfl rfl 2 (by decide) (rb_hts X _ rw_171) (fun _ h => h) rfl d (k H locs ls hP hD hS hl)
theorem rm_g40 (X : rb_X p s m args meth c A Z cc nL "RoomMaker" ret) (d : decode cc pc = .ok (.getfield 40, 3)) (k : rb_V p l e R s m args below meth c A Q Z nL (pc + 3) L (.ref (Z.1 5) :: st) S kc ks) : rb_V p l e R s m args below meth c A Q Z nL (pc) L (.ref (Z.1 0) :: st) S kc ks := fun H locs ls hP hD hS hl => va_get (C := "RoomMaker") (T := rm_F) (N := 6) (ci := 0) (ref := "RoomMaker") X.1.1 X.1.2.1 (rb_hts X) rm_in X.1.2.2.2.1 X.2.1.1 hP 0 rfl rfl 4 (by decide) (rb_hts X _ rw_173) (fun _ h => h) rfl d (k H locs ls hP hD hS hl)
theorem rm_g55 (X : rb_X p s m args meth c A Z cc nL "RoomMaker" ret) (d : decode cc pc = .ok (.getfield 55, 3)) (k : rb_V p l e R s m args below meth c A Q Z nL (pc + 3) L (.int (S 0 0) :: st) S kc ks) : rb_V p l e R s m args below meth c A Q Z nL (pc) L (.ref (Z.1 0) :: st) S kc ks := fun H locs ls hP hD hS hl => va_get (C := "RoomMaker") (T := rm_F) (N := 6) (ci := 0) (ref := "RoomMaker") X.1.1 X.1.2.1 (rb_hts X) rm_in X.1.2.2.2.1 X.2.1.1 hP 0 rfl rfl 5 (by decide) (rb_hts X _ rw_174) (fun _ h => h) rfl d (k H locs ls hP hD hS hl)
theorem rm_g63 (X : rb_X p s m args meth c A Z cc nL "RoomMaker" ret) (d : decode cc pc = .ok (.getfield 63, 3)) (k : rb_V p l e R s m args below meth c A Q Z nL (pc + 3) L (.int (S 0 1) :: st) S kc ks) : rb_V p l e R s m args below meth c A Q Z nL (pc) L (.ref (Z.1 1) :: st) S kc ks := fun H locs ls hP hD hS hl => va_getN (C := "RoomMaker$Program") (T := pg_F) (N := 5) (ci := 1) (ref := "RoomMaker$Program") X.1.1 X.1.2.1 (rb_hts X) pg_in X.1.2.2.2.1 X.2.1.1 hP 1 rfl rfl 4 (by decide) (va_Nw.use rfl (X.2.1.2.1 _ rn_40)) (fun _ h => h) rfl d (k H locs ls hP hD hS hl)
theorem rm_q55 {x : Int32} (X : rb_X p s m args meth c A Z cc nL "RoomMaker" ret) (d : decode cc pc = .ok (.putfield 55, 3)) (hn : narrow .boolean (.int x) = .int x) (hfi : fits .boolean (.int x) = true) (k : ∀ S1 : rb_S, S1 = rb_u S 0 0 x → rb_V p l e R s m args below meth c A Q Z nL (pc + 3) L (st) S1 kc ks) : rb_V p l e R s m args below meth c A Q Z nL (pc) L (.int x :: .ref (Z.1 0) :: st) S kc ks := fun H locs ls hP hD hS hl => va_put (C := "RoomMaker") (T := rm_F) (N := 6) (ci := 0) (ref := "RoomMaker") (ty := .boolean) X.1.1 X.1.2.1 (rb_hts X) rm_in rm_t rm_ok rm_n X.1.2.2.2.1 X.2.1.1 hP hD hS 0 rfl rfl 5 (by decide) (rb_hts X _ rw_174) (fun _ h => h) rfl (by decide +kernel) hn hfi (Nat.le_of_ble_eq_true rfl) d (fun H1 locs1 hP1 hD1 hS1 => k _ rfl H1 locs1 ls (show va_P _ _ (rb_w Z (rb_u S 0 0 x)) H1 from hP1) (show va_D A (rb_w Z (rb_u S 0 0 x)) from hD1) hS1 hl)
theorem rm_q63 {x : Int32} (X : rb_X p s m args meth c A Z cc nL "RoomMaker" ret) (d : decode cc pc = .ok (.putfield 63, 3)) (k : ∀ S1 : rb_S, S1 = rb_u S 0 1 x → rb_V p l e R s m args below meth c A Q Z nL (pc + 3) L (st) S1 kc ks) : rb_V p l e R s m args below meth c A Q Z nL (pc) L (.int x :: .ref (Z.1 1) :: st) S kc ks := fun H locs ls hP hD hS hl => va_putN (C := "RoomMaker$Program") (T := pg_F) (N := 5) (ci := 1) (ref := "RoomMaker$Program") (ty := .int) X.1.1 X.1.2.1 (rb_hts X) pg_in pg_t pg_ok pg_n X.1.2.2.2.1 X.2.1.1 hP hD hS 1 rfl rfl 4 (by decide) (va_Nw.use rfl (X.2.1.2.1 _ rn_40)) (fun _ h => h) rfl (by decide +kernel) rfl rfl (Nat.le_of_ble_eq_true rfl) d (fun H1 locs1 hP1 hD1 hS1 => k _ rfl H1 locs1 ls (show va_P _ _ (rb_w Z (rb_u S 0 1 x)) H1 from hP1) (show va_D A (rb_w Z (rb_u S 0 1 x)) from hD1) hS1 hl)
theorem ro_g15 (X : rb_X p s m args meth c A Z cc nL "RoomMaker$Rooms" ret) (d : decode cc pc = .ok (.getfield 15, 3)) (k : rb_V p l e R s m args below meth c A Q Z nL (pc + 3) L (.ref (Z.1 15) :: st) S kc ks) : rb_V p l e R s m args below meth c A Q Z nL (pc) L (.ref (Z.1 4) :: st) S kc ks := fun H locs ls hP hD hS hl => va_get (C := "RoomMaker$Rooms") (T := ro_F) (N := 4) (ci := 4) (ref := "RoomMaker$Rooms") X.1.1 X.1.2.1 (rb_hts X) ro_in X.1.2.2.2.1 X.2.1.1 hP 4 rfl rfl 1 (by decide) (rb_hts X _ rw_106) (fun _ h => h) rfl d (k H locs ls hP hD hS hl)
theorem ro_g18 (X : rb_X p s m args meth c A Z cc nL "RoomMaker$Rooms" ret) (d : decode cc pc = .ok (.getfield 18, 3)) (k : rb_V p l e R s m args below meth c A Q Z nL (pc + 3) L (.int (S 0 5) :: st) S kc ks) : rb_V p l e R s m args below meth c A Q Z nL (pc) L (.ref (Z.1 4) :: st) S kc ks := fun H locs ls hP hD hS hl => va_get (C := "RoomMaker$Rooms") (T := ro_F) (N := 4) (ci := 4) (ref := "RoomMaker$Rooms") X.1.1 X.1.2.1 (rb_hts X) ro_in X.1.2.2.2.1 X.2.1.1 hP 4 rfl rfl 2 (by decide) (rb_hts X _ rw_107) (fun _ h => h) rfl d (k H locs ls hP hD hS hl)
theorem ro_g22 (X : rb_X p s m args meth c A Z cc nL "RoomMaker$Rooms" ret) (d : decode cc pc = .ok (.getfield 22, 3)) (k : rb_V p l e R s m args below meth c A Q Z nL (pc + 3) L (.int (S 0 6) :: st) S kc ks) : rb_V p l e R s m args below meth c A Q Z nL (pc) L (.ref (Z.1 4) :: st) S kc ks := fun H locs ls hP hD hS hl => va_get (C := "RoomMaker$Rooms") (T := ro_F) (N := 4) (ci := 4) (ref := "RoomMaker$Rooms") X.1.1 X.1.2.1 (rb_hts X) ro_in X.1.2.2.2.1 X.2.1.1 hP 4 rfl rfl 3 (by decide) (rb_hts X _ rw_108) (fun _ h => h) rfl d (k H locs ls hP hD hS hl)
theorem ro_g31 (X : rb_X p s m args meth c A Z cc nL "RoomMaker$Rooms" ret) (d : decode cc pc = .ok (.getfield 31, 3)) (k : rb_V p l e R s m args below meth c A Q Z nL (pc + 3) L (.int (S 0 4) :: st) S kc ks) : rb_V p l e R s m args below meth c A Q Z nL (pc) L (.ref (Z.1 3) :: st) S kc ks := fun H locs ls hP hD hS hl => va_getN (C := "RoomMaker$Spans") (T := sp_F) (N := 4) (ci := 3) (ref := "RoomMaker$Spans") X.1.1 X.1.2.1 (rb_hts X) sp_in X.1.2.2.2.1 X.2.1.1 hP 3 rfl rfl 3 (by decide) (va_Nw.use rfl (X.2.1.2.1 _ rn_86)) (fun _ h => h) rfl d (k H locs ls hP hD hS hl)
theorem ro_g36 (X : rb_X p s m args meth c A Z cc nL "RoomMaker$Rooms" ret) (d : decode cc pc = .ok (.getfield 36, 3)) (k : rb_V p l e R s m args below meth c A Q Z nL (pc + 3) L (.ref (Z.1 12) :: st) S kc ks) : rb_V p l e R s m args below meth c A Q Z nL (pc) L (.ref (Z.1 3) :: st) S kc ks := fun H locs ls hP hD hS hl => va_getN (C := "RoomMaker$Spans") (T := sp_F) (N := 4) (ci := 3) (ref := "RoomMaker$Spans") X.1.1 X.1.2.1 (rb_hts X) sp_in X.1.2.2.2.1 X.2.1.1 hP 3 rfl rfl 1 (by decide) (va_Nw.use rfl (X.2.1.2.1 _ rn_80)) (fun _ h => h) rfl d (k H locs ls hP hD hS hl)
theorem ro_g46 (X : rb_X p s m args meth c A Z cc nL "RoomMaker$Rooms" ret) (d : decode cc pc = .ok (.getfield 46, 3)) (k : rb_V p l e R s m args below meth c A Q Z nL (pc + 3) L (.ref (Z.1 13) :: st) S kc ks) : rb_V p l e R s m args below meth c A Q Z nL (pc) L (.ref (Z.1 3) :: st) S kc ks := fun H locs ls hP hD hS hl => va_getN (C := "RoomMaker$Spans") (T := sp_F) (N := 4) (ci := 3) (ref := "RoomMaker$Spans") X.1.1 X.1.2.1 (rb_hts X) sp_in X.1.2.2.2.1 X.2.1.1 hP 3 rfl rfl 2 (by decide) (va_Nw.use rfl (X.2.1.2.1 _ rn_83)) (fun _ h => h) rfl d (k H locs ls hP hD hS hl)
theorem ro_g9 (X : rb_X p s m args meth c A Z cc nL "RoomMaker$Rooms" ret) (d : decode cc pc = .ok (.getfield 9, 3)) (k : rb_V p l e R s m args below meth c A Q Z nL (pc + 3) L (.ref (Z.1 14) :: st) S kc ks) : rb_V p l e R s m args below meth c A Q Z nL (pc) L (.ref (Z.1 4) :: st) S kc ks := fun H locs ls hP hD hS hl => va_get (C := "RoomMaker$Rooms") (T := ro_F) (N := 4) (ci := 4) (ref := "RoomMaker$Rooms") X.1.1 X.1.2.1 (rb_hts X) ro_in X.1.2.2.2.1 X.2.1.1 hP 4 rfl rfl 0 (by decide) (rb_hts X _ rw_103) (fun _ h => h) rfl d (k H locs ls hP hD hS hl)
theorem ro_q18 {x : Int32} (X : rb_X p s m args meth c A Z cc nL "RoomMaker$Rooms" ret) (d : decode cc pc = .ok (.putfield 18, 3)) (k : ∀ S1 : rb_S, S1 = rb_u S 0 5 x → rb_V p l e R s m args below meth c A Q Z nL (pc + 3) L (st) S1 kc ks) : rb_V p l e R s m args below meth c A Q Z nL (pc) L (.int x :: .ref (Z.1 4) :: st) S kc ks := fun H locs ls hP hD hS hl => va_put (C := "RoomMaker$Rooms") (T := ro_F) (N := 4) (ci := 4) (ref := "RoomMaker$Rooms") (ty := .int) X.1.1 X.1.2.1 (rb_hts X) ro_in ro_t ro_ok ro_n X.1.2.2.2.1 X.2.1.1 hP hD hS 4 rfl rfl 2 (by decide) (rb_hts X _ rw_107) (fun _ h => h) rfl (by decide +kernel) rfl rfl (Nat.le_of_ble_eq_true rfl) d (fun H1 locs1 hP1 hD1 hS1 => k _ rfl H1 locs1 ls (show va_P _ _ (rb_w Z (rb_u S 0 5 x)) H1 from hP1) (show va_D A (rb_w Z (rb_u S 0 5 x)) from hD1) hS1 hl)
theorem ro_q22 {x : Int32} (X : rb_X p s m args meth c A Z cc nL "RoomMaker$Rooms" ret) (d : decode cc pc = .ok (.putfield 22, 3)) (k : ∀ S1 : rb_S, S1 = rb_u S 0 6 x → rb_V p l e R s m args below meth c A Q Z nL (pc + 3) L (st) S1 kc ks) : rb_V p l e R s m args below meth c A Q Z nL (pc) L (.int x :: .ref (Z.1 4) :: st) S kc ks := fun H locs ls hP hD hS hl => va_put (C := "RoomMaker$Rooms") (T := ro_F) (N := 4) (ci := 4) (ref := "RoomMaker$Rooms") (ty := .int) X.1.1 X.1.2.1 (rb_hts X) ro_in ro_t ro_ok ro_n X.1.2.2.2.1 X.2.1.1 hP hD hS 4 rfl rfl 3 (by decide) (rb_hts X _ rw_108) (fun _ h => h) rfl (by decide +kernel) rfl rfl (Nat.le_of_ble_eq_true rfl) d (fun H1 locs1 hP1 hD1 hS1 => k _ rfl H1 locs1 ls (show va_P _ _ (rb_w Z (rb_u S 0 6 x)) H1 from hP1) (show va_D A (rb_w Z (rb_u S 0 6 x)) from hD1) hS1 hl)
theorem sp_g15 (X : rb_X p s m args meth c A Z cc nL "RoomMaker$Spans" ret) (d : decode cc pc = .ok (.getfield 15, 3)) (k : rb_V p l e R s m args below meth c A Q Z nL (pc + 3) L (.ref (Z.1 12) :: st) S kc ks) : rb_V p l e R s m args below meth c A Q Z nL (pc) L (.ref (Z.1 3) :: st) S kc ks := fun H locs ls hP hD hS hl => va_get (C := "RoomMaker$Spans") (T := sp_F) (N := 4) (ci := 3) (ref := "RoomMaker$Spans") X.1.1 X.1.2.1 (rb_hts X) sp_in X.1.2.2.2.1 X.2.1.1 hP 3 rfl rfl 1 (by decide) (rb_hts X _ rw_79) (fun _ h => h) rfl d (k H locs ls hP hD hS hl)
theorem sp_g18 (X : rb_X p s m args meth c A Z cc nL "RoomMaker$Spans" ret) (d : decode cc pc = .ok (.getfield 18, 3)) (k : rb_V p l e R s m args below meth c A Q Z nL (pc + 3) L (.ref (Z.1 13) :: st) S kc ks) : rb_V p l e R s m args below meth c A Q Z nL (pc) L (.ref (Z.1 3) :: st) S kc ks := fun H locs ls hP hD hS hl => va_get (C := "RoomMaker$Spans") (T := sp_F) (N := 4) (ci := 3) (ref := "RoomMaker$Spans") X.1.1 X.1.2.1 (rb_hts X) sp_in X.1.2.2.2.1 X.2.1.1 hP 3 rfl rfl 2 (by decide) (rb_hts X _ rw_82) (fun _ h => h) rfl d (k H locs ls hP hD hS hl)
theorem sp_g21 (X : rb_X p s m args meth c A Z cc nL "RoomMaker$Spans" ret) (d : decode cc pc = .ok (.getfield 21, 3)) (k : rb_V p l e R s m args below meth c A Q Z nL (pc + 3) L (.int (S 0 1) :: st) S kc ks) : rb_V p l e R s m args below meth c A Q Z nL (pc) L (.ref (Z.1 1) :: st) S kc ks := fun H locs ls hP hD hS hl => va_getN (C := "RoomMaker$Program") (T := pg_F) (N := 5) (ci := 1) (ref := "RoomMaker$Program") X.1.1 X.1.2.1 (rb_hts X) pg_in X.1.2.2.2.1 X.2.1.1 hP 1 rfl rfl 4 (by decide) (va_Nw.use rfl (X.2.1.2.1 _ rn_39)) (fun _ h => h) rfl d (k H locs ls hP hD hS hl)
theorem sp_g27 (X : rb_X p s m args meth c A Z cc nL "RoomMaker$Spans" ret) (d : decode cc pc = .ok (.getfield 27, 3)) (k : rb_V p l e R s m args below meth c A Q Z nL (pc + 3) L (.int (S 0 4) :: st) S kc ks) : rb_V p l e R s m args below meth c A Q Z nL (pc) L (.ref (Z.1 3) :: st) S kc ks := fun H locs ls hP hD hS hl => va_get (C := "RoomMaker$Spans") (T := sp_F) (N := 4) (ci := 3) (ref := "RoomMaker$Spans") X.1.1 X.1.2.1 (rb_hts X) sp_in X.1.2.2.2.1 X.2.1.1 hP 3 rfl rfl 3 (by decide) (rb_hts X _ rw_85) (fun _ h => h) rfl d (k H locs ls hP hD hS hl)
theorem sp_g9 (X : rb_X p s m args meth c A Z cc nL "RoomMaker$Spans" ret) (d : decode cc pc = .ok (.getfield 9, 3)) (k : rb_V p l e R s m args below meth c A Q Z nL (pc + 3) L (.ref (Z.1 11) :: st) S kc ks) : rb_V p l e R s m args below meth c A Q Z nL (pc) L (.ref (Z.1 3) :: st) S kc ks := fun H locs ls hP hD hS hl => va_get (C := "RoomMaker$Spans") (T := sp_F) (N := 4) (ci := 3) (ref := "RoomMaker$Spans") X.1.1 X.1.2.1 (rb_hts X) sp_in X.1.2.2.2.1 X.2.1.1 hP 3 rfl rfl 0 (by decide) (rb_hts X _ rw_77) (fun _ h => h) rfl d (k H locs ls hP hD hS hl)
theorem sp_q27 {x : Int32} (X : rb_X p s m args meth c A Z cc nL "RoomMaker$Spans" ret) (d : decode cc pc = .ok (.putfield 27, 3)) (k : ∀ S1 : rb_S, S1 = rb_u S 0 4 x → rb_V p l e R s m args below meth c A Q Z nL (pc + 3) L (st) S1 kc ks) : rb_V p l e R s m args below meth c A Q Z nL (pc) L (.int x :: .ref (Z.1 3) :: st) S kc ks := fun H locs ls hP hD hS hl => va_put (C := "RoomMaker$Spans") (T := sp_F) (N := 4) (ci := 3) (ref := "RoomMaker$Spans") (ty := .int) X.1.1 X.1.2.1 (rb_hts X) sp_in sp_t sp_ok sp_n X.1.2.2.2.1 X.2.1.1 hP hD hS 3 rfl rfl 3 (by decide) (rb_hts X _ rw_85) (fun _ h => h) rfl (by decide +kernel) rfl rfl (Nat.le_of_ble_eq_true rfl) d (fun H1 locs1 hP1 hD1 hS1 => k _ rfl H1 locs1 ls (show va_P _ _ (rb_w Z (rb_u S 0 4 x)) H1 from hP1) (show va_D A (rb_w Z (rb_u S 0 4 x)) from hD1) hS1 hl)
end
end
section
/-! ===== exceptions: made and thrown by a method, caught by its caller ===== -/
/-- one row of a method's table that covers the place: its class is linked, and takes the object or does not -/
theorem rx_go {e : Env} {S : State} {f : JFrame} {a : Addr} {Q : Handler → Pre} {E : CtlPost} {d : Bool} {acts : List Action} {x : ExceptionTableEntry} {t : List ExceptionTableEntry} {c : ClassId} {cell : Cell} (b : Bool) (hx : covers x f.pc = true) (h0 : x.catchType ≠ 0)
    (hl : S.vm.ClassLinks e.platform f.method.cls x.catchType c) (hcell : S.heap[a]? = some cell) (hobj : ∀ k, cell.vm ≠ .statics k) (hk : ∃ k, S.vm.classes[cell.cls]? = some k) (hc : ∃ k, S.vm.classes[c]? = some k) (hb : S.vm.assignable cell.cls c = b) :
    wp (findHandler.go f a (x :: t)) Q E e d acts S ↔ (if b = true then Q (.found x.handlerPc) d acts (S.setVm (S.vm.noted f.method.cls x.catchType (.cls c))) else wp (findHandler.go f a t) Q E e d acts (S.setVm (S.vm.noted f.method.cls x.catchType (.cls c)))) := by
  simp only [covers] at hx
  obtain ⟨ha, ht⟩ := (resolveClass_links e.toSetting hl).op (op := VmOp.resolveClass f.method.cls x.catchType) rfl
  have hal : S.vm.Alike (S.vm.noted f.method.cls x.catchType (.cls c)) := (Vm.Alike.refl S.vm).noted _ _ _
  obtain ⟨k1, hk1⟩ := hk
  obtain ⟨k2, hk2⟩ := hc
  obtain ⟨k1', hk1', -⟩ := hal.2.2 _ _ hk1
  obtain ⟨k2', hk2', -⟩ := hal.2.2 _ _ hk2
  have hb' : (S.vm.noted f.method.cls x.catchType (.cls c)).assignable cell.cls c = b := by rw [hal.assignable]; exact hb
  cases b <;> simp [findHandler.go, hx, h0, ha, ht, hcell, hobj, hk1', hk2', hb', VmOp.dirties, VmOp.acts]
/-- the search: rows that don't take it, then one that does -/
theorem rx_goes {e : Env} {s0 : State} {f : JFrame} {a : Addr} {cell : Cell} (hobj : ∀ k, cell.vm ≠ .statics k) (hk0 : ∃ k, s0.vm.classes[cell.cls]? = some k) (x : ExceptionTableEntry) (cx : ClassId) (rest : List ExceptionTableEntry)
    (hx : covers x f.pc = true) (h0 : x.catchType ≠ 0) (hl : s0.vm.ClassLinks e.platform f.method.cls x.catchType cx) (hfit : s0.vm.assignable cell.cls cx = true) :
    ∀ (pre : List ExceptionTableEntry) (S : State), s0.WarmedH S.vm → S.heap[a]? = some cell →
      (∀ y ∈ pre, covers y f.pc = true ∧ y.catchType ≠ 0 ∧ ∃ cy, s0.vm.ClassLinks e.platform f.method.cls y.catchType cy ∧ s0.vm.assignable cell.cls cy = false) →
      ∃ vm', s0.WarmedH vm' ∧ ∀ (Q : Handler → Pre) (E : CtlPost) (d : Bool) (acts : List Action), wp (findHandler.go f a (pre ++ x :: rest)) Q E e d acts S ↔ Q (.found x.handlerPc) d acts (S.setVm vm') := by
  obtain ⟨k0, hk0⟩ := hk0
  have one : ∀ (S : State), s0.WarmedH S.vm → ∀ (y : ExceptionTableEntry) (cy : ClassId), s0.vm.ClassLinks e.platform f.method.cls y.catchType cy →
      s0.WarmedH (S.vm.noted f.method.cls y.catchType (.cls cy)) ∧ (∃ k, S.vm.classes[cell.cls]? = some k) ∧ (∃ k, S.vm.classes[cy]? = some k) := by
    intro S hW y cy hly
    obtain ⟨k0', hk0', -⟩ := hW.alike.2.2 _ _ hk0
    obtain ⟨dk, _, _, kt, hd, _, _, _, _, hkt, _, hopen⟩ := hly.here
    obtain ⟨kt', hkt', -⟩ := hW.alike.2.2 _ _ hkt
    exact ⟨hW.noted hd hopen (State.rightAt_cls hly), ⟨k0', hk0'⟩, ⟨kt', hkt'⟩⟩
  intro pre
  induction pre with
  | nil =>
    intro S hW hcell _
    obtain ⟨w1, w2, w3⟩ := one S hW x cx hl
    refine ⟨_, w1, fun Q E d acts => ?_⟩
    rw [List.nil_append, rx_go true hx h0 (hW.classLinks hl) hcell hobj w2 w3 (by rw [hW.alike.assignable]; exact hfit), if_pos rfl]
  | cons y ys ih =>
    intro S hW hcell hp
    obtain ⟨hcy, hy0, cy, hly, hno⟩ := hp y List.mem_cons_self
    obtain ⟨w1, w2, w3⟩ := one S hW y cy hly
    obtain ⟨vm', hW', hq⟩ := ih (S.setVm (S.vm.noted f.method.cls y.catchType (.cls cy))) w1 hcell (fun z hz => hp z (List.mem_cons_of_mem _ hz))
    refine ⟨vm', hW', fun Q E d acts => ?_⟩
    rw [List.cons_append, rx_go false hcy hy0 (hW.classLinks hly) hcell hobj w2 w3 (by rw [hW.alike.assignable]; exact hno), if_neg (by decide)]
    exact hq Q E d acts
section RXS
variable {p : Program} {l : Launch} {e : Env} {R : Room} {s : State} {m : MethodId} {args : Array Value} {below : List Frame} {meth : Method} {c : Code} {T : State} {locs : List Loc} {kc ks : Nat}
/-- caught in this method -/
theorem rx_caught (X : Stand p l e R s m args below meth c T locs kc ks) {g : JFrame} (hg : g.method = m) (a : Addr) {cell : Cell} (hcell : T.heap[a]? = some cell) (hobj : cell.vm = .none) {E own : String} (hcl : s.vm.findClass E = some cell.cls) (hown : s.vm.findClass own = some m.cls)
    (pre : List ExceptionTableEntry) (x : ExceptionTableEntry) (rest : List ExceptionTableEntry) (hsplit : c.exceptionTable.toList = pre ++ x :: rest)
    (hpass : ∀ y ∈ pre, covers y g.pc = true ∧ y.catchType ≠ 0 ∧ ∃ nm : String, (Cond.classLink own y.catchType nm).before args s = true ∧ va_Nc E nm s)
    (hx : covers x g.pc = true) (h0 : x.catchType ≠ 0) (hlink : (Cond.classLink own x.catchType E).before args s = true) (hcast : va_Nw (.castable E E) s) :
    ∃ vm', Stand p l e R s m args below meth c (T.setVm vm') locs kc ks ∧ ∀ target, Steps p.tables e below ((T.setVm vm').setTop { g with pc := x.handlerPc, stack := [.ref a] }) target → Steps p.tables e below ((T.setTop g).pushFrame (.throwing a)) target := by
  subst hg
  have hpl : e.platform.magicAccessors = ({} : Platform).magicAccessors := by rw [X.admits.platform]
  obtain ⟨c3, c4, hc3, hc4, hasg⟩ := Cond.castable_spec (va_Nw.use (A := args) rfl hcast)
  cases Option.some.inj (hc3.symm.trans hcl)
  cases Option.some.inj (hc4.symm.trans hcl)
  obtain ⟨c5, hc5, hcl5⟩ := Cond.classLink_spec hown hlink e.platform hpl
  cases Option.some.inj (hc5.symm.trans hcl)
  obtain ⟨k9, h9, -⟩ := Vm.findClass_spec hcl
  obtain ⟨vm', hW', hq⟩ := rx_goes (e := e) (s0 := s) (f := g) (a := a) (cell := cell) (fun k h => by rw [hobj] at h; cases h) ⟨k9, h9⟩ x cell.cls rest hx h0 hcl5 hasg pre ((T.setTop g).pushFrame (.throwing a)) (by rw [Stand.throwing_vm]; exact X.warmed) (by rw [Stand.throwing_heap]; exact hcell)
    (fun y hy => by
      obtain ⟨h1, h2, nm, h3, h4⟩ := hpass y hy
      obtain ⟨c6, hc6, hcl6⟩ := Cond.classLink_spec hown h3 e.platform hpl
      obtain ⟨a8, b8, g1, g2, g3⟩ := h4
      cases Option.some.inj (g1.symm.trans hcl)
      cases Option.some.inj (g2.symm.trans hc6)
      exact ⟨h1, h2, _, hcl6, g3⟩)
  refine ⟨vm', X.noted hW', fun target hrest => ?_⟩
  have h := X.here
  obtain ⟨hgo, hw⟩ := h.throwing a
  have hm : ((T.setTop g).pushFrame (.throwing a)).vm.method? g.method = some meth := by rw [Stand.throwing_vm]; exact X.method'
  have hfind : ∀ (Q : Handler → Pre) (E : CtlPost) (d : Bool) (acts : List Action), wp (findHandler g a) Q E e d acts ((T.setTop g).pushFrame (.throwing a)) ↔ Q (.found x.handlerPc) d acts (((T.setTop g).pushFrame (.throwing a)).setVm vm') := fun Q E d acts => by
    rw [W.findHandler_eq hm X.code, hsplit]
    exact hq Q E d acts
  have hstep : ∀ r : List Frame, (stepThrowing e ((T.setTop g).pushFrame (.throwing a)) a (.java g :: r)).Is ((((T.setTop g).pushFrame (.throwing a)).setVm vm').setFrames (.java { g with pc := x.handlerPc, stack := [.ref a] } :: r)) [] := fun r => by
    simp only [stepThrowing, searchFrame, vmDo]
    generalize hr : Sem.go _ e false [] ((T.setTop g).pushFrame (.throwing a)) = res
    obtain ⟨as, rfl, ha⟩ := Sem.eq_ok_of hr (a := Handler.found x.handlerPc) (s' := ((T.setTop g).pushFrame (.throwing a)).setVm vm') (acts' := []) (by simp [hfind _ _ _ _])
    exact ⟨rfl, ha⟩
  refine Steps.head hgo hw ?_
  rw [stepThread_throwing (frames_entered h.top _), (hstep _).1]
  obtain ⟨g₀, hg⟩ := Option.isSome_iff_exists.mp h.top
  obtain ⟨r, hr⟩ := State.topJava?_eq_some.mp hg
  have hr' : (T.setVm vm').frames = .java g₀ :: r := hr
  rw [State.setTop_of_frames _ hr'] at hrest
  have e1 : ((((T.setTop g).pushFrame (.throwing a)).setVm vm').setFrames (.java { g with pc := x.handlerPc, stack := [.ref a] } :: T.frames.tail)) = (T.setVm vm').setFrames (.java { g with pc := x.handlerPc, stack := [.ref a] } :: r) := by
    rw [State.pushFrame, State.setTop_of_frames _ hr, State.setFrames_setFrames, hr, List.tail_cons]
    show ((T.setVm vm').setFrames _).setFrames _ = _
    rw [State.setFrames_setFrames]
  rw [e1]
  exact hrest
end RXS
end
section
/-! ===== contracts of methods that may throw ===== -/
/-- how such a method ends: it answers r, with K; or it throws the exception of number n, with KX -/
def rx_Q (Z : rb_Z) (A : Nat → Prop) (K : Int32 → rb_S → Prop) (KX : Nat → rb_S → Prop) (mc ms : Nat) : Array Value → State → Outcome → State → Prop := fun a st o t =>
  (va_Qi K (rb_B Z A) A a st o t ∧ ∃ L, FrameEnd st o t L mc ms ∧ ∀ q ∈ L, A q.base) ∨
  ∃ (n : Nat) (u : rb_S) (q : Addr) (ce : Cell) (L : List Loc), o = .threw q ∧ KX n u ∧ rb_B Z A u t ∧ va_F A st t ∧ (t.heap[q]? = some ce ∧ ce.vm = .none ∧ st.vm.findClass (rx_nm n) = some ce.cls) ∧ st.WarmedH t.vm ∧ st.sameButNew ({ t with vm := st.vm } : State) L mc ms ∧ ∀ z ∈ L, A z.base
def rx_MQ (below : List Frame) (Z : rb_Z) (A : Nat → Prop) (K : Int32 → rb_S → Prop) (KX : Nat → rb_S → Prop) (a : Array Value) (s : State) (mc ms : Nat) : State → Prop := fun t =>
  ∃ o, t.status = .running ∧ Ended t below o ∧ rx_Q Z A K KX mc ms a s o t
def rx_M (l : Launch) (y : MethodName) (bytes : ByteArray) (maxL : Nat) (rt : Option FieldType) (rm : Room) (Z : rb_Z) (as : List Value) (S : rb_S) (K : Int32 → rb_S → Prop) (KX : Nat → rb_S → Prop) : Prop :=
  ∀ sz : Nat, MetFree l y (headSpec (Cond.code y bytes maxL rt :: rb_ws) rm) (rb_Pc Z as S sz) (fun _ _ _ _ _ => True) (rx_Q Z (va_A (rb_w Z S) sz) K KX rm.cells rm.slots)
theorem rx_start {l : Launch} {y : MethodName} {bytes : ByteArray} {maxL : Nat} {rt : Option FieldType} {rm : Room} {Z : rb_Z} {as : List Value} {S : rb_S} {K : Int32 → rb_S → Prop} {KX : Nat → rb_S → Prop} (hy : plainName y.cls = true) (hn : (lg_sl as).length ≤ maxL)
    (h : ∀ (p : Program) (e : Env) (s : State) (m : MethodId) (args : Array Value) (below : List Frame) (meth : Method) (c : Code) (A : Nat → Prop), rb_X p s m args meth c A Z bytes maxL y.cls rt → c.exceptionTable.toList = [] → rb_V p l e rm s m args below meth c A (rx_MQ below Z A K KX args s rm.cells rm.slots) Z maxL 0 (lv_args 0 as) [] S 0 0) : rx_M l y bytes maxL rt rm Z as S K KX := by
  intro sz
  refine MetFree.of_bodyS (code := bytes) (maxLocals := maxL) (ret := rt) hy ?_ ?_
  · intro args s m h hn
    obtain ⟨meth, c, h1, h2, h3, h4, h5, h6, -, -⟩ := Cond.code_spec hn (atoms_spec (ws := Cond.code y bytes maxL rt :: rb_ws) h _ List.mem_cons_self)
    exact ⟨meth, c, h1, h2, h3, h4, h5, h6⟩
  · intro p e s m args below meth c s₁ B hml hv _
    obtain ⟨rfl, hsz, hP, hK, hD0⟩ := hv
    subst hsz
    have hh0 : s₁.heap = s.heap := by rw [B.state]; rfl
    have hts := atoms_spec (ws := Cond.code y bytes maxL rt :: rb_ws) B.pre
    have hown : s.vm.findClass y.cls = some m.cls := findClass_of_methodNamed B.named
    have hno : c.exceptionTable.toList = [] := by
      have := B.noHandlers (hts _ List.mem_cons_self)
      simpa using this
    have hl := lv_entry as (n := maxL) hn
    have k := h p e s m as.toArray below meth c (va_A (rb_w Z S) s.heap.size) ⟨⟨B.exec, B.bytes, hml, hown, fun w hw => hts w (List.mem_cons_of_mem _ hw)⟩, hK, fun q hq => Or.inr hq, B.returns, B.notSynchronized⟩ hno s.heap [] _ hP (hD0.self (sz := s.heap.size)) va_S.rf hl
    rw [← lg_entry_eq] at k
    obtain ⟨t, a1, o, b1, b2, b3⟩ := k s₁ hh0 (Stand.of_body B)
    exact ⟨t, o, a1, b1, b2, b3⟩
section RXV
variable {p : Program} {l : Launch} {e : Env} {R : Room} {s : State} {m : MethodId} {args : Array Value} {below : List Frame} {meth : Method} {c : Code} {A : Nat → Prop} {Z : rb_Z} {nL pc : Nat} {L : List (Nat × Value)} {st : List Value} {S : rb_S} {kc ks mc ms : Nat} {cc : ByteArray} {own : String} {ret : Option FieldType} {K : Int32 → rb_S → Prop} {KX : Nat → rb_S → Prop}
/-- an answer, of a method that may throw -/
theorem rx_of {Q Q' : State → Prop} (h : ∀ t, Q t → Q' t) (k : rb_V p l e R s m args below meth c A Q Z nL pc L st S kc ks) : rb_V p l e R s m args below meth c A Q' Z nL pc L st S kc ks := fun H locs ls hP hD hS hl T hT X => by
  obtain ⟨t, a1, b1⟩ := k H locs ls hP hD hS hl T hT X
  exact ⟨t, a1, h t b1⟩
theorem rx_ret (k : rb_V p l e R s m args below meth c A (MQ below (va_Qi K (rb_B Z A) A) args s mc ms A) Z nL pc L st S kc ks) : rb_V p l e R s m args below meth c A (rx_MQ below Z A K KX args s mc ms) Z nL pc L st S kc ks :=
  rx_of (fun t h => by
    obtain ⟨o, b1, b2, b3, b4⟩ := h
    exact ⟨o, b1, b2, Or.inl ⟨b3, b4⟩⟩) k
/-- the same frame seen from here: as if the method had been entered in this heap -/
theorem rx_rebase {T : State} {locs : List Loc} (X : Stand p l e R s m args below meth c T locs kc ks) (R1 : Room) (hf : R1.frames ≤ R.frames) (hl : R1.locals ≤ R.locals) (hc : kc + R1.cells ≤ R.cells) (hs : ks + R1.slots ≤ R.slots) : Stand p l e R1 ((T.setVm s.vm).setFrames (.invoking m args :: below)) m args below meth c T [] 0 0 := by
  have htop : (T.setVm s.vm).topJava?.isSome := X.here.top
  have hF : ((T.setVm s.vm).setFrames (.invoking m args :: below)).frames = .invoking m args :: below := State.frames_setFrames _ (State.cur_lt_of_top htop)
  obtain ⟨g₀, hg0⟩ := Option.isSome_iff_exists.mp htop
  obtain ⟨r, hr⟩ := State.topJava?_eq_some.mp hg0
  have hlim : e.platform.stackLimits (T.setVm s.vm).me = e.platform.stackLimits s.me := X.limits
  have hby : (T.setVm s.vm).me.stackBytes = s.me.stackBytes := X.bytes
  have hdrop : T.heap.toList.drop T.heap.size = [] := List.drop_eq_nil_of_le (Nat.le_of_eq Array.length_toList)
  refine ⟨X.admits, X.cas, X.clock, hF, ?_, X.hears, X.method, X.code, X.here, X.tail, X.warmed, by rw [State.stackLimits_setFrames]; rfl, by rw [State.stackBytes_setFrames]; rfl, ?_⟩
  · have h := X.room
    have hU : ((T.setVm s.vm).setFrames (.invoking m args :: below)).localsInUse = s.localsInUse := by
      rw [State.localsInUse_invoking hF (meth := meth) (c := c) X.method X.code, State.localsInUse_invoking X.frames X.method X.code]
    simp only [State.hasRoom, Bool.and_eq_true, decide_eq_true_eq] at h ⊢
    obtain ⟨⟨⟨⟨h1, h2, h3, h4, h5, h6⟩, h7⟩, h8⟩, h9⟩ := h
    rw [X.frames, List.length_cons] at h2 h3
    have q1 := X.heapSize
    have q2 := X.used
    simp only [hF, hU, List.length_cons, State.stackLimits_setFrames, State.stackBytes_setFrames, hlim, hby]
    refine ⟨⟨⟨⟨by omega, by omega, by omega, by omega, by omega, h6⟩, ?_⟩, ?_⟩, X.book⟩
    · show T.heap.size + R1.cells ≤ e.platform.maxCells
      omega
    · show T.slotsUsed + R1.slots ≤ e.platform.maxSlots
      omega
  · refine ⟨?_, Nat.le_refl _, Nat.le_refl _, ?_, ?_, fun a c9 h9 => ⟨c9, h9, rfl, rfl, fun _ _ => rfl⟩⟩
    · obtain ⟨t, ht, -⟩ := State.frames_cons hr
      show T.setVm s.vm = { ((T.setVm s.vm).setFrames (.invoking m args :: below)).setFrames (T.setVm s.vm).frames with heap := T.heap, slotsUsed := T.slotsUsed }
      rw [State.setFrames_setFrames, State.setFrames_self ht]
      rfl
    · show T.slotsUsed = T.slotsUsed + ((T.heap.toList.drop T.heap.size).map (·.slots.size)).sum
      rw [hdrop]
      rfl
    · show ((T.heap.toList.drop T.heap.size).map (·.slots.size)).sum ≤ 0
      rw [hdrop]
      exact Nat.le_refl _
/-- 'throw new E("text")': new; dup; ldc; invokespecial; athrow -/
theorem rx_throw {ik is ic : Nat} (n : Nat) (text : String) (hlt : l.stackTraces = false) (X : rb_X p s m args meth c A Z cc nL "RoomMaker" ret) (hno : c.exceptionTable.toList = [])
    (hcls : Bundle.fit (rx_nm n) = true) (hin : rx_nm n ∈ rx_cast) (hk : Cond.classLink "RoomMaker" ik (rx_nm n) ∈ rb_ws) (hini : Cond.initialized (rx_nm n) ∈ rb_ws) (htx : (is, text) ∈ rx_text)
    (hat : ∀ w ∈ (Bundle.ownAtoms "RoomMaker" ic (rx_nm n) ["java/lang/RuntimeException", "java/lang/Exception"]).filter goodWord, w ∈ rb_ws)
    (hrest : ∀ w ∈ (Bundle.ownAtoms "RoomMaker" ic (rx_nm n) ["java/lang/RuntimeException", "java/lang/Exception"]).filter (fun w => !goodWord w), w ∈ [Cond.castable (rx_nm n) (rx_nm n), .laysStatic "java/lang/Throwable" "UNASSIGNED_STACK" "[Ljava/lang/StackTraceElement;", .isRef (.static "java/lang/Throwable" "UNASSIGNED_STACK" "[Ljava/lang/StackTraceElement;"), .laysStatic "java/lang/Throwable" "SUPPRESSED_SENTINEL" "Ljava/util/List;", .isRef (.static "java/lang/Throwable" "SUPPRESSED_SENTINEL" "Ljava/util/List;")])
    (d0 : decode cc pc = .ok (.new ik, 3)) (d3 : decode cc (pc + 3) = .ok (.dup, 1)) (d4 : decode cc (pc + 4) = .ok (.ldc is, 2)) (d6 : decode cc (pc + 6) = .ok (.invokespecial ic, 3)) (d9 : decode cc (pc + 9) = .ok (.athrow, 1))
    (hRf : 6 ≤ R.frames) (hRl : (st.map fun v => v.category).sum + 82 ≤ R.locals) (hRc : kc + 1 ≤ R.cells) (hRs : ks + 6 ≤ R.slots) (hmc : kc + 1 ≤ mc) (hms : ks + 6 ≤ ms) (h : KX n S) :
    rb_V p l e R s m args below meth c A (rx_MQ below Z A K KX args s mc ms) Z nL pc L st S kc ks := by
  intro H locs ls hP hD hS hl T hT Y
  obtain ⟨hx, hb, hml, hown, hts⟩ := X.1
  have hlocks := X.2.2.2.2
  obtain ⟨x1, x2, x3, x4, x5⟩ := X.2.1.2.2.2
  have htr : e.platform.stackTraces = false := (show e.platform.stackTraces = l.stackTraces by rw [Y.admits.platform]).trans hlt
  have Y1 := rx_rebase Y { frames := R.frames, locals := R.locals, cells := 1, slots := 6 } (Nat.le_refl _) (Nat.le_refl _) hRc hRs
  obtain ⟨s', hA⟩ : ∃ z, z = (T.setVm s.vm).setFrames (.invoking m args :: below) := ⟨_, rfl⟩
  rw [← hA] at Y1
  have hvm : s'.vm = s.vm := by rw [hA]; rfl
  have hhp : s'.heap = H := by rw [hA]; exact hT
  have hW0 : s.WarmedH s'.vm := by rw [hvm]; exact State.WarmedH.refl s
  have good : ∀ w ∈ rb_ws, w.before args s' = true := fun w hw => word_at hW0 (good_of_word (List.mem_filter.mp hw).2) (hts w hw)
  have stat : ∀ (n d : String), rx_st n d A s s.heap → (Cond.laysStatic "java/lang/Throwable" n d).before args s' = true ∧ (Cond.isRef (.static "java/lang/Throwable" n d)).before args s' = true := by
    intro n d hst
    obtain ⟨a, cell, h1, h2, h3⟩ := hst.step (U1 := s') (B := A) (H1 := H) hW0 hS.2.1 (fun _ q => q)
    exact h3 s' rfl (by rw [hhp]; exact h1)
  have hall : ∀ w ∈ Bundle.ownAtoms "RoomMaker" ic (rx_nm n) ["java/lang/RuntimeException", "java/lang/Exception"], w.before args s' = true := by
    intro w hw
    by_cases hg : goodWord w = true
    · exact good w (hat w (List.mem_filter.mpr ⟨hw, hg⟩))
    · have hm := hrest w (List.mem_filter.mpr ⟨hw, by simpa using hg⟩)
      simp only [List.mem_cons, List.not_mem_nil, or_false] at hm
      rcases hm with rfl | rfl | rfl | rfl | rfl
      · exact va_Nw.use rfl (va_Nw.warmC hW0 (x1 _ hin))
      · exact (stat _ _ x4).1
      · exact (stat _ _ x4).2
      · exact (stat _ _ x5).1
      · exact (stat _ _ x5).2
  have hown' : s'.vm.findClass "RoomMaker" = some m.cls := by rw [hvm]; exact hown
  have hins : (Cond.instantiable (rx_nm n) 6).before args s' = true := hall _ (by simp [Bundle.ownAtoms])
  obtain ⟨vm₁, cX, kX, hfX, hkX, -, -, X₁, st1⟩ := Y1.newCold hx (own := "RoomMaker") (C := rx_nm n) (index := ik) (n := 6) hown' (good _ hk) hins (good _ hini) (g := F0 m pc ls st) rfl (by rw [hb]; exact d0) (Nat.le_refl _) (Nat.le_refl _)
  generalize hT1 : (T.setVm vm₁).pushCell { cls := cX, slots := kX.instanceTypes.map defaultValue, vm := .none } = T1 at X₁ st1
  have hcat : (Value.ref T.heap.size).category = 1 := rfl
  have hcellA : T1.heap[T.heap.size]? = some (freshCell cX kX) := by rw [← hT1]; exact State.heap_pushCell_size _ _
  have d3' : decode c.code (pc + 3) = .ok (.dup, 1) := by rw [hb]; exact d3
  have d4' : decode c.code (pc + 4) = .ok (.ldc is, 2) := by rw [hb]; exact d4
  obtain ⟨sa, hstr0⟩ := x3 _ htx
  have hstr := vk_R.warm hW0 hstr0
  obtain ⟨U, hsteps, hrun, hend, hW, hsame, ce, hce, hO⟩ := X₁.ctorThrowS hx htr (own := "RoomMaker") (cls := rx_nm n) (names := ["java/lang/RuntimeException", "java/lang/Exception"]) (ic := ic) hown' hcls (by decide) hall (fun x hx => nomatch hx) hfX hkX hcellA (by rw [hhp, hT]; exact Nat.le_refl _) (msg := .ref sa) rfl
    (g := { method := m, pc := pc + 6, locals := ls, stack := .ref sa :: .ref T.heap.size :: .ref T.heap.size :: st, locked := none }) rfl (hl.1.trans hml.symm) rfl rfl (rest := st) rfl
    (by rw [hb]; exact d6) (by rw [hb]; exact d9) (by rw [hno]; exact fun _ q => nomatch q) (by show 2 + 3 < R.frames; omega) (by simp only [List.map_cons, List.sum_cons, hcat]; show 2 * 0 + (1 + _) + (13 * (2 + 1) + 42) ≤ R.locals; omega) hlocks
  have hWs : s.WarmedH U.vm := State.WarmedH.trans hW0 hW
  have hcl : s.vm.findClass (rx_nm n) = some ce.cls := by
    have h9 := hO.cls
    rw [hvm] at h9
    exact h9
  obtain ⟨e1, q2, q3, q4, q5, q6⟩ := id hsame
  have hsz : H.size ≤ U.heap.size := by rw [← hhp]; exact q2
  have hkept : ∀ q : Nat, q < H.size → U.heap[q]? = H[q]? := by
    intro q hq
    rw [← hhp] at hq ⊢
    obtain ⟨c', hc1, hc2, hc3, hc4⟩ := q6 q _ (Array.getElem?_eq_getElem hq)
    have hc1' : U.heap[q]? = some c' := hc1
    rw [hc1', Array.getElem?_eq_getElem hq, hc2]
    congr 1
    have : c'.slots = s'.heap[q].slots := Array.ext_getElem? fun i => hc4 i (fun z => nomatch z)
    rw [this]
  have hPU : va_P (rb_D Z) vwCl (rb_w Z S) U.heap := hP.kept (fun k q hk => hkept q.1 ((hP k q hk).lt))
  have hfin : s.sameButNew ({ U with vm := s.vm } : State) locs mc ms := by
    subst hA
    rw [State.setFrames_setFrames] at e1
    have h2 : (T.setVm s.vm).sameButNew ({ U with vm := s.vm } : State) [] (0 + 1) (0 + 6) := ⟨e1, q2, q3, q4, q5, q6⟩
    have h3 := Y.same.trans h2
    rw [List.append_nil] at h3
    exact h3.mono hmc hms
  refine ⟨U, ?_, .threw T.heap.size, hrun, hend, Or.inr ⟨n, S, T.heap.size, ce, locs, rfl, h, ⟨hPU, hD⟩, ⟨Nat.le_trans hS.1 hsz, fun q h1 h2 => by rw [hkept q (Nat.lt_of_lt_of_le h1 hS.1)]; exact hS.2.1 q h1 h2⟩, ⟨hce, hO.vm, hcl⟩, hWs, hfin, hS.2.2⟩⟩
  refine st1 _ ?_
  show Steps p.tables e below (T1.setTop { method := m, pc := pc + 3, locals := ls, stack := .ref T.heap.size :: st, locked := none }) _
  jvm_step X₁.here [X₁.here.top, hx, d3', Value.category]
  exact X₁.ldcString hx (own := "RoomMaker") (text := text) (index := is) (a := sa) hown' hstr.1 hstr.2
    (g := { method := m, pc := pc + 4, locals := ls, stack := .ref T.heap.size :: .ref T.heap.size :: st, locked := none }) rfl d4' _ hsteps
end RXV
end
section
section RXB
variable {p : Program} {l : Launch} {e : Env} {R : Room} {s : State} {m : MethodId} {args : Array Value} {below : List Frame} {meth : Method} {c : Code} {Z : rb_Z} {S : rb_S} {K : Int32 → rb_S → Prop} {KX : Nat → rb_S → Prop}
variable {y : MethodName} {bytes : ByteArray} {maxL : Nat} {rt : Option FieldType} {rm : Room} {as : List Value}
/-- behind the invocation: the callee has answered, or its exception lies over the caller's frame -/
theorem rx_back {U : State} {locs : List Loc} {kc ks : Nat} (Y : Stand p l e R s m args below meth c U locs kc ks) {g : JFrame} (hg : g.method = m) (hsize : g.locals.size = c.maxLocals) {ig : Instr} {len : Nat} (hdg : decode c.code g.pc = .ok (ig, len)) (hW : 2 * g.monitorRoom + (g.stack.map fun v => v.category).sum ≤ 8)
    {mk : MethodId} (hn : U.methodNamed? y = some mk) (hM : rx_M l y bytes maxL rt rm Z as S K KX) (hws : ∀ w ∈ Cond.code y bytes maxL rt :: rb_ws, w.before as.toArray U = true) (hini : (Cond.initialized y.cls).before as.toArray U = true)
    (hfr : rm.frames + 1 ≤ R.frames) (hlo : 8 + (maxL + 11) + rm.locals ≤ R.locals) (hc : kc + rm.cells ≤ R.cells) (hs : ks + rm.slots ≤ R.slots) (hPc : rb_Pc Z as S U.heap.size as.toArray U) :
    ∃ (t : State) (L : List Loc), (∀ q ∈ L, va_A (rb_w Z S) U.heap.size q.base) ∧ va_F (va_A (rb_w Z S) U.heap.size) U t ∧ Stand p l e R s m args below meth c (({ U with heap := t.heap, slotsUsed := t.slotsUsed } : State).setVm t.vm) (locs ++ L) (kc + rm.cells) (ks + rm.slots) ∧
      ((∃ (r : Int32) (u : rb_S), K r u ∧ rb_B Z (va_A (rb_w Z S) U.heap.size) u t ∧ Steps p.tables e below (doInvoke e (U.setTop g) [] mk as.toArray).1 ((({ U with heap := t.heap, slotsUsed := t.slotsUsed } : State).setVm t.vm).setTop { g with pc := g.pc + len, stack := .int r :: g.stack })) ∨
       (∃ (n : Nat) (u : rb_S) (q : Addr) (ce : Cell), KX n u ∧ rb_B Z (va_A (rb_w Z S) U.heap.size) u t ∧ (t.heap[q]? = some ce ∧ ce.vm = .none ∧ U.vm.findClass (rx_nm n) = some ce.cls) ∧ Steps p.tables e below (doInvoke e (U.setTop g) [] mk as.toArray).1 (((({ U with heap := t.heap, slotsUsed := t.slotsUsed } : State).setVm t.vm).setTop g).pushFrame (.throwing q)))) := by
  have h2 : (Cond.code y bytes maxL rt).before as.toArray U = true := hws _ List.mem_cons_self
  obtain ⟨methY, cY, hmY, hcY, -, hlY, -, -, -, -⟩ := Cond.code_spec hn h2
  obtain ⟨kY, hkY, -⟩ := className_of_methodNamed hn
  have hinitY : kY.init = .initialized := Cond.initialized_spec (findClass_of_methodNamed hn) hkY hini
  have h : At U g.method c below := by rw [hg]; exact Y.here
  have happ : (headSpec (Cond.code y bytes maxL rt :: rb_ws) rm).appliesLoose y e.platform (U.calling g mk as.toArray) = true :=
    Spec.appliesLoose_calling (g := g) h hdg hn hkY hinitY
      (Y.room_calling (g := g) (R' := (headSpec (Cond.code y bytes maxL rt :: rb_ws) rm).room) hsize hmY hcY hfr (by rw [hlY]; show _ + (maxL + 11) + rm.locals ≤ R.locals; omega) hc hs) (atoms_intro hws)
  obtain ⟨mid, hmid⟩ := h.above
  have hfrs : (U.setTop g).frames = (.java g :: mid) ++ below := by rw [State.frames_setTop' g h.top, hmid]; rfl
  obtain ⟨o, t, hsteps, -, hend, hq⟩ := Steps.callFree (hM U.heap.size) p Y.admits Y.cas Y.clock (acts := []) hfrs happ (rb_blind _ _ _ _ hPc) trivial
  have hq' : rx_Q Z (va_A (rb_w Z S) U.heap.size) K KX rm.cells rm.slots as.toArray (U.calling g mk as.toArray) o t := hq
  rw [State.frames_setTop' g h.top] at hend
  obtain ⟨g₀, hg0⟩ := Option.isSome_iff_exists.mp h.top
  obtain ⟨r, hr⟩ := State.topJava?_eq_some.mp hg0
  have hr' : (({ U with heap := t.heap, slotsUsed := t.slotsUsed } : State).setVm t.vm).frames = .java g₀ :: r := hr
  have same : ∀ L : List Loc, (U.calling g mk as.toArray).sameButNew ({ t with vm := (U.calling g mk as.toArray).vm } : State) L rm.cells rm.slots →
      t = ({ (U.calling g mk as.toArray).setFrames t.frames with heap := t.heap, slotsUsed := t.slotsUsed } : State).setVm t.vm ∧ U.sameButNew ({ U with heap := t.heap, slotsUsed := t.slotsUsed } : State) L rm.cells rm.slots := by
    intro L hsm
    obtain ⟨e2, q2, q3, q4, q5, q6⟩ := hsm
    refine ⟨?_, ?_, q2, q3, q4, q5, q6⟩
    · have : t = ({ t with vm := (U.calling g mk as.toArray).vm } : State).setVm t.vm := rfl
      rw [e2] at this
      exact this
    · obtain ⟨th, ht, -⟩ := State.frames_cons hr
      show ({ U with heap := t.heap, slotsUsed := t.slotsUsed } : State) = { U.setFrames U.frames with heap := t.heap, slotsUsed := t.slotsUsed }
      rw [State.setFrames_self ht]
  subst hg
  have stand : ∀ L : List Loc, U.WarmedH t.vm → U.sameButNew ({ U with heap := t.heap, slotsUsed := t.slotsUsed } : State) L rm.cells rm.slots → Stand p l e R s g.method args below meth c (({ U with heap := t.heap, slotsUsed := t.slotsUsed } : State).setVm t.vm) (locs ++ L) (kc + rm.cells) (ks + rm.slots) := fun L hW' hsame =>
    ⟨Y.admits, Y.cas, Y.clock, Y.frames, Y.room, Y.hears, Y.method, Y.code, (Y.here.setHeapUsed t.heap t.slotsUsed).setVm hW'.alike, Y.tail, State.WarmedH.trans Y.warmed hW', Y.limits, Y.bytes, Y.same.trans (hsame.setVm s.vm)⟩
  rcases hq' with ⟨⟨⟨rr, u, rfl, hK, hB⟩, hF⟩, L, hfe, hL⟩ | ⟨n, u, q, ce, L, rfl, hK, hB, hF, hce, hW₂, hsm, hL⟩
  · obtain ⟨-, hW₂, hsm⟩ := hfe
    obtain ⟨e3, hsame⟩ := same L hsm
    obtain ⟨c₂, i₂, len₂, hc₂, hd₂, hf₂⟩ := hend
    have hW' : U.WarmedH t.vm := hW₂
    have hcc : c₂ = c := by
      have h1 : t.code? g.method = U.code? g.method := by
        rw [State.code?_eq, State.code?_eq, hW'.alike.method?]
      exact Option.some.inj (hc₂.symm.trans (h1.trans h.code))
    subst hcc
    have hlen : len₂ = len := by rw [hdg] at hd₂; cases hd₂; rfl
    subst hlen
    have hs₂ : t = (({ U with heap := t.heap, slotsUsed := t.slotsUsed } : State).setVm t.vm).setTop { g with pc := g.pc + len₂, stack := .int rr :: g.stack } := by
      refine e3.trans ?_
      rw [hf₂, State.calling_eq h.top, State.setFrames_setFrames, State.setTop_of_frames _ hr', hr]
      rfl
    refine ⟨t, L, hL, hF, stand L hW' hsame, Or.inl ⟨rr, u, hK, hB, ?_⟩⟩
    rw [← hs₂]
    exact hsteps
  · obtain ⟨e3, hsame⟩ := same L hsm
    have hf₂ : t.frames = .throwing q :: .java g :: U.frames.tail := hend
    have hW' : U.WarmedH t.vm := hW₂
    have hs₂ : t = ((({ U with heap := t.heap, slotsUsed := t.slotsUsed } : State).setVm t.vm).setTop g).pushFrame (.throwing q) := by
      refine e3.trans ?_
      rw [hf₂, State.calling_eq h.top, State.setFrames_setFrames, State.pushFrame, State.frames_setTop _ hr', State.setTop_of_frames _ hr', State.setFrames_setFrames, hr]
      rfl
    refine ⟨t, L, hL, hF, stand L hW' hsame, Or.inr ⟨n, u, q, ce, hK, hB, hce, ?_⟩⟩
    rw [← hs₂]
    exact hsteps
end RXB
section RXC
variable {p : Program} {l : Launch} {e : Env} {R : Room} {s : State} {m : MethodId} {args : Array Value} {below : List Frame} {meth : Method} {c : Code} {A : Nat → Prop} {Q : State → Prop} {Z : rb_Z} {nL pc : Nat} {L : List (Nat × Value)} {S : rb_S} {kc ks : Nat} {cc : ByteArray} {own : String} {ret : Option FieldType} {K : Int32 → rb_S → Prop} {KX : Nat → rb_S → Prop}
variable {y : MethodName} {bytes : ByteArray} {maxL n index q0 ci N : Nat} {rt : Option FieldType} {rm : Room} {As rest st0 fs : List Value} {T : u_T}
/-- the rows of a table that an exception of number n meets at pc, and where it comes out -/
def rx_H (own : String) (c : Code) (pc n h : Nat) : Prop := ∃ (pre : List ExceptionTableEntry) (x : ExceptionTableEntry) (suf : List ExceptionTableEntry), c.exceptionTable.toList = pre ++ x :: suf ∧ (∀ z ∈ pre, covers z pc = true ∧ z.catchType ≠ 0 ∧ ∃ nm : String, Cond.classLink own z.catchType nm ∈ rb_ws ∧ (rx_nm n, nm) ∈ rx_not) ∧ covers x pc = true ∧ x.catchType ≠ 0 ∧ Cond.classLink own x.catchType (rx_nm n) ∈ rb_ws ∧ rx_nm n ∈ rx_cast ∧ x.handlerPc = h
/-- a call inside a try: the answer, or a handler -/
theorem rx_callV (X : rb_X p s m args meth c A Z cc nL own ret) (hM : rx_M l y bytes maxL rt rm Z (.ref (Z.1 q0) :: As) S K KX) (cw : rb_cw y bytes maxL rt n) (hR : rm.frames + 1 ≤ R.frames ∧ 8 + (maxL + 11) + rm.locals ≤ R.locals) (hl : Cond.methodLink own index y ∈ rb_ws) (hi : Cond.instanceMethod y ∈ rb_ws) (hs : Cond.selects y.cls y y ∈ rb_ws)
    (he : (rb_w Z S)[q0]? = some (Z.1 q0, .inr (ci, fs))) (hc : vwCl[ci]? = some (y.cls, T, N)) (hn : As.length = n) (hst : st0 = As.reverse ++ .ref (Z.1 q0) :: rest) (hr : (rest.map fun v => v.category).sum ≤ 8) (d : decode cc pc = .ok (.invokevirtual index, 3)) (hf : kc + rm.cells ≤ R.cells ∧ ks + rm.slots ≤ R.slots)
    (k : ∀ (r : Int32) (S' : rb_S), K r S' → rb_V p l e R s m args below meth c A Q Z nL (pc + 3) L (.int r :: rest) S' (kc + rm.cells) (ks + rm.slots))
    (kx : ∀ (n : Nat) (S' : rb_S), KX n S' → ∃ h : Nat, rx_H own c pc n h ∧ ∀ q : Nat, rb_V p l e R s m args below meth c A Q Z nL h L [.ref q] S' (kc + rm.cells) (ks + rm.slots)) :
    rb_V p l e R s m args below meth c A Q Z nL pc L st0 S kc ks := by
  subst hst
  intro H locs ls hP hD hS hl' T0 hT Y
  obtain ⟨hx, hb, hml, hown, hts⟩ := X.1
  have hF := rb_freeA X hD hS
  obtain ⟨mk, methM, hnamed, hmethM, hstM, habM⟩ := Cond.instanceMethod_spec (hts _ hi)
  obtain ⟨methM', cM, hmethM', -, -, -, -, -, -, hsigM⟩ := Cond.code_spec hnamed (hts _ cw.1)
  cases hmethM.symm.trans hmethM'
  obtain ⟨c2, r2, m2, q1, q2, q3, q4, kP, hkP, hkPi⟩ := Cond.selects_spec (hts _ hs)
  obtain ⟨cellB, hcB, hoB, hclB⟩ := rb_recv X hP he hc
  cases Option.some.inj (hclB.symm.trans q1)
  cases (State.methodFound?_of_named hnamed cw.2.2.1).symm.trans q2
  cases hnamed.symm.trans q3
  have hselP : selectMethod e.platform s.vm cellB.cls mk = .method mk := by rw [Launch.admits_selectMethod Y.admits]; exact q4
  obtain ⟨vm₁, X₁, hstep₁⟩ := Y.invokevirtual hx hown (hts _ hl) hnamed hmethM hstM hkP hkPi cw.2.2.1 (a := Z.1 q0) (cell := cellB) (by rw [hT]; exact hcB)
    (fun z h => by rw [h] at hoB; cases hoB) hselP hmethM habM hkP hkPi (g := F0 m pc ls (As.reverse ++ .ref (Z.1 q0) :: rest)) rfl (argsL := As) (rest := rest) (hn.trans (rb_desc cw.2.2.2 _ hsigM)) rfl (by rw [hb]; exact d)
  have hUh : (T0.setVm vm₁).heap = H := hT
  have good : ∀ w ∈ rb_ws, w.before (Value.ref (Z.1 q0) :: As).toArray (T0.setVm vm₁) = true := fun w hw => word_at X₁.warmed (good_of_word (List.mem_filter.mp hw).2) (hts w hw)
  have hpre := rb_pre (as := .ref (Z.1 q0) :: As) X hP hD hS (T0.setVm vm₁) hUh X₁.warmed
  rw [← hUh] at hpre
  obtain ⟨t, L1, hL1, hFt, X2, hcase⟩ := rx_back X₁ (g := { F0 m pc ls (As.reverse ++ .ref (Z.1 q0) :: rest) with stack := rest }) rfl (hl'.1.trans hml.symm) (ig := .invokevirtual index) (len := 3) (by rw [hb]; exact d) (lv_room hr) (X₁.named hnamed) hM
    (fun w hw => by
      rcases List.mem_cons.mp hw with rfl | h1
      · exact good _ cw.1
      · exact good w h1) (good _ cw.2.1) hR.1 hR.2 hf.1 hf.2 hpre
  rw [hUh] at hL1 hFt hcase
  have hFt' : H.size ≤ t.heap.size ∧ ∀ q : Nat, q < H.size → ¬ va_A (rb_w Z S) H.size q → t.heap[q]? = H[q]? := ⟨by rw [← hUh]; exact hFt.1, fun q h1 h2 => by
    have := hFt.2 q (by rw [hUh]; exact h1) h2
    rw [hUh] at this
    exact this⟩
  have hS1 : va_S A s.heap t.heap (locs ++ L1) := ⟨Nat.le_trans hS.1 hFt'.1, fun q h1 h2 => by rw [hFt'.2 q (Nat.lt_of_lt_of_le h1 hS.1) (fun z => h2 (hF q z))]; exact hS.2.1 q h1 h2, fun q hq => by
    rcases List.mem_append.mp hq with h | h
    · exact hS.2.2 q h
    · exact hF _ (hL1 q h)⟩
  rcases hcase with ⟨r, u, hK, hB, hst⟩ | ⟨nx, u, q, ce, hK, hB, ⟨hce, hcv, hcl⟩, hst⟩
  · obtain ⟨t2, a1, b1⟩ := k r u hK t.heap (locs ++ L1) ls hB.1 (hB.2.weaken (fun _ q _ h => hF q.1 h)) hS1 hl' (({ T0.setVm vm₁ with heap := t.heap, slotsUsed := t.slotsUsed } : State).setVm t.vm) rfl X2
    exact ⟨t2, hstep₁ _ fun acts => by rw [doInvoke_state]; exact hst.trans a1, b1⟩
  · obtain ⟨h, ⟨pre, x, suf, hsplit, hpass, hx1, hx0, hlink, hcast, hh⟩, kk⟩ := kx nx u hK
    have hcl' : s.vm.findClass (rx_nm nx) = some ce.cls := by
      have h1 : (T0.setVm vm₁).vm.findClass (rx_nm nx) = some ce.cls := hcl
      rw [X₁.warmed.alike.findClass] at h1
      exact h1
    obtain ⟨x1, x2, x3, x4, x5⟩ := X.2.1.2.2.2
    obtain ⟨vm2, X3, st3⟩ := rx_caught X2 (g := { F0 m pc ls (As.reverse ++ .ref (Z.1 q0) :: rest) with stack := rest }) rfl q (cell := ce) hce hcv hcl' hown pre x suf hsplit
      (fun z hz => by
        obtain ⟨g1, g2, nm, g3, g4⟩ := hpass z hz
        exact ⟨g1, g2, nm, hts _ g3, x2 _ g4⟩) hx1 hx0 (hts _ hlink) (x1 _ hcast)
    obtain ⟨t2, a1, b1⟩ := kk q t.heap (locs ++ L1) ls hB.1 (hB.2.weaken (fun _ q _ h => hF q.1 h)) hS1 hl' ((({ T0.setVm vm₁ with heap := t.heap, slotsUsed := t.slotsUsed } : State).setVm t.vm).setVm vm2) rfl X3
    rw [← hh] at a1
    exact ⟨t2, hstep₁ _ fun acts => by rw [doInvoke_state]; exact hst.trans (st3 _ a1), b1⟩
end RXC
end
section
/-! ===== methods with a table of handlers: the law's own ===== -/
def rx_Mw (l : Launch) (y : MethodName) (bytes : ByteArray) (maxL : Nat) (rt : Option FieldType) (hh : List (Nat × Nat × Nat × Nat)) (rm : Room) (Z : rb_Z) (as : List Value) (S : rb_S) (K : Int32 → rb_S → Prop) : Prop :=
  ∀ sz : Nat, Met l y (Cond.codeWith y bytes maxL rt hh :: rb_ws) rm (rb_Pc Z as S sz) (va_Qi K (rb_B Z (va_A (rb_w Z S) sz)) (va_A (rb_w Z S) sz)) rm.cells rm.slots (va_A (rb_w Z S) sz)
theorem rx_startW {l : Launch} {y : MethodName} {bytes : ByteArray} {maxL : Nat} {rt : Option FieldType} {hh : List (Nat × Nat × Nat × Nat)} {rm : Room} {Z : rb_Z} {as : List Value} {S : rb_S} {K : Int32 → rb_S → Prop} (hy : plainName y.cls = true) (hn : (lg_sl as).length ≤ maxL)
    (h : ∀ (p : Program) (e : Env) (s : State) (m : MethodId) (args : Array Value) (below : List Frame) (meth : Method) (c : Code) (A : Nat → Prop), rb_X p s m args meth c A Z bytes maxL y.cls rt → c.exceptionTable.toList.map (fun h => (h.startPc, h.endPc, h.handlerPc, h.catchType)) = hh → rb_V p l e rm s m args below meth c A (MQ below (va_Qi K (rb_B Z A) A) args s rm.cells rm.slots A) Z maxL 0 (lv_args 0 as) [] S 0 0) : rx_Mw l y bytes maxL rt hh rm Z as S K := by
  intro sz
  refine va_MetW (cc := bytes) (maxL := maxL) (ret := rt) (hh := hh) hy rfl ?_
  intro p e s m args below meth c s₁ B hml hv
  obtain ⟨rfl, hsz, hP, hK, hD0⟩ := hv
  subst hsz
  have hts := atoms_spec (ws := Cond.codeWith y bytes maxL rt hh :: rb_ws) B.pre
  have hown : s.vm.findClass y.cls = some m.cls := findClass_of_methodNamed B.named
  obtain ⟨m9, meth9, c9, hn9, h1, h2, -, -, h5, -, -, -⟩ := Cond.codeWith_spec (hts _ List.mem_cons_self)
  cases Option.some.inj (B.named.symm.trans hn9)
  cases Option.some.inj (B.method.symm.trans h1)
  cases Option.some.inj ((Stand.of_body B).code.symm.trans h2)
  have hl := lv_entry as (n := maxL) hn
  rw [lg_entry_eq]
  exact h p e s m as.toArray below meth c (va_A (rb_w Z S) s.heap.size) ⟨⟨B.exec, B.bytes, hml, hown, fun w hw => hts w (List.mem_cons_of_mem _ hw)⟩, hK, fun q hq => Or.inr hq, B.returns, B.notSynchronized⟩ h5 s.heap [] _ hP (hD0.self (sz := s.heap.size)) va_S.rf hl
/-- the first row of a table takes it; the second does, the first does not -/
theorem rx_H1 {own : String} {c : Code} {pc n a b h t : Nat} {r : List (Nat × Nat × Nat × Nat)} (hT : c.exceptionTable.toList.map (fun h => (h.startPc, h.endPc, h.handlerPc, h.catchType)) = (a, b, h, t) :: r) (h1 : a ≤ pc) (h2 : pc < b) (h0 : t ≠ 0) (hl : Cond.classLink own t (rx_nm n) ∈ rb_ws) (hc : rx_nm n ∈ rx_cast) : rx_H own c pc n h := by
  obtain ⟨x, suf, e1, e2, -⟩ := List.map_eq_cons_iff.mp hT
  simp only [Prod.mk.injEq] at e2
  obtain ⟨rfl, rfl, rfl, rfl⟩ := e2
  exact ⟨[], x, suf, e1, (fun _ q => nomatch q), by simp [covers, h1, h2], h0, hl, hc, rfl⟩
theorem rx_H2 {own nm : String} {c : Code} {pc n a b h t a' b' h' t' : Nat} {r : List (Nat × Nat × Nat × Nat)} (hT : c.exceptionTable.toList.map (fun h => (h.startPc, h.endPc, h.handlerPc, h.catchType)) = (a', b', h', t') :: (a, b, h, t) :: r) (g1 : a' ≤ pc) (g2 : pc < b') (g0 : t' ≠ 0) (gl : Cond.classLink own t' nm ∈ rb_ws) (gn : (rx_nm n, nm) ∈ rx_not) (h1 : a ≤ pc) (h2 : pc < b) (h0 : t ≠ 0) (hl : Cond.classLink own t (rx_nm n) ∈ rb_ws) (hc : rx_nm n ∈ rx_cast) : rx_H own c pc n h := by
  obtain ⟨y, rest, e1, e2, e3⟩ := List.map_eq_cons_iff.mp hT
  obtain ⟨x, suf, f1, f2, -⟩ := List.map_eq_cons_iff.mp e3
  simp only [Prod.mk.injEq] at e2 f2
  obtain ⟨rfl, rfl, rfl, rfl⟩ := e2
  obtain ⟨rfl, rfl, rfl, rfl⟩ := f2
  subst f1
  exact ⟨[y], x, suf, e1, fun z hz => by
    rw [List.mem_singleton] at hz
    subst hz
    exact ⟨by simp [covers, g1, g2], g0, nm, gl, gn⟩, by simp [covers, h1, h2], h0, hl, hc, rfl⟩
section RXW
variable {p : Program} {l : Launch} {e : Env} {R : Room} {s : State} {m : MethodId} {args : Array Value} {below : List Frame} {meth : Method} {c : Code} {A : Nat → Prop} {Q : State → Prop} {Z : rb_Z} {nL pc : Nat} {L : List (Nat × Value)} {st : List Value} {S : rb_S} {kc ks : Nat} {cc : ByteArray} {own : String} {ret : Option FieldType} {K : Int32 → rb_S → Prop}
variable {y : MethodName} {bytes : ByteArray} {maxL n index : Nat} {rt : Option FieldType} {hh : List (Nat × Nat × Nat × Nat)} {rm : Room} {As rest st0 : List Value}
theorem rx_callSW (X : rb_X p s m args meth c A Z cc nL own ret) (hM : rx_Mw l y bytes maxL rt hh rm Z As S K) (hcd : Cond.codeWith y bytes maxL rt hh ∈ rb_ws) (hin : Cond.initialized y.cls ∈ rb_ws) (hy : y.cls ≠ "java/lang/invoke/MethodHandle" ∧ y.cls ≠ "java/lang/invoke/VarHandle") (hde : (parseMethodDescriptor y.desc).map (fun d => d.parameters.length) = some n)
    (hR : rm.frames + 1 ≤ R.frames ∧ 8 + (maxL + 11) + rm.locals ≤ R.locals) (hl : Cond.methodLink own index y ∈ rb_ws) (hi : Cond.static y ∈ rb_ws) (hn : As.length = n) (hst : st0 = As.reverse ++ rest) (hr : (rest.map fun v => v.category).sum ≤ 8) (d : decode cc pc = .ok (.invokestatic index, 3)) (hf : kc + rm.cells ≤ R.cells ∧ ks + rm.slots ≤ R.slots)
    (k : ∀ (r : Int32) (S' : rb_S), K r S' → rb_V p l e R s m args below meth c A Q Z nL (pc + 3) L (.int r :: rest) S' (kc + rm.cells) (ks + rm.slots)) : rb_V p l e R s m args below meth c A Q Z nL pc L st0 S kc ks := by
  subst hst
  intro H locs ls hP hD hS hl'
  have hF := rb_freeA X hD hS
  obtain ⟨hx, hb, hml, hown, hts⟩ := X.1
  have hrun : va_Run p l e R s m args below meth c H locs kc ks rm.cells rm.slots (F0 m pc ls (As.reverse ++ rest)) rest (va_Qi K (rb_B Z (va_A (rb_w Z S) H.size)) (va_A (rb_w Z S) H.size) As.toArray) (va_A (rb_w Z S) H.size) := by
    intro T hT Y
    have hK := va_backW (R := R) (p := p) (e := e) (below := below) (s := s) (sargs := args) (len := 3) (W := 8) (bytes := bytes) (maxL := maxL) (ret := rt) (hh := hh) (hM H.size) rb_blind rfl rfl hR.1 hR.2 (pay_in hts (rb_good hcd)) List.mem_cons_self (fun a' U hW => word_at hW (good_of_word (List.mem_filter.mp hin).2) (hts _ hin))
    obtain ⟨mk, methM, cM, hnamed, hmethM, -, -, -, -, -, -, hsigM⟩ := Cond.codeWith_spec (hts _ hcd)
    have hstatic : methM.isStatic = true := Cond.static_spec hnamed hmethM (hts _ hi)
    obtain ⟨kP, hkP, -⟩ := className_of_methodNamed hnamed
    have hinitP : kP.init = .initialized := Cond.initialized_spec (findClass_of_methodNamed hnamed) hkP (hts _ hin)
    obtain ⟨vm₁, X₁, hstep₁⟩ := Y.invokestatic hx hown (hts _ hl) hnamed hmethM hstatic hkP hinitP hy (g := F0 m pc ls (As.reverse ++ rest)) rfl (argsL := As) (rest := rest) (hn.trans (rb_desc hde _ hsigM)) rfl (by rw [hb]; exact d)
    obtain ⟨v, ⟨U', l2, c2, s2⟩, X', ⟨g', mk', t, L1, e1, e2, hq, h1, hL, h2, h3⟩, hsteps⟩ := hK m meth c ⟨T.setVm vm₁, locs, kc, ks⟩ { F0 m pc ls (As.reverse ++ rest) with stack := rest } (.invokestatic index) mk As.toArray X₁ rfl (hl'.1.trans hml.symm) (by rw [hb]; exact d) (lv_room hr) (X₁.named hnamed) ⟨hf.1, hf.2, rb_pre X hP hD hS (T.setVm vm₁) hT X₁.warmed⟩
    dsimp only [Pt.U, Pt.locs, Pt.cells, Pt.slots] at X' e1 e2 h1 h2 h3 hsteps
    subst h1; subst h2; subst h3
    exact ⟨v, (T.setVm vm₁).calling g' mk' As.toArray, t, U', L1, hT, X', hL, e1, e2, hq, fun target h => hstep₁ _ fun acts => by rw [doInvoke_state]; exact hsteps.trans h⟩
  exact va_calli hrun hS (fun q _ h => hF q h) hF (fun r u t H1 locs1 ht hvm hp hB hz hk hS1 => k r u hp H1 locs1 ls (by rw [← ht]; exact hB.1) (hB.2.weaken (fun _ q _ h => hF q.1 h)) hS1 hl')
/-- the law's cell for an answer: one long, that is an int's -/
theorem rb_lald (X : rb_X p s m args meth c A Z cc nL own ret) (d : decode cc pc = .ok (.laload, 1)) (k : rb_V p l e R s m args below meth c A Q Z nL (pc + 1) L (.long (S 36 0).toInt64 :: st) S kc ks) : rb_V p l e R s m args below meth c A Q Z nL pc L (.int 0 :: .ref (Z.1 36) :: st) S kc ks := fun H locs ls hP hD hS hl =>
  va_lald X.1.1 X.1.2.1 X.2.1.1 hP 36 29 rfl rfl (by unfold vp_in; decide) d (k H locs ls hP hD hS hl)
theorem rb_last (X : rb_X p s m args meth c A Z cc nL own ret) {x : Int32} (d : decode cc pc = .ok (.lastore, 1)) (k : ∀ S1 : rb_S, S1 = rb_u S 36 0 x → rb_V p l e R s m args below meth c A Q Z nL (pc + 1) L st S1 kc ks) : rb_V p l e R s m args below meth c A Q Z nL pc L (.long x.toInt64 :: .int 0 :: .ref (Z.1 36) :: st) S kc ks := fun H locs ls hP hD hS hl =>
  va_last X.1.1 X.1.2.1 X.2.1.1 hP hD hS 36 29 rfl rfl (by unfold vp_in; decide) d (fun H1 locs1 hP1 hD1 hS1 => by
    have e : (rb_w Z S).set 36 (Z.1 36, .inl (rb_ca Z 36, 1, .inr (.inl (vp_updL (fun j => (S 36 j).toInt64) (0 : Int32).toNatClampNeg x.toInt64)))) = rb_w Z (rb_u S 36 0 x) := by
      have hf : vp_updL (fun j => (S 36 j).toInt64) (0 : Int32).toNatClampNeg x.toInt64 = fun j => (rb_u S 36 0 x 36 j).toInt64 := by
        funext j
        show (if j = 0 then x.toInt64 else (S 36 j).toInt64) = (if j = 0 then x else S 36 j).toInt64
        by_cases hj : j = 0
        · rw [if_pos hj, if_pos hj]
        · rw [if_neg hj, if_neg hj]
      rw [hf]
      rfl
    exact k _ rfl H1 locs1 ls (e ▸ hP1) (e ▸ hD1) hS1 hl)
theorem rb_iretW {r : Int32} (X : rb_X p s m args meth c A Z cc nL own (some .int)) (d : decode cc pc = .ok (.ireturn, 1)) (h : K r S) : rb_V p l e R s m args below meth c A (MQ below (va_Qi K (rb_B Z A) A) args s kc ks A) Z nL pc L [.int r] S kc ks := rb_iret X d h
theorem rb_astoreE (X : rb_X p s m args meth c A Z cc nL own ret) {x : Nat} {j : Fin 4} (i : Nat) (d : decode cc pc = .ok (.astore_n j, 1)) (hj : (j : Nat) = i) (hn : i < nL) (k : rb_V p l e R s m args below meth c A Q Z nL (pc + 1) [] st S kc ks) : rb_V p l e R s m args below meth c A Q Z nL pc L (.ref x :: st) S kc ks := fun H locs ls hP hD hS hl =>
  lv_astore_n X.1.1 X.1.2.1 d hj hl hn rfl (fun ls' hl' => k H locs ls' hP hD hS (lv_sub hl' [] rfl))
theorem rb_astoreE2 (X : rb_X p s m args meth c A Z cc nL own ret) {x : Nat} (i : Nat) (d : decode cc pc = .ok (.astore i, 2)) (hn : i < nL) (k : rb_V p l e R s m args below meth c A Q Z nL (pc + 2) [] st S kc ks) : rb_V p l e R s m args below meth c A Q Z nL pc L (.ref x :: st) S kc ks := fun H locs ls hP hD hS hl =>
  lv_astore X.1.1 X.1.2.1 d hl hn rfl (fun ls' hl' => k H locs ls' hP hD hS (lv_sub hl' [] rfl))
end RXW
end
