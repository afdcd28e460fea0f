section
-- ===== PART A: goes FIRST, ahead of the names: the tables' words, and 'selects' of the private methods out of them =====
/-- a private method of a class that the tables say can be made, by its rows of tables_1 -/
def lw_okq (q : MethodName × Nat) : Prop := (q.1.cls ≠ "java/lang/invoke/MethodHandle" ∧ q.1.cls ≠ "java/lang/invoke/VarHandle") ∧ Cond.instantiable q.1.cls q.2 ∈ tables_1 ∧ Cond.privateMethod q.1 ∈ tables_1 ∧ Cond.instanceMethod q.1 ∈ tables_1
theorem lw_p0 : lw_okq (⟨"DoorsLocks", "isRoom", "(I)Z"⟩, 12) := ⟨⟨by decide +kernel, by decide +kernel⟩, List.mem_of_getElem? (i := 12) (by decide +kernel), List.mem_of_getElem? (i := 117) (by decide +kernel), List.mem_of_getElem? (i := 118) (by decide +kernel)⟩
theorem lw_p1 : lw_okq (⟨"DoorsLocks", "isPlace", "(II)Z"⟩, 12) := ⟨⟨by decide +kernel, by decide +kernel⟩, List.mem_of_getElem? (i := 12) (by decide +kernel), List.mem_of_getElem? (i := 149) (by decide +kernel), List.mem_of_getElem? (i := 150) (by decide +kernel)⟩
theorem lw_p2 : lw_okq (⟨"DoorsLocks", "mayBeWayOf", "(II)Z"⟩, 12) := ⟨⟨by decide +kernel, by decide +kernel⟩, List.mem_of_getElem? (i := 12) (by decide +kernel), List.mem_of_getElem? (i := 156) (by decide +kernel), List.mem_of_getElem? (i := 157) (by decide +kernel)⟩
theorem lw_p3 : lw_okq (⟨"DoorsLocks", "doorAt", "(I)LDoorsLocks$Door;"⟩, 12) := ⟨⟨by decide +kernel, by decide +kernel⟩, List.mem_of_getElem? (i := 12) (by decide +kernel), List.mem_of_getElem? (i := 160) (by decide +kernel), List.mem_of_getElem? (i := 161) (by decide +kernel)⟩
theorem lw_p4 : lw_okq (⟨"DoorsLocks", "ruleAt", "(I)LDoorsLocks$Rule;"⟩, 12) := ⟨⟨by decide +kernel, by decide +kernel⟩, List.mem_of_getElem? (i := 12) (by decide +kernel), List.mem_of_getElem? (i := 168) (by decide +kernel), List.mem_of_getElem? (i := 169) (by decide +kernel)⟩
theorem lw_p5 : lw_okq (⟨"DoorsLocks", "thingAt", "(I)LDoorsLocks$Thing;"⟩, 12) := ⟨⟨by decide +kernel, by decide +kernel⟩, List.mem_of_getElem? (i := 12) (by decide +kernel), List.mem_of_getElem? (i := 204) (by decide +kernel), List.mem_of_getElem? (i := 205) (by decide +kernel)⟩
theorem lw_p6 : lw_okq (⟨"DoorsLocks", "beingAt", "(I)LDoorsLocks$Being;"⟩, 12) := ⟨⟨by decide +kernel, by decide +kernel⟩, List.mem_of_getElem? (i := 12) (by decide +kernel), List.mem_of_getElem? (i := 288) (by decide +kernel), List.mem_of_getElem? (i := 289) (by decide +kernel)⟩
theorem lw_p7 : lw_okq (⟨"DoorsLocks", "turnKey", "(LDoorsLocks$Being;LDoorsLocks$Door;Z)I"⟩, 12) := ⟨⟨by decide +kernel, by decide +kernel⟩, List.mem_of_getElem? (i := 12) (by decide +kernel), List.mem_of_getElem? (i := 304) (by decide +kernel), List.mem_of_getElem? (i := 305) (by decide +kernel)⟩
theorem lw_p8 : lw_okq (⟨"DoorsLocks", "holdsAnyKey", "(LDoorsLocks$Being;)Z"⟩, 12) := ⟨⟨by decide +kernel, by decide +kernel⟩, List.mem_of_getElem? (i := 12) (by decide +kernel), List.mem_of_getElem? (i := 308) (by decide +kernel), List.mem_of_getElem? (i := 309) (by decide +kernel)⟩
theorem lw_p9 : lw_okq (⟨"DoorsLocks", "isThingHere", "(LDoorsLocks$Being;LDoorsLocks$Thing;)Z"⟩, 12) := ⟨⟨by decide +kernel, by decide +kernel⟩, List.mem_of_getElem? (i := 12) (by decide +kernel), List.mem_of_getElem? (i := 319) (by decide +kernel), List.mem_of_getElem? (i := 320) (by decide +kernel)⟩
theorem lw_p10 : lw_okq (⟨"DoorsLocks", "isInRoom", "(LDoorsLocks$Thing;I)Z"⟩, 12) := ⟨⟨by decide +kernel, by decide +kernel⟩, List.mem_of_getElem? (i := 12) (by decide +kernel), List.mem_of_getElem? (i := 323) (by decide +kernel), List.mem_of_getElem? (i := 324) (by decide +kernel)⟩
theorem lw_p11 : lw_okq (⟨"DoorsLocks", "hasRoom", "(II)Z"⟩, 12) := ⟨⟨by decide +kernel, by decide +kernel⟩, List.mem_of_getElem? (i := 12) (by decide +kernel), List.mem_of_getElem? (i := 327) (by decide +kernel), List.mem_of_getElem? (i := 328) (by decide +kernel)⟩
theorem lw_p12 : lw_okq (⟨"DoorsLocks", "goBy", "(LDoorsLocks$Being;I)I"⟩, 12) := ⟨⟨by decide +kernel, by decide +kernel⟩, List.mem_of_getElem? (i := 12) (by decide +kernel), List.mem_of_getElem? (i := 348) (by decide +kernel), List.mem_of_getElem? (i := 349) (by decide +kernel)⟩
theorem lw_p13 : lw_okq (⟨"DoorsLocks", "travel", "(LDoorsLocks$Being;LDoorsLocks$Thing;I)I"⟩, 12) := ⟨⟨by decide +kernel, by decide +kernel⟩, List.mem_of_getElem? (i := 12) (by decide +kernel), List.mem_of_getElem? (i := 352) (by decide +kernel), List.mem_of_getElem? (i := 353) (by decide +kernel)⟩
theorem lw_p14 : lw_okq (⟨"DoorsLocks", "obstacleOf", "(I)I"⟩, 12) := ⟨⟨by decide +kernel, by decide +kernel⟩, List.mem_of_getElem? (i := 12) (by decide +kernel), List.mem_of_getElem? (i := 356) (by decide +kernel), List.mem_of_getElem? (i := 357) (by decide +kernel)⟩
theorem lw_p15 : lw_okq (⟨"DoorsLocks", "doorOfWay", "(I)LDoorsLocks$Door;"⟩, 12) := ⟨⟨by decide +kernel, by decide +kernel⟩, List.mem_of_getElem? (i := 12) (by decide +kernel), List.mem_of_getElem? (i := 360) (by decide +kernel), List.mem_of_getElem? (i := 361) (by decide +kernel)⟩
def lw_privs_1 : List (MethodName × Nat) := [(⟨"DoorsLocks", "isRoom", "(I)Z"⟩, 12), (⟨"DoorsLocks", "isPlace", "(II)Z"⟩, 12), (⟨"DoorsLocks", "mayBeWayOf", "(II)Z"⟩, 12), (⟨"DoorsLocks", "doorAt", "(I)LDoorsLocks$Door;"⟩, 12), (⟨"DoorsLocks", "ruleAt", "(I)LDoorsLocks$Rule;"⟩, 12), (⟨"DoorsLocks", "thingAt", "(I)LDoorsLocks$Thing;"⟩, 12), (⟨"DoorsLocks", "beingAt", "(I)LDoorsLocks$Being;"⟩, 12), (⟨"DoorsLocks", "turnKey", "(LDoorsLocks$Being;LDoorsLocks$Door;Z)I"⟩, 12), (⟨"DoorsLocks", "holdsAnyKey", "(LDoorsLocks$Being;)Z"⟩, 12), (⟨"DoorsLocks", "isThingHere", "(LDoorsLocks$Being;LDoorsLocks$Thing;)Z"⟩, 12), (⟨"DoorsLocks", "isInRoom", "(LDoorsLocks$Thing;I)Z"⟩, 12), (⟨"DoorsLocks", "hasRoom", "(II)Z"⟩, 12), (⟨"DoorsLocks", "goBy", "(LDoorsLocks$Being;I)I"⟩, 12), (⟨"DoorsLocks", "travel", "(LDoorsLocks$Being;LDoorsLocks$Thing;I)I"⟩, 12), (⟨"DoorsLocks", "obstacleOf", "(I)I"⟩, 12), (⟨"DoorsLocks", "doorOfWay", "(I)LDoorsLocks$Door;"⟩, 12)]
theorem lw_r1 : ∀ q ∈ lw_privs_1, lw_okq q := List.forall_mem_cons.mpr ⟨lw_p0, List.forall_mem_cons.mpr ⟨lw_p1, List.forall_mem_cons.mpr ⟨lw_p2, List.forall_mem_cons.mpr ⟨lw_p3, List.forall_mem_cons.mpr ⟨lw_p4, List.forall_mem_cons.mpr ⟨lw_p5, List.forall_mem_cons.mpr ⟨lw_p6, List.forall_mem_cons.mpr ⟨lw_p7, List.forall_mem_cons.mpr ⟨lw_p8, List.forall_mem_cons.mpr ⟨lw_p9, List.forall_mem_cons.mpr ⟨lw_p10, List.forall_mem_cons.mpr ⟨lw_p11, List.forall_mem_cons.mpr ⟨lw_p12, List.forall_mem_cons.mpr ⟨lw_p13, List.forall_mem_cons.mpr ⟨lw_p14, List.forall_mem_cons.mpr ⟨lw_p15, fun _ h => absurd h List.not_mem_nil⟩⟩⟩⟩⟩⟩⟩⟩⟩⟩⟩⟩⟩⟩⟩⟩
theorem lw_p16 : lw_okq (⟨"DoorsLocks", "ruleOfWay", "(I)LDoorsLocks$Rule;"⟩, 12) := ⟨⟨by decide +kernel, by decide +kernel⟩, List.mem_of_getElem? (i := 12) (by decide +kernel), List.mem_of_getElem? (i := 368) (by decide +kernel), List.mem_of_getElem? (i := 369) (by decide +kernel)⟩
theorem lw_p17 : lw_okq (⟨"DoorsLocks", "leadsTo", "(II)I"⟩, 12) := ⟨⟨by decide +kernel, by decide +kernel⟩, List.mem_of_getElem? (i := 12) (by decide +kernel), List.mem_of_getElem? (i := 372) (by decide +kernel), List.mem_of_getElem? (i := 373) (by decide +kernel)⟩
theorem lw_p18 : lw_okq (⟨"DoorsLocks", "takeTurn", "(I)V"⟩, 12) := ⟨⟨by decide +kernel, by decide +kernel⟩, List.mem_of_getElem? (i := 12) (by decide +kernel), List.mem_of_getElem? (i := 384) (by decide +kernel), List.mem_of_getElem? (i := 385) (by decide +kernel)⟩
theorem lw_p19 : lw_okq (⟨"DoorsLocks", "tellOfAll", "(LDoorsLocks$Being;LDoorsLocks$Thing;II)V"⟩, 12) := ⟨⟨by decide +kernel, by decide +kernel⟩, List.mem_of_getElem? (i := 12) (by decide +kernel), List.mem_of_getElem? (i := 392) (by decide +kernel), List.mem_of_getElem? (i := 393) (by decide +kernel)⟩
theorem lw_p20 : lw_okq (⟨"DoorsLocks", "tellOthersIn", "(IILDoorsLocks$Being;LDoorsLocks$Thing;)V"⟩, 12) := ⟨⟨by decide +kernel, by decide +kernel⟩, List.mem_of_getElem? (i := 12) (by decide +kernel), List.mem_of_getElem? (i := 399) (by decide +kernel), List.mem_of_getElem? (i := 400) (by decide +kernel)⟩
theorem lw_p21 : lw_okq (⟨"DoorsLocks", "moveAll", "(LDoorsLocks$Being;LDoorsLocks$Thing;I)V"⟩, 12) := ⟨⟨by decide +kernel, by decide +kernel⟩, List.mem_of_getElem? (i := 12) (by decide +kernel), List.mem_of_getElem? (i := 410) (by decide +kernel), List.mem_of_getElem? (i := 411) (by decide +kernel)⟩
theorem lw_p22 : lw_okq (⟨"DoorsLocks", "directionBack", "(LDoorsLocks$Being;)I"⟩, 12) := ⟨⟨by decide +kernel, by decide +kernel⟩, List.mem_of_getElem? (i := 12) (by decide +kernel), List.mem_of_getElem? (i := 422) (by decide +kernel), List.mem_of_getElem? (i := 423) (by decide +kernel)⟩
theorem lw_p23 : lw_okq (⟨"DoorsLocks", "searchFrom", "(I)V"⟩, 12) := ⟨⟨by decide +kernel, by decide +kernel⟩, List.mem_of_getElem? (i := 12) (by decide +kernel), List.mem_of_getElem? (i := 430) (by decide +kernel), List.mem_of_getElem? (i := 431) (by decide +kernel)⟩
theorem lw_p24 : lw_okq (⟨"DoorsLocks", "placeOfThing", "(LDoorsLocks$Thing;)I"⟩, 12) := ⟨⟨by decide +kernel, by decide +kernel⟩, List.mem_of_getElem? (i := 12) (by decide +kernel), List.mem_of_getElem? (i := 475) (by decide +kernel), List.mem_of_getElem? (i := 476) (by decide +kernel)⟩
theorem lw_p25 : lw_okq (⟨"DoorsLocks", "leastRoomOf", "(I)I"⟩, 12) := ⟨⟨by decide +kernel, by decide +kernel⟩, List.mem_of_getElem? (i := 12) (by decide +kernel), List.mem_of_getElem? (i := 479) (by decide +kernel), List.mem_of_getElem? (i := 480) (by decide +kernel)⟩
theorem lw_p26 : lw_okq (⟨"DoorsLocks", "countWays", "(Z)I"⟩, 12) := ⟨⟨by decide +kernel, by decide +kernel⟩, List.mem_of_getElem? (i := 12) (by decide +kernel), List.mem_of_getElem? (i := 505) (by decide +kernel), List.mem_of_getElem? (i := 506) (by decide +kernel)⟩
theorem lw_p27 : lw_okq (⟨"DoorsLocksModel", "isRoom", "(I)Z"⟩, 27) := ⟨⟨by decide +kernel, by decide +kernel⟩, List.mem_of_getElem? (i := 509) (by decide +kernel), List.mem_of_getElem? (i := 606) (by decide +kernel), List.mem_of_getElem? (i := 607) (by decide +kernel)⟩
theorem lw_p28 : lw_okq (⟨"DoorsLocksModel", "mayBe", "(II)Z"⟩, 27) := ⟨⟨by decide +kernel, by decide +kernel⟩, List.mem_of_getElem? (i := 509) (by decide +kernel), List.mem_of_getElem? (i := 617) (by decide +kernel), List.mem_of_getElem? (i := 618) (by decide +kernel)⟩
theorem lw_p29 : lw_okq (⟨"DoorsLocksModel", "isDoor", "(I)Z"⟩, 27) := ⟨⟨by decide +kernel, by decide +kernel⟩, List.mem_of_getElem? (i := 509) (by decide +kernel), List.mem_of_getElem? (i := 621) (by decide +kernel), List.mem_of_getElem? (i := 622) (by decide +kernel)⟩
theorem lw_p30 : lw_okq (⟨"DoorsLocksModel", "isSide", "(II)Z"⟩, 27) := ⟨⟨by decide +kernel, by decide +kernel⟩, List.mem_of_getElem? (i := 509) (by decide +kernel), List.mem_of_getElem? (i := 625) (by decide +kernel), List.mem_of_getElem? (i := 626) (by decide +kernel)⟩
theorem lw_p31 : lw_okq (⟨"DoorsLocksModel", "isThing", "(I)Z"⟩, 27) := ⟨⟨by decide +kernel, by decide +kernel⟩, List.mem_of_getElem? (i := 509) (by decide +kernel), List.mem_of_getElem? (i := 645) (by decide +kernel), List.mem_of_getElem? (i := 646) (by decide +kernel)⟩
def lw_privs_2 : List (MethodName × Nat) := [(⟨"DoorsLocks", "ruleOfWay", "(I)LDoorsLocks$Rule;"⟩, 12), (⟨"DoorsLocks", "leadsTo", "(II)I"⟩, 12), (⟨"DoorsLocks", "takeTurn", "(I)V"⟩, 12), (⟨"DoorsLocks", "tellOfAll", "(LDoorsLocks$Being;LDoorsLocks$Thing;II)V"⟩, 12), (⟨"DoorsLocks", "tellOthersIn", "(IILDoorsLocks$Being;LDoorsLocks$Thing;)V"⟩, 12), (⟨"DoorsLocks", "moveAll", "(LDoorsLocks$Being;LDoorsLocks$Thing;I)V"⟩, 12), (⟨"DoorsLocks", "directionBack", "(LDoorsLocks$Being;)I"⟩, 12), (⟨"DoorsLocks", "searchFrom", "(I)V"⟩, 12), (⟨"DoorsLocks", "placeOfThing", "(LDoorsLocks$Thing;)I"⟩, 12), (⟨"DoorsLocks", "leastRoomOf", "(I)I"⟩, 12), (⟨"DoorsLocks", "countWays", "(Z)I"⟩, 12), (⟨"DoorsLocksModel", "isRoom", "(I)Z"⟩, 27), (⟨"DoorsLocksModel", "mayBe", "(II)Z"⟩, 27), (⟨"DoorsLocksModel", "isDoor", "(I)Z"⟩, 27), (⟨"DoorsLocksModel", "isSide", "(II)Z"⟩, 27), (⟨"DoorsLocksModel", "isThing", "(I)Z"⟩, 27)]
theorem lw_r2 : ∀ q ∈ lw_privs_2, lw_okq q := List.forall_mem_cons.mpr ⟨lw_p16, List.forall_mem_cons.mpr ⟨lw_p17, List.forall_mem_cons.mpr ⟨lw_p18, List.forall_mem_cons.mpr ⟨lw_p19, List.forall_mem_cons.mpr ⟨lw_p20, List.forall_mem_cons.mpr ⟨lw_p21, List.forall_mem_cons.mpr ⟨lw_p22, List.forall_mem_cons.mpr ⟨lw_p23, List.forall_mem_cons.mpr ⟨lw_p24, List.forall_mem_cons.mpr ⟨lw_p25, List.forall_mem_cons.mpr ⟨lw_p26, List.forall_mem_cons.mpr ⟨lw_p27, List.forall_mem_cons.mpr ⟨lw_p28, List.forall_mem_cons.mpr ⟨lw_p29, List.forall_mem_cons.mpr ⟨lw_p30, List.forall_mem_cons.mpr ⟨lw_p31, fun _ h => absurd h List.not_mem_nil⟩⟩⟩⟩⟩⟩⟩⟩⟩⟩⟩⟩⟩⟩⟩⟩
theorem lw_p32 : lw_okq (⟨"DoorsLocksModel", "isBeing", "(I)Z"⟩, 27) := ⟨⟨by decide +kernel, by decide +kernel⟩, List.mem_of_getElem? (i := 509) (by decide +kernel), List.mem_of_getElem? (i := 665) (by decide +kernel), List.mem_of_getElem? (i := 666) (by decide +kernel)⟩
theorem lw_p33 : lw_okq (⟨"DoorsLocksModel", "hasDoor", "(II)Z"⟩, 27) := ⟨⟨by decide +kernel, by decide +kernel⟩, List.mem_of_getElem? (i := 509) (by decide +kernel), List.mem_of_getElem? (i := 669) (by decide +kernel), List.mem_of_getElem? (i := 670) (by decide +kernel)⟩
theorem lw_p34 : lw_okq (⟨"DoorsLocksModel", "isShutIn", "(I)Z"⟩, 27) := ⟨⟨by decide +kernel, by decide +kernel⟩, List.mem_of_getElem? (i := 509) (by decide +kernel), List.mem_of_getElem? (i := 673) (by decide +kernel), List.mem_of_getElem? (i := 674) (by decide +kernel)⟩
theorem lw_p35 : lw_okq (⟨"DoorsLocksModel", "hasThing", "(II)Z"⟩, 27) := ⟨⟨by decide +kernel, by decide +kernel⟩, List.mem_of_getElem? (i := 509) (by decide +kernel), List.mem_of_getElem? (i := 677) (by decide +kernel), List.mem_of_getElem? (i := 678) (by decide +kernel)⟩
theorem lw_p36 : lw_okq (⟨"DoorsLocksModel", "holds", "(II)Z"⟩, 27) := ⟨⟨by decide +kernel, by decide +kernel⟩, List.mem_of_getElem? (i := 509) (by decide +kernel), List.mem_of_getElem? (i := 681) (by decide +kernel), List.mem_of_getElem? (i := 682) (by decide +kernel)⟩
theorem lw_p37 : lw_okq (⟨"DoorsLocksModel", "isThingIn", "(II)Z"⟩, 27) := ⟨⟨by decide +kernel, by decide +kernel⟩, List.mem_of_getElem? (i := 509) (by decide +kernel), List.mem_of_getElem? (i := 685) (by decide +kernel), List.mem_of_getElem? (i := 686) (by decide +kernel)⟩
theorem lw_p38 : lw_okq (⟨"DoorsLocksModel", "actText", "(III)I"⟩, 27) := ⟨⟨by decide +kernel, by decide +kernel⟩, List.mem_of_getElem? (i := 509) (by decide +kernel), List.mem_of_getElem? (i := 693) (by decide +kernel), List.mem_of_getElem? (i := 694) (by decide +kernel)⟩
theorem lw_p39 : lw_okq (⟨"DoorsLocksModel", "holdsOther", "(II)Z"⟩, 27) := ⟨⟨by decide +kernel, by decide +kernel⟩, List.mem_of_getElem? (i := 509) (by decide +kernel), List.mem_of_getElem? (i := 697) (by decide +kernel), List.mem_of_getElem? (i := 698) (by decide +kernel)⟩
theorem lw_p40 : lw_okq (⟨"DoorsLocksModel", "handleText", "(III)I"⟩, 27) := ⟨⟨by decide +kernel, by decide +kernel⟩, List.mem_of_getElem? (i := 509) (by decide +kernel), List.mem_of_getElem? (i := 705) (by decide +kernel), List.mem_of_getElem? (i := 706) (by decide +kernel)⟩
theorem lw_p41 : lw_okq (⟨"DoorsLocksModel", "held", "(I)I"⟩, 27) := ⟨⟨by decide +kernel, by decide +kernel⟩, List.mem_of_getElem? (i := 509) (by decide +kernel), List.mem_of_getElem? (i := 709) (by decide +kernel), List.mem_of_getElem? (i := 710) (by decide +kernel)⟩
theorem lw_p42 : lw_okq (⟨"DoorsLocksModel", "goBy", "(II)I"⟩, 27) := ⟨⟨by decide +kernel, by decide +kernel⟩, List.mem_of_getElem? (i := 509) (by decide +kernel), List.mem_of_getElem? (i := 721) (by decide +kernel), List.mem_of_getElem? (i := 722) (by decide +kernel)⟩
theorem lw_p43 : lw_okq (⟨"DoorsLocksModel", "wayText", "(III)I"⟩, 27) := ⟨⟨by decide +kernel, by decide +kernel⟩, List.mem_of_getElem? (i := 509) (by decide +kernel), List.mem_of_getElem? (i := 725) (by decide +kernel), List.mem_of_getElem? (i := 726) (by decide +kernel)⟩
theorem lw_p44 : lw_okq (⟨"DoorsLocksModel", "leadsTo", "(II)I"⟩, 27) := ⟨⟨by decide +kernel, by decide +kernel⟩, List.mem_of_getElem? (i := 509) (by decide +kernel), List.mem_of_getElem? (i := 729) (by decide +kernel), List.mem_of_getElem? (i := 730) (by decide +kernel)⟩
theorem lw_p45 : lw_okq (⟨"DoorsLocksModel", "otherSide", "(II)I"⟩, 27) := ⟨⟨by decide +kernel, by decide +kernel⟩, List.mem_of_getElem? (i := 509) (by decide +kernel), List.mem_of_getElem? (i := 733) (by decide +kernel), List.mem_of_getElem? (i := 734) (by decide +kernel)⟩
theorem lw_p46 : lw_okq (⟨"DoorsLocksModel", "insideOf", "(I)I"⟩, 27) := ⟨⟨by decide +kernel, by decide +kernel⟩, List.mem_of_getElem? (i := 509) (by decide +kernel), List.mem_of_getElem? (i := 737) (by decide +kernel), List.mem_of_getElem? (i := 738) (by decide +kernel)⟩
theorem lw_p47 : lw_okq (⟨"DoorsLocksModel", "move", "(IIII)I"⟩, 27) := ⟨⟨by decide +kernel, by decide +kernel⟩, List.mem_of_getElem? (i := 509) (by decide +kernel), List.mem_of_getElem? (i := 741) (by decide +kernel), List.mem_of_getElem? (i := 742) (by decide +kernel)⟩
def lw_privs_3 : List (MethodName × Nat) := [(⟨"DoorsLocksModel", "isBeing", "(I)Z"⟩, 27), (⟨"DoorsLocksModel", "hasDoor", "(II)Z"⟩, 27), (⟨"DoorsLocksModel", "isShutIn", "(I)Z"⟩, 27), (⟨"DoorsLocksModel", "hasThing", "(II)Z"⟩, 27), (⟨"DoorsLocksModel", "holds", "(II)Z"⟩, 27), (⟨"DoorsLocksModel", "isThingIn", "(II)Z"⟩, 27), (⟨"DoorsLocksModel", "actText", "(III)I"⟩, 27), (⟨"DoorsLocksModel", "holdsOther", "(II)Z"⟩, 27), (⟨"DoorsLocksModel", "handleText", "(III)I"⟩, 27), (⟨"DoorsLocksModel", "held", "(I)I"⟩, 27), (⟨"DoorsLocksModel", "goBy", "(II)I"⟩, 27), (⟨"DoorsLocksModel", "wayText", "(III)I"⟩, 27), (⟨"DoorsLocksModel", "leadsTo", "(II)I"⟩, 27), (⟨"DoorsLocksModel", "otherSide", "(II)I"⟩, 27), (⟨"DoorsLocksModel", "insideOf", "(I)I"⟩, 27), (⟨"DoorsLocksModel", "move", "(IIII)I"⟩, 27)]
theorem lw_r3 : ∀ q ∈ lw_privs_3, lw_okq q := List.forall_mem_cons.mpr ⟨lw_p32, List.forall_mem_cons.mpr ⟨lw_p33, List.forall_mem_cons.mpr ⟨lw_p34, List.forall_mem_cons.mpr ⟨lw_p35, List.forall_mem_cons.mpr ⟨lw_p36, List.forall_mem_cons.mpr ⟨lw_p37, List.forall_mem_cons.mpr ⟨lw_p38, List.forall_mem_cons.mpr ⟨lw_p39, List.forall_mem_cons.mpr ⟨lw_p40, List.forall_mem_cons.mpr ⟨lw_p41, List.forall_mem_cons.mpr ⟨lw_p42, List.forall_mem_cons.mpr ⟨lw_p43, List.forall_mem_cons.mpr ⟨lw_p44, List.forall_mem_cons.mpr ⟨lw_p45, List.forall_mem_cons.mpr ⟨lw_p46, List.forall_mem_cons.mpr ⟨lw_p47, fun _ h => absurd h List.not_mem_nil⟩⟩⟩⟩⟩⟩⟩⟩⟩⟩⟩⟩⟩⟩⟩⟩
theorem lw_p48 : lw_okq (⟨"DoorsLocksModel", "tellIn", "(III)V"⟩, 27) := ⟨⟨by decide +kernel, by decide +kernel⟩, List.mem_of_getElem? (i := 509) (by decide +kernel), List.mem_of_getElem? (i := 745) (by decide +kernel), List.mem_of_getElem? (i := 746) (by decide +kernel)⟩
theorem lw_p49 : lw_okq (⟨"DoorsLocksModel", "tell", "(II)V"⟩, 27) := ⟨⟨by decide +kernel, by decide +kernel⟩, List.mem_of_getElem? (i := 509) (by decide +kernel), List.mem_of_getElem? (i := 749) (by decide +kernel), List.mem_of_getElem? (i := 750) (by decide +kernel)⟩
theorem lw_p50 : lw_okq (⟨"DoorsLocksModel", "measure", "(I)V"⟩, 27) := ⟨⟨by decide +kernel, by decide +kernel⟩, List.mem_of_getElem? (i := 509) (by decide +kernel), List.mem_of_getElem? (i := 765) (by decide +kernel), List.mem_of_getElem? (i := 766) (by decide +kernel)⟩
theorem lw_p51 : lw_okq (⟨"DoorsLocksModel", "step", "(I)I"⟩, 27) := ⟨⟨by decide +kernel, by decide +kernel⟩, List.mem_of_getElem? (i := 509) (by decide +kernel), List.mem_of_getElem? (i := 769) (by decide +kernel), List.mem_of_getElem? (i := 770) (by decide +kernel)⟩
theorem lw_p52 : lw_okq (⟨"DoorsLocksModel", "leastOf", "(I)I"⟩, 27) := ⟨⟨by decide +kernel, by decide +kernel⟩, List.mem_of_getElem? (i := 509) (by decide +kernel), List.mem_of_getElem? (i := 793) (by decide +kernel), List.mem_of_getElem? (i := 794) (by decide +kernel)⟩
def lw_privs_4 : List (MethodName × Nat) := [(⟨"DoorsLocksModel", "tellIn", "(III)V"⟩, 27), (⟨"DoorsLocksModel", "tell", "(II)V"⟩, 27), (⟨"DoorsLocksModel", "measure", "(I)V"⟩, 27), (⟨"DoorsLocksModel", "step", "(I)I"⟩, 27), (⟨"DoorsLocksModel", "leastOf", "(I)I"⟩, 27)]
theorem lw_r4 : ∀ q ∈ lw_privs_4, lw_okq q := List.forall_mem_cons.mpr ⟨lw_p48, List.forall_mem_cons.mpr ⟨lw_p49, List.forall_mem_cons.mpr ⟨lw_p50, List.forall_mem_cons.mpr ⟨lw_p51, List.forall_mem_cons.mpr ⟨lw_p52, fun _ h => absurd h List.not_mem_nil⟩⟩⟩⟩⟩
def lw_privs : List (MethodName × Nat) := lw_privs_1 ++ (lw_privs_2 ++ (lw_privs_3 ++ (lw_privs_4)))
def lw_tbl : List Cond := k2_sels lw_privs ++ tables_1
theorem lw_privs_ok : ∀ q ∈ lw_privs, lw_okq q := by
  show ∀ q ∈ lw_privs_1 ++ (lw_privs_2 ++ (lw_privs_3 ++ (lw_privs_4))), lw_okq q
  exact List.forall_mem_append.mpr ⟨lw_r1, List.forall_mem_append.mpr ⟨lw_r2, List.forall_mem_append.mpr ⟨lw_r3, lw_r4⟩⟩⟩
end
section
def RX0 : String := "DoorsLocks$Being"
def TX0 : u_T := fun k => match k with
  | 0 => ("DoorsLocks$Being", "number", "I", true)
  | 1 => ("DoorsLocks$Being", "latest", "[I", true)
  | 2 => ("DoorsLocks$Being", "room", "I", false)
  | 3 => ("DoorsLocks$Being", "held", "I", false)
  | 4 => ("DoorsLocks$Being", "newsKept", "I", false)
  | 5 => ("DoorsLocks$Being", "came", "I", false)
  | _ => ("DoorsLocks$Being", "within", "LDoorsLocks$Thing;", false)
def tyX0 : Nat → FieldType := fun k => match k with
  | 0 => .int
  | 1 => .array .int
  | 2 => .int
  | 3 => .int
  | 4 => .int
  | 5 => .int
  | _ => .object "DoorsLocks$Thing"
theorem nmX0 : ∀ a, a < 7 → ∀ b, b < 7 → a ≠ b → (TX0 a).2.1 ≠ (TX0 b).2.1 := by decide +kernel
theorem tyX0_ok : ∀ k, k < 7 → parseFieldDescriptor (TX0 k).2.2.1 = some (tyX0 k) := by decide +kernel
abbrev cX0_init : ByteArray := prog_2_method_1_code
def yX0_init : MethodName := ⟨RX0, "<init>", "(II)V"⟩
abbrev cX0_hear : ByteArray := prog_2_method_2_code
def yX0_hear : MethodName := ⟨RX0, "hear", "(I)V"⟩
def RX1 : String := "DoorsLocks$Door"
def TX1 : u_T := fun k => match k with
  | 0 => ("DoorsLocks$Door", "first", "I", true)
  | 1 => ("DoorsLocks$Door", "second", "I", true)
  | 2 => ("DoorsLocks$Door", "open", "Z", false)
  | 3 => ("DoorsLocks$Door", "locked", "Z", false)
  | _ => ("DoorsLocks$Door", "key", "LDoorsLocks$Thing;", false)
def tyX1 : Nat → FieldType := fun k => match k with
  | 0 => .int
  | 1 => .int
  | 2 => .boolean
  | 3 => .boolean
  | _ => .object "DoorsLocks$Thing"
theorem nmX1 : ∀ a, a < 5 → ∀ b, b < 5 → a ≠ b → (TX1 a).2.1 ≠ (TX1 b).2.1 := by decide +kernel
theorem tyX1_ok : ∀ k, k < 5 → parseFieldDescriptor (TX1 k).2.2.1 = some (tyX1 k) := by decide +kernel
abbrev cX1_init : ByteArray := prog_3_method_1_code
def yX1_init : MethodName := ⟨RX1, "<init>", "(II)V"⟩
abbrev cX1_hasSide : ByteArray := prog_3_method_2_code
def yX1_hasSide : MethodName := ⟨RX1, "hasSide", "(I)Z"⟩
abbrev cX1_sideFrom : ByteArray := prog_3_method_3_code
def yX1_sideFrom : MethodName := ⟨RX1, "sideFrom", "(I)I"⟩
abbrev cX1_obstacle : ByteArray := prog_3_method_4_code
def yX1_obstacle : MethodName := ⟨RX1, "obstacle", "()I"⟩
def RX2 : String := "DoorsLocks$Rule"
def TX2 : u_T := fun k => match k with
  | 0 => ("DoorsLocks$Rule", "row", "[I", true)
  | 1 => ("DoorsLocks$Rule", "length", "I", false)
  | _ => ("DoorsLocks$Rule", "next", "I", false)
def tyX2 : Nat → FieldType := fun k => match k with
  | 0 => .array .int
  | 1 => .int
  | _ => .int
theorem nmX2 : ∀ a, a < 3 → ∀ b, b < 3 → a ≠ b → (TX2 a).2.1 ≠ (TX2 b).2.1 := by decide +kernel
theorem tyX2_ok : ∀ k, k < 3 → parseFieldDescriptor (TX2 k).2.2.1 = some (tyX2 k) := by decide +kernel
abbrev cX2_init : ByteArray := prog_4_method_1_code
def yX2_init : MethodName := ⟨RX2, "<init>", "()V"⟩
abbrev cX2_append : ByteArray := prog_4_method_2_code
def yX2_append : MethodName := ⟨RX2, "append", "(I)Z"⟩
abbrev cX2_current : ByteArray := prog_4_method_3_code
def yX2_current : MethodName := ⟨RX2, "current", "()I"⟩
abbrev cX2_advance : ByteArray := prog_4_method_4_code
def yX2_advance : MethodName := ⟨RX2, "advance", "()V"⟩
def RX3 : String := "DoorsLocks$Search"
def TX3 : u_T := fun k => match k with
  | 0 => ("DoorsLocks$Search", "queue", "[I", true)
  | 1 => ("DoorsLocks$Search", "steps", "[I", true)
  | 2 => ("DoorsLocks$Search", "before", "[I", true)
  | 3 => ("DoorsLocks$Search", "last", "[I", true)
  | _ => ("DoorsLocks$Search", "reached", "I", false)
def tyX3 : Nat → FieldType := fun k => match k with
  | 0 => .array .int
  | 1 => .array .int
  | 2 => .array .int
  | 3 => .array .int
  | _ => .int
theorem nmX3 : ∀ a, a < 5 → ∀ b, b < 5 → a ≠ b → (TX3 a).2.1 ≠ (TX3 b).2.1 := by decide +kernel
theorem tyX3_ok : ∀ k, k < 5 → parseFieldDescriptor (TX3 k).2.2.1 = some (tyX3 k) := by decide +kernel
abbrev cX3_init : ByteArray := prog_5_method_1_code
def yX3_init : MethodName := ⟨RX3, "<init>", "()V"⟩
abbrev cX3_begin : ByteArray := prog_5_method_2_code
def yX3_begin : MethodName := ⟨RX3, "begin", "(I)V"⟩
abbrev cX3_reach : ByteArray := prog_5_method_3_code
def yX3_reach : MethodName := ⟨RX3, "reach", "(III)V"⟩
abbrev cX3_stepsTo : ByteArray := prog_5_method_4_code
def yX3_stepsTo : MethodName := ⟨RX3, "stepsTo", "(I)I"⟩
abbrev cX3_directionOfStep : ByteArray := prog_5_method_5_code
def yX3_directionOfStep : MethodName := ⟨RX3, "directionOfStep", "(II)I"⟩
abbrev cX3_isNumber : ByteArray := prog_5_method_6_code
def yX3_isNumber : MethodName := ⟨RX3, "isNumber", "(I)Z"⟩
def RX4 : String := "DoorsLocks$Thing"
def TX4 : u_T := fun k => match k with
  | 0 => ("DoorsLocks$Thing", "number", "I", true)
  | 1 => ("DoorsLocks$Thing", "sort", "I", true)
  | 2 => ("DoorsLocks$Thing", "size", "I", true)
  | 3 => ("DoorsLocks$Thing", "room", "I", false)
  | 4 => ("DoorsLocks$Thing", "region", "I", false)
  | 5 => ("DoorsLocks$Thing", "holder", "LDoorsLocks$Being;", false)
  | _ => ("DoorsLocks$Thing", "shut", "Z", false)
def tyX4 : Nat → FieldType := fun k => match k with
  | 0 => .int
  | 1 => .int
  | 2 => .int
  | 3 => .int
  | 4 => .int
  | 5 => .object "DoorsLocks$Being"
  | _ => .boolean
theorem nmX4 : ∀ a, a < 7 → ∀ b, b < 7 → a ≠ b → (TX4 a).2.1 ≠ (TX4 b).2.1 := by decide +kernel
theorem tyX4_ok : ∀ k, k < 7 → parseFieldDescriptor (TX4 k).2.2.1 = some (tyX4 k) := by decide +kernel
abbrev cX4_init : ByteArray := prog_6_method_1_code
def yX4_init : MethodName := ⟨RX4, "<init>", "(IIII)V"⟩
def RX5 : String := "DoorsLocks"
def TX5 : u_T := fun k => match k with
  | 0 => ("DoorsLocks", "ways", "[I", true)
  | 1 => ("DoorsLocks", "widths", "[I", true)
  | 2 => ("DoorsLocks", "rules", "[LDoorsLocks$Rule;", true)
  | 3 => ("DoorsLocks", "regions", "[I", true)
  | 4 => ("DoorsLocks", "doors", "[LDoorsLocks$Door;", true)
  | 5 => ("DoorsLocks", "things", "[LDoorsLocks$Thing;", true)
  | 6 => ("DoorsLocks", "beings", "[LDoorsLocks$Being;", true)
  | 7 => ("DoorsLocks", "search", "LDoorsLocks$Search;", true)
  | 8 => ("DoorsLocks", "roomCount", "I", false)
  | 9 => ("DoorsLocks", "doorCount", "I", false)
  | 10 => ("DoorsLocks", "thingCount", "I", false)
  | _ => ("DoorsLocks", "beingCount", "I", false)
def tyX5 : Nat → FieldType := fun k => match k with
  | 0 => .array .int
  | 1 => .array .int
  | 2 => .array (.object "DoorsLocks$Rule")
  | 3 => .array .int
  | 4 => .array (.object "DoorsLocks$Door")
  | 5 => .array (.object "DoorsLocks$Thing")
  | 6 => .array (.object "DoorsLocks$Being")
  | 7 => .object "DoorsLocks$Search"
  | 8 => .int
  | 9 => .int
  | 10 => .int
  | _ => .int
theorem nmX5 : ∀ a, a < 12 → ∀ b, b < 12 → a ≠ b → (TX5 a).2.1 ≠ (TX5 b).2.1 := by decide +kernel
theorem tyX5_ok : ∀ k, k < 12 → parseFieldDescriptor (TX5 k).2.2.1 = some (tyX5 k) := by decide +kernel
abbrev cX5_init : ByteArray := prog_1_method_1_code
def yX5_init : MethodName := ⟨RX5, "<init>", "()V"⟩
abbrev cX5_room : ByteArray := prog_1_method_2_code
def yX5_room : MethodName := ⟨RX5, "room", "()I"⟩
abbrev cX5_door : ByteArray := prog_1_method_3_code
def yX5_door : MethodName := ⟨RX5, "door", "(II)I"⟩
abbrev cX5_exit : ByteArray := prog_1_method_4_code
def yX5_exit : MethodName := ⟨RX5, "exit", "(III)I"⟩
abbrev cX5_width : ByteArray := prog_1_method_5_code
def yX5_width : MethodName := ⟨RX5, "width", "(III)I"⟩
abbrev cX5_turn : ByteArray := prog_1_method_6_code
def yX5_turn : MethodName := ⟨RX5, "turn", "(II)I"⟩
abbrev cX5_region : ByteArray := prog_1_method_7_code
def yX5_region : MethodName := ⟨RX5, "region", "(IIZ)I"⟩
abbrev cX5_lock : ByteArray := prog_1_method_8_code
def yX5_lock : MethodName := ⟨RX5, "lock", "(IIZ)I"⟩
abbrev cX5_thing : ByteArray := prog_1_method_9_code
def yX5_thing : MethodName := ⟨RX5, "thing", "(III)I"⟩
abbrev cX5_floats : ByteArray := prog_1_method_10_code
def yX5_floats : MethodName := ⟨RX5, "floats", "(II)I"⟩
abbrev cX5_being : ByteArray := prog_1_method_11_code
def yX5_being : MethodName := ⟨RX5, "being", "(I)I"⟩
abbrev cX5_act : ByteArray := prog_1_method_12_code
def yX5_act : MethodName := ⟨RX5, "act", "(III)I"⟩
abbrev cX5_handle : ByteArray := prog_1_method_13_code
def yX5_handle : MethodName := ⟨RX5, "handle", "(III)I"⟩
abbrev cX5_leave : ByteArray := prog_1_method_14_code
def yX5_leave : MethodName := ⟨RX5, "leave", "(I)I"⟩
abbrev cX5_go : ByteArray := prog_1_method_15_code
def yX5_go : MethodName := ⟨RX5, "go", "(II)I"⟩
abbrev cX5_push : ByteArray := prog_1_method_16_code
def yX5_push : MethodName := ⟨RX5, "push", "(III)I"⟩
abbrev cX5_back : ByteArray := prog_1_method_17_code
def yX5_back : MethodName := ⟨RX5, "back", "(I)I"⟩
abbrev cX5_follow : ByteArray := prog_1_method_18_code
def yX5_follow : MethodName := ⟨RX5, "follow", "(II)I"⟩
abbrev cX5_route : ByteArray := prog_1_method_19_code
def yX5_route : MethodName := ⟨RX5, "route", "(III)I"⟩
abbrev cX5_way : ByteArray := prog_1_method_20_code
def yX5_way : MethodName := ⟨RX5, "way", "(II)I"⟩
abbrev cX5_leads : ByteArray := prog_1_method_21_code
def yX5_leads : MethodName := ⟨RX5, "leads", "(II)I"⟩
abbrev cX5_state : ByteArray := prog_1_method_22_code
def yX5_state : MethodName := ⟨RX5, "state", "(I)I"⟩
abbrev cX5_thingIs : ByteArray := prog_1_method_23_code
def yX5_thingIs : MethodName := ⟨RX5, "thingIs", "(II)I"⟩
abbrev cX5_beingIs : ByteArray := prog_1_method_24_code
def yX5_beingIs : MethodName := ⟨RX5, "beingIs", "(II)I"⟩
abbrev cX5_news : ByteArray := prog_1_method_25_code
def yX5_news : MethodName := ⟨RX5, "news", "(II)I"⟩
abbrev cX5_here : ByteArray := prog_1_method_26_code
def yX5_here : MethodName := ⟨RX5, "here", "(III)Z"⟩
abbrev cX5_count : ByteArray := prog_1_method_27_code
def yX5_count : MethodName := ⟨RX5, "count", "(I)I"⟩
abbrev cX5_isRoom : ByteArray := prog_1_method_28_code
def yX5_isRoom : MethodName := ⟨RX5, "isRoom", "(I)Z"⟩
abbrev cX5_isDirection : ByteArray := prog_1_method_29_code
def yX5_isDirection : MethodName := ⟨RX5, "isDirection", "(I)Z"⟩
abbrev cX5_isRegion : ByteArray := prog_1_method_30_code
def yX5_isRegion : MethodName := ⟨RX5, "isRegion", "(I)Z"⟩
abbrev cX5_isPlace : ByteArray := prog_1_method_31_code
def yX5_isPlace : MethodName := ⟨RX5, "isPlace", "(II)Z"⟩
abbrev cX5_placeOf : ByteArray := prog_1_method_32_code
def yX5_placeOf : MethodName := ⟨RX5, "placeOf", "(II)I"⟩
abbrev cX5_ruleAt : ByteArray := prog_1_method_33_code
def yX5_ruleAt : MethodName := ⟨RX5, "ruleAt", "(I)LDoorsLocks$Rule;"⟩
abbrev cX5_doorAt : ByteArray := prog_1_method_34_code
def yX5_doorAt : MethodName := ⟨RX5, "doorAt", "(I)LDoorsLocks$Door;"⟩
abbrev cX5_thingAt : ByteArray := prog_1_method_35_code
def yX5_thingAt : MethodName := ⟨RX5, "thingAt", "(I)LDoorsLocks$Thing;"⟩
abbrev cX5_beingAt : ByteArray := prog_1_method_36_code
def yX5_beingAt : MethodName := ⟨RX5, "beingAt", "(I)LDoorsLocks$Being;"⟩
abbrev cX5_orNoSuch : ByteArray := prog_1_method_37_code
def yX5_orNoSuch : MethodName := ⟨RX5, "orNoSuch", "(I)I"⟩
abbrev cX5_mayBeWayOf : ByteArray := prog_1_method_38_code
def yX5_mayBeWayOf : MethodName := ⟨RX5, "mayBeWayOf", "(II)Z"⟩
abbrev cX5_doorOfWay : ByteArray := prog_1_method_39_code
def yX5_doorOfWay : MethodName := ⟨RX5, "doorOfWay", "(I)LDoorsLocks$Door;"⟩
abbrev cX5_ruleOfWay : ByteArray := prog_1_method_40_code
def yX5_ruleOfWay : MethodName := ⟨RX5, "ruleOfWay", "(I)LDoorsLocks$Rule;"⟩
abbrev cX5_leadsTo : ByteArray := prog_1_method_41_code
def yX5_leadsTo : MethodName := ⟨RX5, "leadsTo", "(II)I"⟩
abbrev cX5_countWays : ByteArray := prog_1_method_42_code
def yX5_countWays : MethodName := ⟨RX5, "countWays", "(Z)I"⟩
abbrev cX5_searchFrom : ByteArray := prog_1_method_43_code
def yX5_searchFrom : MethodName := ⟨RX5, "searchFrom", "(I)V"⟩
abbrev cX5_isShutIn : ByteArray := prog_1_method_44_code
def yX5_isShutIn : MethodName := ⟨RX5, "isShutIn", "(LDoorsLocks$Being;)Z"⟩
abbrev cX5_isDoorHere : ByteArray := prog_1_method_45_code
def yX5_isDoorHere : MethodName := ⟨RX5, "isDoorHere", "(LDoorsLocks$Being;LDoorsLocks$Door;)Z"⟩
abbrev cX5_isThingHere : ByteArray := prog_1_method_46_code
def yX5_isThingHere : MethodName := ⟨RX5, "isThingHere", "(LDoorsLocks$Being;LDoorsLocks$Thing;)Z"⟩
abbrev cX5_isInRoom : ByteArray := prog_1_method_47_code
def yX5_isInRoom : MethodName := ⟨RX5, "isInRoom", "(LDoorsLocks$Thing;I)Z"⟩
abbrev cX5_isBeingHere : ByteArray := prog_1_method_48_code
def yX5_isBeingHere : MethodName := ⟨RX5, "isBeingHere", "(LDoorsLocks$Being;LDoorsLocks$Being;)Z"⟩
abbrev cX5_hasRoom : ByteArray := prog_1_method_49_code
def yX5_hasRoom : MethodName := ⟨RX5, "hasRoom", "(II)Z"⟩
abbrev cX5_leastRoomOf : ByteArray := prog_1_method_50_code
def yX5_leastRoomOf : MethodName := ⟨RX5, "leastRoomOf", "(I)I"⟩
abbrev cX5_placeOfThing : ByteArray := prog_1_method_51_code
def yX5_placeOfThing : MethodName := ⟨RX5, "placeOfThing", "(LDoorsLocks$Thing;)I"⟩
abbrev cX5_openDoor : ByteArray := prog_1_method_52_code
def yX5_openDoor : MethodName := ⟨RX5, "openDoor", "(LDoorsLocks$Door;)I"⟩
abbrev cX5_closeDoor : ByteArray := prog_1_method_53_code
def yX5_closeDoor : MethodName := ⟨RX5, "closeDoor", "(LDoorsLocks$Door;)I"⟩
abbrev cX5_turnKey : ByteArray := prog_1_method_54_code
def yX5_turnKey : MethodName := ⟨RX5, "turnKey", "(LDoorsLocks$Being;LDoorsLocks$Door;Z)I"⟩
abbrev cX5_holdsAnyKey : ByteArray := prog_1_method_55_code
def yX5_holdsAnyKey : MethodName := ⟨RX5, "holdsAnyKey", "(LDoorsLocks$Being;)Z"⟩
abbrev cX5_take : ByteArray := prog_1_method_56_code
def yX5_take : MethodName := ⟨RX5, "take", "(LDoorsLocks$Being;LDoorsLocks$Thing;)I"⟩
abbrev cX5_drop : ByteArray := prog_1_method_57_code
def yX5_drop : MethodName := ⟨RX5, "drop", "(LDoorsLocks$Being;LDoorsLocks$Thing;)I"⟩
abbrev cX5_climbInto : ByteArray := prog_1_method_58_code
def yX5_climbInto : MethodName := ⟨RX5, "climbInto", "(LDoorsLocks$Being;LDoorsLocks$Thing;)I"⟩
abbrev cX5_setShut : ByteArray := prog_1_method_59_code
def yX5_setShut : MethodName := ⟨RX5, "setShut", "(LDoorsLocks$Thing;Z)I"⟩
abbrev cX5_goBy : ByteArray := prog_1_method_60_code
def yX5_goBy : MethodName := ⟨RX5, "goBy", "(LDoorsLocks$Being;I)I"⟩
abbrev cX5_directionBack : ByteArray := prog_1_method_61_code
def yX5_directionBack : MethodName := ⟨RX5, "directionBack", "(LDoorsLocks$Being;)I"⟩
abbrev cX5_travel : ByteArray := prog_1_method_62_code
def yX5_travel : MethodName := ⟨RX5, "travel", "(LDoorsLocks$Being;LDoorsLocks$Thing;I)I"⟩
abbrev cX5_obstacleOf : ByteArray := prog_1_method_63_code
def yX5_obstacleOf : MethodName := ⟨RX5, "obstacleOf", "(I)I"⟩
abbrev cX5_takeTurn : ByteArray := prog_1_method_64_code
def yX5_takeTurn : MethodName := ⟨RX5, "takeTurn", "(I)V"⟩
abbrev cX5_goesWith : ByteArray := prog_1_method_65_code
def yX5_goesWith : MethodName := ⟨RX5, "goesWith", "(LDoorsLocks$Being;LDoorsLocks$Being;LDoorsLocks$Thing;)Z"⟩
abbrev cX5_tellOfAll : ByteArray := prog_1_method_66_code
def yX5_tellOfAll : MethodName := ⟨RX5, "tellOfAll", "(LDoorsLocks$Being;LDoorsLocks$Thing;II)V"⟩
abbrev cX5_tellOthersIn : ByteArray := prog_1_method_67_code
def yX5_tellOthersIn : MethodName := ⟨RX5, "tellOthersIn", "(IILDoorsLocks$Being;LDoorsLocks$Thing;)V"⟩
abbrev cX5_moveAll : ByteArray := prog_1_method_68_code
def yX5_moveAll : MethodName := ⟨RX5, "moveAll", "(LDoorsLocks$Being;LDoorsLocks$Thing;I)V"⟩
def RX6 : String := "DoorsLocksModel"
def TX6 : u_T := fun k => match k with
  | 0 => ("DoorsLocksModel", "code", "I", false)
  | 1 => ("DoorsLocksModel", "rooms", "I", false)
  | 2 => ("DoorsLocksModel", "ways", "[I", true)
  | 3 => ("DoorsLocksModel", "widths", "[I", true)
  | 4 => ("DoorsLocksModel", "doors", "I", false)
  | 5 => ("DoorsLocksModel", "sideA", "[I", true)
  | 6 => ("DoorsLocksModel", "sideB", "[I", true)
  | 7 => ("DoorsLocksModel", "keys", "[I", true)
  | 8 => ("DoorsLocksModel", "isOpen", "[Z", true)
  | 9 => ("DoorsLocksModel", "isLocked", "[Z", true)
  | 10 => ("DoorsLocksModel", "things", "I", false)
  | 11 => ("DoorsLocksModel", "sorts", "[I", true)
  | 12 => ("DoorsLocksModel", "sizes", "[I", true)
  | 13 => ("DoorsLocksModel", "places", "[I", true)
  | 14 => ("DoorsLocksModel", "floating", "[I", true)
  | 15 => ("DoorsLocksModel", "isShut", "[Z", true)
  | 16 => ("DoorsLocksModel", "beings", "I", false)
  | 17 => ("DoorsLocksModel", "at", "[I", true)
  | 18 => ("DoorsLocksModel", "within", "[I", true)
  | 19 => ("DoorsLocksModel", "came", "[I", true)
  | 20 => ("DoorsLocksModel", "news", "[I", true)
  | 21 => ("DoorsLocksModel", "newsMany", "[I", true)
  | 22 => ("DoorsLocksModel", "ruleRooms", "[I", true)
  | 23 => ("DoorsLocksModel", "ruleMany", "[I", true)
  | 24 => ("DoorsLocksModel", "ruleTurn", "[I", true)
  | 25 => ("DoorsLocksModel", "regions", "[Z", true)
  | _ => ("DoorsLocksModel", "far", "[I", true)
def tyX6 : Nat → FieldType := fun k => match k with
  | 0 => .int
  | 1 => .int
  | 2 => .array .int
  | 3 => .array .int
  | 4 => .int
  | 5 => .array .int
  | 6 => .array .int
  | 7 => .array .int
  | 8 => .array .boolean
  | 9 => .array .boolean
  | 10 => .int
  | 11 => .array .int
  | 12 => .array .int
  | 13 => .array .int
  | 14 => .array .int
  | 15 => .array .boolean
  | 16 => .int
  | 17 => .array .int
  | 18 => .array .int
  | 19 => .array .int
  | 20 => .array .int
  | 21 => .array .int
  | 22 => .array .int
  | 23 => .array .int
  | 24 => .array .int
  | 25 => .array .boolean
  | _ => .array .int
theorem nmX6 : ∀ a, a < 27 → ∀ b, b < 27 → a ≠ b → (TX6 a).2.1 ≠ (TX6 b).2.1 := by decide +kernel
theorem tyX6_ok : ∀ k, k < 27 → parseFieldDescriptor (TX6 k).2.2.1 = some (tyX6 k) := by decide +kernel
abbrev cX6_init : ByteArray := prog_8_method_1_code
def yX6_init : MethodName := ⟨RX6, "<init>", "()V"⟩
abbrev cX6_in : ByteArray := prog_8_method_3_code
def yX6_in : MethodName := ⟨RX6, "in", "(III)Z"⟩
abbrev cX6_isRoom : ByteArray := prog_8_method_4_code
def yX6_isRoom : MethodName := ⟨RX6, "isRoom", "(I)Z"⟩
abbrev cX6_isDoor : ByteArray := prog_8_method_5_code
def yX6_isDoor : MethodName := ⟨RX6, "isDoor", "(I)Z"⟩
abbrev cX6_isThing : ByteArray := prog_8_method_6_code
def yX6_isThing : MethodName := ⟨RX6, "isThing", "(I)Z"⟩
abbrev cX6_isBeing : ByteArray := prog_8_method_7_code
def yX6_isBeing : MethodName := ⟨RX6, "isBeing", "(I)Z"⟩
abbrev cX6_room : ByteArray := prog_8_method_8_code
def yX6_room : MethodName := ⟨RX6, "room", "()I"⟩
abbrev cX6_door : ByteArray := prog_8_method_9_code
def yX6_door : MethodName := ⟨RX6, "door", "(II)I"⟩
abbrev cX6_isSide : ByteArray := prog_8_method_10_code
def yX6_isSide : MethodName := ⟨RX6, "isSide", "(II)Z"⟩
abbrev cX6_mayBe : ByteArray := prog_8_method_11_code
def yX6_mayBe : MethodName := ⟨RX6, "mayBe", "(II)Z"⟩
abbrev cX6_exit : ByteArray := prog_8_method_12_code
def yX6_exit : MethodName := ⟨RX6, "exit", "(III)I"⟩
abbrev cX6_width : ByteArray := prog_8_method_13_code
def yX6_width : MethodName := ⟨RX6, "width", "(III)I"⟩
abbrev cX6_turn : ByteArray := prog_8_method_14_code
def yX6_turn : MethodName := ⟨RX6, "turn", "(II)I"⟩
abbrev cX6_region : ByteArray := prog_8_method_15_code
def yX6_region : MethodName := ⟨RX6, "region", "(IIZ)I"⟩
abbrev cX6_lock : ByteArray := prog_8_method_16_code
def yX6_lock : MethodName := ⟨RX6, "lock", "(IIZ)I"⟩
abbrev cX6_thing : ByteArray := prog_8_method_17_code
def yX6_thing : MethodName := ⟨RX6, "thing", "(III)I"⟩
abbrev cX6_floats : ByteArray := prog_8_method_18_code
def yX6_floats : MethodName := ⟨RX6, "floats", "(II)I"⟩
abbrev cX6_being : ByteArray := prog_8_method_19_code
def yX6_being : MethodName := ⟨RX6, "being", "(I)I"⟩
abbrev cX6_isShutIn : ByteArray := prog_8_method_20_code
def yX6_isShutIn : MethodName := ⟨RX6, "isShutIn", "(I)Z"⟩
abbrev cX6_isThingIn : ByteArray := prog_8_method_21_code
def yX6_isThingIn : MethodName := ⟨RX6, "isThingIn", "(II)Z"⟩
abbrev cX6_holds : ByteArray := prog_8_method_22_code
def yX6_holds : MethodName := ⟨RX6, "holds", "(II)Z"⟩
abbrev cX6_hasThing : ByteArray := prog_8_method_23_code
def yX6_hasThing : MethodName := ⟨RX6, "hasThing", "(II)Z"⟩
abbrev cX6_hasDoor : ByteArray := prog_8_method_24_code
def yX6_hasDoor : MethodName := ⟨RX6, "hasDoor", "(II)Z"⟩
abbrev cX6_held : ByteArray := prog_8_method_25_code
def yX6_held : MethodName := ⟨RX6, "held", "(I)I"⟩
abbrev cX6_here : ByteArray := prog_8_method_26_code
def yX6_here : MethodName := ⟨RX6, "here", "(III)Z"⟩
abbrev cX6_holdsOther : ByteArray := prog_8_method_27_code
def yX6_holdsOther : MethodName := ⟨RX6, "holdsOther", "(II)Z"⟩
abbrev cX6_actText : ByteArray := prog_8_method_28_code
def yX6_actText : MethodName := ⟨RX6, "actText", "(III)I"⟩
abbrev cX6_act : ByteArray := prog_8_method_29_code
def yX6_act : MethodName := ⟨RX6, "act", "(III)I"⟩
abbrev cX6_handleText : ByteArray := prog_8_method_30_code
def yX6_handleText : MethodName := ⟨RX6, "handleText", "(III)I"⟩
abbrev cX6_handle : ByteArray := prog_8_method_31_code
def yX6_handle : MethodName := ⟨RX6, "handle", "(III)I"⟩
abbrev cX6_leave : ByteArray := prog_8_method_32_code
def yX6_leave : MethodName := ⟨RX6, "leave", "(I)I"⟩
abbrev cX6_otherSide : ByteArray := prog_8_method_33_code
def yX6_otherSide : MethodName := ⟨RX6, "otherSide", "(II)I"⟩
abbrev cX6_leadsTo : ByteArray := prog_8_method_34_code
def yX6_leadsTo : MethodName := ⟨RX6, "leadsTo", "(II)I"⟩
abbrev cX6_wayText : ByteArray := prog_8_method_35_code
def yX6_wayText : MethodName := ⟨RX6, "wayText", "(III)I"⟩
abbrev cX6_tell : ByteArray := prog_8_method_36_code
def yX6_tell : MethodName := ⟨RX6, "tell", "(II)V"⟩
abbrev cX6_tellIn : ByteArray := prog_8_method_37_code
def yX6_tellIn : MethodName := ⟨RX6, "tellIn", "(III)V"⟩
abbrev cX6_move : ByteArray := prog_8_method_38_code
def yX6_move : MethodName := ⟨RX6, "move", "(IIII)I"⟩
abbrev cX6_insideOf : ByteArray := prog_8_method_39_code
def yX6_insideOf : MethodName := ⟨RX6, "insideOf", "(I)I"⟩
abbrev cX6_goBy : ByteArray := prog_8_method_40_code
def yX6_goBy : MethodName := ⟨RX6, "goBy", "(II)I"⟩
abbrev cX6_go : ByteArray := prog_8_method_41_code
def yX6_go : MethodName := ⟨RX6, "go", "(II)I"⟩
abbrev cX6_push : ByteArray := prog_8_method_42_code
def yX6_push : MethodName := ⟨RX6, "push", "(III)I"⟩
abbrev cX6_back : ByteArray := prog_8_method_43_code
def yX6_back : MethodName := ⟨RX6, "back", "(I)I"⟩
abbrev cX6_measure : ByteArray := prog_8_method_44_code
def yX6_measure : MethodName := ⟨RX6, "measure", "(I)V"⟩
abbrev cX6_step : ByteArray := prog_8_method_45_code
def yX6_step : MethodName := ⟨RX6, "step", "(I)I"⟩
abbrev cX6_follow : ByteArray := prog_8_method_46_code
def yX6_follow : MethodName := ⟨RX6, "follow", "(II)I"⟩
abbrev cX6_route : ByteArray := prog_8_method_47_code
def yX6_route : MethodName := ⟨RX6, "route", "(III)I"⟩
abbrev cX6_way : ByteArray := prog_8_method_48_code
def yX6_way : MethodName := ⟨RX6, "way", "(II)I"⟩
abbrev cX6_leads : ByteArray := prog_8_method_49_code
def yX6_leads : MethodName := ⟨RX6, "leads", "(II)I"⟩
abbrev cX6_state : ByteArray := prog_8_method_50_code
def yX6_state : MethodName := ⟨RX6, "state", "(I)I"⟩
abbrev cX6_leastOf : ByteArray := prog_8_method_51_code
def yX6_leastOf : MethodName := ⟨RX6, "leastOf", "(I)I"⟩
abbrev cX6_thingIs : ByteArray := prog_8_method_52_code
def yX6_thingIs : MethodName := ⟨RX6, "thingIs", "(II)I"⟩
abbrev cX6_beingIs : ByteArray := prog_8_method_53_code
def yX6_beingIs : MethodName := ⟨RX6, "beingIs", "(II)I"⟩
abbrev cX6_news : ByteArray := prog_8_method_54_code
def yX6_news : MethodName := ⟨RX6, "news", "(II)I"⟩
abbrev cX6_count : ByteArray := prog_8_method_55_code
def yX6_count : MethodName := ⟨RX6, "count", "(I)I"⟩
def RJ6 : String := "java/lang/Integer"
def TJ6 : u_T := fun k => match k with
  | _ => ("", "", "", false)
def tyJ6 : Nat → FieldType := fun k => match k with
  | _ => .int
theorem nmJ6 : ∀ a, a < 0 → ∀ b, b < 0 → a ≠ b → (TJ6 a).2.1 ≠ (TJ6 b).2.1 := by decide +kernel
theorem tyJ6_ok : ∀ k, k < 0 → parseFieldDescriptor (TJ6 k).2.2.1 = some (tyJ6 k) := by decide +kernel
abbrev cJ6_bitCount_0f7a4 : ByteArray := prog_9_method_49_code
def yJ6_bitCount_0f7a4 : MethodName := ⟨RJ6, "bitCount", "(I)I"⟩
def RJ10 : String := "java/lang/System"
def TJ10 : u_T := fun k => match k with
  | _ => ("", "", "", false)
def tyJ10 : Nat → FieldType := fun k => match k with
  | _ => .int
theorem nmJ10 : ∀ a, a < 0 → ∀ b, b < 0 → a ≠ b → (TJ10 a).2.1 ≠ (TJ10 b).2.1 := by decide +kernel
theorem tyJ10_ok : ∀ k, k < 0 → parseFieldDescriptor (TJ10 k).2.2.1 = some (tyJ10 k) := by decide +kernel
def RJ7 : String := "java/util/Arrays"
def TJ7 : u_T := fun k => match k with
  | _ => ("", "", "", false)
def tyJ7 : Nat → FieldType := fun k => match k with
  | _ => .int
theorem nmJ7 : ∀ a, a < 0 → ∀ b, b < 0 → a ≠ b → (TJ7 a).2.1 ≠ (TJ7 b).2.1 := by decide +kernel
theorem tyJ7_ok : ∀ k, k < 0 → parseFieldDescriptor (TJ7 k).2.2.1 = some (tyJ7 k) := by decide +kernel
abbrev cJ7_fill_53178 : ByteArray := prog_11_method_103_code
def yJ7_fill_53178 : MethodName := ⟨RJ7, "fill", "([II)V"⟩
def RL : String := "DoorsLocksLaw"
abbrev cL_law : ByteArray := code
def yL_law : MethodName := ⟨RL, "law", "([I)Z"⟩
end
section
theorem dX0_init_0 : decode cX0_init 0 = .ok (.aload_n 0, 1) := by decide +kernel
theorem dX0_init_1 : decode cX0_init 1 = .ok (.invokespecial 3, 3) := by decide +kernel
theorem dX0_init_4 : decode cX0_init 4 = .ok (.aload_n 0, 1) := by decide +kernel
theorem dX0_init_5 : decode cX0_init 5 = .ok (.bipush 8, 2) := by decide +kernel
theorem dX0_init_7 : decode cX0_init 7 = .ok (.newarray .int, 2) := by decide +kernel
theorem dX0_init_9 : decode cX0_init 9 = .ok (.putfield 9, 3) := by decide +kernel
theorem dX0_init_12 : decode cX0_init 12 = .ok (.aload_n 0, 1) := by decide +kernel
theorem dX0_init_13 : decode cX0_init 13 = .ok (.iconst (-1), 1) := by decide +kernel
theorem dX0_init_14 : decode cX0_init 14 = .ok (.putfield 15, 3) := by decide +kernel
theorem dX0_init_17 : decode cX0_init 17 = .ok (.aload_n 0, 1) := by decide +kernel
theorem dX0_init_18 : decode cX0_init 18 = .ok (.iload_n 1, 1) := by decide +kernel
theorem dX0_init_19 : decode cX0_init 19 = .ok (.putfield 19, 3) := by decide +kernel
theorem dX0_init_22 : decode cX0_init 22 = .ok (.aload_n 0, 1) := by decide +kernel
theorem dX0_init_23 : decode cX0_init 23 = .ok (.iload_n 2, 1) := by decide +kernel
theorem dX0_init_24 : decode cX0_init 24 = .ok (.putfield 22, 3) := by decide +kernel
theorem dX0_init_27 : decode cX0_init 27 = .ok (.return_, 1) := by decide +kernel
theorem dX0_hear_0 : decode cX0_hear 0 = .ok (.aload_n 0, 1) := by decide +kernel
theorem dX0_hear_1 : decode cX0_hear 1 = .ok (.getfield 9, 3) := by decide +kernel
theorem dX0_hear_4 : decode cX0_hear 4 = .ok (.iconst 0, 1) := by decide +kernel
theorem dX0_hear_5 : decode cX0_hear 5 = .ok (.aload_n 0, 1) := by decide +kernel
theorem dX0_hear_6 : decode cX0_hear 6 = .ok (.getfield 9, 3) := by decide +kernel
theorem dX0_hear_9 : decode cX0_hear 9 = .ok (.iconst 1, 1) := by decide +kernel
theorem dX0_hear_10 : decode cX0_hear 10 = .ok (.bipush 7, 2) := by decide +kernel
theorem dX0_hear_12 : decode cX0_hear 12 = .ok (.invokestatic 25, 3) := by decide +kernel
theorem dX0_hear_15 : decode cX0_hear 15 = .ok (.aload_n 0, 1) := by decide +kernel
theorem dX0_hear_16 : decode cX0_hear 16 = .ok (.getfield 9, 3) := by decide +kernel
theorem dX0_hear_19 : decode cX0_hear 19 = .ok (.iconst 0, 1) := by decide +kernel
theorem dX0_hear_20 : decode cX0_hear 20 = .ok (.iload_n 1, 1) := by decide +kernel
theorem dX0_hear_21 : decode cX0_hear 21 = .ok (.iastore, 1) := by decide +kernel
theorem dX0_hear_22 : decode cX0_hear 22 = .ok (.aload_n 0, 1) := by decide +kernel
theorem dX0_hear_23 : decode cX0_hear 23 = .ok (.aload_n 0, 1) := by decide +kernel
theorem dX0_hear_24 : decode cX0_hear 24 = .ok (.getfield 31, 3) := by decide +kernel
theorem dX0_hear_27 : decode cX0_hear 27 = .ok (.bipush 8, 2) := by decide +kernel
theorem dX0_hear_29 : decode cX0_hear 29 = .ok (.if_icmp .ge 12, 3) := by decide +kernel
theorem dX0_hear_32 : decode cX0_hear 32 = .ok (.aload_n 0, 1) := by decide +kernel
theorem dX0_hear_33 : decode cX0_hear 33 = .ok (.getfield 31, 3) := by decide +kernel
theorem dX0_hear_36 : decode cX0_hear 36 = .ok (.iconst 1, 1) := by decide +kernel
theorem dX0_hear_37 : decode cX0_hear 37 = .ok (.iadd, 1) := by decide +kernel
theorem dX0_hear_38 : decode cX0_hear 38 = .ok (.goto 5, 3) := by decide +kernel
theorem dX0_hear_41 : decode cX0_hear 41 = .ok (.bipush 8, 2) := by decide +kernel
theorem dX0_hear_43 : decode cX0_hear 43 = .ok (.putfield 31, 3) := by decide +kernel
theorem dX0_hear_46 : decode cX0_hear 46 = .ok (.return_, 1) := by decide +kernel
theorem dX1_init_0 : decode cX1_init 0 = .ok (.aload_n 0, 1) := by decide +kernel
theorem dX1_init_1 : decode cX1_init 1 = .ok (.invokespecial 3, 3) := by decide +kernel
theorem dX1_init_4 : decode cX1_init 4 = .ok (.aload_n 0, 1) := by decide +kernel
theorem dX1_init_5 : decode cX1_init 5 = .ok (.iload_n 1, 1) := by decide +kernel
theorem dX1_init_6 : decode cX1_init 6 = .ok (.putfield 9, 3) := by decide +kernel
theorem dX1_init_9 : decode cX1_init 9 = .ok (.aload_n 0, 1) := by decide +kernel
theorem dX1_init_10 : decode cX1_init 10 = .ok (.iload_n 2, 1) := by decide +kernel
theorem dX1_init_11 : decode cX1_init 11 = .ok (.putfield 15, 3) := by decide +kernel
theorem dX1_init_14 : decode cX1_init 14 = .ok (.return_, 1) := by decide +kernel
theorem dX1_hasSide_0 : decode cX1_hasSide 0 = .ok (.iload_n 1, 1) := by decide +kernel
theorem dX1_hasSide_1 : decode cX1_hasSide 1 = .ok (.aload_n 0, 1) := by decide +kernel
theorem dX1_hasSide_2 : decode cX1_hasSide 2 = .ok (.getfield 9, 3) := by decide +kernel
theorem dX1_hasSide_5 : decode cX1_hasSide 5 = .ok (.if_icmp .eq 11, 3) := by decide +kernel
theorem dX1_hasSide_8 : decode cX1_hasSide 8 = .ok (.iload_n 1, 1) := by decide +kernel
theorem dX1_hasSide_9 : decode cX1_hasSide 9 = .ok (.aload_n 0, 1) := by decide +kernel
theorem dX1_hasSide_10 : decode cX1_hasSide 10 = .ok (.getfield 15, 3) := by decide +kernel
theorem dX1_hasSide_13 : decode cX1_hasSide 13 = .ok (.if_icmp .ne 7, 3) := by decide +kernel
theorem dX1_hasSide_16 : decode cX1_hasSide 16 = .ok (.iconst 1, 1) := by decide +kernel
theorem dX1_hasSide_17 : decode cX1_hasSide 17 = .ok (.goto 4, 3) := by decide +kernel
theorem dX1_hasSide_20 : decode cX1_hasSide 20 = .ok (.iconst 0, 1) := by decide +kernel
theorem dX1_hasSide_21 : decode cX1_hasSide 21 = .ok (.ireturn, 1) := by decide +kernel
theorem dX1_sideFrom_0 : decode cX1_sideFrom 0 = .ok (.iload_n 1, 1) := by decide +kernel
theorem dX1_sideFrom_1 : decode cX1_sideFrom 1 = .ok (.aload_n 0, 1) := by decide +kernel
theorem dX1_sideFrom_2 : decode cX1_sideFrom 2 = .ok (.getfield 9, 3) := by decide +kernel
theorem dX1_sideFrom_5 : decode cX1_sideFrom 5 = .ok (.if_icmp .ne 10, 3) := by decide +kernel
theorem dX1_sideFrom_8 : decode cX1_sideFrom 8 = .ok (.aload_n 0, 1) := by decide +kernel
theorem dX1_sideFrom_9 : decode cX1_sideFrom 9 = .ok (.getfield 15, 3) := by decide +kernel
theorem dX1_sideFrom_12 : decode cX1_sideFrom 12 = .ok (.goto 7, 3) := by decide +kernel
theorem dX1_sideFrom_15 : decode cX1_sideFrom 15 = .ok (.aload_n 0, 1) := by decide +kernel
theorem dX1_sideFrom_16 : decode cX1_sideFrom 16 = .ok (.getfield 9, 3) := by decide +kernel
theorem dX1_sideFrom_19 : decode cX1_sideFrom 19 = .ok (.ireturn, 1) := by decide +kernel
theorem dX1_obstacle_0 : decode cX1_obstacle 0 = .ok (.aload_n 0, 1) := by decide +kernel
theorem dX1_obstacle_1 : decode cX1_obstacle 1 = .ok (.getfield 18, 3) := by decide +kernel
theorem dX1_obstacle_4 : decode cX1_obstacle 4 = .ok (.ifCond .ne 18, 3) := by decide +kernel
theorem dX1_obstacle_7 : decode cX1_obstacle 7 = .ok (.aload_n 0, 1) := by decide +kernel
theorem dX1_obstacle_8 : decode cX1_obstacle 8 = .ok (.getfield 22, 3) := by decide +kernel
theorem dX1_obstacle_11 : decode cX1_obstacle 11 = .ok (.ifCond .eq 8, 3) := by decide +kernel
theorem dX1_obstacle_14 : decode cX1_obstacle 14 = .ok (.bipush 27, 2) := by decide +kernel
theorem dX1_obstacle_16 : decode cX1_obstacle 16 = .ok (.goto 5, 3) := by decide +kernel
theorem dX1_obstacle_19 : decode cX1_obstacle 19 = .ok (.bipush 26, 2) := by decide +kernel
theorem dX1_obstacle_21 : decode cX1_obstacle 21 = .ok (.ireturn, 1) := by decide +kernel
theorem dX1_obstacle_22 : decode cX1_obstacle 22 = .ok (.aload_n 0, 1) := by decide +kernel
theorem dX1_obstacle_23 : decode cX1_obstacle 23 = .ok (.getfield 15, 3) := by decide +kernel
theorem dX1_obstacle_26 : decode cX1_obstacle 26 = .ok (.iconst (-1), 1) := by decide +kernel
theorem dX1_obstacle_27 : decode cX1_obstacle 27 = .ok (.if_icmp .ne 8, 3) := by decide +kernel
theorem dX1_obstacle_30 : decode cX1_obstacle 30 = .ok (.bipush 28, 2) := by decide +kernel
theorem dX1_obstacle_32 : decode cX1_obstacle 32 = .ok (.goto 4, 3) := by decide +kernel
theorem dX1_obstacle_35 : decode cX1_obstacle 35 = .ok (.iconst 0, 1) := by decide +kernel
theorem dX1_obstacle_36 : decode cX1_obstacle 36 = .ok (.ireturn, 1) := by decide +kernel
theorem dX2_init_0 : decode cX2_init 0 = .ok (.aload_n 0, 1) := by decide +kernel
theorem dX2_init_1 : decode cX2_init 1 = .ok (.invokespecial 3, 3) := by decide +kernel
theorem dX2_init_4 : decode cX2_init 4 = .ok (.aload_n 0, 1) := by decide +kernel
theorem dX2_init_5 : decode cX2_init 5 = .ok (.iconst 4, 1) := by decide +kernel
theorem dX2_init_6 : decode cX2_init 6 = .ok (.newarray .int, 2) := by decide +kernel
theorem dX2_init_8 : decode cX2_init 8 = .ok (.putfield 9, 3) := by decide +kernel
theorem dX2_init_11 : decode cX2_init 11 = .ok (.return_, 1) := by decide +kernel
theorem dX2_append_0 : decode cX2_append 0 = .ok (.aload_n 0, 1) := by decide +kernel
theorem dX2_append_1 : decode cX2_append 1 = .ok (.getfield 15, 3) := by decide +kernel
theorem dX2_append_4 : decode cX2_append 4 = .ok (.iconst 4, 1) := by decide +kernel
theorem dX2_append_5 : decode cX2_append 5 = .ok (.if_icmp .lt 5, 3) := by decide +kernel
theorem dX2_append_8 : decode cX2_append 8 = .ok (.iconst 0, 1) := by decide +kernel
theorem dX2_append_9 : decode cX2_append 9 = .ok (.ireturn, 1) := by decide +kernel
theorem dX2_append_10 : decode cX2_append 10 = .ok (.aload_n 0, 1) := by decide +kernel
theorem dX2_append_11 : decode cX2_append 11 = .ok (.getfield 9, 3) := by decide +kernel
theorem dX2_append_14 : decode cX2_append 14 = .ok (.aload_n 0, 1) := by decide +kernel
theorem dX2_append_15 : decode cX2_append 15 = .ok (.getfield 15, 3) := by decide +kernel
theorem dX2_append_18 : decode cX2_append 18 = .ok (.iload_n 1, 1) := by decide +kernel
theorem dX2_append_19 : decode cX2_append 19 = .ok (.iastore, 1) := by decide +kernel
theorem dX2_append_20 : decode cX2_append 20 = .ok (.aload_n 0, 1) := by decide +kernel
theorem dX2_append_21 : decode cX2_append 21 = .ok (.dup, 1) := by decide +kernel
theorem dX2_append_22 : decode cX2_append 22 = .ok (.getfield 15, 3) := by decide +kernel
theorem dX2_append_25 : decode cX2_append 25 = .ok (.iconst 1, 1) := by decide +kernel
theorem dX2_append_26 : decode cX2_append 26 = .ok (.iadd, 1) := by decide +kernel
theorem dX2_append_27 : decode cX2_append 27 = .ok (.putfield 15, 3) := by decide +kernel
theorem dX2_append_30 : decode cX2_append 30 = .ok (.iconst 1, 1) := by decide +kernel
theorem dX2_append_31 : decode cX2_append 31 = .ok (.ireturn, 1) := by decide +kernel
theorem dX2_current_0 : decode cX2_current 0 = .ok (.aload_n 0, 1) := by decide +kernel
theorem dX2_current_1 : decode cX2_current 1 = .ok (.getfield 19, 3) := by decide +kernel
theorem dX2_current_4 : decode cX2_current 4 = .ok (.aload_n 0, 1) := by decide +kernel
theorem dX2_current_5 : decode cX2_current 5 = .ok (.getfield 15, 3) := by decide +kernel
theorem dX2_current_8 : decode cX2_current 8 = .ok (.if_icmp .ge 15, 3) := by decide +kernel
theorem dX2_current_11 : decode cX2_current 11 = .ok (.aload_n 0, 1) := by decide +kernel
theorem dX2_current_12 : decode cX2_current 12 = .ok (.getfield 9, 3) := by decide +kernel
theorem dX2_current_15 : decode cX2_current 15 = .ok (.aload_n 0, 1) := by decide +kernel
theorem dX2_current_16 : decode cX2_current 16 = .ok (.getfield 19, 3) := by decide +kernel
theorem dX2_current_19 : decode cX2_current 19 = .ok (.iaload, 1) := by decide +kernel
theorem dX2_current_20 : decode cX2_current 20 = .ok (.goto 4, 3) := by decide +kernel
theorem dX2_current_23 : decode cX2_current 23 = .ok (.iconst (-1), 1) := by decide +kernel
theorem dX2_current_24 : decode cX2_current 24 = .ok (.ireturn, 1) := by decide +kernel
theorem dX2_advance_0 : decode cX2_advance 0 = .ok (.aload_n 0, 1) := by decide +kernel
theorem dX2_advance_1 : decode cX2_advance 1 = .ok (.aload_n 0, 1) := by decide +kernel
theorem dX2_advance_2 : decode cX2_advance 2 = .ok (.getfield 19, 3) := by decide +kernel
theorem dX2_advance_5 : decode cX2_advance 5 = .ok (.iconst 1, 1) := by decide +kernel
theorem dX2_advance_6 : decode cX2_advance 6 = .ok (.iadd, 1) := by decide +kernel
theorem dX2_advance_7 : decode cX2_advance 7 = .ok (.aload_n 0, 1) := by decide +kernel
theorem dX2_advance_8 : decode cX2_advance 8 = .ok (.getfield 15, 3) := by decide +kernel
theorem dX2_advance_11 : decode cX2_advance 11 = .ok (.if_icmp .ge 12, 3) := by decide +kernel
theorem dX2_advance_14 : decode cX2_advance 14 = .ok (.aload_n 0, 1) := by decide +kernel
theorem dX2_advance_15 : decode cX2_advance 15 = .ok (.getfield 19, 3) := by decide +kernel
theorem dX2_advance_18 : decode cX2_advance 18 = .ok (.iconst 1, 1) := by decide +kernel
theorem dX2_advance_19 : decode cX2_advance 19 = .ok (.iadd, 1) := by decide +kernel
theorem dX2_advance_20 : decode cX2_advance 20 = .ok (.goto 4, 3) := by decide +kernel
theorem dX2_advance_23 : decode cX2_advance 23 = .ok (.iconst 0, 1) := by decide +kernel
theorem dX2_advance_24 : decode cX2_advance 24 = .ok (.putfield 19, 3) := by decide +kernel
theorem dX2_advance_27 : decode cX2_advance 27 = .ok (.return_, 1) := by decide +kernel
theorem dX3_init_0 : decode cX3_init 0 = .ok (.aload_n 0, 1) := by decide +kernel
theorem dX3_init_1 : decode cX3_init 1 = .ok (.invokespecial 3, 3) := by decide +kernel
theorem dX3_init_4 : decode cX3_init 4 = .ok (.aload_n 0, 1) := by decide +kernel
theorem dX3_init_5 : decode cX3_init 5 = .ok (.bipush 20, 2) := by decide +kernel
theorem dX3_init_7 : decode cX3_init 7 = .ok (.newarray .int, 2) := by decide +kernel
theorem dX3_init_9 : decode cX3_init 9 = .ok (.putfield 9, 3) := by decide +kernel
theorem dX3_init_12 : decode cX3_init 12 = .ok (.aload_n 0, 1) := by decide +kernel
theorem dX3_init_13 : decode cX3_init 13 = .ok (.bipush 20, 2) := by decide +kernel
theorem dX3_init_15 : decode cX3_init 15 = .ok (.newarray .int, 2) := by decide +kernel
theorem dX3_init_17 : decode cX3_init 17 = .ok (.putfield 15, 3) := by decide +kernel
theorem dX3_init_20 : decode cX3_init 20 = .ok (.aload_n 0, 1) := by decide +kernel
theorem dX3_init_21 : decode cX3_init 21 = .ok (.bipush 20, 2) := by decide +kernel
theorem dX3_init_23 : decode cX3_init 23 = .ok (.newarray .int, 2) := by decide +kernel
theorem dX3_init_25 : decode cX3_init 25 = .ok (.putfield 18, 3) := by decide +kernel
theorem dX3_init_28 : decode cX3_init 28 = .ok (.aload_n 0, 1) := by decide +kernel
theorem dX3_init_29 : decode cX3_init 29 = .ok (.bipush 20, 2) := by decide +kernel
theorem dX3_init_31 : decode cX3_init 31 = .ok (.newarray .int, 2) := by decide +kernel
theorem dX3_init_33 : decode cX3_init 33 = .ok (.putfield 21, 3) := by decide +kernel
theorem dX3_init_36 : decode cX3_init 36 = .ok (.return_, 1) := by decide +kernel
theorem dX3_begin_0 : decode cX3_begin 0 = .ok (.aload_n 0, 1) := by decide +kernel
theorem dX3_begin_1 : decode cX3_begin 1 = .ok (.getfield 15, 3) := by decide +kernel
theorem dX3_begin_4 : decode cX3_begin 4 = .ok (.iconst (-1), 1) := by decide +kernel
theorem dX3_begin_5 : decode cX3_begin 5 = .ok (.invokestatic 24, 3) := by decide +kernel
theorem dX3_begin_8 : decode cX3_begin 8 = .ok (.aload_n 0, 1) := by decide +kernel
theorem dX3_begin_9 : decode cX3_begin 9 = .ok (.iconst 0, 1) := by decide +kernel
theorem dX3_begin_10 : decode cX3_begin 10 = .ok (.putfield 30, 3) := by decide +kernel
theorem dX3_begin_13 : decode cX3_begin 13 = .ok (.iload_n 1, 1) := by decide +kernel
theorem dX3_begin_14 : decode cX3_begin 14 = .ok (.invokestatic 34, 3) := by decide +kernel
theorem dX3_begin_17 : decode cX3_begin 17 = .ok (.ifCond .eq 22, 3) := by decide +kernel
theorem dX3_begin_20 : decode cX3_begin 20 = .ok (.aload_n 0, 1) := by decide +kernel
theorem dX3_begin_21 : decode cX3_begin 21 = .ok (.getfield 9, 3) := by decide +kernel
theorem dX3_begin_24 : decode cX3_begin 24 = .ok (.iconst 0, 1) := by decide +kernel
theorem dX3_begin_25 : decode cX3_begin 25 = .ok (.iload_n 1, 1) := by decide +kernel
theorem dX3_begin_26 : decode cX3_begin 26 = .ok (.iastore, 1) := by decide +kernel
theorem dX3_begin_27 : decode cX3_begin 27 = .ok (.aload_n 0, 1) := by decide +kernel
theorem dX3_begin_28 : decode cX3_begin 28 = .ok (.getfield 15, 3) := by decide +kernel
theorem dX3_begin_31 : decode cX3_begin 31 = .ok (.iload_n 1, 1) := by decide +kernel
theorem dX3_begin_32 : decode cX3_begin 32 = .ok (.iconst 0, 1) := by decide +kernel
theorem dX3_begin_33 : decode cX3_begin 33 = .ok (.iastore, 1) := by decide +kernel
theorem dX3_begin_34 : decode cX3_begin 34 = .ok (.aload_n 0, 1) := by decide +kernel
theorem dX3_begin_35 : decode cX3_begin 35 = .ok (.iconst 1, 1) := by decide +kernel
theorem dX3_begin_36 : decode cX3_begin 36 = .ok (.putfield 30, 3) := by decide +kernel
theorem dX3_begin_39 : decode cX3_begin 39 = .ok (.return_, 1) := by decide +kernel
theorem dX3_reach_0 : decode cX3_reach 0 = .ok (.iload_n 1, 1) := by decide +kernel
theorem dX3_reach_1 : decode cX3_reach 1 = .ok (.invokestatic 34, 3) := by decide +kernel
theorem dX3_reach_4 : decode cX3_reach 4 = .ok (.ifCond .eq 29, 3) := by decide +kernel
theorem dX3_reach_7 : decode cX3_reach 7 = .ok (.iload_n 2, 1) := by decide +kernel
theorem dX3_reach_8 : decode cX3_reach 8 = .ok (.invokestatic 34, 3) := by decide +kernel
theorem dX3_reach_11 : decode cX3_reach 11 = .ok (.ifCond .eq 22, 3) := by decide +kernel
theorem dX3_reach_14 : decode cX3_reach 14 = .ok (.aload_n 0, 1) := by decide +kernel
theorem dX3_reach_15 : decode cX3_reach 15 = .ok (.getfield 15, 3) := by decide +kernel
theorem dX3_reach_18 : decode cX3_reach 18 = .ok (.iload_n 1, 1) := by decide +kernel
theorem dX3_reach_19 : decode cX3_reach 19 = .ok (.iaload, 1) := by decide +kernel
theorem dX3_reach_20 : decode cX3_reach 20 = .ok (.iconst (-1), 1) := by decide +kernel
theorem dX3_reach_21 : decode cX3_reach 21 = .ok (.if_icmp .ne 12, 3) := by decide +kernel
theorem dX3_reach_24 : decode cX3_reach 24 = .ok (.aload_n 0, 1) := by decide +kernel
theorem dX3_reach_25 : decode cX3_reach 25 = .ok (.getfield 30, 3) := by decide +kernel
theorem dX3_reach_28 : decode cX3_reach 28 = .ok (.bipush 20, 2) := by decide +kernel
theorem dX3_reach_30 : decode cX3_reach 30 = .ok (.if_icmp .lt 4, 3) := by decide +kernel
theorem dX3_reach_33 : decode cX3_reach 33 = .ok (.return_, 1) := by decide +kernel
theorem dX3_reach_34 : decode cX3_reach 34 = .ok (.aload_n 0, 1) := by decide +kernel
theorem dX3_reach_35 : decode cX3_reach 35 = .ok (.getfield 15, 3) := by decide +kernel
theorem dX3_reach_38 : decode cX3_reach 38 = .ok (.iload_n 1, 1) := by decide +kernel
theorem dX3_reach_39 : decode cX3_reach 39 = .ok (.aload_n 0, 1) := by decide +kernel
theorem dX3_reach_40 : decode cX3_reach 40 = .ok (.getfield 15, 3) := by decide +kernel
theorem dX3_reach_43 : decode cX3_reach 43 = .ok (.iload_n 2, 1) := by decide +kernel
theorem dX3_reach_44 : decode cX3_reach 44 = .ok (.iaload, 1) := by decide +kernel
theorem dX3_reach_45 : decode cX3_reach 45 = .ok (.iconst 1, 1) := by decide +kernel
theorem dX3_reach_46 : decode cX3_reach 46 = .ok (.iadd, 1) := by decide +kernel
theorem dX3_reach_47 : decode cX3_reach 47 = .ok (.iastore, 1) := by decide +kernel
theorem dX3_reach_48 : decode cX3_reach 48 = .ok (.aload_n 0, 1) := by decide +kernel
theorem dX3_reach_49 : decode cX3_reach 49 = .ok (.getfield 18, 3) := by decide +kernel
theorem dX3_reach_52 : decode cX3_reach 52 = .ok (.iload_n 1, 1) := by decide +kernel
theorem dX3_reach_53 : decode cX3_reach 53 = .ok (.iload_n 2, 1) := by decide +kernel
theorem dX3_reach_54 : decode cX3_reach 54 = .ok (.iastore, 1) := by decide +kernel
theorem dX3_reach_55 : decode cX3_reach 55 = .ok (.aload_n 0, 1) := by decide +kernel
theorem dX3_reach_56 : decode cX3_reach 56 = .ok (.getfield 21, 3) := by decide +kernel
theorem dX3_reach_59 : decode cX3_reach 59 = .ok (.iload_n 1, 1) := by decide +kernel
theorem dX3_reach_60 : decode cX3_reach 60 = .ok (.iload_n 3, 1) := by decide +kernel
theorem dX3_reach_61 : decode cX3_reach 61 = .ok (.iastore, 1) := by decide +kernel
theorem dX3_reach_62 : decode cX3_reach 62 = .ok (.aload_n 0, 1) := by decide +kernel
theorem dX3_reach_63 : decode cX3_reach 63 = .ok (.getfield 9, 3) := by decide +kernel
theorem dX3_reach_66 : decode cX3_reach 66 = .ok (.aload_n 0, 1) := by decide +kernel
theorem dX3_reach_67 : decode cX3_reach 67 = .ok (.getfield 30, 3) := by decide +kernel
theorem dX3_reach_70 : decode cX3_reach 70 = .ok (.iload_n 1, 1) := by decide +kernel
theorem dX3_reach_71 : decode cX3_reach 71 = .ok (.iastore, 1) := by decide +kernel
theorem dX3_reach_72 : decode cX3_reach 72 = .ok (.aload_n 0, 1) := by decide +kernel
theorem dX3_reach_73 : decode cX3_reach 73 = .ok (.dup, 1) := by decide +kernel
theorem dX3_reach_74 : decode cX3_reach 74 = .ok (.getfield 30, 3) := by decide +kernel
theorem dX3_reach_77 : decode cX3_reach 77 = .ok (.iconst 1, 1) := by decide +kernel
theorem dX3_reach_78 : decode cX3_reach 78 = .ok (.iadd, 1) := by decide +kernel
theorem dX3_reach_79 : decode cX3_reach 79 = .ok (.putfield 30, 3) := by decide +kernel
theorem dX3_reach_82 : decode cX3_reach 82 = .ok (.return_, 1) := by decide +kernel
theorem dX3_stepsTo_0 : decode cX3_stepsTo 0 = .ok (.iload_n 1, 1) := by decide +kernel
theorem dX3_stepsTo_1 : decode cX3_stepsTo 1 = .ok (.invokestatic 34, 3) := by decide +kernel
theorem dX3_stepsTo_4 : decode cX3_stepsTo 4 = .ok (.ifCond .eq 12, 3) := by decide +kernel
theorem dX3_stepsTo_7 : decode cX3_stepsTo 7 = .ok (.aload_n 0, 1) := by decide +kernel
theorem dX3_stepsTo_8 : decode cX3_stepsTo 8 = .ok (.getfield 15, 3) := by decide +kernel
theorem dX3_stepsTo_11 : decode cX3_stepsTo 11 = .ok (.iload_n 1, 1) := by decide +kernel
theorem dX3_stepsTo_12 : decode cX3_stepsTo 12 = .ok (.iaload, 1) := by decide +kernel
theorem dX3_stepsTo_13 : decode cX3_stepsTo 13 = .ok (.goto 4, 3) := by decide +kernel
theorem dX3_stepsTo_16 : decode cX3_stepsTo 16 = .ok (.iconst (-1), 1) := by decide +kernel
theorem dX3_stepsTo_17 : decode cX3_stepsTo 17 = .ok (.ireturn, 1) := by decide +kernel
theorem dX3_directionOfStep_0 : decode cX3_directionOfStep 0 = .ok (.iload_n 1, 1) := by decide +kernel
theorem dX3_directionOfStep_1 : decode cX3_directionOfStep 1 = .ok (.istore_n 3, 1) := by decide +kernel
theorem dX3_directionOfStep_2 : decode cX3_directionOfStep 2 = .ok (.aload_n 0, 1) := by decide +kernel
theorem dX3_directionOfStep_3 : decode cX3_directionOfStep 3 = .ok (.iload_n 1, 1) := by decide +kernel
theorem dX3_directionOfStep_4 : decode cX3_directionOfStep 4 = .ok (.invokevirtual 38, 3) := by decide +kernel
theorem dX3_directionOfStep_7 : decode cX3_directionOfStep 7 = .ok (.iconst 1, 1) := by decide +kernel
theorem dX3_directionOfStep_8 : decode cX3_directionOfStep 8 = .ok (.isub, 1) := by decide +kernel
theorem dX3_directionOfStep_9 : decode cX3_directionOfStep 9 = .ok (.istore 4, 2) := by decide +kernel
theorem dX3_directionOfStep_11 : decode cX3_directionOfStep 11 = .ok (.iload 4, 2) := by decide +kernel
theorem dX3_directionOfStep_13 : decode cX3_directionOfStep 13 = .ok (.iload_n 2, 1) := by decide +kernel
theorem dX3_directionOfStep_14 : decode cX3_directionOfStep 14 = .ok (.if_icmp .le 23, 3) := by decide +kernel
theorem dX3_directionOfStep_17 : decode cX3_directionOfStep 17 = .ok (.iload_n 3, 1) := by decide +kernel
theorem dX3_directionOfStep_18 : decode cX3_directionOfStep 18 = .ok (.invokestatic 34, 3) := by decide +kernel
theorem dX3_directionOfStep_21 : decode cX3_directionOfStep 21 = .ok (.ifCond .eq 16, 3) := by decide +kernel
theorem dX3_directionOfStep_24 : decode cX3_directionOfStep 24 = .ok (.aload_n 0, 1) := by decide +kernel
theorem dX3_directionOfStep_25 : decode cX3_directionOfStep 25 = .ok (.getfield 18, 3) := by decide +kernel
theorem dX3_directionOfStep_28 : decode cX3_directionOfStep 28 = .ok (.iload_n 3, 1) := by decide +kernel
theorem dX3_directionOfStep_29 : decode cX3_directionOfStep 29 = .ok (.iaload, 1) := by decide +kernel
theorem dX3_directionOfStep_30 : decode cX3_directionOfStep 30 = .ok (.istore_n 3, 1) := by decide +kernel
theorem dX3_directionOfStep_31 : decode cX3_directionOfStep 31 = .ok (.iinc 4 (-1), 3) := by decide +kernel
theorem dX3_directionOfStep_34 : decode cX3_directionOfStep 34 = .ok (.goto (-23), 3) := by decide +kernel
theorem dX3_directionOfStep_37 : decode cX3_directionOfStep 37 = .ok (.iload_n 3, 1) := by decide +kernel
theorem dX3_directionOfStep_38 : decode cX3_directionOfStep 38 = .ok (.invokestatic 34, 3) := by decide +kernel
theorem dX3_directionOfStep_41 : decode cX3_directionOfStep 41 = .ok (.ifCond .eq 12, 3) := by decide +kernel
theorem dX3_directionOfStep_44 : decode cX3_directionOfStep 44 = .ok (.aload_n 0, 1) := by decide +kernel
theorem dX3_directionOfStep_45 : decode cX3_directionOfStep 45 = .ok (.getfield 21, 3) := by decide +kernel
theorem dX3_directionOfStep_48 : decode cX3_directionOfStep 48 = .ok (.iload_n 3, 1) := by decide +kernel
theorem dX3_directionOfStep_49 : decode cX3_directionOfStep 49 = .ok (.iaload, 1) := by decide +kernel
theorem dX3_directionOfStep_50 : decode cX3_directionOfStep 50 = .ok (.goto 4, 3) := by decide +kernel
theorem dX3_directionOfStep_53 : decode cX3_directionOfStep 53 = .ok (.iconst (-1), 1) := by decide +kernel
theorem dX3_directionOfStep_54 : decode cX3_directionOfStep 54 = .ok (.ireturn, 1) := by decide +kernel
theorem dX3_isNumber_0 : decode cX3_isNumber 0 = .ok (.iload_n 0, 1) := by decide +kernel
theorem dX3_isNumber_1 : decode cX3_isNumber 1 = .ok (.ifCond .lt 13, 3) := by decide +kernel
theorem dX3_isNumber_4 : decode cX3_isNumber 4 = .ok (.iload_n 0, 1) := by decide +kernel
theorem dX3_isNumber_5 : decode cX3_isNumber 5 = .ok (.bipush 20, 2) := by decide +kernel
theorem dX3_isNumber_7 : decode cX3_isNumber 7 = .ok (.if_icmp .ge 7, 3) := by decide +kernel
theorem dX3_isNumber_10 : decode cX3_isNumber 10 = .ok (.iconst 1, 1) := by decide +kernel
theorem dX3_isNumber_11 : decode cX3_isNumber 11 = .ok (.goto 4, 3) := by decide +kernel
theorem dX3_isNumber_14 : decode cX3_isNumber 14 = .ok (.iconst 0, 1) := by decide +kernel
theorem dX3_isNumber_15 : decode cX3_isNumber 15 = .ok (.ireturn, 1) := by decide +kernel
theorem dX4_init_0 : decode cX4_init 0 = .ok (.aload_n 0, 1) := by decide +kernel
theorem dX4_init_1 : decode cX4_init 1 = .ok (.invokespecial 3, 3) := by decide +kernel
theorem dX4_init_4 : decode cX4_init 4 = .ok (.aload_n 0, 1) := by decide +kernel
theorem dX4_init_5 : decode cX4_init 5 = .ok (.iconst (-1), 1) := by decide +kernel
theorem dX4_init_6 : decode cX4_init 6 = .ok (.putfield 9, 3) := by decide +kernel
theorem dX4_init_9 : decode cX4_init 9 = .ok (.aload_n 0, 1) := by decide +kernel
theorem dX4_init_10 : decode cX4_init 10 = .ok (.iload_n 1, 1) := by decide +kernel
theorem dX4_init_11 : decode cX4_init 11 = .ok (.putfield 15, 3) := by decide +kernel
theorem dX4_init_14 : decode cX4_init 14 = .ok (.aload_n 0, 1) := by decide +kernel
theorem dX4_init_15 : decode cX4_init 15 = .ok (.iload_n 2, 1) := by decide +kernel
theorem dX4_init_16 : decode cX4_init 16 = .ok (.putfield 18, 3) := by decide +kernel
theorem dX4_init_19 : decode cX4_init 19 = .ok (.aload_n 0, 1) := by decide +kernel
theorem dX4_init_20 : decode cX4_init 20 = .ok (.iload_n 3, 1) := by decide +kernel
theorem dX4_init_21 : decode cX4_init 21 = .ok (.putfield 21, 3) := by decide +kernel
theorem dX4_init_24 : decode cX4_init 24 = .ok (.aload_n 0, 1) := by decide +kernel
theorem dX4_init_25 : decode cX4_init 25 = .ok (.iload 4, 2) := by decide +kernel
theorem dX4_init_27 : decode cX4_init 27 = .ok (.putfield 24, 3) := by decide +kernel
theorem dX4_init_30 : decode cX4_init 30 = .ok (.return_, 1) := by decide +kernel
theorem dX5_init_0 : decode cX5_init 0 = .ok (.aload_n 0, 1) := by decide +kernel
theorem dX5_init_1 : decode cX5_init 1 = .ok (.invokespecial 1, 3) := by decide +kernel
theorem dX5_init_4 : decode cX5_init 4 = .ok (.aload_n 0, 1) := by decide +kernel
theorem dX5_init_5 : decode cX5_init 5 = .ok (.sipush 160, 3) := by decide +kernel
theorem dX5_init_8 : decode cX5_init 8 = .ok (.newarray .int, 2) := by decide +kernel
theorem dX5_init_10 : decode cX5_init 10 = .ok (.putfield 9, 3) := by decide +kernel
theorem dX5_init_13 : decode cX5_init 13 = .ok (.aload_n 0, 1) := by decide +kernel
theorem dX5_init_14 : decode cX5_init 14 = .ok (.sipush 160, 3) := by decide +kernel
theorem dX5_init_17 : decode cX5_init 17 = .ok (.newarray .int, 2) := by decide +kernel
theorem dX5_init_19 : decode cX5_init 19 = .ok (.putfield 13, 3) := by decide +kernel
theorem dX5_init_22 : decode cX5_init 22 = .ok (.aload_n 0, 1) := by decide +kernel
theorem dX5_init_23 : decode cX5_init 23 = .ok (.iconst 5, 1) := by decide +kernel
theorem dX5_init_24 : decode cX5_init 24 = .ok (.anewarray 16, 3) := by decide +kernel
theorem dX5_init_27 : decode cX5_init 27 = .ok (.putfield 18, 3) := by decide +kernel
theorem dX5_init_30 : decode cX5_init 30 = .ok (.aload_n 0, 1) := by decide +kernel
theorem dX5_init_31 : decode cX5_init 31 = .ok (.bipush 7, 2) := by decide +kernel
theorem dX5_init_33 : decode cX5_init 33 = .ok (.newarray .int, 2) := by decide +kernel
theorem dX5_init_35 : decode cX5_init 35 = .ok (.putfield 22, 3) := by decide +kernel
theorem dX5_init_38 : decode cX5_init 38 = .ok (.aload_n 0, 1) := by decide +kernel
theorem dX5_init_39 : decode cX5_init 39 = .ok (.bipush 15, 2) := by decide +kernel
theorem dX5_init_41 : decode cX5_init 41 = .ok (.anewarray 25, 3) := by decide +kernel
theorem dX5_init_44 : decode cX5_init 44 = .ok (.putfield 27, 3) := by decide +kernel
theorem dX5_init_47 : decode cX5_init 47 = .ok (.aload_n 0, 1) := by decide +kernel
theorem dX5_init_48 : decode cX5_init 48 = .ok (.bipush 30, 2) := by decide +kernel
theorem dX5_init_50 : decode cX5_init 50 = .ok (.anewarray 31, 3) := by decide +kernel
theorem dX5_init_53 : decode cX5_init 53 = .ok (.putfield 33, 3) := by decide +kernel
theorem dX5_init_56 : decode cX5_init 56 = .ok (.aload_n 0, 1) := by decide +kernel
theorem dX5_init_57 : decode cX5_init 57 = .ok (.bipush 6, 2) := by decide +kernel
theorem dX5_init_59 : decode cX5_init 59 = .ok (.anewarray 37, 3) := by decide +kernel
theorem dX5_init_62 : decode cX5_init 62 = .ok (.putfield 39, 3) := by decide +kernel
theorem dX5_init_65 : decode cX5_init 65 = .ok (.aload_n 0, 1) := by decide +kernel
theorem dX5_init_66 : decode cX5_init 66 = .ok (.new 43, 3) := by decide +kernel
theorem dX5_init_69 : decode cX5_init 69 = .ok (.dup, 1) := by decide +kernel
theorem dX5_init_70 : decode cX5_init 70 = .ok (.invokespecial 45, 3) := by decide +kernel
theorem dX5_init_73 : decode cX5_init 73 = .ok (.putfield 46, 3) := by decide +kernel
theorem dX5_init_76 : decode cX5_init 76 = .ok (.aload_n 0, 1) := by decide +kernel
theorem dX5_init_77 : decode cX5_init 77 = .ok (.getfield 9, 3) := by decide +kernel
theorem dX5_init_80 : decode cX5_init 80 = .ok (.iconst (-1), 1) := by decide +kernel
theorem dX5_init_81 : decode cX5_init 81 = .ok (.invokestatic 50, 3) := by decide +kernel
theorem dX5_init_84 : decode cX5_init 84 = .ok (.aload_n 0, 1) := by decide +kernel
theorem dX5_init_85 : decode cX5_init 85 = .ok (.getfield 13, 3) := by decide +kernel
theorem dX5_init_88 : decode cX5_init 88 = .ok (.bipush 9, 2) := by decide +kernel
theorem dX5_init_90 : decode cX5_init 90 = .ok (.invokestatic 50, 3) := by decide +kernel
theorem dX5_init_93 : decode cX5_init 93 = .ok (.iconst 0, 1) := by decide +kernel
theorem dX5_init_94 : decode cX5_init 94 = .ok (.istore_n 1, 1) := by decide +kernel
theorem dX5_init_95 : decode cX5_init 95 = .ok (.iload_n 1, 1) := by decide +kernel
theorem dX5_init_96 : decode cX5_init 96 = .ok (.iconst 5, 1) := by decide +kernel
theorem dX5_init_97 : decode cX5_init 97 = .ok (.if_icmp .ge 22, 3) := by decide +kernel
theorem dX5_init_100 : decode cX5_init 100 = .ok (.aload_n 0, 1) := by decide +kernel
theorem dX5_init_101 : decode cX5_init 101 = .ok (.getfield 18, 3) := by decide +kernel
theorem dX5_init_104 : decode cX5_init 104 = .ok (.iload_n 1, 1) := by decide +kernel
theorem dX5_init_105 : decode cX5_init 105 = .ok (.new 16, 3) := by decide +kernel
theorem dX5_init_108 : decode cX5_init 108 = .ok (.dup, 1) := by decide +kernel
theorem dX5_init_109 : decode cX5_init 109 = .ok (.invokespecial 56, 3) := by decide +kernel
theorem dX5_init_112 : decode cX5_init 112 = .ok (.aastore, 1) := by decide +kernel
theorem dX5_init_113 : decode cX5_init 113 = .ok (.iinc 1 1, 3) := by decide +kernel
theorem dX5_init_116 : decode cX5_init 116 = .ok (.goto (-21), 3) := by decide +kernel
theorem dX5_init_119 : decode cX5_init 119 = .ok (.return_, 1) := by decide +kernel
theorem dX5_room_0 : decode cX5_room 0 = .ok (.aload_n 0, 1) := by decide +kernel
theorem dX5_room_1 : decode cX5_room 1 = .ok (.getfield 57, 3) := by decide +kernel
theorem dX5_room_4 : decode cX5_room 4 = .ok (.bipush 20, 2) := by decide +kernel
theorem dX5_room_6 : decode cX5_room 6 = .ok (.if_icmp .lt 6, 3) := by decide +kernel
theorem dX5_room_9 : decode cX5_room 9 = .ok (.bipush (-2), 2) := by decide +kernel
theorem dX5_room_11 : decode cX5_room 11 = .ok (.ireturn, 1) := by decide +kernel
theorem dX5_room_12 : decode cX5_room 12 = .ok (.aload_n 0, 1) := by decide +kernel
theorem dX5_room_13 : decode cX5_room 13 = .ok (.dup, 1) := by decide +kernel
theorem dX5_room_14 : decode cX5_room 14 = .ok (.getfield 57, 3) := by decide +kernel
theorem dX5_room_17 : decode cX5_room 17 = .ok (.dup_x1, 1) := by decide +kernel
theorem dX5_room_18 : decode cX5_room 18 = .ok (.iconst 1, 1) := by decide +kernel
theorem dX5_room_19 : decode cX5_room 19 = .ok (.iadd, 1) := by decide +kernel
theorem dX5_room_20 : decode cX5_room 20 = .ok (.putfield 57, 3) := by decide +kernel
theorem dX5_room_23 : decode cX5_room 23 = .ok (.ireturn, 1) := by decide +kernel
theorem dX5_door_0 : decode cX5_door 0 = .ok (.aload_n 0, 1) := by decide +kernel
theorem dX5_door_1 : decode cX5_door 1 = .ok (.iload_n 1, 1) := by decide +kernel
theorem dX5_door_2 : decode cX5_door 2 = .ok (.invokevirtual 61, 3) := by decide +kernel
theorem dX5_door_5 : decode cX5_door 5 = .ok (.ifCond .eq 21, 3) := by decide +kernel
theorem dX5_door_8 : decode cX5_door 8 = .ok (.iload_n 1, 1) := by decide +kernel
theorem dX5_door_9 : decode cX5_door 9 = .ok (.iload_n 2, 1) := by decide +kernel
theorem dX5_door_10 : decode cX5_door 10 = .ok (.if_icmp .eq 16, 3) := by decide +kernel
theorem dX5_door_13 : decode cX5_door 13 = .ok (.iload_n 2, 1) := by decide +kernel
theorem dX5_door_14 : decode cX5_door 14 = .ok (.iconst (-1), 1) := by decide +kernel
theorem dX5_door_15 : decode cX5_door 15 = .ok (.if_icmp .eq 13, 3) := by decide +kernel
theorem dX5_door_18 : decode cX5_door 18 = .ok (.aload_n 0, 1) := by decide +kernel
theorem dX5_door_19 : decode cX5_door 19 = .ok (.iload_n 2, 1) := by decide +kernel
theorem dX5_door_20 : decode cX5_door 20 = .ok (.invokevirtual 61, 3) := by decide +kernel
theorem dX5_door_23 : decode cX5_door 23 = .ok (.ifCond .ne 5, 3) := by decide +kernel
theorem dX5_door_26 : decode cX5_door 26 = .ok (.iconst (-1), 1) := by decide +kernel
theorem dX5_door_27 : decode cX5_door 27 = .ok (.ireturn, 1) := by decide +kernel
theorem dX5_door_28 : decode cX5_door 28 = .ok (.aload_n 0, 1) := by decide +kernel
theorem dX5_door_29 : decode cX5_door 29 = .ok (.getfield 65, 3) := by decide +kernel
theorem dX5_door_32 : decode cX5_door 32 = .ok (.bipush 15, 2) := by decide +kernel
theorem dX5_door_34 : decode cX5_door 34 = .ok (.if_icmp .lt 6, 3) := by decide +kernel
theorem dX5_door_37 : decode cX5_door 37 = .ok (.bipush (-2), 2) := by decide +kernel
theorem dX5_door_39 : decode cX5_door 39 = .ok (.ireturn, 1) := by decide +kernel
theorem dX5_door_40 : decode cX5_door 40 = .ok (.aload_n 0, 1) := by decide +kernel
theorem dX5_door_41 : decode cX5_door 41 = .ok (.getfield 27, 3) := by decide +kernel
theorem dX5_door_44 : decode cX5_door 44 = .ok (.aload_n 0, 1) := by decide +kernel
theorem dX5_door_45 : decode cX5_door 45 = .ok (.getfield 65, 3) := by decide +kernel
theorem dX5_door_48 : decode cX5_door 48 = .ok (.new 25, 3) := by decide +kernel
theorem dX5_door_51 : decode cX5_door 51 = .ok (.dup, 1) := by decide +kernel
theorem dX5_door_52 : decode cX5_door 52 = .ok (.iload_n 1, 1) := by decide +kernel
theorem dX5_door_53 : decode cX5_door 53 = .ok (.iload_n 2, 1) := by decide +kernel
theorem dX5_door_54 : decode cX5_door 54 = .ok (.invokespecial 68, 3) := by decide +kernel
theorem dX5_door_57 : decode cX5_door 57 = .ok (.aastore, 1) := by decide +kernel
theorem dX5_door_58 : decode cX5_door 58 = .ok (.aload_n 0, 1) := by decide +kernel
theorem dX5_door_59 : decode cX5_door 59 = .ok (.dup, 1) := by decide +kernel
theorem dX5_door_60 : decode cX5_door 60 = .ok (.getfield 65, 3) := by decide +kernel
theorem dX5_door_63 : decode cX5_door 63 = .ok (.dup_x1, 1) := by decide +kernel
theorem dX5_door_64 : decode cX5_door 64 = .ok (.iconst 1, 1) := by decide +kernel
theorem dX5_door_65 : decode cX5_door 65 = .ok (.iadd, 1) := by decide +kernel
theorem dX5_door_66 : decode cX5_door 66 = .ok (.putfield 65, 3) := by decide +kernel
theorem dX5_door_69 : decode cX5_door 69 = .ok (.ireturn, 1) := by decide +kernel
theorem dX5_exit_0 : decode cX5_exit 0 = .ok (.aload_n 0, 1) := by decide +kernel
theorem dX5_exit_1 : decode cX5_exit 1 = .ok (.iload_n 1, 1) := by decide +kernel
theorem dX5_exit_2 : decode cX5_exit 2 = .ok (.iload_n 2, 1) := by decide +kernel
theorem dX5_exit_3 : decode cX5_exit 3 = .ok (.invokevirtual 71, 3) := by decide +kernel
theorem dX5_exit_6 : decode cX5_exit 6 = .ok (.ifCond .eq 12, 3) := by decide +kernel
theorem dX5_exit_9 : decode cX5_exit 9 = .ok (.aload_n 0, 1) := by decide +kernel
theorem dX5_exit_10 : decode cX5_exit 10 = .ok (.iload_n 1, 1) := by decide +kernel
theorem dX5_exit_11 : decode cX5_exit 11 = .ok (.iload_n 3, 1) := by decide +kernel
theorem dX5_exit_12 : decode cX5_exit 12 = .ok (.invokevirtual 75, 3) := by decide +kernel
theorem dX5_exit_15 : decode cX5_exit 15 = .ok (.ifCond .ne 5, 3) := by decide +kernel
theorem dX5_exit_18 : decode cX5_exit 18 = .ok (.iconst (-1), 1) := by decide +kernel
theorem dX5_exit_19 : decode cX5_exit 19 = .ok (.ireturn, 1) := by decide +kernel
theorem dX5_exit_20 : decode cX5_exit 20 = .ok (.aload_n 0, 1) := by decide +kernel
theorem dX5_exit_21 : decode cX5_exit 21 = .ok (.getfield 9, 3) := by decide +kernel
theorem dX5_exit_24 : decode cX5_exit 24 = .ok (.iload_n 1, 1) := by decide +kernel
theorem dX5_exit_25 : decode cX5_exit 25 = .ok (.iload_n 2, 1) := by decide +kernel
theorem dX5_exit_26 : decode cX5_exit 26 = .ok (.invokestatic 78, 3) := by decide +kernel
theorem dX5_exit_29 : decode cX5_exit 29 = .ok (.iaload, 1) := by decide +kernel
theorem dX5_exit_30 : decode cX5_exit 30 = .ok (.istore 4, 2) := by decide +kernel
theorem dX5_exit_32 : decode cX5_exit 32 = .ok (.aload_n 0, 1) := by decide +kernel
theorem dX5_exit_33 : decode cX5_exit 33 = .ok (.getfield 9, 3) := by decide +kernel
theorem dX5_exit_36 : decode cX5_exit 36 = .ok (.iload_n 1, 1) := by decide +kernel
theorem dX5_exit_37 : decode cX5_exit 37 = .ok (.iload_n 2, 1) := by decide +kernel
theorem dX5_exit_38 : decode cX5_exit 38 = .ok (.invokestatic 78, 3) := by decide +kernel
theorem dX5_exit_41 : decode cX5_exit 41 = .ok (.iload_n 3, 1) := by decide +kernel
theorem dX5_exit_42 : decode cX5_exit 42 = .ok (.iastore, 1) := by decide +kernel
theorem dX5_exit_43 : decode cX5_exit 43 = .ok (.iload 4, 2) := by decide +kernel
theorem dX5_exit_45 : decode cX5_exit 45 = .ok (.ireturn, 1) := by decide +kernel
theorem dX5_width_0 : decode cX5_width 0 = .ok (.aload_n 0, 1) := by decide +kernel
theorem dX5_width_1 : decode cX5_width 1 = .ok (.iload_n 1, 1) := by decide +kernel
theorem dX5_width_2 : decode cX5_width 2 = .ok (.iload_n 2, 1) := by decide +kernel
theorem dX5_width_3 : decode cX5_width 3 = .ok (.invokevirtual 71, 3) := by decide +kernel
theorem dX5_width_6 : decode cX5_width 6 = .ok (.ifCond .eq 14, 3) := by decide +kernel
theorem dX5_width_9 : decode cX5_width 9 = .ok (.iload_n 3, 1) := by decide +kernel
theorem dX5_width_10 : decode cX5_width 10 = .ok (.iconst 1, 1) := by decide +kernel
theorem dX5_width_11 : decode cX5_width 11 = .ok (.if_icmp .lt 9, 3) := by decide +kernel
theorem dX5_width_14 : decode cX5_width 14 = .ok (.iload_n 3, 1) := by decide +kernel
theorem dX5_width_15 : decode cX5_width 15 = .ok (.bipush 9, 2) := by decide +kernel
theorem dX5_width_17 : decode cX5_width 17 = .ok (.if_icmp .le 5, 3) := by decide +kernel
theorem dX5_width_20 : decode cX5_width 20 = .ok (.iconst (-1), 1) := by decide +kernel
theorem dX5_width_21 : decode cX5_width 21 = .ok (.ireturn, 1) := by decide +kernel
theorem dX5_width_22 : decode cX5_width 22 = .ok (.aload_n 0, 1) := by decide +kernel
theorem dX5_width_23 : decode cX5_width 23 = .ok (.getfield 13, 3) := by decide +kernel
theorem dX5_width_26 : decode cX5_width 26 = .ok (.iload_n 1, 1) := by decide +kernel
theorem dX5_width_27 : decode cX5_width 27 = .ok (.iload_n 2, 1) := by decide +kernel
theorem dX5_width_28 : decode cX5_width 28 = .ok (.invokestatic 78, 3) := by decide +kernel
theorem dX5_width_31 : decode cX5_width 31 = .ok (.iaload, 1) := by decide +kernel
theorem dX5_width_32 : decode cX5_width 32 = .ok (.istore 4, 2) := by decide +kernel
theorem dX5_width_34 : decode cX5_width 34 = .ok (.aload_n 0, 1) := by decide +kernel
theorem dX5_width_35 : decode cX5_width 35 = .ok (.getfield 13, 3) := by decide +kernel
theorem dX5_width_38 : decode cX5_width 38 = .ok (.iload_n 1, 1) := by decide +kernel
theorem dX5_width_39 : decode cX5_width 39 = .ok (.iload_n 2, 1) := by decide +kernel
theorem dX5_width_40 : decode cX5_width 40 = .ok (.invokestatic 78, 3) := by decide +kernel
theorem dX5_width_43 : decode cX5_width 43 = .ok (.iload_n 3, 1) := by decide +kernel
theorem dX5_width_44 : decode cX5_width 44 = .ok (.iastore, 1) := by decide +kernel
theorem dX5_width_45 : decode cX5_width 45 = .ok (.iload 4, 2) := by decide +kernel
theorem dX5_width_47 : decode cX5_width 47 = .ok (.ireturn, 1) := by decide +kernel
theorem dX5_turn_0 : decode cX5_turn 0 = .ok (.aload_n 0, 1) := by decide +kernel
theorem dX5_turn_1 : decode cX5_turn 1 = .ok (.iload_n 1, 1) := by decide +kernel
theorem dX5_turn_2 : decode cX5_turn 2 = .ok (.invokevirtual 82, 3) := by decide +kernel
theorem dX5_turn_5 : decode cX5_turn 5 = .ok (.astore_n 3, 1) := by decide +kernel
theorem dX5_turn_6 : decode cX5_turn 6 = .ok (.aload_n 3, 1) := by decide +kernel
theorem dX5_turn_7 : decode cX5_turn 7 = .ok (.ifnull 11, 3) := by decide +kernel
theorem dX5_turn_10 : decode cX5_turn 10 = .ok (.aload_n 0, 1) := by decide +kernel
theorem dX5_turn_11 : decode cX5_turn 11 = .ok (.iload_n 2, 1) := by decide +kernel
theorem dX5_turn_12 : decode cX5_turn 12 = .ok (.invokevirtual 61, 3) := by decide +kernel
theorem dX5_turn_15 : decode cX5_turn 15 = .ok (.ifCond .ne 5, 3) := by decide +kernel
theorem dX5_turn_18 : decode cX5_turn 18 = .ok (.iconst (-1), 1) := by decide +kernel
theorem dX5_turn_19 : decode cX5_turn 19 = .ok (.ireturn, 1) := by decide +kernel
theorem dX5_turn_20 : decode cX5_turn 20 = .ok (.aload_n 3, 1) := by decide +kernel
theorem dX5_turn_21 : decode cX5_turn 21 = .ok (.iload_n 2, 1) := by decide +kernel
theorem dX5_turn_22 : decode cX5_turn 22 = .ok (.invokevirtual 86, 3) := by decide +kernel
theorem dX5_turn_25 : decode cX5_turn 25 = .ok (.ifCond .eq 10, 3) := by decide +kernel
theorem dX5_turn_28 : decode cX5_turn 28 = .ok (.aload_n 3, 1) := by decide +kernel
theorem dX5_turn_29 : decode cX5_turn 29 = .ok (.getfield 89, 3) := by decide +kernel
theorem dX5_turn_32 : decode cX5_turn 32 = .ok (.goto 5, 3) := by decide +kernel
theorem dX5_turn_35 : decode cX5_turn 35 = .ok (.bipush (-2), 2) := by decide +kernel
theorem dX5_turn_37 : decode cX5_turn 37 = .ok (.ireturn, 1) := by decide +kernel
theorem dX5_region_0 : decode cX5_region 0 = .ok (.iload_n 1, 1) := by decide +kernel
theorem dX5_region_1 : decode cX5_region 1 = .ok (.invokestatic 92, 3) := by decide +kernel
theorem dX5_region_4 : decode cX5_region 4 = .ok (.ifCond .eq 11, 3) := by decide +kernel
theorem dX5_region_7 : decode cX5_region 7 = .ok (.aload_n 0, 1) := by decide +kernel
theorem dX5_region_8 : decode cX5_region 8 = .ok (.iload_n 2, 1) := by decide +kernel
theorem dX5_region_9 : decode cX5_region 9 = .ok (.invokevirtual 61, 3) := by decide +kernel
theorem dX5_region_12 : decode cX5_region 12 = .ok (.ifCond .ne 5, 3) := by decide +kernel
theorem dX5_region_15 : decode cX5_region 15 = .ok (.iconst (-1), 1) := by decide +kernel
theorem dX5_region_16 : decode cX5_region 16 = .ok (.ireturn, 1) := by decide +kernel
theorem dX5_region_17 : decode cX5_region 17 = .ok (.iconst 1, 1) := by decide +kernel
theorem dX5_region_18 : decode cX5_region 18 = .ok (.iload_n 2, 1) := by decide +kernel
theorem dX5_region_19 : decode cX5_region 19 = .ok (.ishl, 1) := by decide +kernel
theorem dX5_region_20 : decode cX5_region 20 = .ok (.istore 4, 2) := by decide +kernel
theorem dX5_region_22 : decode cX5_region 22 = .ok (.aload_n 0, 1) := by decide +kernel
theorem dX5_region_23 : decode cX5_region 23 = .ok (.getfield 22, 3) := by decide +kernel
theorem dX5_region_26 : decode cX5_region 26 = .ok (.iload_n 1, 1) := by decide +kernel
theorem dX5_region_27 : decode cX5_region 27 = .ok (.iload_n 3, 1) := by decide +kernel
theorem dX5_region_28 : decode cX5_region 28 = .ok (.ifCond .eq 15, 3) := by decide +kernel
theorem dX5_region_31 : decode cX5_region 31 = .ok (.aload_n 0, 1) := by decide +kernel
theorem dX5_region_32 : decode cX5_region 32 = .ok (.getfield 22, 3) := by decide +kernel
theorem dX5_region_35 : decode cX5_region 35 = .ok (.iload_n 1, 1) := by decide +kernel
theorem dX5_region_36 : decode cX5_region 36 = .ok (.iaload, 1) := by decide +kernel
theorem dX5_region_37 : decode cX5_region 37 = .ok (.iload 4, 2) := by decide +kernel
theorem dX5_region_39 : decode cX5_region 39 = .ok (.ior, 1) := by decide +kernel
theorem dX5_region_40 : decode cX5_region 40 = .ok (.goto 14, 3) := by decide +kernel
theorem dX5_region_43 : decode cX5_region 43 = .ok (.aload_n 0, 1) := by decide +kernel
theorem dX5_region_44 : decode cX5_region 44 = .ok (.getfield 22, 3) := by decide +kernel
theorem dX5_region_47 : decode cX5_region 47 = .ok (.iload_n 1, 1) := by decide +kernel
theorem dX5_region_48 : decode cX5_region 48 = .ok (.iaload, 1) := by decide +kernel
theorem dX5_region_49 : decode cX5_region 49 = .ok (.iload 4, 2) := by decide +kernel
theorem dX5_region_51 : decode cX5_region 51 = .ok (.iconst (-1), 1) := by decide +kernel
theorem dX5_region_52 : decode cX5_region 52 = .ok (.ixor, 1) := by decide +kernel
theorem dX5_region_53 : decode cX5_region 53 = .ok (.iand, 1) := by decide +kernel
theorem dX5_region_54 : decode cX5_region 54 = .ok (.iastore, 1) := by decide +kernel
theorem dX5_region_55 : decode cX5_region 55 = .ok (.aload_n 0, 1) := by decide +kernel
theorem dX5_region_56 : decode cX5_region 56 = .ok (.getfield 22, 3) := by decide +kernel
theorem dX5_region_59 : decode cX5_region 59 = .ok (.iload_n 1, 1) := by decide +kernel
theorem dX5_region_60 : decode cX5_region 60 = .ok (.iaload, 1) := by decide +kernel
theorem dX5_region_61 : decode cX5_region 61 = .ok (.invokestatic 95, 3) := by decide +kernel
theorem dX5_region_64 : decode cX5_region 64 = .ok (.ireturn, 1) := by decide +kernel
theorem dX5_lock_0 : decode cX5_lock 0 = .ok (.aload_n 0, 1) := by decide +kernel
theorem dX5_lock_1 : decode cX5_lock 1 = .ok (.iload_n 1, 1) := by decide +kernel
theorem dX5_lock_2 : decode cX5_lock 2 = .ok (.invokevirtual 101, 3) := by decide +kernel
theorem dX5_lock_5 : decode cX5_lock 5 = .ok (.astore 4, 2) := by decide +kernel
theorem dX5_lock_7 : decode cX5_lock 7 = .ok (.aload_n 0, 1) := by decide +kernel
theorem dX5_lock_8 : decode cX5_lock 8 = .ok (.iload_n 2, 1) := by decide +kernel
theorem dX5_lock_9 : decode cX5_lock 9 = .ok (.invokevirtual 105, 3) := by decide +kernel
theorem dX5_lock_12 : decode cX5_lock 12 = .ok (.astore 5, 2) := by decide +kernel
theorem dX5_lock_14 : decode cX5_lock 14 = .ok (.aload 4, 2) := by decide +kernel
theorem dX5_lock_16 : decode cX5_lock 16 = .ok (.ifnull 13, 3) := by decide +kernel
theorem dX5_lock_19 : decode cX5_lock 19 = .ok (.iload_n 2, 1) := by decide +kernel
theorem dX5_lock_20 : decode cX5_lock 20 = .ok (.iconst (-1), 1) := by decide +kernel
theorem dX5_lock_21 : decode cX5_lock 21 = .ok (.if_icmp .eq 10, 3) := by decide +kernel
theorem dX5_lock_24 : decode cX5_lock 24 = .ok (.aload 5, 2) := by decide +kernel
theorem dX5_lock_26 : decode cX5_lock 26 = .ok (.ifnonnull 5, 3) := by decide +kernel
theorem dX5_lock_29 : decode cX5_lock 29 = .ok (.iconst (-1), 1) := by decide +kernel
theorem dX5_lock_30 : decode cX5_lock 30 = .ok (.ireturn, 1) := by decide +kernel
theorem dX5_lock_31 : decode cX5_lock 31 = .ok (.aload 5, 2) := by decide +kernel
theorem dX5_lock_33 : decode cX5_lock 33 = .ok (.ifnonnull 10, 3) := by decide +kernel
theorem dX5_lock_36 : decode cX5_lock 36 = .ok (.iload_n 3, 1) := by decide +kernel
theorem dX5_lock_37 : decode cX5_lock 37 = .ok (.ifCond .eq 16, 3) := by decide +kernel
theorem dX5_lock_40 : decode cX5_lock 40 = .ok (.goto 11, 3) := by decide +kernel
theorem dX5_lock_43 : decode cX5_lock 43 = .ok (.aload 5, 2) := by decide +kernel
theorem dX5_lock_45 : decode cX5_lock 45 = .ok (.getfield 109, 3) := by decide +kernel
theorem dX5_lock_48 : decode cX5_lock 48 = .ok (.ifCond .eq 5, 3) := by decide +kernel
theorem dX5_lock_51 : decode cX5_lock 51 = .ok (.iconst (-1), 1) := by decide +kernel
theorem dX5_lock_52 : decode cX5_lock 52 = .ok (.ireturn, 1) := by decide +kernel
theorem dX5_lock_53 : decode cX5_lock 53 = .ok (.aload 4, 2) := by decide +kernel
theorem dX5_lock_55 : decode cX5_lock 55 = .ok (.aload 5, 2) := by decide +kernel
theorem dX5_lock_57 : decode cX5_lock 57 = .ok (.putfield 112, 3) := by decide +kernel
theorem dX5_lock_60 : decode cX5_lock 60 = .ok (.aload 4, 2) := by decide +kernel
theorem dX5_lock_62 : decode cX5_lock 62 = .ok (.iload_n 3, 1) := by decide +kernel
theorem dX5_lock_63 : decode cX5_lock 63 = .ok (.putfield 116, 3) := by decide +kernel
theorem dX5_lock_66 : decode cX5_lock 66 = .ok (.iconst 1, 1) := by decide +kernel
theorem dX5_lock_67 : decode cX5_lock 67 = .ok (.ireturn, 1) := by decide +kernel
theorem dX5_thing_0 : decode cX5_thing 0 = .ok (.aload_n 0, 1) := by decide +kernel
theorem dX5_thing_1 : decode cX5_thing 1 = .ok (.iload_n 1, 1) := by decide +kernel
theorem dX5_thing_2 : decode cX5_thing 2 = .ok (.invokevirtual 61, 3) := by decide +kernel
theorem dX5_thing_5 : decode cX5_thing 5 = .ok (.ifCond .eq 23, 3) := by decide +kernel
theorem dX5_thing_8 : decode cX5_thing 8 = .ok (.iload_n 2, 1) := by decide +kernel
theorem dX5_thing_9 : decode cX5_thing 9 = .ok (.ifCond .lt 19, 3) := by decide +kernel
theorem dX5_thing_12 : decode cX5_thing 12 = .ok (.iload_n 2, 1) := by decide +kernel
theorem dX5_thing_13 : decode cX5_thing 13 = .ok (.iconst 3, 1) := by decide +kernel
theorem dX5_thing_14 : decode cX5_thing 14 = .ok (.if_icmp .gt 14, 3) := by decide +kernel
theorem dX5_thing_17 : decode cX5_thing 17 = .ok (.iload_n 3, 1) := by decide +kernel
theorem dX5_thing_18 : decode cX5_thing 18 = .ok (.iconst 1, 1) := by decide +kernel
theorem dX5_thing_19 : decode cX5_thing 19 = .ok (.if_icmp .lt 9, 3) := by decide +kernel
theorem dX5_thing_22 : decode cX5_thing 22 = .ok (.iload_n 3, 1) := by decide +kernel
theorem dX5_thing_23 : decode cX5_thing 23 = .ok (.bipush 9, 2) := by decide +kernel
theorem dX5_thing_25 : decode cX5_thing 25 = .ok (.if_icmp .le 5, 3) := by decide +kernel
theorem dX5_thing_28 : decode cX5_thing 28 = .ok (.iconst (-1), 1) := by decide +kernel
theorem dX5_thing_29 : decode cX5_thing 29 = .ok (.ireturn, 1) := by decide +kernel
theorem dX5_thing_30 : decode cX5_thing 30 = .ok (.aload_n 0, 1) := by decide +kernel
theorem dX5_thing_31 : decode cX5_thing 31 = .ok (.getfield 120, 3) := by decide +kernel
theorem dX5_thing_34 : decode cX5_thing 34 = .ok (.bipush 30, 2) := by decide +kernel
theorem dX5_thing_36 : decode cX5_thing 36 = .ok (.if_icmp .lt 6, 3) := by decide +kernel
theorem dX5_thing_39 : decode cX5_thing 39 = .ok (.bipush (-2), 2) := by decide +kernel
theorem dX5_thing_41 : decode cX5_thing 41 = .ok (.ireturn, 1) := by decide +kernel
theorem dX5_thing_42 : decode cX5_thing 42 = .ok (.aload_n 0, 1) := by decide +kernel
theorem dX5_thing_43 : decode cX5_thing 43 = .ok (.getfield 33, 3) := by decide +kernel
theorem dX5_thing_46 : decode cX5_thing 46 = .ok (.aload_n 0, 1) := by decide +kernel
theorem dX5_thing_47 : decode cX5_thing 47 = .ok (.getfield 120, 3) := by decide +kernel
theorem dX5_thing_50 : decode cX5_thing 50 = .ok (.new 31, 3) := by decide +kernel
theorem dX5_thing_53 : decode cX5_thing 53 = .ok (.dup, 1) := by decide +kernel
theorem dX5_thing_54 : decode cX5_thing 54 = .ok (.aload_n 0, 1) := by decide +kernel
theorem dX5_thing_55 : decode cX5_thing 55 = .ok (.getfield 120, 3) := by decide +kernel
theorem dX5_thing_58 : decode cX5_thing 58 = .ok (.iload_n 1, 1) := by decide +kernel
theorem dX5_thing_59 : decode cX5_thing 59 = .ok (.iload_n 2, 1) := by decide +kernel
theorem dX5_thing_60 : decode cX5_thing 60 = .ok (.iload_n 3, 1) := by decide +kernel
theorem dX5_thing_61 : decode cX5_thing 61 = .ok (.invokespecial 123, 3) := by decide +kernel
theorem dX5_thing_64 : decode cX5_thing 64 = .ok (.aastore, 1) := by decide +kernel
theorem dX5_thing_65 : decode cX5_thing 65 = .ok (.aload_n 0, 1) := by decide +kernel
theorem dX5_thing_66 : decode cX5_thing 66 = .ok (.dup, 1) := by decide +kernel
theorem dX5_thing_67 : decode cX5_thing 67 = .ok (.getfield 120, 3) := by decide +kernel
theorem dX5_thing_70 : decode cX5_thing 70 = .ok (.dup_x1, 1) := by decide +kernel
theorem dX5_thing_71 : decode cX5_thing 71 = .ok (.iconst 1, 1) := by decide +kernel
theorem dX5_thing_72 : decode cX5_thing 72 = .ok (.iadd, 1) := by decide +kernel
theorem dX5_thing_73 : decode cX5_thing 73 = .ok (.putfield 120, 3) := by decide +kernel
theorem dX5_thing_76 : decode cX5_thing 76 = .ok (.ireturn, 1) := by decide +kernel
theorem dX5_floats_0 : decode cX5_floats 0 = .ok (.aload_n 0, 1) := by decide +kernel
theorem dX5_floats_1 : decode cX5_floats 1 = .ok (.iload_n 1, 1) := by decide +kernel
theorem dX5_floats_2 : decode cX5_floats 2 = .ok (.invokevirtual 105, 3) := by decide +kernel
theorem dX5_floats_5 : decode cX5_floats 5 = .ok (.astore_n 3, 1) := by decide +kernel
theorem dX5_floats_6 : decode cX5_floats 6 = .ok (.aload_n 3, 1) := by decide +kernel
theorem dX5_floats_7 : decode cX5_floats 7 = .ok (.ifnull 18, 3) := by decide +kernel
theorem dX5_floats_10 : decode cX5_floats 10 = .ok (.aload_n 3, 1) := by decide +kernel
theorem dX5_floats_11 : decode cX5_floats 11 = .ok (.getfield 109, 3) := by decide +kernel
theorem dX5_floats_14 : decode cX5_floats 14 = .ok (.iconst 1, 1) := by decide +kernel
theorem dX5_floats_15 : decode cX5_floats 15 = .ok (.if_icmp .ne 10, 3) := by decide +kernel
theorem dX5_floats_18 : decode cX5_floats 18 = .ok (.iload_n 2, 1) := by decide +kernel
theorem dX5_floats_19 : decode cX5_floats 19 = .ok (.invokestatic 92, 3) := by decide +kernel
theorem dX5_floats_22 : decode cX5_floats 22 = .ok (.ifCond .ne 5, 3) := by decide +kernel
theorem dX5_floats_25 : decode cX5_floats 25 = .ok (.iconst (-1), 1) := by decide +kernel
theorem dX5_floats_26 : decode cX5_floats 26 = .ok (.ireturn, 1) := by decide +kernel
theorem dX5_floats_27 : decode cX5_floats 27 = .ok (.aload_n 3, 1) := by decide +kernel
theorem dX5_floats_28 : decode cX5_floats 28 = .ok (.iload_n 2, 1) := by decide +kernel
theorem dX5_floats_29 : decode cX5_floats 29 = .ok (.putfield 126, 3) := by decide +kernel
theorem dX5_floats_32 : decode cX5_floats 32 = .ok (.iconst 1, 1) := by decide +kernel
theorem dX5_floats_33 : decode cX5_floats 33 = .ok (.ireturn, 1) := by decide +kernel
theorem dX5_being_0 : decode cX5_being 0 = .ok (.aload_n 0, 1) := by decide +kernel
theorem dX5_being_1 : decode cX5_being 1 = .ok (.iload_n 1, 1) := by decide +kernel
theorem dX5_being_2 : decode cX5_being 2 = .ok (.invokevirtual 61, 3) := by decide +kernel
theorem dX5_being_5 : decode cX5_being 5 = .ok (.ifCond .ne 5, 3) := by decide +kernel
theorem dX5_being_8 : decode cX5_being 8 = .ok (.iconst (-1), 1) := by decide +kernel
theorem dX5_being_9 : decode cX5_being 9 = .ok (.ireturn, 1) := by decide +kernel
theorem dX5_being_10 : decode cX5_being 10 = .ok (.aload_n 0, 1) := by decide +kernel
theorem dX5_being_11 : decode cX5_being 11 = .ok (.getfield 129, 3) := by decide +kernel
theorem dX5_being_14 : decode cX5_being 14 = .ok (.bipush 6, 2) := by decide +kernel
theorem dX5_being_16 : decode cX5_being 16 = .ok (.if_icmp .lt 6, 3) := by decide +kernel
theorem dX5_being_19 : decode cX5_being 19 = .ok (.bipush (-2), 2) := by decide +kernel
theorem dX5_being_21 : decode cX5_being 21 = .ok (.ireturn, 1) := by decide +kernel
theorem dX5_being_22 : decode cX5_being 22 = .ok (.aload_n 0, 1) := by decide +kernel
theorem dX5_being_23 : decode cX5_being 23 = .ok (.getfield 39, 3) := by decide +kernel
theorem dX5_being_26 : decode cX5_being 26 = .ok (.aload_n 0, 1) := by decide +kernel
theorem dX5_being_27 : decode cX5_being 27 = .ok (.getfield 129, 3) := by decide +kernel
theorem dX5_being_30 : decode cX5_being 30 = .ok (.new 37, 3) := by decide +kernel
theorem dX5_being_33 : decode cX5_being 33 = .ok (.dup, 1) := by decide +kernel
theorem dX5_being_34 : decode cX5_being 34 = .ok (.aload_n 0, 1) := by decide +kernel
theorem dX5_being_35 : decode cX5_being 35 = .ok (.getfield 129, 3) := by decide +kernel
theorem dX5_being_38 : decode cX5_being 38 = .ok (.iload_n 1, 1) := by decide +kernel
theorem dX5_being_39 : decode cX5_being 39 = .ok (.invokespecial 132, 3) := by decide +kernel
theorem dX5_being_42 : decode cX5_being 42 = .ok (.aastore, 1) := by decide +kernel
theorem dX5_being_43 : decode cX5_being 43 = .ok (.aload_n 0, 1) := by decide +kernel
theorem dX5_being_44 : decode cX5_being 44 = .ok (.dup, 1) := by decide +kernel
theorem dX5_being_45 : decode cX5_being 45 = .ok (.getfield 129, 3) := by decide +kernel
theorem dX5_being_48 : decode cX5_being 48 = .ok (.dup_x1, 1) := by decide +kernel
theorem dX5_being_49 : decode cX5_being 49 = .ok (.iconst 1, 1) := by decide +kernel
theorem dX5_being_50 : decode cX5_being 50 = .ok (.iadd, 1) := by decide +kernel
theorem dX5_being_51 : decode cX5_being 51 = .ok (.putfield 129, 3) := by decide +kernel
theorem dX5_being_54 : decode cX5_being 54 = .ok (.ireturn, 1) := by decide +kernel
theorem dX5_act_0 : decode cX5_act 0 = .ok (.aload_n 0, 1) := by decide +kernel
theorem dX5_act_1 : decode cX5_act 1 = .ok (.iload_n 1, 1) := by decide +kernel
theorem dX5_act_2 : decode cX5_act 2 = .ok (.invokevirtual 133, 3) := by decide +kernel
theorem dX5_act_5 : decode cX5_act 5 = .ok (.astore 4, 2) := by decide +kernel
theorem dX5_act_7 : decode cX5_act 7 = .ok (.aload_n 0, 1) := by decide +kernel
theorem dX5_act_8 : decode cX5_act 8 = .ok (.iload_n 3, 1) := by decide +kernel
theorem dX5_act_9 : decode cX5_act 9 = .ok (.invokevirtual 101, 3) := by decide +kernel
theorem dX5_act_12 : decode cX5_act 12 = .ok (.astore 5, 2) := by decide +kernel
theorem dX5_act_14 : decode cX5_act 14 = .ok (.aload 4, 2) := by decide +kernel
theorem dX5_act_16 : decode cX5_act 16 = .ok (.ifnull 17, 3) := by decide +kernel
theorem dX5_act_19 : decode cX5_act 19 = .ok (.aload 5, 2) := by decide +kernel
theorem dX5_act_21 : decode cX5_act 21 = .ok (.ifnull 12, 3) := by decide +kernel
theorem dX5_act_24 : decode cX5_act 24 = .ok (.iload_n 2, 1) := by decide +kernel
theorem dX5_act_25 : decode cX5_act 25 = .ok (.ifCond .lt 8, 3) := by decide +kernel
theorem dX5_act_28 : decode cX5_act 28 = .ok (.iload_n 2, 1) := by decide +kernel
theorem dX5_act_29 : decode cX5_act 29 = .ok (.iconst 3, 1) := by decide +kernel
theorem dX5_act_30 : decode cX5_act 30 = .ok (.if_icmp .le 5, 3) := by decide +kernel
theorem dX5_act_33 : decode cX5_act 33 = .ok (.iconst (-1), 1) := by decide +kernel
theorem dX5_act_34 : decode cX5_act 34 = .ok (.ireturn, 1) := by decide +kernel
theorem dX5_act_35 : decode cX5_act 35 = .ok (.aload 4, 2) := by decide +kernel
theorem dX5_act_37 : decode cX5_act 37 = .ok (.aload 5, 2) := by decide +kernel
theorem dX5_act_39 : decode cX5_act 39 = .ok (.invokestatic 137, 3) := by decide +kernel
theorem dX5_act_42 : decode cX5_act 42 = .ok (.ifCond .ne 6, 3) := by decide +kernel
theorem dX5_act_45 : decode cX5_act 45 = .ok (.bipush (-10), 2) := by decide +kernel
theorem dX5_act_47 : decode cX5_act 47 = .ok (.ireturn, 1) := by decide +kernel
theorem dX5_act_48 : decode cX5_act 48 = .ok (.iload_n 2, 1) := by decide +kernel
theorem dX5_act_49 : decode cX5_act 49 = .ok (.lookupswitch 39 #[(0, 27), (1, 33)], 27) := by decide +kernel
theorem dX5_act_76 : decode cX5_act 76 = .ok (.aload 5, 2) := by decide +kernel
theorem dX5_act_78 : decode cX5_act 78 = .ok (.invokestatic 141, 3) := by decide +kernel
theorem dX5_act_81 : decode cX5_act 81 = .ok (.ireturn, 1) := by decide +kernel
theorem dX5_act_82 : decode cX5_act 82 = .ok (.aload 5, 2) := by decide +kernel
theorem dX5_act_84 : decode cX5_act 84 = .ok (.invokestatic 145, 3) := by decide +kernel
theorem dX5_act_87 : decode cX5_act 87 = .ok (.ireturn, 1) := by decide +kernel
theorem dX5_act_88 : decode cX5_act 88 = .ok (.aload_n 0, 1) := by decide +kernel
theorem dX5_act_89 : decode cX5_act 89 = .ok (.aload 4, 2) := by decide +kernel
theorem dX5_act_91 : decode cX5_act 91 = .ok (.aload 5, 2) := by decide +kernel
theorem dX5_act_93 : decode cX5_act 93 = .ok (.iload_n 2, 1) := by decide +kernel
theorem dX5_act_94 : decode cX5_act 94 = .ok (.iconst 2, 1) := by decide +kernel
theorem dX5_act_95 : decode cX5_act 95 = .ok (.if_icmp .ne 7, 3) := by decide +kernel
theorem dX5_act_98 : decode cX5_act 98 = .ok (.iconst 1, 1) := by decide +kernel
theorem dX5_act_99 : decode cX5_act 99 = .ok (.goto 4, 3) := by decide +kernel
theorem dX5_act_102 : decode cX5_act 102 = .ok (.iconst 0, 1) := by decide +kernel
theorem dX5_act_103 : decode cX5_act 103 = .ok (.invokevirtual 148, 3) := by decide +kernel
theorem dX5_act_106 : decode cX5_act 106 = .ok (.ireturn, 1) := by decide +kernel
theorem dX5_handle_0 : decode cX5_handle 0 = .ok (.aload_n 0, 1) := by decide +kernel
theorem dX5_handle_1 : decode cX5_handle 1 = .ok (.iload_n 1, 1) := by decide +kernel
theorem dX5_handle_2 : decode cX5_handle 2 = .ok (.invokevirtual 133, 3) := by decide +kernel
theorem dX5_handle_5 : decode cX5_handle 5 = .ok (.astore 4, 2) := by decide +kernel
theorem dX5_handle_7 : decode cX5_handle 7 = .ok (.aload_n 0, 1) := by decide +kernel
theorem dX5_handle_8 : decode cX5_handle 8 = .ok (.iload_n 3, 1) := by decide +kernel
theorem dX5_handle_9 : decode cX5_handle 9 = .ok (.invokevirtual 105, 3) := by decide +kernel
theorem dX5_handle_12 : decode cX5_handle 12 = .ok (.astore 5, 2) := by decide +kernel
theorem dX5_handle_14 : decode cX5_handle 14 = .ok (.aload 4, 2) := by decide +kernel
theorem dX5_handle_16 : decode cX5_handle 16 = .ok (.ifnull 17, 3) := by decide +kernel
theorem dX5_handle_19 : decode cX5_handle 19 = .ok (.aload 5, 2) := by decide +kernel
theorem dX5_handle_21 : decode cX5_handle 21 = .ok (.ifnull 12, 3) := by decide +kernel
theorem dX5_handle_24 : decode cX5_handle 24 = .ok (.iload_n 2, 1) := by decide +kernel
theorem dX5_handle_25 : decode cX5_handle 25 = .ok (.ifCond .lt 8, 3) := by decide +kernel
theorem dX5_handle_28 : decode cX5_handle 28 = .ok (.iload_n 2, 1) := by decide +kernel
theorem dX5_handle_29 : decode cX5_handle 29 = .ok (.iconst 4, 1) := by decide +kernel
theorem dX5_handle_30 : decode cX5_handle 30 = .ok (.if_icmp .le 5, 3) := by decide +kernel
theorem dX5_handle_33 : decode cX5_handle 33 = .ok (.iconst (-1), 1) := by decide +kernel
theorem dX5_handle_34 : decode cX5_handle 34 = .ok (.ireturn, 1) := by decide +kernel
theorem dX5_handle_35 : decode cX5_handle 35 = .ok (.iload_n 2, 1) := by decide +kernel
theorem dX5_handle_36 : decode cX5_handle 36 = .ok (.iconst 1, 1) := by decide +kernel
theorem dX5_handle_37 : decode cX5_handle 37 = .ok (.if_icmp .ne 11, 3) := by decide +kernel
theorem dX5_handle_40 : decode cX5_handle 40 = .ok (.aload 4, 2) := by decide +kernel
theorem dX5_handle_42 : decode cX5_handle 42 = .ok (.aload 5, 2) := by decide +kernel
theorem dX5_handle_44 : decode cX5_handle 44 = .ok (.invokestatic 152, 3) := by decide +kernel
theorem dX5_handle_47 : decode cX5_handle 47 = .ok (.ireturn, 1) := by decide +kernel
theorem dX5_handle_48 : decode cX5_handle 48 = .ok (.aload_n 0, 1) := by decide +kernel
theorem dX5_handle_49 : decode cX5_handle 49 = .ok (.aload 4, 2) := by decide +kernel
theorem dX5_handle_51 : decode cX5_handle 51 = .ok (.aload 5, 2) := by decide +kernel
theorem dX5_handle_53 : decode cX5_handle 53 = .ok (.invokevirtual 156, 3) := by decide +kernel
theorem dX5_handle_56 : decode cX5_handle 56 = .ok (.ifCond .ne 6, 3) := by decide +kernel
theorem dX5_handle_59 : decode cX5_handle 59 = .ok (.bipush (-10), 2) := by decide +kernel
theorem dX5_handle_61 : decode cX5_handle 61 = .ok (.ireturn, 1) := by decide +kernel
theorem dX5_handle_62 : decode cX5_handle 62 = .ok (.iload_n 2, 1) := by decide +kernel
theorem dX5_handle_63 : decode cX5_handle 63 = .ok (.lookupswitch 41 #[(0, 25), (2, 33)], 25) := by decide +kernel
theorem dX5_handle_88 : decode cX5_handle 88 = .ok (.aload 4, 2) := by decide +kernel
theorem dX5_handle_90 : decode cX5_handle 90 = .ok (.aload 5, 2) := by decide +kernel
theorem dX5_handle_92 : decode cX5_handle 92 = .ok (.invokestatic 160, 3) := by decide +kernel
theorem dX5_handle_95 : decode cX5_handle 95 = .ok (.ireturn, 1) := by decide +kernel
theorem dX5_handle_96 : decode cX5_handle 96 = .ok (.aload 4, 2) := by decide +kernel
theorem dX5_handle_98 : decode cX5_handle 98 = .ok (.aload 5, 2) := by decide +kernel
theorem dX5_handle_100 : decode cX5_handle 100 = .ok (.invokestatic 163, 3) := by decide +kernel
theorem dX5_handle_103 : decode cX5_handle 103 = .ok (.ireturn, 1) := by decide +kernel
theorem dX5_handle_104 : decode cX5_handle 104 = .ok (.aload 5, 2) := by decide +kernel
theorem dX5_handle_106 : decode cX5_handle 106 = .ok (.iload_n 2, 1) := by decide +kernel
theorem dX5_handle_107 : decode cX5_handle 107 = .ok (.iconst 4, 1) := by decide +kernel
theorem dX5_handle_108 : decode cX5_handle 108 = .ok (.if_icmp .ne 7, 3) := by decide +kernel
theorem dX5_handle_111 : decode cX5_handle 111 = .ok (.iconst 1, 1) := by decide +kernel
theorem dX5_handle_112 : decode cX5_handle 112 = .ok (.goto 4, 3) := by decide +kernel
theorem dX5_handle_115 : decode cX5_handle 115 = .ok (.iconst 0, 1) := by decide +kernel
theorem dX5_handle_116 : decode cX5_handle 116 = .ok (.invokestatic 166, 3) := by decide +kernel
theorem dX5_handle_119 : decode cX5_handle 119 = .ok (.ireturn, 1) := by decide +kernel
theorem dX5_leave_0 : decode cX5_leave 0 = .ok (.aload_n 0, 1) := by decide +kernel
theorem dX5_leave_1 : decode cX5_leave 1 = .ok (.iload_n 1, 1) := by decide +kernel
theorem dX5_leave_2 : decode cX5_leave 2 = .ok (.invokevirtual 133, 3) := by decide +kernel
theorem dX5_leave_5 : decode cX5_leave 5 = .ok (.astore_n 2, 1) := by decide +kernel
theorem dX5_leave_6 : decode cX5_leave 6 = .ok (.aload_n 2, 1) := by decide +kernel
theorem dX5_leave_7 : decode cX5_leave 7 = .ok (.ifnonnull 5, 3) := by decide +kernel
theorem dX5_leave_10 : decode cX5_leave 10 = .ok (.iconst (-1), 1) := by decide +kernel
theorem dX5_leave_11 : decode cX5_leave 11 = .ok (.ireturn, 1) := by decide +kernel
theorem dX5_leave_12 : decode cX5_leave 12 = .ok (.aload_n 2, 1) := by decide +kernel
theorem dX5_leave_13 : decode cX5_leave 13 = .ok (.getfield 170, 3) := by decide +kernel
theorem dX5_leave_16 : decode cX5_leave 16 = .ok (.ifnonnull 6, 3) := by decide +kernel
theorem dX5_leave_19 : decode cX5_leave 19 = .ok (.bipush (-23), 2) := by decide +kernel
theorem dX5_leave_21 : decode cX5_leave 21 = .ok (.ireturn, 1) := by decide +kernel
theorem dX5_leave_22 : decode cX5_leave 22 = .ok (.aload_n 2, 1) := by decide +kernel
theorem dX5_leave_23 : decode cX5_leave 23 = .ok (.getfield 170, 3) := by decide +kernel
theorem dX5_leave_26 : decode cX5_leave 26 = .ok (.getfield 173, 3) := by decide +kernel
theorem dX5_leave_29 : decode cX5_leave 29 = .ok (.ifCond .eq 6, 3) := by decide +kernel
theorem dX5_leave_32 : decode cX5_leave 32 = .ok (.bipush (-21), 2) := by decide +kernel
theorem dX5_leave_34 : decode cX5_leave 34 = .ok (.ireturn, 1) := by decide +kernel
theorem dX5_leave_35 : decode cX5_leave 35 = .ok (.aload_n 2, 1) := by decide +kernel
theorem dX5_leave_36 : decode cX5_leave 36 = .ok (.aconst_null, 1) := by decide +kernel
theorem dX5_leave_37 : decode cX5_leave 37 = .ok (.putfield 170, 3) := by decide +kernel
theorem dX5_leave_40 : decode cX5_leave 40 = .ok (.iconst 1, 1) := by decide +kernel
theorem dX5_leave_41 : decode cX5_leave 41 = .ok (.ireturn, 1) := by decide +kernel
theorem dX5_go_0 : decode cX5_go 0 = .ok (.aload_n 0, 1) := by decide +kernel
theorem dX5_go_1 : decode cX5_go 1 = .ok (.iload_n 1, 1) := by decide +kernel
theorem dX5_go_2 : decode cX5_go 2 = .ok (.invokevirtual 133, 3) := by decide +kernel
theorem dX5_go_5 : decode cX5_go 5 = .ok (.astore_n 3, 1) := by decide +kernel
theorem dX5_go_6 : decode cX5_go 6 = .ok (.aload_n 3, 1) := by decide +kernel
theorem dX5_go_7 : decode cX5_go 7 = .ok (.ifnull 10, 3) := by decide +kernel
theorem dX5_go_10 : decode cX5_go 10 = .ok (.iload_n 2, 1) := by decide +kernel
theorem dX5_go_11 : decode cX5_go 11 = .ok (.invokestatic 176, 3) := by decide +kernel
theorem dX5_go_14 : decode cX5_go 14 = .ok (.ifCond .ne 5, 3) := by decide +kernel
theorem dX5_go_17 : decode cX5_go 17 = .ok (.iconst (-1), 1) := by decide +kernel
theorem dX5_go_18 : decode cX5_go 18 = .ok (.ireturn, 1) := by decide +kernel
theorem dX5_go_19 : decode cX5_go 19 = .ok (.aload_n 0, 1) := by decide +kernel
theorem dX5_go_20 : decode cX5_go 20 = .ok (.aload_n 3, 1) := by decide +kernel
theorem dX5_go_21 : decode cX5_go 21 = .ok (.iload_n 2, 1) := by decide +kernel
theorem dX5_go_22 : decode cX5_go 22 = .ok (.invokevirtual 179, 3) := by decide +kernel
theorem dX5_go_25 : decode cX5_go 25 = .ok (.ireturn, 1) := by decide +kernel
theorem dX5_push_0 : decode cX5_push 0 = .ok (.aload_n 0, 1) := by decide +kernel
theorem dX5_push_1 : decode cX5_push 1 = .ok (.iload_n 1, 1) := by decide +kernel
theorem dX5_push_2 : decode cX5_push 2 = .ok (.invokevirtual 133, 3) := by decide +kernel
theorem dX5_push_5 : decode cX5_push 5 = .ok (.astore 4, 2) := by decide +kernel
theorem dX5_push_7 : decode cX5_push 7 = .ok (.aload_n 0, 1) := by decide +kernel
theorem dX5_push_8 : decode cX5_push 8 = .ok (.iload_n 2, 1) := by decide +kernel
theorem dX5_push_9 : decode cX5_push 9 = .ok (.invokevirtual 105, 3) := by decide +kernel
theorem dX5_push_12 : decode cX5_push 12 = .ok (.astore 5, 2) := by decide +kernel
theorem dX5_push_14 : decode cX5_push 14 = .ok (.aload 4, 2) := by decide +kernel
theorem dX5_push_16 : decode cX5_push 16 = .ok (.ifnull 15, 3) := by decide +kernel
theorem dX5_push_19 : decode cX5_push 19 = .ok (.aload 5, 2) := by decide +kernel
theorem dX5_push_21 : decode cX5_push 21 = .ok (.ifnull 10, 3) := by decide +kernel
theorem dX5_push_24 : decode cX5_push 24 = .ok (.iload_n 3, 1) := by decide +kernel
theorem dX5_push_25 : decode cX5_push 25 = .ok (.invokestatic 176, 3) := by decide +kernel
theorem dX5_push_28 : decode cX5_push 28 = .ok (.ifCond .ne 5, 3) := by decide +kernel
theorem dX5_push_31 : decode cX5_push 31 = .ok (.iconst (-1), 1) := by decide +kernel
theorem dX5_push_32 : decode cX5_push 32 = .ok (.ireturn, 1) := by decide +kernel
theorem dX5_push_33 : decode cX5_push 33 = .ok (.aload_n 0, 1) := by decide +kernel
theorem dX5_push_34 : decode cX5_push 34 = .ok (.aload 4, 2) := by decide +kernel
theorem dX5_push_36 : decode cX5_push 36 = .ok (.aload 5, 2) := by decide +kernel
theorem dX5_push_38 : decode cX5_push 38 = .ok (.invokevirtual 156, 3) := by decide +kernel
theorem dX5_push_41 : decode cX5_push 41 = .ok (.ifCond .ne 6, 3) := by decide +kernel
theorem dX5_push_44 : decode cX5_push 44 = .ok (.bipush (-10), 2) := by decide +kernel
theorem dX5_push_46 : decode cX5_push 46 = .ok (.ireturn, 1) := by decide +kernel
theorem dX5_push_47 : decode cX5_push 47 = .ok (.aload 5, 2) := by decide +kernel
theorem dX5_push_49 : decode cX5_push 49 = .ok (.getfield 109, 3) := by decide +kernel
theorem dX5_push_52 : decode cX5_push 52 = .ok (.ifCond .eq 12, 3) := by decide +kernel
theorem dX5_push_55 : decode cX5_push 55 = .ok (.aload 5, 2) := by decide +kernel
theorem dX5_push_57 : decode cX5_push 57 = .ok (.getfield 126, 3) := by decide +kernel
theorem dX5_push_60 : decode cX5_push 60 = .ok (.iconst (-1), 1) := by decide +kernel
theorem dX5_push_61 : decode cX5_push 61 = .ok (.if_icmp .eq 6, 3) := by decide +kernel
theorem dX5_push_64 : decode cX5_push 64 = .ok (.bipush (-30), 2) := by decide +kernel
theorem dX5_push_66 : decode cX5_push 66 = .ok (.ireturn, 1) := by decide +kernel
theorem dX5_push_67 : decode cX5_push 67 = .ok (.aload 4, 2) := by decide +kernel
theorem dX5_push_69 : decode cX5_push 69 = .ok (.getfield 170, 3) := by decide +kernel
theorem dX5_push_72 : decode cX5_push 72 = .ok (.ifnull 6, 3) := by decide +kernel
theorem dX5_push_75 : decode cX5_push 75 = .ok (.bipush (-20), 2) := by decide +kernel
theorem dX5_push_77 : decode cX5_push 77 = .ok (.ireturn, 1) := by decide +kernel
theorem dX5_push_78 : decode cX5_push 78 = .ok (.aload_n 0, 1) := by decide +kernel
theorem dX5_push_79 : decode cX5_push 79 = .ok (.aload 4, 2) := by decide +kernel
theorem dX5_push_81 : decode cX5_push 81 = .ok (.aload 5, 2) := by decide +kernel
theorem dX5_push_83 : decode cX5_push 83 = .ok (.iload_n 3, 1) := by decide +kernel
theorem dX5_push_84 : decode cX5_push 84 = .ok (.invokevirtual 183, 3) := by decide +kernel
theorem dX5_push_87 : decode cX5_push 87 = .ok (.ireturn, 1) := by decide +kernel
theorem dX5_back_0 : decode cX5_back 0 = .ok (.aload_n 0, 1) := by decide +kernel
theorem dX5_back_1 : decode cX5_back 1 = .ok (.iload_n 1, 1) := by decide +kernel
theorem dX5_back_2 : decode cX5_back 2 = .ok (.invokevirtual 133, 3) := by decide +kernel
theorem dX5_back_5 : decode cX5_back 5 = .ok (.astore_n 2, 1) := by decide +kernel
theorem dX5_back_6 : decode cX5_back 6 = .ok (.aload_n 2, 1) := by decide +kernel
theorem dX5_back_7 : decode cX5_back 7 = .ok (.ifnonnull 5, 3) := by decide +kernel
theorem dX5_back_10 : decode cX5_back 10 = .ok (.iconst (-1), 1) := by decide +kernel
theorem dX5_back_11 : decode cX5_back 11 = .ok (.ireturn, 1) := by decide +kernel
theorem dX5_back_12 : decode cX5_back 12 = .ok (.aload_n 0, 1) := by decide +kernel
theorem dX5_back_13 : decode cX5_back 13 = .ok (.aload_n 2, 1) := by decide +kernel
theorem dX5_back_14 : decode cX5_back 14 = .ok (.invokevirtual 187, 3) := by decide +kernel
theorem dX5_back_17 : decode cX5_back 17 = .ok (.istore_n 3, 1) := by decide +kernel
theorem dX5_back_18 : decode cX5_back 18 = .ok (.iload_n 3, 1) := by decide +kernel
theorem dX5_back_19 : decode cX5_back 19 = .ok (.iconst (-1), 1) := by decide +kernel
theorem dX5_back_20 : decode cX5_back 20 = .ok (.if_icmp .ne 7, 3) := by decide +kernel
theorem dX5_back_23 : decode cX5_back 23 = .ok (.iconst 0, 1) := by decide +kernel
theorem dX5_back_24 : decode cX5_back 24 = .ok (.goto 9, 3) := by decide +kernel
theorem dX5_back_27 : decode cX5_back 27 = .ok (.aload_n 0, 1) := by decide +kernel
theorem dX5_back_28 : decode cX5_back 28 = .ok (.aload_n 2, 1) := by decide +kernel
theorem dX5_back_29 : decode cX5_back 29 = .ok (.iload_n 3, 1) := by decide +kernel
theorem dX5_back_30 : decode cX5_back 30 = .ok (.invokevirtual 179, 3) := by decide +kernel
theorem dX5_back_33 : decode cX5_back 33 = .ok (.ireturn, 1) := by decide +kernel
theorem dX5_follow_0 : decode cX5_follow 0 = .ok (.aload_n 0, 1) := by decide +kernel
theorem dX5_follow_1 : decode cX5_follow 1 = .ok (.iload_n 1, 1) := by decide +kernel
theorem dX5_follow_2 : decode cX5_follow 2 = .ok (.invokevirtual 133, 3) := by decide +kernel
theorem dX5_follow_5 : decode cX5_follow 5 = .ok (.astore_n 3, 1) := by decide +kernel
theorem dX5_follow_6 : decode cX5_follow 6 = .ok (.aload_n 0, 1) := by decide +kernel
theorem dX5_follow_7 : decode cX5_follow 7 = .ok (.iload_n 2, 1) := by decide +kernel
theorem dX5_follow_8 : decode cX5_follow 8 = .ok (.invokevirtual 133, 3) := by decide +kernel
theorem dX5_follow_11 : decode cX5_follow 11 = .ok (.astore 4, 2) := by decide +kernel
theorem dX5_follow_13 : decode cX5_follow 13 = .ok (.aload_n 3, 1) := by decide +kernel
theorem dX5_follow_14 : decode cX5_follow 14 = .ok (.ifnull 8, 3) := by decide +kernel
theorem dX5_follow_17 : decode cX5_follow 17 = .ok (.aload 4, 2) := by decide +kernel
theorem dX5_follow_19 : decode cX5_follow 19 = .ok (.ifnonnull 5, 3) := by decide +kernel
theorem dX5_follow_22 : decode cX5_follow 22 = .ok (.iconst (-1), 1) := by decide +kernel
theorem dX5_follow_23 : decode cX5_follow 23 = .ok (.ireturn, 1) := by decide +kernel
theorem dX5_follow_24 : decode cX5_follow 24 = .ok (.aload_n 3, 1) := by decide +kernel
theorem dX5_follow_25 : decode cX5_follow 25 = .ok (.getfield 191, 3) := by decide +kernel
theorem dX5_follow_28 : decode cX5_follow 28 = .ok (.aload 4, 2) := by decide +kernel
theorem dX5_follow_30 : decode cX5_follow 30 = .ok (.getfield 191, 3) := by decide +kernel
theorem dX5_follow_33 : decode cX5_follow 33 = .ok (.if_icmp .ne 8, 3) := by decide +kernel
theorem dX5_follow_36 : decode cX5_follow 36 = .ok (.aload_n 3, 1) := by decide +kernel
theorem dX5_follow_37 : decode cX5_follow 37 = .ok (.getfield 191, 3) := by decide +kernel
theorem dX5_follow_40 : decode cX5_follow 40 = .ok (.ireturn, 1) := by decide +kernel
theorem dX5_follow_41 : decode cX5_follow 41 = .ok (.aload_n 0, 1) := by decide +kernel
theorem dX5_follow_42 : decode cX5_follow 42 = .ok (.aload_n 3, 1) := by decide +kernel
theorem dX5_follow_43 : decode cX5_follow 43 = .ok (.getfield 191, 3) := by decide +kernel
theorem dX5_follow_46 : decode cX5_follow 46 = .ok (.invokevirtual 194, 3) := by decide +kernel
theorem dX5_follow_49 : decode cX5_follow 49 = .ok (.aload_n 0, 1) := by decide +kernel
theorem dX5_follow_50 : decode cX5_follow 50 = .ok (.getfield 46, 3) := by decide +kernel
theorem dX5_follow_53 : decode cX5_follow 53 = .ok (.aload 4, 2) := by decide +kernel
theorem dX5_follow_55 : decode cX5_follow 55 = .ok (.getfield 191, 3) := by decide +kernel
end
section
theorem dX5_follow_58 : decode cX5_follow 58 = .ok (.invokevirtual 198, 3) := by decide +kernel
theorem dX5_follow_61 : decode cX5_follow 61 = .ok (.iconst (-1), 1) := by decide +kernel
theorem dX5_follow_62 : decode cX5_follow 62 = .ok (.if_icmp .ne 6, 3) := by decide +kernel
theorem dX5_follow_65 : decode cX5_follow 65 = .ok (.bipush (-31), 2) := by decide +kernel
theorem dX5_follow_67 : decode cX5_follow 67 = .ok (.ireturn, 1) := by decide +kernel
theorem dX5_follow_68 : decode cX5_follow 68 = .ok (.aload_n 0, 1) := by decide +kernel
theorem dX5_follow_69 : decode cX5_follow 69 = .ok (.aload_n 3, 1) := by decide +kernel
theorem dX5_follow_70 : decode cX5_follow 70 = .ok (.aload_n 0, 1) := by decide +kernel
theorem dX5_follow_71 : decode cX5_follow 71 = .ok (.getfield 46, 3) := by decide +kernel
theorem dX5_follow_74 : decode cX5_follow 74 = .ok (.aload 4, 2) := by decide +kernel
theorem dX5_follow_76 : decode cX5_follow 76 = .ok (.getfield 191, 3) := by decide +kernel
theorem dX5_follow_79 : decode cX5_follow 79 = .ok (.iconst 0, 1) := by decide +kernel
theorem dX5_follow_80 : decode cX5_follow 80 = .ok (.invokevirtual 201, 3) := by decide +kernel
theorem dX5_follow_83 : decode cX5_follow 83 = .ok (.invokevirtual 179, 3) := by decide +kernel
theorem dX5_follow_86 : decode cX5_follow 86 = .ok (.ireturn, 1) := by decide +kernel
theorem dX5_route_0 : decode cX5_route 0 = .ok (.aload_n 0, 1) := by decide +kernel
theorem dX5_route_1 : decode cX5_route 1 = .ok (.iload_n 1, 1) := by decide +kernel
theorem dX5_route_2 : decode cX5_route 2 = .ok (.invokevirtual 61, 3) := by decide +kernel
theorem dX5_route_5 : decode cX5_route 5 = .ok (.ifCond .eq 16, 3) := by decide +kernel
theorem dX5_route_8 : decode cX5_route 8 = .ok (.aload_n 0, 1) := by decide +kernel
theorem dX5_route_9 : decode cX5_route 9 = .ok (.iload_n 2, 1) := by decide +kernel
theorem dX5_route_10 : decode cX5_route 10 = .ok (.invokevirtual 61, 3) := by decide +kernel
theorem dX5_route_13 : decode cX5_route 13 = .ok (.ifCond .eq 8, 3) := by decide +kernel
theorem dX5_route_16 : decode cX5_route 16 = .ok (.iload_n 3, 1) := by decide +kernel
theorem dX5_route_17 : decode cX5_route 17 = .ok (.iconst (-1), 1) := by decide +kernel
theorem dX5_route_18 : decode cX5_route 18 = .ok (.if_icmp .ge 5, 3) := by decide +kernel
theorem dX5_route_21 : decode cX5_route 21 = .ok (.iconst (-1), 1) := by decide +kernel
theorem dX5_route_22 : decode cX5_route 22 = .ok (.ireturn, 1) := by decide +kernel
theorem dX5_route_23 : decode cX5_route 23 = .ok (.aload_n 0, 1) := by decide +kernel
theorem dX5_route_24 : decode cX5_route 24 = .ok (.iload_n 1, 1) := by decide +kernel
theorem dX5_route_25 : decode cX5_route 25 = .ok (.invokevirtual 194, 3) := by decide +kernel
theorem dX5_route_28 : decode cX5_route 28 = .ok (.aload_n 0, 1) := by decide +kernel
theorem dX5_route_29 : decode cX5_route 29 = .ok (.getfield 46, 3) := by decide +kernel
theorem dX5_route_32 : decode cX5_route 32 = .ok (.iload_n 2, 1) := by decide +kernel
theorem dX5_route_33 : decode cX5_route 33 = .ok (.invokevirtual 198, 3) := by decide +kernel
theorem dX5_route_36 : decode cX5_route 36 = .ok (.istore 4, 2) := by decide +kernel
theorem dX5_route_38 : decode cX5_route 38 = .ok (.iload 4, 2) := by decide +kernel
theorem dX5_route_40 : decode cX5_route 40 = .ok (.iconst (-1), 1) := by decide +kernel
theorem dX5_route_41 : decode cX5_route 41 = .ok (.if_icmp .eq 9, 3) := by decide +kernel
theorem dX5_route_44 : decode cX5_route 44 = .ok (.iload_n 3, 1) := by decide +kernel
theorem dX5_route_45 : decode cX5_route 45 = .ok (.iload 4, 2) := by decide +kernel
theorem dX5_route_47 : decode cX5_route 47 = .ok (.if_icmp .lt 5, 3) := by decide +kernel
theorem dX5_route_50 : decode cX5_route 50 = .ok (.iconst (-1), 1) := by decide +kernel
theorem dX5_route_51 : decode cX5_route 51 = .ok (.ireturn, 1) := by decide +kernel
theorem dX5_route_52 : decode cX5_route 52 = .ok (.iload_n 3, 1) := by decide +kernel
theorem dX5_route_53 : decode cX5_route 53 = .ok (.iconst (-1), 1) := by decide +kernel
theorem dX5_route_54 : decode cX5_route 54 = .ok (.if_icmp .ne 8, 3) := by decide +kernel
theorem dX5_route_57 : decode cX5_route 57 = .ok (.iload 4, 2) := by decide +kernel
theorem dX5_route_59 : decode cX5_route 59 = .ok (.goto 12, 3) := by decide +kernel
theorem dX5_route_62 : decode cX5_route 62 = .ok (.aload_n 0, 1) := by decide +kernel
theorem dX5_route_63 : decode cX5_route 63 = .ok (.getfield 46, 3) := by decide +kernel
theorem dX5_route_66 : decode cX5_route 66 = .ok (.iload_n 2, 1) := by decide +kernel
theorem dX5_route_67 : decode cX5_route 67 = .ok (.iload_n 3, 1) := by decide +kernel
theorem dX5_route_68 : decode cX5_route 68 = .ok (.invokevirtual 201, 3) := by decide +kernel
theorem dX5_route_71 : decode cX5_route 71 = .ok (.ireturn, 1) := by decide +kernel
theorem dX5_way_0 : decode cX5_way 0 = .ok (.aload_n 0, 1) := by decide +kernel
theorem dX5_way_1 : decode cX5_way 1 = .ok (.iload_n 1, 1) := by decide +kernel
theorem dX5_way_2 : decode cX5_way 2 = .ok (.iload_n 2, 1) := by decide +kernel
theorem dX5_way_3 : decode cX5_way 3 = .ok (.invokevirtual 71, 3) := by decide +kernel
theorem dX5_way_6 : decode cX5_way 6 = .ok (.ifCond .eq 16, 3) := by decide +kernel
theorem dX5_way_9 : decode cX5_way 9 = .ok (.aload_n 0, 1) := by decide +kernel
theorem dX5_way_10 : decode cX5_way 10 = .ok (.getfield 9, 3) := by decide +kernel
theorem dX5_way_13 : decode cX5_way 13 = .ok (.iload_n 1, 1) := by decide +kernel
theorem dX5_way_14 : decode cX5_way 14 = .ok (.iload_n 2, 1) := by decide +kernel
theorem dX5_way_15 : decode cX5_way 15 = .ok (.invokestatic 78, 3) := by decide +kernel
theorem dX5_way_18 : decode cX5_way 18 = .ok (.iaload, 1) := by decide +kernel
theorem dX5_way_19 : decode cX5_way 19 = .ok (.goto 4, 3) := by decide +kernel
theorem dX5_way_22 : decode cX5_way 22 = .ok (.iconst (-1), 1) := by decide +kernel
theorem dX5_way_23 : decode cX5_way 23 = .ok (.ireturn, 1) := by decide +kernel
theorem dX5_leads_0 : decode cX5_leads 0 = .ok (.aload_n 0, 1) := by decide +kernel
theorem dX5_leads_1 : decode cX5_leads 1 = .ok (.iload_n 1, 1) := by decide +kernel
theorem dX5_leads_2 : decode cX5_leads 2 = .ok (.iload_n 2, 1) := by decide +kernel
theorem dX5_leads_3 : decode cX5_leads 3 = .ok (.invokevirtual 204, 3) := by decide +kernel
theorem dX5_leads_6 : decode cX5_leads 6 = .ok (.istore_n 3, 1) := by decide +kernel
theorem dX5_leads_7 : decode cX5_leads 7 = .ok (.iload_n 3, 1) := by decide +kernel
theorem dX5_leads_8 : decode cX5_leads 8 = .ok (.iconst (-1), 1) := by decide +kernel
theorem dX5_leads_9 : decode cX5_leads 9 = .ok (.if_icmp .ne 7, 3) := by decide +kernel
theorem dX5_leads_12 : decode cX5_leads 12 = .ok (.iconst (-1), 1) := by decide +kernel
theorem dX5_leads_13 : decode cX5_leads 13 = .ok (.goto 4, 3) := by decide +kernel
theorem dX5_leads_16 : decode cX5_leads 16 = .ok (.iload_n 3, 1) := by decide +kernel
theorem dX5_leads_17 : decode cX5_leads 17 = .ok (.ireturn, 1) := by decide +kernel
theorem dX5_state_0 : decode cX5_state 0 = .ok (.aload_n 0, 1) := by decide +kernel
theorem dX5_state_1 : decode cX5_state 1 = .ok (.iload_n 1, 1) := by decide +kernel
theorem dX5_state_2 : decode cX5_state 2 = .ok (.invokevirtual 101, 3) := by decide +kernel
theorem dX5_state_5 : decode cX5_state 5 = .ok (.astore_n 2, 1) := by decide +kernel
theorem dX5_state_6 : decode cX5_state 6 = .ok (.aload_n 2, 1) := by decide +kernel
theorem dX5_state_7 : decode cX5_state 7 = .ok (.ifnonnull 5, 3) := by decide +kernel
theorem dX5_state_10 : decode cX5_state 10 = .ok (.iconst (-1), 1) := by decide +kernel
theorem dX5_state_11 : decode cX5_state 11 = .ok (.ireturn, 1) := by decide +kernel
theorem dX5_state_12 : decode cX5_state 12 = .ok (.aload_n 2, 1) := by decide +kernel
theorem dX5_state_13 : decode cX5_state 13 = .ok (.getfield 207, 3) := by decide +kernel
theorem dX5_state_16 : decode cX5_state 16 = .ok (.ifCond .eq 7, 3) := by decide +kernel
theorem dX5_state_19 : decode cX5_state 19 = .ok (.iconst 1, 1) := by decide +kernel
theorem dX5_state_20 : decode cX5_state 20 = .ok (.goto 4, 3) := by decide +kernel
theorem dX5_state_23 : decode cX5_state 23 = .ok (.iconst 0, 1) := by decide +kernel
theorem dX5_state_24 : decode cX5_state 24 = .ok (.istore_n 3, 1) := by decide +kernel
theorem dX5_state_25 : decode cX5_state 25 = .ok (.aload_n 2, 1) := by decide +kernel
theorem dX5_state_26 : decode cX5_state 26 = .ok (.getfield 116, 3) := by decide +kernel
theorem dX5_state_29 : decode cX5_state 29 = .ok (.ifCond .eq 7, 3) := by decide +kernel
theorem dX5_state_32 : decode cX5_state 32 = .ok (.iconst 2, 1) := by decide +kernel
theorem dX5_state_33 : decode cX5_state 33 = .ok (.goto 4, 3) := by decide +kernel
theorem dX5_state_36 : decode cX5_state 36 = .ok (.iconst 0, 1) := by decide +kernel
theorem dX5_state_37 : decode cX5_state 37 = .ok (.istore 4, 2) := by decide +kernel
theorem dX5_state_39 : decode cX5_state 39 = .ok (.aload_n 2, 1) := by decide +kernel
theorem dX5_state_40 : decode cX5_state 40 = .ok (.getfield 112, 3) := by decide +kernel
theorem dX5_state_43 : decode cX5_state 43 = .ok (.ifnull 7, 3) := by decide +kernel
theorem dX5_state_46 : decode cX5_state 46 = .ok (.iconst 4, 1) := by decide +kernel
theorem dX5_state_47 : decode cX5_state 47 = .ok (.goto 4, 3) := by decide +kernel
theorem dX5_state_50 : decode cX5_state 50 = .ok (.iconst 0, 1) := by decide +kernel
theorem dX5_state_51 : decode cX5_state 51 = .ok (.istore 5, 2) := by decide +kernel
theorem dX5_state_53 : decode cX5_state 53 = .ok (.aload_n 2, 1) := by decide +kernel
theorem dX5_state_54 : decode cX5_state 54 = .ok (.getfield 210, 3) := by decide +kernel
theorem dX5_state_57 : decode cX5_state 57 = .ok (.iconst (-1), 1) := by decide +kernel
theorem dX5_state_58 : decode cX5_state 58 = .ok (.if_icmp .eq 8, 3) := by decide +kernel
theorem dX5_state_61 : decode cX5_state 61 = .ok (.bipush 8, 2) := by decide +kernel
theorem dX5_state_63 : decode cX5_state 63 = .ok (.goto 4, 3) := by decide +kernel
theorem dX5_state_66 : decode cX5_state 66 = .ok (.iconst 0, 1) := by decide +kernel
theorem dX5_state_67 : decode cX5_state 67 = .ok (.istore 6, 2) := by decide +kernel
theorem dX5_state_69 : decode cX5_state 69 = .ok (.iload_n 3, 1) := by decide +kernel
theorem dX5_state_70 : decode cX5_state 70 = .ok (.iload 4, 2) := by decide +kernel
theorem dX5_state_72 : decode cX5_state 72 = .ok (.iadd, 1) := by decide +kernel
theorem dX5_state_73 : decode cX5_state 73 = .ok (.iload 5, 2) := by decide +kernel
theorem dX5_state_75 : decode cX5_state 75 = .ok (.iadd, 1) := by decide +kernel
theorem dX5_state_76 : decode cX5_state 76 = .ok (.iload 6, 2) := by decide +kernel
theorem dX5_state_78 : decode cX5_state 78 = .ok (.iadd, 1) := by decide +kernel
theorem dX5_state_79 : decode cX5_state 79 = .ok (.ireturn, 1) := by decide +kernel
theorem dX5_thingIs_0 : decode cX5_thingIs 0 = .ok (.aload_n 0, 1) := by decide +kernel
theorem dX5_thingIs_1 : decode cX5_thingIs 1 = .ok (.iload_n 1, 1) := by decide +kernel
theorem dX5_thingIs_2 : decode cX5_thingIs 2 = .ok (.invokevirtual 105, 3) := by decide +kernel
theorem dX5_thingIs_5 : decode cX5_thingIs 5 = .ok (.astore_n 3, 1) := by decide +kernel
theorem dX5_thingIs_6 : decode cX5_thingIs 6 = .ok (.aload_n 3, 1) := by decide +kernel
theorem dX5_thingIs_7 : decode cX5_thingIs 7 = .ok (.ifnonnull 5, 3) := by decide +kernel
theorem dX5_thingIs_10 : decode cX5_thingIs 10 = .ok (.iconst (-1), 1) := by decide +kernel
theorem dX5_thingIs_11 : decode cX5_thingIs 11 = .ok (.ireturn, 1) := by decide +kernel
theorem dX5_thingIs_12 : decode cX5_thingIs 12 = .ok (.iload_n 2, 1) := by decide +kernel
theorem dX5_thingIs_13 : decode cX5_thingIs 13 = .ok (.tableswitch 72 0 4 #[35, 41, 46, 51, 64], 35) := by decide +kernel
theorem dX5_thingIs_48 : decode cX5_thingIs 48 = .ok (.aload_n 0, 1) := by decide +kernel
theorem dX5_thingIs_49 : decode cX5_thingIs 49 = .ok (.aload_n 3, 1) := by decide +kernel
theorem dX5_thingIs_50 : decode cX5_thingIs 50 = .ok (.invokevirtual 213, 3) := by decide +kernel
theorem dX5_thingIs_53 : decode cX5_thingIs 53 = .ok (.ireturn, 1) := by decide +kernel
theorem dX5_thingIs_54 : decode cX5_thingIs 54 = .ok (.aload_n 3, 1) := by decide +kernel
theorem dX5_thingIs_55 : decode cX5_thingIs 55 = .ok (.getfield 109, 3) := by decide +kernel
theorem dX5_thingIs_58 : decode cX5_thingIs 58 = .ok (.ireturn, 1) := by decide +kernel
theorem dX5_thingIs_59 : decode cX5_thingIs 59 = .ok (.aload_n 3, 1) := by decide +kernel
theorem dX5_thingIs_60 : decode cX5_thingIs 60 = .ok (.getfield 217, 3) := by decide +kernel
theorem dX5_thingIs_63 : decode cX5_thingIs 63 = .ok (.ireturn, 1) := by decide +kernel
theorem dX5_thingIs_64 : decode cX5_thingIs 64 = .ok (.aload_n 3, 1) := by decide +kernel
theorem dX5_thingIs_65 : decode cX5_thingIs 65 = .ok (.getfield 173, 3) := by decide +kernel
theorem dX5_thingIs_68 : decode cX5_thingIs 68 = .ok (.ifCond .eq 7, 3) := by decide +kernel
theorem dX5_thingIs_71 : decode cX5_thingIs 71 = .ok (.iconst 1, 1) := by decide +kernel
theorem dX5_thingIs_72 : decode cX5_thingIs 72 = .ok (.goto 4, 3) := by decide +kernel
theorem dX5_thingIs_75 : decode cX5_thingIs 75 = .ok (.iconst 0, 1) := by decide +kernel
theorem dX5_thingIs_76 : decode cX5_thingIs 76 = .ok (.ireturn, 1) := by decide +kernel
theorem dX5_thingIs_77 : decode cX5_thingIs 77 = .ok (.aload_n 3, 1) := by decide +kernel
theorem dX5_thingIs_78 : decode cX5_thingIs 78 = .ok (.getfield 126, 3) := by decide +kernel
theorem dX5_thingIs_81 : decode cX5_thingIs 81 = .ok (.invokestatic 220, 3) := by decide +kernel
theorem dX5_thingIs_84 : decode cX5_thingIs 84 = .ok (.ireturn, 1) := by decide +kernel
theorem dX5_thingIs_85 : decode cX5_thingIs 85 = .ok (.iconst (-1), 1) := by decide +kernel
theorem dX5_thingIs_86 : decode cX5_thingIs 86 = .ok (.ireturn, 1) := by decide +kernel
theorem dX5_beingIs_0 : decode cX5_beingIs 0 = .ok (.aload_n 0, 1) := by decide +kernel
theorem dX5_beingIs_1 : decode cX5_beingIs 1 = .ok (.iload_n 1, 1) := by decide +kernel
theorem dX5_beingIs_2 : decode cX5_beingIs 2 = .ok (.invokevirtual 133, 3) := by decide +kernel
theorem dX5_beingIs_5 : decode cX5_beingIs 5 = .ok (.astore_n 3, 1) := by decide +kernel
theorem dX5_beingIs_6 : decode cX5_beingIs 6 = .ok (.aload_n 3, 1) := by decide +kernel
theorem dX5_beingIs_7 : decode cX5_beingIs 7 = .ok (.ifnonnull 5, 3) := by decide +kernel
theorem dX5_beingIs_10 : decode cX5_beingIs 10 = .ok (.iconst (-1), 1) := by decide +kernel
theorem dX5_beingIs_11 : decode cX5_beingIs 11 = .ok (.ireturn, 1) := by decide +kernel
theorem dX5_beingIs_12 : decode cX5_beingIs 12 = .ok (.iload_n 2, 1) := by decide +kernel
theorem dX5_beingIs_13 : decode cX5_beingIs 13 = .ok (.tableswitch 78 0 4 #[35, 40, 60, 68, 73], 35) := by decide +kernel
theorem dX5_beingIs_48 : decode cX5_beingIs 48 = .ok (.aload_n 3, 1) := by decide +kernel
theorem dX5_beingIs_49 : decode cX5_beingIs 49 = .ok (.getfield 191, 3) := by decide +kernel
theorem dX5_beingIs_52 : decode cX5_beingIs 52 = .ok (.ireturn, 1) := by decide +kernel
theorem dX5_beingIs_53 : decode cX5_beingIs 53 = .ok (.aload_n 3, 1) := by decide +kernel
theorem dX5_beingIs_54 : decode cX5_beingIs 54 = .ok (.getfield 170, 3) := by decide +kernel
theorem dX5_beingIs_57 : decode cX5_beingIs 57 = .ok (.ifnonnull 8, 3) := by decide +kernel
theorem dX5_beingIs_60 : decode cX5_beingIs 60 = .ok (.bipush (-3), 2) := by decide +kernel
theorem dX5_beingIs_62 : decode cX5_beingIs 62 = .ok (.goto 10, 3) := by decide +kernel
theorem dX5_beingIs_65 : decode cX5_beingIs 65 = .ok (.aload_n 3, 1) := by decide +kernel
theorem dX5_beingIs_66 : decode cX5_beingIs 66 = .ok (.getfield 170, 3) := by decide +kernel
theorem dX5_beingIs_69 : decode cX5_beingIs 69 = .ok (.getfield 223, 3) := by decide +kernel
theorem dX5_beingIs_72 : decode cX5_beingIs 72 = .ok (.ireturn, 1) := by decide +kernel
theorem dX5_beingIs_73 : decode cX5_beingIs 73 = .ok (.aload_n 3, 1) := by decide +kernel
theorem dX5_beingIs_74 : decode cX5_beingIs 74 = .ok (.getfield 226, 3) := by decide +kernel
theorem dX5_beingIs_77 : decode cX5_beingIs 77 = .ok (.invokestatic 220, 3) := by decide +kernel
theorem dX5_beingIs_80 : decode cX5_beingIs 80 = .ok (.ireturn, 1) := by decide +kernel
theorem dX5_beingIs_81 : decode cX5_beingIs 81 = .ok (.aload_n 3, 1) := by decide +kernel
theorem dX5_beingIs_82 : decode cX5_beingIs 82 = .ok (.getfield 229, 3) := by decide +kernel
theorem dX5_beingIs_85 : decode cX5_beingIs 85 = .ok (.ireturn, 1) := by decide +kernel
theorem dX5_beingIs_86 : decode cX5_beingIs 86 = .ok (.aload_n 3, 1) := by decide +kernel
theorem dX5_beingIs_87 : decode cX5_beingIs 87 = .ok (.getfield 232, 3) := by decide +kernel
theorem dX5_beingIs_90 : decode cX5_beingIs 90 = .ok (.ireturn, 1) := by decide +kernel
theorem dX5_beingIs_91 : decode cX5_beingIs 91 = .ok (.iconst (-1), 1) := by decide +kernel
theorem dX5_beingIs_92 : decode cX5_beingIs 92 = .ok (.ireturn, 1) := by decide +kernel
theorem dX5_news_0 : decode cX5_news 0 = .ok (.aload_n 0, 1) := by decide +kernel
theorem dX5_news_1 : decode cX5_news 1 = .ok (.iload_n 1, 1) := by decide +kernel
theorem dX5_news_2 : decode cX5_news 2 = .ok (.invokevirtual 133, 3) := by decide +kernel
theorem dX5_news_5 : decode cX5_news 5 = .ok (.astore_n 3, 1) := by decide +kernel
theorem dX5_news_6 : decode cX5_news 6 = .ok (.aload_n 3, 1) := by decide +kernel
theorem dX5_news_7 : decode cX5_news 7 = .ok (.ifnull 15, 3) := by decide +kernel
theorem dX5_news_10 : decode cX5_news 10 = .ok (.iload_n 2, 1) := by decide +kernel
theorem dX5_news_11 : decode cX5_news 11 = .ok (.ifCond .lt 11, 3) := by decide +kernel
theorem dX5_news_14 : decode cX5_news 14 = .ok (.iload_n 2, 1) := by decide +kernel
theorem dX5_news_15 : decode cX5_news 15 = .ok (.aload_n 3, 1) := by decide +kernel
theorem dX5_news_16 : decode cX5_news 16 = .ok (.getfield 232, 3) := by decide +kernel
theorem dX5_news_19 : decode cX5_news 19 = .ok (.if_icmp .lt 5, 3) := by decide +kernel
theorem dX5_news_22 : decode cX5_news 22 = .ok (.iconst (-1), 1) := by decide +kernel
theorem dX5_news_23 : decode cX5_news 23 = .ok (.ireturn, 1) := by decide +kernel
theorem dX5_news_24 : decode cX5_news 24 = .ok (.aload_n 3, 1) := by decide +kernel
theorem dX5_news_25 : decode cX5_news 25 = .ok (.getfield 235, 3) := by decide +kernel
theorem dX5_news_28 : decode cX5_news 28 = .ok (.iload_n 2, 1) := by decide +kernel
theorem dX5_news_29 : decode cX5_news 29 = .ok (.iaload, 1) := by decide +kernel
theorem dX5_news_30 : decode cX5_news 30 = .ok (.ireturn, 1) := by decide +kernel
theorem dX5_here_0 : decode cX5_here 0 = .ok (.aload_n 0, 1) := by decide +kernel
theorem dX5_here_1 : decode cX5_here 1 = .ok (.iload_n 1, 1) := by decide +kernel
theorem dX5_here_2 : decode cX5_here 2 = .ok (.invokevirtual 133, 3) := by decide +kernel
theorem dX5_here_5 : decode cX5_here 5 = .ok (.astore 4, 2) := by decide +kernel
theorem dX5_here_7 : decode cX5_here 7 = .ok (.aload 4, 2) := by decide +kernel
theorem dX5_here_9 : decode cX5_here 9 = .ok (.ifnonnull 5, 3) := by decide +kernel
theorem dX5_here_12 : decode cX5_here 12 = .ok (.iconst 0, 1) := by decide +kernel
theorem dX5_here_13 : decode cX5_here 13 = .ok (.ireturn, 1) := by decide +kernel
theorem dX5_here_14 : decode cX5_here 14 = .ok (.iload_n 2, 1) := by decide +kernel
theorem dX5_here_15 : decode cX5_here 15 = .ok (.tableswitch 59 0 2 #[25, 36, 48], 25) := by decide +kernel
theorem dX5_here_40 : decode cX5_here 40 = .ok (.aload 4, 2) := by decide +kernel
theorem dX5_here_42 : decode cX5_here 42 = .ok (.aload_n 0, 1) := by decide +kernel
theorem dX5_here_43 : decode cX5_here 43 = .ok (.iload_n 3, 1) := by decide +kernel
theorem dX5_here_44 : decode cX5_here 44 = .ok (.invokevirtual 101, 3) := by decide +kernel
theorem dX5_here_47 : decode cX5_here 47 = .ok (.invokestatic 137, 3) := by decide +kernel
theorem dX5_here_50 : decode cX5_here 50 = .ok (.ireturn, 1) := by decide +kernel
theorem dX5_here_51 : decode cX5_here 51 = .ok (.aload_n 0, 1) := by decide +kernel
theorem dX5_here_52 : decode cX5_here 52 = .ok (.aload 4, 2) := by decide +kernel
theorem dX5_here_54 : decode cX5_here 54 = .ok (.aload_n 0, 1) := by decide +kernel
theorem dX5_here_55 : decode cX5_here 55 = .ok (.iload_n 3, 1) := by decide +kernel
theorem dX5_here_56 : decode cX5_here 56 = .ok (.invokevirtual 105, 3) := by decide +kernel
theorem dX5_here_59 : decode cX5_here 59 = .ok (.invokevirtual 156, 3) := by decide +kernel
theorem dX5_here_62 : decode cX5_here 62 = .ok (.ireturn, 1) := by decide +kernel
theorem dX5_here_63 : decode cX5_here 63 = .ok (.aload 4, 2) := by decide +kernel
theorem dX5_here_65 : decode cX5_here 65 = .ok (.aload_n 0, 1) := by decide +kernel
theorem dX5_here_66 : decode cX5_here 66 = .ok (.iload_n 3, 1) := by decide +kernel
theorem dX5_here_67 : decode cX5_here 67 = .ok (.invokevirtual 133, 3) := by decide +kernel
theorem dX5_here_70 : decode cX5_here 70 = .ok (.invokestatic 238, 3) := by decide +kernel
theorem dX5_here_73 : decode cX5_here 73 = .ok (.ireturn, 1) := by decide +kernel
theorem dX5_here_74 : decode cX5_here 74 = .ok (.iconst 0, 1) := by decide +kernel
theorem dX5_here_75 : decode cX5_here 75 = .ok (.ireturn, 1) := by decide +kernel
theorem dX5_count_0 : decode cX5_count 0 = .ok (.iload_n 1, 1) := by decide +kernel
theorem dX5_count_1 : decode cX5_count 1 = .ok (.tableswitch 71 0 5 #[39, 44, 49, 54, 59, 65], 39) := by decide +kernel
theorem dX5_count_40 : decode cX5_count 40 = .ok (.aload_n 0, 1) := by decide +kernel
theorem dX5_count_41 : decode cX5_count 41 = .ok (.getfield 57, 3) := by decide +kernel
theorem dX5_count_44 : decode cX5_count 44 = .ok (.ireturn, 1) := by decide +kernel
theorem dX5_count_45 : decode cX5_count 45 = .ok (.aload_n 0, 1) := by decide +kernel
theorem dX5_count_46 : decode cX5_count 46 = .ok (.getfield 65, 3) := by decide +kernel
theorem dX5_count_49 : decode cX5_count 49 = .ok (.ireturn, 1) := by decide +kernel
theorem dX5_count_50 : decode cX5_count 50 = .ok (.aload_n 0, 1) := by decide +kernel
theorem dX5_count_51 : decode cX5_count 51 = .ok (.getfield 120, 3) := by decide +kernel
theorem dX5_count_54 : decode cX5_count 54 = .ok (.ireturn, 1) := by decide +kernel
theorem dX5_count_55 : decode cX5_count 55 = .ok (.aload_n 0, 1) := by decide +kernel
theorem dX5_count_56 : decode cX5_count 56 = .ok (.getfield 129, 3) := by decide +kernel
theorem dX5_count_59 : decode cX5_count 59 = .ok (.ireturn, 1) := by decide +kernel
theorem dX5_count_60 : decode cX5_count 60 = .ok (.aload_n 0, 1) := by decide +kernel
theorem dX5_count_61 : decode cX5_count 61 = .ok (.iconst 0, 1) := by decide +kernel
theorem dX5_count_62 : decode cX5_count 62 = .ok (.invokevirtual 242, 3) := by decide +kernel
theorem dX5_count_65 : decode cX5_count 65 = .ok (.ireturn, 1) := by decide +kernel
theorem dX5_count_66 : decode cX5_count 66 = .ok (.aload_n 0, 1) := by decide +kernel
theorem dX5_count_67 : decode cX5_count 67 = .ok (.iconst 1, 1) := by decide +kernel
theorem dX5_count_68 : decode cX5_count 68 = .ok (.invokevirtual 242, 3) := by decide +kernel
theorem dX5_count_71 : decode cX5_count 71 = .ok (.ireturn, 1) := by decide +kernel
theorem dX5_count_72 : decode cX5_count 72 = .ok (.iconst (-1), 1) := by decide +kernel
theorem dX5_count_73 : decode cX5_count 73 = .ok (.ireturn, 1) := by decide +kernel
theorem dX5_isRoom_0 : decode cX5_isRoom 0 = .ok (.iload_n 1, 1) := by decide +kernel
theorem dX5_isRoom_1 : decode cX5_isRoom 1 = .ok (.ifCond .lt 15, 3) := by decide +kernel
theorem dX5_isRoom_4 : decode cX5_isRoom 4 = .ok (.iload_n 1, 1) := by decide +kernel
theorem dX5_isRoom_5 : decode cX5_isRoom 5 = .ok (.aload_n 0, 1) := by decide +kernel
theorem dX5_isRoom_6 : decode cX5_isRoom 6 = .ok (.getfield 57, 3) := by decide +kernel
theorem dX5_isRoom_9 : decode cX5_isRoom 9 = .ok (.if_icmp .ge 7, 3) := by decide +kernel
theorem dX5_isRoom_12 : decode cX5_isRoom 12 = .ok (.iconst 1, 1) := by decide +kernel
theorem dX5_isRoom_13 : decode cX5_isRoom 13 = .ok (.goto 4, 3) := by decide +kernel
theorem dX5_isRoom_16 : decode cX5_isRoom 16 = .ok (.iconst 0, 1) := by decide +kernel
theorem dX5_isRoom_17 : decode cX5_isRoom 17 = .ok (.ireturn, 1) := by decide +kernel
theorem dX5_isDirection_0 : decode cX5_isDirection 0 = .ok (.iload_n 0, 1) := by decide +kernel
theorem dX5_isDirection_1 : decode cX5_isDirection 1 = .ok (.ifCond .lt 13, 3) := by decide +kernel
theorem dX5_isDirection_4 : decode cX5_isDirection 4 = .ok (.iload_n 0, 1) := by decide +kernel
theorem dX5_isDirection_5 : decode cX5_isDirection 5 = .ok (.bipush 8, 2) := by decide +kernel
theorem dX5_isDirection_7 : decode cX5_isDirection 7 = .ok (.if_icmp .ge 7, 3) := by decide +kernel
theorem dX5_isDirection_10 : decode cX5_isDirection 10 = .ok (.iconst 1, 1) := by decide +kernel
theorem dX5_isDirection_11 : decode cX5_isDirection 11 = .ok (.goto 4, 3) := by decide +kernel
theorem dX5_isDirection_14 : decode cX5_isDirection 14 = .ok (.iconst 0, 1) := by decide +kernel
theorem dX5_isDirection_15 : decode cX5_isDirection 15 = .ok (.ireturn, 1) := by decide +kernel
theorem dX5_isRegion_0 : decode cX5_isRegion 0 = .ok (.iload_n 0, 1) := by decide +kernel
theorem dX5_isRegion_1 : decode cX5_isRegion 1 = .ok (.ifCond .lt 13, 3) := by decide +kernel
theorem dX5_isRegion_4 : decode cX5_isRegion 4 = .ok (.iload_n 0, 1) := by decide +kernel
theorem dX5_isRegion_5 : decode cX5_isRegion 5 = .ok (.bipush 7, 2) := by decide +kernel
theorem dX5_isRegion_7 : decode cX5_isRegion 7 = .ok (.if_icmp .ge 7, 3) := by decide +kernel
theorem dX5_isRegion_10 : decode cX5_isRegion 10 = .ok (.iconst 1, 1) := by decide +kernel
theorem dX5_isRegion_11 : decode cX5_isRegion 11 = .ok (.goto 4, 3) := by decide +kernel
theorem dX5_isRegion_14 : decode cX5_isRegion 14 = .ok (.iconst 0, 1) := by decide +kernel
theorem dX5_isRegion_15 : decode cX5_isRegion 15 = .ok (.ireturn, 1) := by decide +kernel
theorem dX5_isPlace_0 : decode cX5_isPlace 0 = .ok (.aload_n 0, 1) := by decide +kernel
theorem dX5_isPlace_1 : decode cX5_isPlace 1 = .ok (.iload_n 1, 1) := by decide +kernel
theorem dX5_isPlace_2 : decode cX5_isPlace 2 = .ok (.invokevirtual 61, 3) := by decide +kernel
theorem dX5_isPlace_5 : decode cX5_isPlace 5 = .ok (.ifCond .eq 14, 3) := by decide +kernel
theorem dX5_isPlace_8 : decode cX5_isPlace 8 = .ok (.iload_n 2, 1) := by decide +kernel
theorem dX5_isPlace_9 : decode cX5_isPlace 9 = .ok (.invokestatic 176, 3) := by decide +kernel
theorem dX5_isPlace_12 : decode cX5_isPlace 12 = .ok (.ifCond .eq 7, 3) := by decide +kernel
theorem dX5_isPlace_15 : decode cX5_isPlace 15 = .ok (.iconst 1, 1) := by decide +kernel
theorem dX5_isPlace_16 : decode cX5_isPlace 16 = .ok (.goto 4, 3) := by decide +kernel
theorem dX5_isPlace_19 : decode cX5_isPlace 19 = .ok (.iconst 0, 1) := by decide +kernel
theorem dX5_isPlace_20 : decode cX5_isPlace 20 = .ok (.ireturn, 1) := by decide +kernel
theorem dX5_placeOf_0 : decode cX5_placeOf 0 = .ok (.iload_n 0, 1) := by decide +kernel
theorem dX5_placeOf_1 : decode cX5_placeOf 1 = .ok (.bipush 8, 2) := by decide +kernel
theorem dX5_placeOf_3 : decode cX5_placeOf 3 = .ok (.imul, 1) := by decide +kernel
theorem dX5_placeOf_4 : decode cX5_placeOf 4 = .ok (.iload_n 1, 1) := by decide +kernel
theorem dX5_placeOf_5 : decode cX5_placeOf 5 = .ok (.iadd, 1) := by decide +kernel
theorem dX5_placeOf_6 : decode cX5_placeOf 6 = .ok (.ireturn, 1) := by decide +kernel
theorem dX5_ruleAt_0 : decode cX5_ruleAt 0 = .ok (.iload_n 1, 1) := by decide +kernel
theorem dX5_ruleAt_1 : decode cX5_ruleAt 1 = .ok (.ifCond .lt 17, 3) := by decide +kernel
theorem dX5_ruleAt_4 : decode cX5_ruleAt 4 = .ok (.iload_n 1, 1) := by decide +kernel
theorem dX5_ruleAt_5 : decode cX5_ruleAt 5 = .ok (.iconst 5, 1) := by decide +kernel
theorem dX5_ruleAt_6 : decode cX5_ruleAt 6 = .ok (.if_icmp .ge 12, 3) := by decide +kernel
theorem dX5_ruleAt_9 : decode cX5_ruleAt 9 = .ok (.aload_n 0, 1) := by decide +kernel
theorem dX5_ruleAt_10 : decode cX5_ruleAt 10 = .ok (.getfield 18, 3) := by decide +kernel
theorem dX5_ruleAt_13 : decode cX5_ruleAt 13 = .ok (.iload_n 1, 1) := by decide +kernel
theorem dX5_ruleAt_14 : decode cX5_ruleAt 14 = .ok (.aaload, 1) := by decide +kernel
theorem dX5_ruleAt_15 : decode cX5_ruleAt 15 = .ok (.goto 4, 3) := by decide +kernel
theorem dX5_ruleAt_18 : decode cX5_ruleAt 18 = .ok (.aconst_null, 1) := by decide +kernel
theorem dX5_ruleAt_19 : decode cX5_ruleAt 19 = .ok (.areturn, 1) := by decide +kernel
theorem dX5_doorAt_0 : decode cX5_doorAt 0 = .ok (.iload_n 1, 1) := by decide +kernel
theorem dX5_doorAt_1 : decode cX5_doorAt 1 = .ok (.ifCond .lt 20, 3) := by decide +kernel
theorem dX5_doorAt_4 : decode cX5_doorAt 4 = .ok (.iload_n 1, 1) := by decide +kernel
theorem dX5_doorAt_5 : decode cX5_doorAt 5 = .ok (.aload_n 0, 1) := by decide +kernel
theorem dX5_doorAt_6 : decode cX5_doorAt 6 = .ok (.getfield 65, 3) := by decide +kernel
theorem dX5_doorAt_9 : decode cX5_doorAt 9 = .ok (.if_icmp .ge 12, 3) := by decide +kernel
theorem dX5_doorAt_12 : decode cX5_doorAt 12 = .ok (.aload_n 0, 1) := by decide +kernel
theorem dX5_doorAt_13 : decode cX5_doorAt 13 = .ok (.getfield 27, 3) := by decide +kernel
theorem dX5_doorAt_16 : decode cX5_doorAt 16 = .ok (.iload_n 1, 1) := by decide +kernel
theorem dX5_doorAt_17 : decode cX5_doorAt 17 = .ok (.aaload, 1) := by decide +kernel
theorem dX5_doorAt_18 : decode cX5_doorAt 18 = .ok (.goto 4, 3) := by decide +kernel
theorem dX5_doorAt_21 : decode cX5_doorAt 21 = .ok (.aconst_null, 1) := by decide +kernel
theorem dX5_doorAt_22 : decode cX5_doorAt 22 = .ok (.areturn, 1) := by decide +kernel
theorem dX5_thingAt_0 : decode cX5_thingAt 0 = .ok (.iload_n 1, 1) := by decide +kernel
theorem dX5_thingAt_1 : decode cX5_thingAt 1 = .ok (.ifCond .lt 20, 3) := by decide +kernel
theorem dX5_thingAt_4 : decode cX5_thingAt 4 = .ok (.iload_n 1, 1) := by decide +kernel
theorem dX5_thingAt_5 : decode cX5_thingAt 5 = .ok (.aload_n 0, 1) := by decide +kernel
theorem dX5_thingAt_6 : decode cX5_thingAt 6 = .ok (.getfield 120, 3) := by decide +kernel
theorem dX5_thingAt_9 : decode cX5_thingAt 9 = .ok (.if_icmp .ge 12, 3) := by decide +kernel
theorem dX5_thingAt_12 : decode cX5_thingAt 12 = .ok (.aload_n 0, 1) := by decide +kernel
theorem dX5_thingAt_13 : decode cX5_thingAt 13 = .ok (.getfield 33, 3) := by decide +kernel
theorem dX5_thingAt_16 : decode cX5_thingAt 16 = .ok (.iload_n 1, 1) := by decide +kernel
theorem dX5_thingAt_17 : decode cX5_thingAt 17 = .ok (.aaload, 1) := by decide +kernel
theorem dX5_thingAt_18 : decode cX5_thingAt 18 = .ok (.goto 4, 3) := by decide +kernel
theorem dX5_thingAt_21 : decode cX5_thingAt 21 = .ok (.aconst_null, 1) := by decide +kernel
theorem dX5_thingAt_22 : decode cX5_thingAt 22 = .ok (.areturn, 1) := by decide +kernel
theorem dX5_beingAt_0 : decode cX5_beingAt 0 = .ok (.iload_n 1, 1) := by decide +kernel
theorem dX5_beingAt_1 : decode cX5_beingAt 1 = .ok (.ifCond .lt 20, 3) := by decide +kernel
theorem dX5_beingAt_4 : decode cX5_beingAt 4 = .ok (.iload_n 1, 1) := by decide +kernel
theorem dX5_beingAt_5 : decode cX5_beingAt 5 = .ok (.aload_n 0, 1) := by decide +kernel
theorem dX5_beingAt_6 : decode cX5_beingAt 6 = .ok (.getfield 129, 3) := by decide +kernel
theorem dX5_beingAt_9 : decode cX5_beingAt 9 = .ok (.if_icmp .ge 12, 3) := by decide +kernel
theorem dX5_beingAt_12 : decode cX5_beingAt 12 = .ok (.aload_n 0, 1) := by decide +kernel
theorem dX5_beingAt_13 : decode cX5_beingAt 13 = .ok (.getfield 39, 3) := by decide +kernel
theorem dX5_beingAt_16 : decode cX5_beingAt 16 = .ok (.iload_n 1, 1) := by decide +kernel
theorem dX5_beingAt_17 : decode cX5_beingAt 17 = .ok (.aaload, 1) := by decide +kernel
theorem dX5_beingAt_18 : decode cX5_beingAt 18 = .ok (.goto 4, 3) := by decide +kernel
theorem dX5_beingAt_21 : decode cX5_beingAt 21 = .ok (.aconst_null, 1) := by decide +kernel
theorem dX5_beingAt_22 : decode cX5_beingAt 22 = .ok (.areturn, 1) := by decide +kernel
theorem dX5_orNoSuch_0 : decode cX5_orNoSuch 0 = .ok (.iload_n 0, 1) := by decide +kernel
theorem dX5_orNoSuch_1 : decode cX5_orNoSuch 1 = .ok (.iconst (-1), 1) := by decide +kernel
theorem dX5_orNoSuch_2 : decode cX5_orNoSuch 2 = .ok (.if_icmp .ne 8, 3) := by decide +kernel
theorem dX5_orNoSuch_5 : decode cX5_orNoSuch 5 = .ok (.bipush (-3), 2) := by decide +kernel
theorem dX5_orNoSuch_7 : decode cX5_orNoSuch 7 = .ok (.goto 4, 3) := by decide +kernel
theorem dX5_orNoSuch_10 : decode cX5_orNoSuch 10 = .ok (.iload_n 0, 1) := by decide +kernel
theorem dX5_orNoSuch_11 : decode cX5_orNoSuch 11 = .ok (.ireturn, 1) := by decide +kernel
theorem dX5_mayBeWayOf_0 : decode cX5_mayBeWayOf 0 = .ok (.iload_n 2, 1) := by decide +kernel
theorem dX5_mayBeWayOf_1 : decode cX5_mayBeWayOf 1 = .ok (.bipush 100, 2) := by decide +kernel
theorem dX5_mayBeWayOf_3 : decode cX5_mayBeWayOf 3 = .ok (.if_icmp .ge 22, 3) := by decide +kernel
theorem dX5_mayBeWayOf_6 : decode cX5_mayBeWayOf 6 = .ok (.iload_n 2, 1) := by decide +kernel
theorem dX5_mayBeWayOf_7 : decode cX5_mayBeWayOf 7 = .ok (.iconst (-1), 1) := by decide +kernel
theorem dX5_mayBeWayOf_8 : decode cX5_mayBeWayOf 8 = .ok (.if_icmp .eq 11, 3) := by decide +kernel
theorem dX5_mayBeWayOf_11 : decode cX5_mayBeWayOf 11 = .ok (.aload_n 0, 1) := by decide +kernel
theorem dX5_mayBeWayOf_12 : decode cX5_mayBeWayOf 12 = .ok (.iload_n 2, 1) := by decide +kernel
theorem dX5_mayBeWayOf_13 : decode cX5_mayBeWayOf 13 = .ok (.invokevirtual 61, 3) := by decide +kernel
theorem dX5_mayBeWayOf_16 : decode cX5_mayBeWayOf 16 = .ok (.ifCond .eq 7, 3) := by decide +kernel
theorem dX5_mayBeWayOf_19 : decode cX5_mayBeWayOf 19 = .ok (.iconst 1, 1) := by decide +kernel
theorem dX5_mayBeWayOf_20 : decode cX5_mayBeWayOf 20 = .ok (.goto 4, 3) := by decide +kernel
theorem dX5_mayBeWayOf_23 : decode cX5_mayBeWayOf 23 = .ok (.iconst 0, 1) := by decide +kernel
theorem dX5_mayBeWayOf_24 : decode cX5_mayBeWayOf 24 = .ok (.ireturn, 1) := by decide +kernel
theorem dX5_mayBeWayOf_25 : decode cX5_mayBeWayOf 25 = .ok (.iload_n 2, 1) := by decide +kernel
theorem dX5_mayBeWayOf_26 : decode cX5_mayBeWayOf 26 = .ok (.sipush 200, 3) := by decide +kernel
theorem dX5_mayBeWayOf_29 : decode cX5_mayBeWayOf 29 = .ok (.if_icmp .ge 30, 3) := by decide +kernel
theorem dX5_mayBeWayOf_32 : decode cX5_mayBeWayOf 32 = .ok (.aload_n 0, 1) := by decide +kernel
theorem dX5_mayBeWayOf_33 : decode cX5_mayBeWayOf 33 = .ok (.iload_n 2, 1) := by decide +kernel
theorem dX5_mayBeWayOf_34 : decode cX5_mayBeWayOf 34 = .ok (.bipush 100, 2) := by decide +kernel
theorem dX5_mayBeWayOf_36 : decode cX5_mayBeWayOf 36 = .ok (.isub, 1) := by decide +kernel
theorem dX5_mayBeWayOf_37 : decode cX5_mayBeWayOf 37 = .ok (.invokevirtual 101, 3) := by decide +kernel
theorem dX5_mayBeWayOf_40 : decode cX5_mayBeWayOf 40 = .ok (.astore_n 3, 1) := by decide +kernel
theorem dX5_mayBeWayOf_41 : decode cX5_mayBeWayOf 41 = .ok (.aload_n 3, 1) := by decide +kernel
theorem dX5_mayBeWayOf_42 : decode cX5_mayBeWayOf 42 = .ok (.ifnull 15, 3) := by decide +kernel
theorem dX5_mayBeWayOf_45 : decode cX5_mayBeWayOf 45 = .ok (.aload_n 3, 1) := by decide +kernel
theorem dX5_mayBeWayOf_46 : decode cX5_mayBeWayOf 46 = .ok (.iload_n 1, 1) := by decide +kernel
theorem dX5_mayBeWayOf_47 : decode cX5_mayBeWayOf 47 = .ok (.invokevirtual 246, 3) := by decide +kernel
theorem dX5_mayBeWayOf_50 : decode cX5_mayBeWayOf 50 = .ok (.ifCond .eq 7, 3) := by decide +kernel
theorem dX5_mayBeWayOf_53 : decode cX5_mayBeWayOf 53 = .ok (.iconst 1, 1) := by decide +kernel
theorem dX5_mayBeWayOf_54 : decode cX5_mayBeWayOf 54 = .ok (.goto 4, 3) := by decide +kernel
theorem dX5_mayBeWayOf_57 : decode cX5_mayBeWayOf 57 = .ok (.iconst 0, 1) := by decide +kernel
theorem dX5_mayBeWayOf_58 : decode cX5_mayBeWayOf 58 = .ok (.ireturn, 1) := by decide +kernel
theorem dX5_mayBeWayOf_59 : decode cX5_mayBeWayOf 59 = .ok (.iload_n 2, 1) := by decide +kernel
theorem dX5_mayBeWayOf_60 : decode cX5_mayBeWayOf 60 = .ok (.sipush 300, 3) := by decide +kernel
theorem dX5_mayBeWayOf_63 : decode cX5_mayBeWayOf 63 = .ok (.if_icmp .ge 19, 3) := by decide +kernel
theorem dX5_mayBeWayOf_66 : decode cX5_mayBeWayOf 66 = .ok (.iload_n 2, 1) := by decide +kernel
theorem dX5_mayBeWayOf_67 : decode cX5_mayBeWayOf 67 = .ok (.sipush 200, 3) := by decide +kernel
theorem dX5_mayBeWayOf_70 : decode cX5_mayBeWayOf 70 = .ok (.isub, 1) := by decide +kernel
theorem dX5_mayBeWayOf_71 : decode cX5_mayBeWayOf 71 = .ok (.bipush 50, 2) := by decide +kernel
theorem dX5_mayBeWayOf_73 : decode cX5_mayBeWayOf 73 = .ok (.if_icmp .ge 7, 3) := by decide +kernel
theorem dX5_mayBeWayOf_76 : decode cX5_mayBeWayOf 76 = .ok (.iconst 1, 1) := by decide +kernel
theorem dX5_mayBeWayOf_77 : decode cX5_mayBeWayOf 77 = .ok (.goto 4, 3) := by decide +kernel
theorem dX5_mayBeWayOf_80 : decode cX5_mayBeWayOf 80 = .ok (.iconst 0, 1) := by decide +kernel
theorem dX5_mayBeWayOf_81 : decode cX5_mayBeWayOf 81 = .ok (.ireturn, 1) := by decide +kernel
theorem dX5_mayBeWayOf_82 : decode cX5_mayBeWayOf 82 = .ok (.aload_n 0, 1) := by decide +kernel
theorem dX5_mayBeWayOf_83 : decode cX5_mayBeWayOf 83 = .ok (.iload_n 2, 1) := by decide +kernel
theorem dX5_mayBeWayOf_84 : decode cX5_mayBeWayOf 84 = .ok (.sipush 300, 3) := by decide +kernel
theorem dX5_mayBeWayOf_87 : decode cX5_mayBeWayOf 87 = .ok (.isub, 1) := by decide +kernel
theorem dX5_mayBeWayOf_88 : decode cX5_mayBeWayOf 88 = .ok (.invokevirtual 82, 3) := by decide +kernel
theorem dX5_mayBeWayOf_91 : decode cX5_mayBeWayOf 91 = .ok (.ifnull 7, 3) := by decide +kernel
theorem dX5_mayBeWayOf_94 : decode cX5_mayBeWayOf 94 = .ok (.iconst 1, 1) := by decide +kernel
theorem dX5_mayBeWayOf_95 : decode cX5_mayBeWayOf 95 = .ok (.goto 4, 3) := by decide +kernel
theorem dX5_mayBeWayOf_98 : decode cX5_mayBeWayOf 98 = .ok (.iconst 0, 1) := by decide +kernel
theorem dX5_mayBeWayOf_99 : decode cX5_mayBeWayOf 99 = .ok (.ireturn, 1) := by decide +kernel
theorem dX5_doorOfWay_0 : decode cX5_doorOfWay 0 = .ok (.iload_n 1, 1) := by decide +kernel
theorem dX5_doorOfWay_1 : decode cX5_doorOfWay 1 = .ok (.bipush 100, 2) := by decide +kernel
theorem dX5_doorOfWay_3 : decode cX5_doorOfWay 3 = .ok (.if_icmp .lt 21, 3) := by decide +kernel
theorem dX5_doorOfWay_6 : decode cX5_doorOfWay 6 = .ok (.iload_n 1, 1) := by decide +kernel
theorem dX5_doorOfWay_7 : decode cX5_doorOfWay 7 = .ok (.sipush 200, 3) := by decide +kernel
theorem dX5_doorOfWay_10 : decode cX5_doorOfWay 10 = .ok (.if_icmp .ge 14, 3) := by decide +kernel
theorem dX5_doorOfWay_13 : decode cX5_doorOfWay 13 = .ok (.aload_n 0, 1) := by decide +kernel
theorem dX5_doorOfWay_14 : decode cX5_doorOfWay 14 = .ok (.iload_n 1, 1) := by decide +kernel
theorem dX5_doorOfWay_15 : decode cX5_doorOfWay 15 = .ok (.bipush 100, 2) := by decide +kernel
theorem dX5_doorOfWay_17 : decode cX5_doorOfWay 17 = .ok (.isub, 1) := by decide +kernel
theorem dX5_doorOfWay_18 : decode cX5_doorOfWay 18 = .ok (.invokevirtual 101, 3) := by decide +kernel
theorem dX5_doorOfWay_21 : decode cX5_doorOfWay 21 = .ok (.goto 4, 3) := by decide +kernel
theorem dX5_doorOfWay_24 : decode cX5_doorOfWay 24 = .ok (.aconst_null, 1) := by decide +kernel
theorem dX5_doorOfWay_25 : decode cX5_doorOfWay 25 = .ok (.areturn, 1) := by decide +kernel
theorem dX5_ruleOfWay_0 : decode cX5_ruleOfWay 0 = .ok (.iload_n 1, 1) := by decide +kernel
theorem dX5_ruleOfWay_1 : decode cX5_ruleOfWay 1 = .ok (.sipush 300, 3) := by decide +kernel
theorem dX5_ruleOfWay_4 : decode cX5_ruleOfWay 4 = .ok (.if_icmp .lt 15, 3) := by decide +kernel
theorem dX5_ruleOfWay_7 : decode cX5_ruleOfWay 7 = .ok (.aload_n 0, 1) := by decide +kernel
theorem dX5_ruleOfWay_8 : decode cX5_ruleOfWay 8 = .ok (.iload_n 1, 1) := by decide +kernel
theorem dX5_ruleOfWay_9 : decode cX5_ruleOfWay 9 = .ok (.sipush 300, 3) := by decide +kernel
theorem dX5_ruleOfWay_12 : decode cX5_ruleOfWay 12 = .ok (.isub, 1) := by decide +kernel
theorem dX5_ruleOfWay_13 : decode cX5_ruleOfWay 13 = .ok (.invokevirtual 82, 3) := by decide +kernel
theorem dX5_ruleOfWay_16 : decode cX5_ruleOfWay 16 = .ok (.goto 4, 3) := by decide +kernel
theorem dX5_ruleOfWay_19 : decode cX5_ruleOfWay 19 = .ok (.aconst_null, 1) := by decide +kernel
theorem dX5_ruleOfWay_20 : decode cX5_ruleOfWay 20 = .ok (.areturn, 1) := by decide +kernel
theorem dX5_leadsTo_0 : decode cX5_leadsTo 0 = .ok (.aload_n 0, 1) := by decide +kernel
theorem dX5_leadsTo_1 : decode cX5_leadsTo 1 = .ok (.iload_n 1, 1) := by decide +kernel
theorem dX5_leadsTo_2 : decode cX5_leadsTo 2 = .ok (.iload_n 2, 1) := by decide +kernel
theorem dX5_leadsTo_3 : decode cX5_leadsTo 3 = .ok (.invokevirtual 71, 3) := by decide +kernel
theorem dX5_leadsTo_6 : decode cX5_leadsTo 6 = .ok (.ifCond .ne 5, 3) := by decide +kernel
theorem dX5_leadsTo_9 : decode cX5_leadsTo 9 = .ok (.iconst (-1), 1) := by decide +kernel
theorem dX5_leadsTo_10 : decode cX5_leadsTo 10 = .ok (.ireturn, 1) := by decide +kernel
theorem dX5_leadsTo_11 : decode cX5_leadsTo 11 = .ok (.aload_n 0, 1) := by decide +kernel
theorem dX5_leadsTo_12 : decode cX5_leadsTo 12 = .ok (.getfield 9, 3) := by decide +kernel
theorem dX5_leadsTo_15 : decode cX5_leadsTo 15 = .ok (.iload_n 1, 1) := by decide +kernel
theorem dX5_leadsTo_16 : decode cX5_leadsTo 16 = .ok (.iload_n 2, 1) := by decide +kernel
theorem dX5_leadsTo_17 : decode cX5_leadsTo 17 = .ok (.invokestatic 78, 3) := by decide +kernel
theorem dX5_leadsTo_20 : decode cX5_leadsTo 20 = .ok (.iaload, 1) := by decide +kernel
theorem dX5_leadsTo_21 : decode cX5_leadsTo 21 = .ok (.istore_n 3, 1) := by decide +kernel
theorem dX5_leadsTo_22 : decode cX5_leadsTo 22 = .ok (.iload_n 3, 1) := by decide +kernel
theorem dX5_leadsTo_23 : decode cX5_leadsTo 23 = .ok (.bipush 100, 2) := by decide +kernel
theorem dX5_leadsTo_25 : decode cX5_leadsTo 25 = .ok (.if_icmp .ge 5, 3) := by decide +kernel
theorem dX5_leadsTo_28 : decode cX5_leadsTo 28 = .ok (.iload_n 3, 1) := by decide +kernel
theorem dX5_leadsTo_29 : decode cX5_leadsTo 29 = .ok (.ireturn, 1) := by decide +kernel
theorem dX5_leadsTo_30 : decode cX5_leadsTo 30 = .ok (.aload_n 0, 1) := by decide +kernel
theorem dX5_leadsTo_31 : decode cX5_leadsTo 31 = .ok (.iload_n 3, 1) := by decide +kernel
theorem dX5_leadsTo_32 : decode cX5_leadsTo 32 = .ok (.invokevirtual 249, 3) := by decide +kernel
theorem dX5_leadsTo_35 : decode cX5_leadsTo 35 = .ok (.astore 4, 2) := by decide +kernel
theorem dX5_leadsTo_37 : decode cX5_leadsTo 37 = .ok (.aload 4, 2) := by decide +kernel
theorem dX5_leadsTo_39 : decode cX5_leadsTo 39 = .ok (.ifnull 22, 3) := by decide +kernel
theorem dX5_leadsTo_42 : decode cX5_leadsTo 42 = .ok (.aload 4, 2) := by decide +kernel
theorem dX5_leadsTo_44 : decode cX5_leadsTo 44 = .ok (.getfield 207, 3) := by decide +kernel
theorem dX5_leadsTo_47 : decode cX5_leadsTo 47 = .ok (.ifCond .eq 12, 3) := by decide +kernel
theorem dX5_leadsTo_50 : decode cX5_leadsTo 50 = .ok (.aload 4, 2) := by decide +kernel
theorem dX5_leadsTo_52 : decode cX5_leadsTo 52 = .ok (.iload_n 1, 1) := by decide +kernel
theorem dX5_leadsTo_53 : decode cX5_leadsTo 53 = .ok (.invokevirtual 252, 3) := by decide +kernel
theorem dX5_leadsTo_56 : decode cX5_leadsTo 56 = .ok (.goto 4, 3) := by decide +kernel
theorem dX5_leadsTo_59 : decode cX5_leadsTo 59 = .ok (.iconst (-1), 1) := by decide +kernel
theorem dX5_leadsTo_60 : decode cX5_leadsTo 60 = .ok (.ireturn, 1) := by decide +kernel
theorem dX5_leadsTo_61 : decode cX5_leadsTo 61 = .ok (.aload_n 0, 1) := by decide +kernel
theorem dX5_leadsTo_62 : decode cX5_leadsTo 62 = .ok (.iload_n 3, 1) := by decide +kernel
theorem dX5_leadsTo_63 : decode cX5_leadsTo 63 = .ok (.invokevirtual 255, 3) := by decide +kernel
theorem dX5_leadsTo_66 : decode cX5_leadsTo 66 = .ok (.astore 5, 2) := by decide +kernel
theorem dX5_leadsTo_68 : decode cX5_leadsTo 68 = .ok (.aload 5, 2) := by decide +kernel
theorem dX5_leadsTo_70 : decode cX5_leadsTo 70 = .ok (.ifnonnull 7, 3) := by decide +kernel
theorem dX5_leadsTo_73 : decode cX5_leadsTo 73 = .ok (.iconst (-1), 1) := by decide +kernel
theorem dX5_leadsTo_74 : decode cX5_leadsTo 74 = .ok (.goto 8, 3) := by decide +kernel
theorem dX5_leadsTo_77 : decode cX5_leadsTo 77 = .ok (.aload 5, 2) := by decide +kernel
theorem dX5_leadsTo_79 : decode cX5_leadsTo 79 = .ok (.invokevirtual 258, 3) := by decide +kernel
theorem dX5_leadsTo_82 : decode cX5_leadsTo 82 = .ok (.ireturn, 1) := by decide +kernel
theorem dX5_countWays_0 : decode cX5_countWays 0 = .ok (.iconst 0, 1) := by decide +kernel
theorem dX5_countWays_1 : decode cX5_countWays 1 = .ok (.istore_n 2, 1) := by decide +kernel
theorem dX5_countWays_2 : decode cX5_countWays 2 = .ok (.iconst 0, 1) := by decide +kernel
theorem dX5_countWays_3 : decode cX5_countWays 3 = .ok (.istore_n 3, 1) := by decide +kernel
theorem dX5_countWays_4 : decode cX5_countWays 4 = .ok (.iload_n 3, 1) := by decide +kernel
theorem dX5_countWays_5 : decode cX5_countWays 5 = .ok (.aload_n 0, 1) := by decide +kernel
theorem dX5_countWays_6 : decode cX5_countWays 6 = .ok (.getfield 57, 3) := by decide +kernel
theorem dX5_countWays_9 : decode cX5_countWays 9 = .ok (.if_icmp .ge 66, 3) := by decide +kernel
theorem dX5_countWays_12 : decode cX5_countWays 12 = .ok (.iconst 0, 1) := by decide +kernel
theorem dX5_countWays_13 : decode cX5_countWays 13 = .ok (.istore 4, 2) := by decide +kernel
theorem dX5_countWays_15 : decode cX5_countWays 15 = .ok (.iload 4, 2) := by decide +kernel
theorem dX5_countWays_17 : decode cX5_countWays 17 = .ok (.bipush 8, 2) := by decide +kernel
theorem dX5_countWays_19 : decode cX5_countWays 19 = .ok (.if_icmp .ge 50, 3) := by decide +kernel
theorem dX5_countWays_22 : decode cX5_countWays 22 = .ok (.iload_n 1, 1) := by decide +kernel
theorem dX5_countWays_23 : decode cX5_countWays 23 = .ok (.ifCond .eq 13, 3) := by decide +kernel
theorem dX5_countWays_26 : decode cX5_countWays 26 = .ok (.aload_n 0, 1) := by decide +kernel
theorem dX5_countWays_27 : decode cX5_countWays 27 = .ok (.iload_n 3, 1) := by decide +kernel
theorem dX5_countWays_28 : decode cX5_countWays 28 = .ok (.iload 4, 2) := by decide +kernel
theorem dX5_countWays_30 : decode cX5_countWays 30 = .ok (.invokevirtual 204, 3) := by decide +kernel
theorem dX5_countWays_33 : decode cX5_countWays 33 = .ok (.goto 14, 3) := by decide +kernel
theorem dX5_countWays_36 : decode cX5_countWays 36 = .ok (.aload_n 0, 1) := by decide +kernel
theorem dX5_countWays_37 : decode cX5_countWays 37 = .ok (.getfield 9, 3) := by decide +kernel
theorem dX5_countWays_40 : decode cX5_countWays 40 = .ok (.iload_n 3, 1) := by decide +kernel
theorem dX5_countWays_41 : decode cX5_countWays 41 = .ok (.iload 4, 2) := by decide +kernel
theorem dX5_countWays_43 : decode cX5_countWays 43 = .ok (.invokestatic 78, 3) := by decide +kernel
theorem dX5_countWays_46 : decode cX5_countWays 46 = .ok (.iaload, 1) := by decide +kernel
theorem dX5_countWays_47 : decode cX5_countWays 47 = .ok (.istore 5, 2) := by decide +kernel
theorem dX5_countWays_49 : decode cX5_countWays 49 = .ok (.iload_n 2, 1) := by decide +kernel
theorem dX5_countWays_50 : decode cX5_countWays 50 = .ok (.iload 5, 2) := by decide +kernel
theorem dX5_countWays_52 : decode cX5_countWays 52 = .ok (.iconst (-1), 1) := by decide +kernel
theorem dX5_countWays_53 : decode cX5_countWays 53 = .ok (.if_icmp .ne 7, 3) := by decide +kernel
theorem dX5_countWays_56 : decode cX5_countWays 56 = .ok (.iconst 0, 1) := by decide +kernel
theorem dX5_countWays_57 : decode cX5_countWays 57 = .ok (.goto 4, 3) := by decide +kernel
theorem dX5_countWays_60 : decode cX5_countWays 60 = .ok (.iconst 1, 1) := by decide +kernel
theorem dX5_countWays_61 : decode cX5_countWays 61 = .ok (.iadd, 1) := by decide +kernel
theorem dX5_countWays_62 : decode cX5_countWays 62 = .ok (.istore_n 2, 1) := by decide +kernel
theorem dX5_countWays_63 : decode cX5_countWays 63 = .ok (.iinc 4 1, 3) := by decide +kernel
theorem dX5_countWays_66 : decode cX5_countWays 66 = .ok (.goto (-51), 3) := by decide +kernel
theorem dX5_countWays_69 : decode cX5_countWays 69 = .ok (.iinc 3 1, 3) := by decide +kernel
theorem dX5_countWays_72 : decode cX5_countWays 72 = .ok (.goto (-68), 3) := by decide +kernel
theorem dX5_countWays_75 : decode cX5_countWays 75 = .ok (.iload_n 2, 1) := by decide +kernel
theorem dX5_countWays_76 : decode cX5_countWays 76 = .ok (.ireturn, 1) := by decide +kernel
theorem dX5_searchFrom_0 : decode cX5_searchFrom 0 = .ok (.aload_n 0, 1) := by decide +kernel
theorem dX5_searchFrom_1 : decode cX5_searchFrom 1 = .ok (.getfield 46, 3) := by decide +kernel
theorem dX5_searchFrom_4 : decode cX5_searchFrom 4 = .ok (.iload_n 1, 1) := by decide +kernel
theorem dX5_searchFrom_5 : decode cX5_searchFrom 5 = .ok (.invokevirtual 262, 3) := by decide +kernel
theorem dX5_searchFrom_8 : decode cX5_searchFrom 8 = .ok (.iconst 0, 1) := by decide +kernel
theorem dX5_searchFrom_9 : decode cX5_searchFrom 9 = .ok (.istore_n 2, 1) := by decide +kernel
theorem dX5_searchFrom_10 : decode cX5_searchFrom 10 = .ok (.iload_n 2, 1) := by decide +kernel
theorem dX5_searchFrom_11 : decode cX5_searchFrom 11 = .ok (.bipush 20, 2) := by decide +kernel
theorem dX5_searchFrom_13 : decode cX5_searchFrom 13 = .ok (.if_icmp .ge 63, 3) := by decide +kernel
theorem dX5_searchFrom_16 : decode cX5_searchFrom 16 = .ok (.iload_n 2, 1) := by decide +kernel
theorem dX5_searchFrom_17 : decode cX5_searchFrom 17 = .ok (.aload_n 0, 1) := by decide +kernel
theorem dX5_searchFrom_18 : decode cX5_searchFrom 18 = .ok (.getfield 46, 3) := by decide +kernel
theorem dX5_searchFrom_21 : decode cX5_searchFrom 21 = .ok (.getfield 265, 3) := by decide +kernel
theorem dX5_searchFrom_24 : decode cX5_searchFrom 24 = .ok (.if_icmp .ge 52, 3) := by decide +kernel
theorem dX5_searchFrom_27 : decode cX5_searchFrom 27 = .ok (.aload_n 0, 1) := by decide +kernel
theorem dX5_searchFrom_28 : decode cX5_searchFrom 28 = .ok (.getfield 46, 3) := by decide +kernel
theorem dX5_searchFrom_31 : decode cX5_searchFrom 31 = .ok (.getfield 268, 3) := by decide +kernel
theorem dX5_searchFrom_34 : decode cX5_searchFrom 34 = .ok (.iload_n 2, 1) := by decide +kernel
theorem dX5_searchFrom_35 : decode cX5_searchFrom 35 = .ok (.iaload, 1) := by decide +kernel
theorem dX5_searchFrom_36 : decode cX5_searchFrom 36 = .ok (.istore_n 3, 1) := by decide +kernel
theorem dX5_searchFrom_37 : decode cX5_searchFrom 37 = .ok (.iconst 0, 1) := by decide +kernel
theorem dX5_searchFrom_38 : decode cX5_searchFrom 38 = .ok (.istore 4, 2) := by decide +kernel
theorem dX5_searchFrom_40 : decode cX5_searchFrom 40 = .ok (.iload 4, 2) := by decide +kernel
theorem dX5_searchFrom_42 : decode cX5_searchFrom 42 = .ok (.bipush 8, 2) := by decide +kernel
theorem dX5_searchFrom_44 : decode cX5_searchFrom 44 = .ok (.if_icmp .ge 26, 3) := by decide +kernel
theorem dX5_searchFrom_47 : decode cX5_searchFrom 47 = .ok (.aload_n 0, 1) := by decide +kernel
theorem dX5_searchFrom_48 : decode cX5_searchFrom 48 = .ok (.getfield 46, 3) := by decide +kernel
theorem dX5_searchFrom_51 : decode cX5_searchFrom 51 = .ok (.aload_n 0, 1) := by decide +kernel
theorem dX5_searchFrom_52 : decode cX5_searchFrom 52 = .ok (.iload_n 3, 1) := by decide +kernel
theorem dX5_searchFrom_53 : decode cX5_searchFrom 53 = .ok (.iload 4, 2) := by decide +kernel
theorem dX5_searchFrom_55 : decode cX5_searchFrom 55 = .ok (.invokevirtual 204, 3) := by decide +kernel
theorem dX5_searchFrom_58 : decode cX5_searchFrom 58 = .ok (.iload_n 3, 1) := by decide +kernel
theorem dX5_searchFrom_59 : decode cX5_searchFrom 59 = .ok (.iload 4, 2) := by decide +kernel
theorem dX5_searchFrom_61 : decode cX5_searchFrom 61 = .ok (.invokevirtual 271, 3) := by decide +kernel
theorem dX5_searchFrom_64 : decode cX5_searchFrom 64 = .ok (.iinc 4 1, 3) := by decide +kernel
theorem dX5_searchFrom_67 : decode cX5_searchFrom 67 = .ok (.goto (-27), 3) := by decide +kernel
theorem dX5_searchFrom_70 : decode cX5_searchFrom 70 = .ok (.iinc 2 1, 3) := by decide +kernel
theorem dX5_searchFrom_73 : decode cX5_searchFrom 73 = .ok (.goto (-63), 3) := by decide +kernel
theorem dX5_searchFrom_76 : decode cX5_searchFrom 76 = .ok (.return_, 1) := by decide +kernel
theorem dX5_isShutIn_0 : decode cX5_isShutIn 0 = .ok (.aload_n 0, 1) := by decide +kernel
theorem dX5_isShutIn_1 : decode cX5_isShutIn 1 = .ok (.getfield 170, 3) := by decide +kernel
theorem dX5_isShutIn_4 : decode cX5_isShutIn 4 = .ok (.ifnull 17, 3) := by decide +kernel
theorem dX5_isShutIn_7 : decode cX5_isShutIn 7 = .ok (.aload_n 0, 1) := by decide +kernel
theorem dX5_isShutIn_8 : decode cX5_isShutIn 8 = .ok (.getfield 170, 3) := by decide +kernel
theorem dX5_isShutIn_11 : decode cX5_isShutIn 11 = .ok (.getfield 173, 3) := by decide +kernel
theorem dX5_isShutIn_14 : decode cX5_isShutIn 14 = .ok (.ifCond .eq 7, 3) := by decide +kernel
theorem dX5_isShutIn_17 : decode cX5_isShutIn 17 = .ok (.iconst 1, 1) := by decide +kernel
theorem dX5_isShutIn_18 : decode cX5_isShutIn 18 = .ok (.goto 4, 3) := by decide +kernel
theorem dX5_isShutIn_21 : decode cX5_isShutIn 21 = .ok (.iconst 0, 1) := by decide +kernel
theorem dX5_isShutIn_22 : decode cX5_isShutIn 22 = .ok (.ireturn, 1) := by decide +kernel
theorem dX5_isDoorHere_0 : decode cX5_isDoorHere 0 = .ok (.aload_n 1, 1) := by decide +kernel
theorem dX5_isDoorHere_1 : decode cX5_isDoorHere 1 = .ok (.ifnull 25, 3) := by decide +kernel
theorem dX5_isDoorHere_4 : decode cX5_isDoorHere 4 = .ok (.aload_n 1, 1) := by decide +kernel
theorem dX5_isDoorHere_5 : decode cX5_isDoorHere 5 = .ok (.aload_n 0, 1) := by decide +kernel
theorem dX5_isDoorHere_6 : decode cX5_isDoorHere 6 = .ok (.getfield 191, 3) := by decide +kernel
theorem dX5_isDoorHere_9 : decode cX5_isDoorHere 9 = .ok (.invokevirtual 246, 3) := by decide +kernel
theorem dX5_isDoorHere_12 : decode cX5_isDoorHere 12 = .ok (.ifCond .eq 14, 3) := by decide +kernel
theorem dX5_isDoorHere_15 : decode cX5_isDoorHere 15 = .ok (.aload_n 0, 1) := by decide +kernel
theorem dX5_isDoorHere_16 : decode cX5_isDoorHere 16 = .ok (.invokestatic 275, 3) := by decide +kernel
theorem dX5_isDoorHere_19 : decode cX5_isDoorHere 19 = .ok (.ifCond .ne 7, 3) := by decide +kernel
theorem dX5_isDoorHere_22 : decode cX5_isDoorHere 22 = .ok (.iconst 1, 1) := by decide +kernel
theorem dX5_isDoorHere_23 : decode cX5_isDoorHere 23 = .ok (.goto 4, 3) := by decide +kernel
theorem dX5_isDoorHere_26 : decode cX5_isDoorHere 26 = .ok (.iconst 0, 1) := by decide +kernel
theorem dX5_isDoorHere_27 : decode cX5_isDoorHere 27 = .ok (.ireturn, 1) := by decide +kernel
theorem dX5_isThingHere_0 : decode cX5_isThingHere 0 = .ok (.aload_n 2, 1) := by decide +kernel
theorem dX5_isThingHere_1 : decode cX5_isThingHere 1 = .ok (.ifnonnull 5, 3) := by decide +kernel
theorem dX5_isThingHere_4 : decode cX5_isThingHere 4 = .ok (.iconst 0, 1) := by decide +kernel
theorem dX5_isThingHere_5 : decode cX5_isThingHere 5 = .ok (.ireturn, 1) := by decide +kernel
theorem dX5_isThingHere_6 : decode cX5_isThingHere 6 = .ok (.aload_n 2, 1) := by decide +kernel
theorem dX5_isThingHere_7 : decode cX5_isThingHere 7 = .ok (.getfield 279, 3) := by decide +kernel
theorem dX5_isThingHere_10 : decode cX5_isThingHere 10 = .ok (.ifnull 17, 3) := by decide +kernel
theorem dX5_isThingHere_13 : decode cX5_isThingHere 13 = .ok (.aload_n 2, 1) := by decide +kernel
theorem dX5_isThingHere_14 : decode cX5_isThingHere 14 = .ok (.getfield 279, 3) := by decide +kernel
theorem dX5_isThingHere_17 : decode cX5_isThingHere 17 = .ok (.aload_n 1, 1) := by decide +kernel
theorem dX5_isThingHere_18 : decode cX5_isThingHere 18 = .ok (.if_acmp .ne 7, 3) := by decide +kernel
theorem dX5_isThingHere_21 : decode cX5_isThingHere 21 = .ok (.iconst 1, 1) := by decide +kernel
theorem dX5_isThingHere_22 : decode cX5_isThingHere 22 = .ok (.goto 4, 3) := by decide +kernel
theorem dX5_isThingHere_25 : decode cX5_isThingHere 25 = .ok (.iconst 0, 1) := by decide +kernel
theorem dX5_isThingHere_26 : decode cX5_isThingHere 26 = .ok (.ireturn, 1) := by decide +kernel
theorem dX5_isThingHere_27 : decode cX5_isThingHere 27 = .ok (.aload_n 1, 1) := by decide +kernel
theorem dX5_isThingHere_28 : decode cX5_isThingHere 28 = .ok (.invokestatic 275, 3) := by decide +kernel
theorem dX5_isThingHere_31 : decode cX5_isThingHere 31 = .ok (.ifCond .eq 19, 3) := by decide +kernel
theorem dX5_isThingHere_34 : decode cX5_isThingHere 34 = .ok (.aload_n 2, 1) := by decide +kernel
theorem dX5_isThingHere_35 : decode cX5_isThingHere 35 = .ok (.aload_n 1, 1) := by decide +kernel
theorem dX5_isThingHere_36 : decode cX5_isThingHere 36 = .ok (.getfield 170, 3) := by decide +kernel
theorem dX5_isThingHere_39 : decode cX5_isThingHere 39 = .ok (.if_acmp .ne 7, 3) := by decide +kernel
theorem dX5_isThingHere_42 : decode cX5_isThingHere 42 = .ok (.iconst 1, 1) := by decide +kernel
theorem dX5_isThingHere_43 : decode cX5_isThingHere 43 = .ok (.goto 16, 3) := by decide +kernel
theorem dX5_isThingHere_46 : decode cX5_isThingHere 46 = .ok (.iconst 0, 1) := by decide +kernel
theorem dX5_isThingHere_47 : decode cX5_isThingHere 47 = .ok (.goto 12, 3) := by decide +kernel
theorem dX5_isThingHere_50 : decode cX5_isThingHere 50 = .ok (.aload_n 0, 1) := by decide +kernel
theorem dX5_isThingHere_51 : decode cX5_isThingHere 51 = .ok (.aload_n 2, 1) := by decide +kernel
theorem dX5_isThingHere_52 : decode cX5_isThingHere 52 = .ok (.aload_n 1, 1) := by decide +kernel
theorem dX5_isThingHere_53 : decode cX5_isThingHere 53 = .ok (.getfield 191, 3) := by decide +kernel
theorem dX5_isThingHere_56 : decode cX5_isThingHere 56 = .ok (.invokevirtual 283, 3) := by decide +kernel
theorem dX5_isThingHere_59 : decode cX5_isThingHere 59 = .ok (.ireturn, 1) := by decide +kernel
theorem dX5_isInRoom_0 : decode cX5_isInRoom 0 = .ok (.aload_n 1, 1) := by decide +kernel
theorem dX5_isInRoom_1 : decode cX5_isInRoom 1 = .ok (.getfield 126, 3) := by decide +kernel
theorem dX5_isInRoom_4 : decode cX5_isInRoom 4 = .ok (.iconst (-1), 1) := by decide +kernel
theorem dX5_isInRoom_5 : decode cX5_isInRoom 5 = .ok (.if_icmp .ne 19, 3) := by decide +kernel
theorem dX5_isInRoom_8 : decode cX5_isInRoom 8 = .ok (.aload_n 1, 1) := by decide +kernel
theorem dX5_isInRoom_9 : decode cX5_isInRoom 9 = .ok (.getfield 287, 3) := by decide +kernel
theorem dX5_isInRoom_12 : decode cX5_isInRoom 12 = .ok (.iload_n 2, 1) := by decide +kernel
theorem dX5_isInRoom_13 : decode cX5_isInRoom 13 = .ok (.if_icmp .ne 7, 3) := by decide +kernel
theorem dX5_isInRoom_16 : decode cX5_isInRoom 16 = .ok (.iconst 1, 1) := by decide +kernel
theorem dX5_isInRoom_17 : decode cX5_isInRoom 17 = .ok (.goto 16, 3) := by decide +kernel
theorem dX5_isInRoom_20 : decode cX5_isInRoom 20 = .ok (.iconst 0, 1) := by decide +kernel
theorem dX5_isInRoom_21 : decode cX5_isInRoom 21 = .ok (.goto 12, 3) := by decide +kernel
theorem dX5_isInRoom_24 : decode cX5_isInRoom 24 = .ok (.aload_n 0, 1) := by decide +kernel
theorem dX5_isInRoom_25 : decode cX5_isInRoom 25 = .ok (.aload_n 1, 1) := by decide +kernel
theorem dX5_isInRoom_26 : decode cX5_isInRoom 26 = .ok (.getfield 126, 3) := by decide +kernel
theorem dX5_isInRoom_29 : decode cX5_isInRoom 29 = .ok (.iload_n 2, 1) := by decide +kernel
theorem dX5_isInRoom_30 : decode cX5_isInRoom 30 = .ok (.invokevirtual 288, 3) := by decide +kernel
theorem dX5_isInRoom_33 : decode cX5_isInRoom 33 = .ok (.ireturn, 1) := by decide +kernel
theorem dX5_isBeingHere_0 : decode cX5_isBeingHere 0 = .ok (.aload_n 1, 1) := by decide +kernel
theorem dX5_isBeingHere_1 : decode cX5_isBeingHere 1 = .ok (.ifnonnull 5, 3) := by decide +kernel
theorem dX5_isBeingHere_4 : decode cX5_isBeingHere 4 = .ok (.iconst 0, 1) := by decide +kernel
theorem dX5_isBeingHere_5 : decode cX5_isBeingHere 5 = .ok (.ireturn, 1) := by decide +kernel
theorem dX5_isBeingHere_6 : decode cX5_isBeingHere 6 = .ok (.aload_n 0, 1) := by decide +kernel
theorem dX5_isBeingHere_7 : decode cX5_isBeingHere 7 = .ok (.invokestatic 275, 3) := by decide +kernel
theorem dX5_isBeingHere_10 : decode cX5_isBeingHere 10 = .ok (.ifCond .eq 22, 3) := by decide +kernel
theorem dX5_isBeingHere_13 : decode cX5_isBeingHere 13 = .ok (.aload_n 1, 1) := by decide +kernel
theorem dX5_isBeingHere_14 : decode cX5_isBeingHere 14 = .ok (.getfield 170, 3) := by decide +kernel
theorem dX5_isBeingHere_17 : decode cX5_isBeingHere 17 = .ok (.aload_n 0, 1) := by decide +kernel
theorem dX5_isBeingHere_18 : decode cX5_isBeingHere 18 = .ok (.getfield 170, 3) := by decide +kernel
theorem dX5_isBeingHere_21 : decode cX5_isBeingHere 21 = .ok (.if_acmp .ne 7, 3) := by decide +kernel
theorem dX5_isBeingHere_24 : decode cX5_isBeingHere 24 = .ok (.iconst 1, 1) := by decide +kernel
theorem dX5_isBeingHere_25 : decode cX5_isBeingHere 25 = .ok (.goto 23, 3) := by decide +kernel
theorem dX5_isBeingHere_28 : decode cX5_isBeingHere 28 = .ok (.iconst 0, 1) := by decide +kernel
theorem dX5_isBeingHere_29 : decode cX5_isBeingHere 29 = .ok (.goto 19, 3) := by decide +kernel
theorem dX5_isBeingHere_32 : decode cX5_isBeingHere 32 = .ok (.aload_n 1, 1) := by decide +kernel
theorem dX5_isBeingHere_33 : decode cX5_isBeingHere 33 = .ok (.getfield 191, 3) := by decide +kernel
theorem dX5_isBeingHere_36 : decode cX5_isBeingHere 36 = .ok (.aload_n 0, 1) := by decide +kernel
theorem dX5_isBeingHere_37 : decode cX5_isBeingHere 37 = .ok (.getfield 191, 3) := by decide +kernel
theorem dX5_isBeingHere_40 : decode cX5_isBeingHere 40 = .ok (.if_icmp .ne 7, 3) := by decide +kernel
theorem dX5_isBeingHere_43 : decode cX5_isBeingHere 43 = .ok (.iconst 1, 1) := by decide +kernel
theorem dX5_isBeingHere_44 : decode cX5_isBeingHere 44 = .ok (.goto 4, 3) := by decide +kernel
theorem dX5_isBeingHere_47 : decode cX5_isBeingHere 47 = .ok (.iconst 0, 1) := by decide +kernel
theorem dX5_isBeingHere_48 : decode cX5_isBeingHere 48 = .ok (.ireturn, 1) := by decide +kernel
theorem dX5_hasRoom_0 : decode cX5_hasRoom 0 = .ok (.iload_n 1, 1) := by decide +kernel
theorem dX5_hasRoom_1 : decode cX5_hasRoom 1 = .ok (.invokestatic 92, 3) := by decide +kernel
theorem dX5_hasRoom_4 : decode cX5_hasRoom 4 = .ok (.ifCond .eq 28, 3) := by decide +kernel
theorem dX5_hasRoom_7 : decode cX5_hasRoom 7 = .ok (.aload_n 0, 1) := by decide +kernel
theorem dX5_hasRoom_8 : decode cX5_hasRoom 8 = .ok (.iload_n 2, 1) := by decide +kernel
theorem dX5_hasRoom_9 : decode cX5_hasRoom 9 = .ok (.invokevirtual 61, 3) := by decide +kernel
theorem dX5_hasRoom_12 : decode cX5_hasRoom 12 = .ok (.ifCond .eq 20, 3) := by decide +kernel
theorem dX5_hasRoom_15 : decode cX5_hasRoom 15 = .ok (.aload_n 0, 1) := by decide +kernel
theorem dX5_hasRoom_16 : decode cX5_hasRoom 16 = .ok (.getfield 22, 3) := by decide +kernel
theorem dX5_hasRoom_19 : decode cX5_hasRoom 19 = .ok (.iload_n 1, 1) := by decide +kernel
theorem dX5_hasRoom_20 : decode cX5_hasRoom 20 = .ok (.iaload, 1) := by decide +kernel
theorem dX5_hasRoom_21 : decode cX5_hasRoom 21 = .ok (.iconst 1, 1) := by decide +kernel
theorem dX5_hasRoom_22 : decode cX5_hasRoom 22 = .ok (.iload_n 2, 1) := by decide +kernel
theorem dX5_hasRoom_23 : decode cX5_hasRoom 23 = .ok (.ishl, 1) := by decide +kernel
theorem dX5_hasRoom_24 : decode cX5_hasRoom 24 = .ok (.iand, 1) := by decide +kernel
theorem dX5_hasRoom_25 : decode cX5_hasRoom 25 = .ok (.ifCond .eq 7, 3) := by decide +kernel
theorem dX5_hasRoom_28 : decode cX5_hasRoom 28 = .ok (.iconst 1, 1) := by decide +kernel
theorem dX5_hasRoom_29 : decode cX5_hasRoom 29 = .ok (.goto 4, 3) := by decide +kernel
theorem dX5_hasRoom_32 : decode cX5_hasRoom 32 = .ok (.iconst 0, 1) := by decide +kernel
theorem dX5_hasRoom_33 : decode cX5_hasRoom 33 = .ok (.ireturn, 1) := by decide +kernel
theorem dX5_leastRoomOf_0 : decode cX5_leastRoomOf 0 = .ok (.iconst 0, 1) := by decide +kernel
theorem dX5_leastRoomOf_1 : decode cX5_leastRoomOf 1 = .ok (.istore_n 2, 1) := by decide +kernel
theorem dX5_leastRoomOf_2 : decode cX5_leastRoomOf 2 = .ok (.iload_n 2, 1) := by decide +kernel
theorem dX5_leastRoomOf_3 : decode cX5_leastRoomOf 3 = .ok (.aload_n 0, 1) := by decide +kernel
theorem dX5_leastRoomOf_4 : decode cX5_leastRoomOf 4 = .ok (.getfield 57, 3) := by decide +kernel
theorem dX5_leastRoomOf_7 : decode cX5_leastRoomOf 7 = .ok (.if_icmp .ge 20, 3) := by decide +kernel
theorem dX5_leastRoomOf_10 : decode cX5_leastRoomOf 10 = .ok (.aload_n 0, 1) := by decide +kernel
theorem dX5_leastRoomOf_11 : decode cX5_leastRoomOf 11 = .ok (.iload_n 1, 1) := by decide +kernel
theorem dX5_leastRoomOf_12 : decode cX5_leastRoomOf 12 = .ok (.iload_n 2, 1) := by decide +kernel
theorem dX5_leastRoomOf_13 : decode cX5_leastRoomOf 13 = .ok (.invokevirtual 288, 3) := by decide +kernel
theorem dX5_leastRoomOf_16 : decode cX5_leastRoomOf 16 = .ok (.ifCond .eq 5, 3) := by decide +kernel
theorem dX5_leastRoomOf_19 : decode cX5_leastRoomOf 19 = .ok (.iload_n 2, 1) := by decide +kernel
theorem dX5_leastRoomOf_20 : decode cX5_leastRoomOf 20 = .ok (.ireturn, 1) := by decide +kernel
theorem dX5_leastRoomOf_21 : decode cX5_leastRoomOf 21 = .ok (.iinc 2 1, 3) := by decide +kernel
theorem dX5_leastRoomOf_24 : decode cX5_leastRoomOf 24 = .ok (.goto (-22), 3) := by decide +kernel
theorem dX5_leastRoomOf_27 : decode cX5_leastRoomOf 27 = .ok (.iconst (-1), 1) := by decide +kernel
theorem dX5_leastRoomOf_28 : decode cX5_leastRoomOf 28 = .ok (.ireturn, 1) := by decide +kernel
theorem dX5_placeOfThing_0 : decode cX5_placeOfThing 0 = .ok (.aload_n 1, 1) := by decide +kernel
theorem dX5_placeOfThing_1 : decode cX5_placeOfThing 1 = .ok (.getfield 279, 3) := by decide +kernel
theorem dX5_placeOfThing_4 : decode cX5_placeOfThing 4 = .ok (.ifnull 14, 3) := by decide +kernel
theorem dX5_placeOfThing_7 : decode cX5_placeOfThing 7 = .ok (.bipush 100, 2) := by decide +kernel
theorem dX5_placeOfThing_9 : decode cX5_placeOfThing 9 = .ok (.aload_n 1, 1) := by decide +kernel
theorem dX5_placeOfThing_10 : decode cX5_placeOfThing 10 = .ok (.getfield 279, 3) := by decide +kernel
theorem dX5_placeOfThing_13 : decode cX5_placeOfThing 13 = .ok (.getfield 291, 3) := by decide +kernel
theorem dX5_placeOfThing_16 : decode cX5_placeOfThing 16 = .ok (.iadd, 1) := by decide +kernel
theorem dX5_placeOfThing_17 : decode cX5_placeOfThing 17 = .ok (.ireturn, 1) := by decide +kernel
theorem dX5_placeOfThing_18 : decode cX5_placeOfThing 18 = .ok (.aload_n 1, 1) := by decide +kernel
theorem dX5_placeOfThing_19 : decode cX5_placeOfThing 19 = .ok (.getfield 126, 3) := by decide +kernel
theorem dX5_placeOfThing_22 : decode cX5_placeOfThing 22 = .ok (.iconst (-1), 1) := by decide +kernel
theorem dX5_placeOfThing_23 : decode cX5_placeOfThing 23 = .ok (.if_icmp .ne 10, 3) := by decide +kernel
theorem dX5_placeOfThing_26 : decode cX5_placeOfThing 26 = .ok (.aload_n 1, 1) := by decide +kernel
theorem dX5_placeOfThing_27 : decode cX5_placeOfThing 27 = .ok (.getfield 287, 3) := by decide +kernel
theorem dX5_placeOfThing_30 : decode cX5_placeOfThing 30 = .ok (.goto 14, 3) := by decide +kernel
theorem dX5_placeOfThing_33 : decode cX5_placeOfThing 33 = .ok (.aload_n 0, 1) := by decide +kernel
theorem dX5_placeOfThing_34 : decode cX5_placeOfThing 34 = .ok (.aload_n 1, 1) := by decide +kernel
theorem dX5_placeOfThing_35 : decode cX5_placeOfThing 35 = .ok (.getfield 126, 3) := by decide +kernel
theorem dX5_placeOfThing_38 : decode cX5_placeOfThing 38 = .ok (.invokevirtual 292, 3) := by decide +kernel
theorem dX5_placeOfThing_41 : decode cX5_placeOfThing 41 = .ok (.invokestatic 220, 3) := by decide +kernel
theorem dX5_placeOfThing_44 : decode cX5_placeOfThing 44 = .ok (.ireturn, 1) := by decide +kernel
theorem dX5_openDoor_0 : decode cX5_openDoor 0 = .ok (.aload_n 0, 1) := by decide +kernel
theorem dX5_openDoor_1 : decode cX5_openDoor 1 = .ok (.getfield 207, 3) := by decide +kernel
theorem dX5_openDoor_4 : decode cX5_openDoor 4 = .ok (.ifCond .eq 6, 3) := by decide +kernel
theorem dX5_openDoor_7 : decode cX5_openDoor 7 = .ok (.bipush (-11), 2) := by decide +kernel
theorem dX5_openDoor_9 : decode cX5_openDoor 9 = .ok (.ireturn, 1) := by decide +kernel
theorem dX5_openDoor_10 : decode cX5_openDoor 10 = .ok (.aload_n 0, 1) := by decide +kernel
theorem dX5_openDoor_11 : decode cX5_openDoor 11 = .ok (.getfield 116, 3) := by decide +kernel
theorem dX5_openDoor_14 : decode cX5_openDoor 14 = .ok (.ifCond .eq 6, 3) := by decide +kernel
theorem dX5_openDoor_17 : decode cX5_openDoor 17 = .ok (.bipush (-12), 2) := by decide +kernel
theorem dX5_openDoor_19 : decode cX5_openDoor 19 = .ok (.ireturn, 1) := by decide +kernel
theorem dX5_openDoor_20 : decode cX5_openDoor 20 = .ok (.aload_n 0, 1) := by decide +kernel
theorem dX5_openDoor_21 : decode cX5_openDoor 21 = .ok (.iconst 1, 1) := by decide +kernel
theorem dX5_openDoor_22 : decode cX5_openDoor 22 = .ok (.putfield 207, 3) := by decide +kernel
theorem dX5_openDoor_25 : decode cX5_openDoor 25 = .ok (.iconst 1, 1) := by decide +kernel
theorem dX5_openDoor_26 : decode cX5_openDoor 26 = .ok (.ireturn, 1) := by decide +kernel
theorem dX5_closeDoor_0 : decode cX5_closeDoor 0 = .ok (.aload_n 0, 1) := by decide +kernel
theorem dX5_closeDoor_1 : decode cX5_closeDoor 1 = .ok (.getfield 207, 3) := by decide +kernel
theorem dX5_closeDoor_4 : decode cX5_closeDoor 4 = .ok (.ifCond .ne 6, 3) := by decide +kernel
theorem dX5_closeDoor_7 : decode cX5_closeDoor 7 = .ok (.bipush (-11), 2) := by decide +kernel
theorem dX5_closeDoor_9 : decode cX5_closeDoor 9 = .ok (.ireturn, 1) := by decide +kernel
theorem dX5_closeDoor_10 : decode cX5_closeDoor 10 = .ok (.aload_n 0, 1) := by decide +kernel
theorem dX5_closeDoor_11 : decode cX5_closeDoor 11 = .ok (.iconst 0, 1) := by decide +kernel
theorem dX5_closeDoor_12 : decode cX5_closeDoor 12 = .ok (.putfield 207, 3) := by decide +kernel
theorem dX5_closeDoor_15 : decode cX5_closeDoor 15 = .ok (.iconst 1, 1) := by decide +kernel
theorem dX5_closeDoor_16 : decode cX5_closeDoor 16 = .ok (.ireturn, 1) := by decide +kernel
theorem dX5_turnKey_0 : decode cX5_turnKey 0 = .ok (.aload_n 2, 1) := by decide +kernel
theorem dX5_turnKey_1 : decode cX5_turnKey 1 = .ok (.getfield 116, 3) := by decide +kernel
theorem dX5_turnKey_4 : decode cX5_turnKey 4 = .ok (.iload_n 3, 1) := by decide +kernel
theorem dX5_turnKey_5 : decode cX5_turnKey 5 = .ok (.if_icmp .ne 6, 3) := by decide +kernel
theorem dX5_turnKey_8 : decode cX5_turnKey 8 = .ok (.bipush (-11), 2) := by decide +kernel
theorem dX5_turnKey_10 : decode cX5_turnKey 10 = .ok (.ireturn, 1) := by decide +kernel
theorem dX5_turnKey_11 : decode cX5_turnKey 11 = .ok (.aload_n 2, 1) := by decide +kernel
theorem dX5_turnKey_12 : decode cX5_turnKey 12 = .ok (.getfield 112, 3) := by decide +kernel
theorem dX5_turnKey_15 : decode cX5_turnKey 15 = .ok (.ifnonnull 6, 3) := by decide +kernel
theorem dX5_turnKey_18 : decode cX5_turnKey 18 = .ok (.bipush (-13), 2) := by decide +kernel
theorem dX5_turnKey_20 : decode cX5_turnKey 20 = .ok (.ireturn, 1) := by decide +kernel
theorem dX5_turnKey_21 : decode cX5_turnKey 21 = .ok (.aload_n 2, 1) := by decide +kernel
theorem dX5_turnKey_22 : decode cX5_turnKey 22 = .ok (.getfield 112, 3) := by decide +kernel
theorem dX5_turnKey_25 : decode cX5_turnKey 25 = .ok (.getfield 279, 3) := by decide +kernel
theorem dX5_turnKey_28 : decode cX5_turnKey 28 = .ok (.aload_n 1, 1) := by decide +kernel
theorem dX5_turnKey_29 : decode cX5_turnKey 29 = .ok (.if_acmp .eq 19, 3) := by decide +kernel
theorem dX5_turnKey_32 : decode cX5_turnKey 32 = .ok (.aload_n 0, 1) := by decide +kernel
theorem dX5_turnKey_33 : decode cX5_turnKey 33 = .ok (.aload_n 1, 1) := by decide +kernel
theorem dX5_turnKey_34 : decode cX5_turnKey 34 = .ok (.invokevirtual 295, 3) := by decide +kernel
theorem dX5_turnKey_37 : decode cX5_turnKey 37 = .ok (.ifCond .eq 8, 3) := by decide +kernel
theorem dX5_turnKey_40 : decode cX5_turnKey 40 = .ok (.bipush (-15), 2) := by decide +kernel
theorem dX5_turnKey_42 : decode cX5_turnKey 42 = .ok (.goto 5, 3) := by decide +kernel
theorem dX5_turnKey_45 : decode cX5_turnKey 45 = .ok (.bipush (-14), 2) := by decide +kernel
theorem dX5_turnKey_47 : decode cX5_turnKey 47 = .ok (.ireturn, 1) := by decide +kernel
theorem dX5_turnKey_48 : decode cX5_turnKey 48 = .ok (.aload_n 2, 1) := by decide +kernel
theorem dX5_turnKey_49 : decode cX5_turnKey 49 = .ok (.iload_n 3, 1) := by decide +kernel
theorem dX5_turnKey_50 : decode cX5_turnKey 50 = .ok (.putfield 116, 3) := by decide +kernel
theorem dX5_turnKey_53 : decode cX5_turnKey 53 = .ok (.iconst 1, 1) := by decide +kernel
theorem dX5_turnKey_54 : decode cX5_turnKey 54 = .ok (.ireturn, 1) := by decide +kernel
theorem dX5_holdsAnyKey_0 : decode cX5_holdsAnyKey 0 = .ok (.iconst 0, 1) := by decide +kernel
theorem dX5_holdsAnyKey_1 : decode cX5_holdsAnyKey 1 = .ok (.istore_n 2, 1) := by decide +kernel
theorem dX5_holdsAnyKey_2 : decode cX5_holdsAnyKey 2 = .ok (.iload_n 2, 1) := by decide +kernel
theorem dX5_holdsAnyKey_3 : decode cX5_holdsAnyKey 3 = .ok (.aload_n 0, 1) := by decide +kernel
theorem dX5_holdsAnyKey_4 : decode cX5_holdsAnyKey 4 = .ok (.getfield 65, 3) := by decide +kernel
theorem dX5_holdsAnyKey_7 : decode cX5_holdsAnyKey 7 = .ok (.if_icmp .ge 39, 3) := by decide +kernel
theorem dX5_holdsAnyKey_10 : decode cX5_holdsAnyKey 10 = .ok (.aload_n 0, 1) := by decide +kernel
theorem dX5_holdsAnyKey_11 : decode cX5_holdsAnyKey 11 = .ok (.getfield 27, 3) := by decide +kernel
theorem dX5_holdsAnyKey_14 : decode cX5_holdsAnyKey 14 = .ok (.iload_n 2, 1) := by decide +kernel
theorem dX5_holdsAnyKey_15 : decode cX5_holdsAnyKey 15 = .ok (.aaload, 1) := by decide +kernel
theorem dX5_holdsAnyKey_16 : decode cX5_holdsAnyKey 16 = .ok (.getfield 112, 3) := by decide +kernel
theorem dX5_holdsAnyKey_19 : decode cX5_holdsAnyKey 19 = .ok (.ifnull 21, 3) := by decide +kernel
theorem dX5_holdsAnyKey_22 : decode cX5_holdsAnyKey 22 = .ok (.aload_n 0, 1) := by decide +kernel
theorem dX5_holdsAnyKey_23 : decode cX5_holdsAnyKey 23 = .ok (.getfield 27, 3) := by decide +kernel
theorem dX5_holdsAnyKey_26 : decode cX5_holdsAnyKey 26 = .ok (.iload_n 2, 1) := by decide +kernel
theorem dX5_holdsAnyKey_27 : decode cX5_holdsAnyKey 27 = .ok (.aaload, 1) := by decide +kernel
theorem dX5_holdsAnyKey_28 : decode cX5_holdsAnyKey 28 = .ok (.getfield 112, 3) := by decide +kernel
theorem dX5_holdsAnyKey_31 : decode cX5_holdsAnyKey 31 = .ok (.getfield 279, 3) := by decide +kernel
theorem dX5_holdsAnyKey_34 : decode cX5_holdsAnyKey 34 = .ok (.aload_n 1, 1) := by decide +kernel
theorem dX5_holdsAnyKey_35 : decode cX5_holdsAnyKey 35 = .ok (.if_acmp .ne 5, 3) := by decide +kernel
theorem dX5_holdsAnyKey_38 : decode cX5_holdsAnyKey 38 = .ok (.iconst 1, 1) := by decide +kernel
theorem dX5_holdsAnyKey_39 : decode cX5_holdsAnyKey 39 = .ok (.ireturn, 1) := by decide +kernel
theorem dX5_holdsAnyKey_40 : decode cX5_holdsAnyKey 40 = .ok (.iinc 2 1, 3) := by decide +kernel
theorem dX5_holdsAnyKey_43 : decode cX5_holdsAnyKey 43 = .ok (.goto (-41), 3) := by decide +kernel
theorem dX5_holdsAnyKey_46 : decode cX5_holdsAnyKey 46 = .ok (.iconst 0, 1) := by decide +kernel
theorem dX5_holdsAnyKey_47 : decode cX5_holdsAnyKey 47 = .ok (.ireturn, 1) := by decide +kernel
theorem dX5_take_0 : decode cX5_take 0 = .ok (.aload_n 1, 1) := by decide +kernel
theorem dX5_take_1 : decode cX5_take 1 = .ok (.getfield 279, 3) := by decide +kernel
theorem dX5_take_4 : decode cX5_take 4 = .ok (.aload_n 0, 1) := by decide +kernel
theorem dX5_take_5 : decode cX5_take 5 = .ok (.if_acmp .ne 6, 3) := by decide +kernel
theorem dX5_take_8 : decode cX5_take 8 = .ok (.bipush (-11), 2) := by decide +kernel
theorem dX5_take_10 : decode cX5_take 10 = .ok (.ireturn, 1) := by decide +kernel
theorem dX5_take_11 : decode cX5_take 11 = .ok (.aload_n 1, 1) := by decide +kernel
theorem dX5_take_12 : decode cX5_take 12 = .ok (.getfield 109, 3) := by decide +kernel
theorem dX5_take_15 : decode cX5_take 15 = .ok (.ifCond .eq 6, 3) := by decide +kernel
theorem dX5_take_18 : decode cX5_take 18 = .ok (.bipush (-16), 2) := by decide +kernel
theorem dX5_take_20 : decode cX5_take 20 = .ok (.ireturn, 1) := by decide +kernel
theorem dX5_take_21 : decode cX5_take 21 = .ok (.aload_n 0, 1) := by decide +kernel
theorem dX5_take_22 : decode cX5_take 22 = .ok (.getfield 229, 3) := by decide +kernel
theorem dX5_take_25 : decode cX5_take 25 = .ok (.iconst 4, 1) := by decide +kernel
theorem dX5_take_26 : decode cX5_take 26 = .ok (.if_icmp .lt 6, 3) := by decide +kernel
theorem dX5_take_29 : decode cX5_take 29 = .ok (.bipush (-17), 2) := by decide +kernel
theorem dX5_take_31 : decode cX5_take 31 = .ok (.ireturn, 1) := by decide +kernel
theorem dX5_take_32 : decode cX5_take 32 = .ok (.aload_n 1, 1) := by decide +kernel
theorem dX5_take_33 : decode cX5_take 33 = .ok (.aload_n 0, 1) := by decide +kernel
theorem dX5_take_34 : decode cX5_take 34 = .ok (.putfield 279, 3) := by decide +kernel
theorem dX5_take_37 : decode cX5_take 37 = .ok (.aload_n 0, 1) := by decide +kernel
theorem dX5_take_38 : decode cX5_take 38 = .ok (.dup, 1) := by decide +kernel
theorem dX5_take_39 : decode cX5_take 39 = .ok (.getfield 229, 3) := by decide +kernel
theorem dX5_take_42 : decode cX5_take 42 = .ok (.iconst 1, 1) := by decide +kernel
theorem dX5_take_43 : decode cX5_take 43 = .ok (.iadd, 1) := by decide +kernel
theorem dX5_take_44 : decode cX5_take 44 = .ok (.putfield 229, 3) := by decide +kernel
theorem dX5_take_47 : decode cX5_take 47 = .ok (.iconst 1, 1) := by decide +kernel
theorem dX5_take_48 : decode cX5_take 48 = .ok (.ireturn, 1) := by decide +kernel
theorem dX5_drop_0 : decode cX5_drop 0 = .ok (.aload_n 1, 1) := by decide +kernel
theorem dX5_drop_1 : decode cX5_drop 1 = .ok (.getfield 279, 3) := by decide +kernel
theorem dX5_drop_4 : decode cX5_drop 4 = .ok (.aload_n 0, 1) := by decide +kernel
theorem dX5_drop_5 : decode cX5_drop 5 = .ok (.if_acmp .eq 6, 3) := by decide +kernel
theorem dX5_drop_8 : decode cX5_drop 8 = .ok (.bipush (-18), 2) := by decide +kernel
theorem dX5_drop_10 : decode cX5_drop 10 = .ok (.ireturn, 1) := by decide +kernel
theorem dX5_drop_11 : decode cX5_drop 11 = .ok (.aload_n 1, 1) := by decide +kernel
theorem dX5_drop_12 : decode cX5_drop 12 = .ok (.aconst_null, 1) := by decide +kernel
theorem dX5_drop_13 : decode cX5_drop 13 = .ok (.putfield 279, 3) := by decide +kernel
theorem dX5_drop_16 : decode cX5_drop 16 = .ok (.aload_n 1, 1) := by decide +kernel
theorem dX5_drop_17 : decode cX5_drop 17 = .ok (.aload_n 0, 1) := by decide +kernel
theorem dX5_drop_18 : decode cX5_drop 18 = .ok (.getfield 191, 3) := by decide +kernel
theorem dX5_drop_21 : decode cX5_drop 21 = .ok (.putfield 287, 3) := by decide +kernel
theorem dX5_drop_24 : decode cX5_drop 24 = .ok (.aload_n 0, 1) := by decide +kernel
theorem dX5_drop_25 : decode cX5_drop 25 = .ok (.dup, 1) := by decide +kernel
theorem dX5_drop_26 : decode cX5_drop 26 = .ok (.getfield 229, 3) := by decide +kernel
theorem dX5_drop_29 : decode cX5_drop 29 = .ok (.iconst 1, 1) := by decide +kernel
theorem dX5_drop_30 : decode cX5_drop 30 = .ok (.isub, 1) := by decide +kernel
theorem dX5_drop_31 : decode cX5_drop 31 = .ok (.putfield 229, 3) := by decide +kernel
theorem dX5_drop_34 : decode cX5_drop 34 = .ok (.iconst 1, 1) := by decide +kernel
theorem dX5_drop_35 : decode cX5_drop 35 = .ok (.ireturn, 1) := by decide +kernel
theorem dX5_climbInto_0 : decode cX5_climbInto 0 = .ok (.aload_n 1, 1) := by decide +kernel
theorem dX5_climbInto_1 : decode cX5_climbInto 1 = .ok (.getfield 109, 3) := by decide +kernel
theorem dX5_climbInto_4 : decode cX5_climbInto 4 = .ok (.iconst 2, 1) := by decide +kernel
theorem dX5_climbInto_5 : decode cX5_climbInto 5 = .ok (.if_icmp .eq 14, 3) := by decide +kernel
theorem dX5_climbInto_8 : decode cX5_climbInto 8 = .ok (.aload_n 1, 1) := by decide +kernel
theorem dX5_climbInto_9 : decode cX5_climbInto 9 = .ok (.getfield 109, 3) := by decide +kernel
theorem dX5_climbInto_12 : decode cX5_climbInto 12 = .ok (.iconst 3, 1) := by decide +kernel
theorem dX5_climbInto_13 : decode cX5_climbInto 13 = .ok (.if_icmp .eq 6, 3) := by decide +kernel
theorem dX5_climbInto_16 : decode cX5_climbInto 16 = .ok (.bipush (-19), 2) := by decide +kernel
theorem dX5_climbInto_18 : decode cX5_climbInto 18 = .ok (.ireturn, 1) := by decide +kernel
theorem dX5_climbInto_19 : decode cX5_climbInto 19 = .ok (.aload_n 0, 1) := by decide +kernel
theorem dX5_climbInto_20 : decode cX5_climbInto 20 = .ok (.getfield 170, 3) := by decide +kernel
theorem dX5_climbInto_23 : decode cX5_climbInto 23 = .ok (.ifnull 6, 3) := by decide +kernel
theorem dX5_climbInto_26 : decode cX5_climbInto 26 = .ok (.bipush (-20), 2) := by decide +kernel
theorem dX5_climbInto_28 : decode cX5_climbInto 28 = .ok (.ireturn, 1) := by decide +kernel
theorem dX5_climbInto_29 : decode cX5_climbInto 29 = .ok (.aload_n 1, 1) := by decide +kernel
theorem dX5_climbInto_30 : decode cX5_climbInto 30 = .ok (.getfield 173, 3) := by decide +kernel
theorem dX5_climbInto_33 : decode cX5_climbInto 33 = .ok (.ifCond .eq 6, 3) := by decide +kernel
theorem dX5_climbInto_36 : decode cX5_climbInto 36 = .ok (.bipush (-21), 2) := by decide +kernel
theorem dX5_climbInto_38 : decode cX5_climbInto 38 = .ok (.ireturn, 1) := by decide +kernel
theorem dX5_climbInto_39 : decode cX5_climbInto 39 = .ok (.aload_n 0, 1) := by decide +kernel
theorem dX5_climbInto_40 : decode cX5_climbInto 40 = .ok (.aload_n 1, 1) := by decide +kernel
theorem dX5_climbInto_41 : decode cX5_climbInto 41 = .ok (.putfield 170, 3) := by decide +kernel
theorem dX5_climbInto_44 : decode cX5_climbInto 44 = .ok (.iconst 1, 1) := by decide +kernel
theorem dX5_climbInto_45 : decode cX5_climbInto 45 = .ok (.ireturn, 1) := by decide +kernel
theorem dX5_setShut_0 : decode cX5_setShut 0 = .ok (.aload_n 0, 1) := by decide +kernel
theorem dX5_setShut_1 : decode cX5_setShut 1 = .ok (.getfield 109, 3) := by decide +kernel
theorem dX5_setShut_4 : decode cX5_setShut 4 = .ok (.iconst 3, 1) := by decide +kernel
theorem dX5_setShut_5 : decode cX5_setShut 5 = .ok (.if_icmp .eq 6, 3) := by decide +kernel
theorem dX5_setShut_8 : decode cX5_setShut 8 = .ok (.bipush (-22), 2) := by decide +kernel
theorem dX5_setShut_10 : decode cX5_setShut 10 = .ok (.ireturn, 1) := by decide +kernel
theorem dX5_setShut_11 : decode cX5_setShut 11 = .ok (.aload_n 0, 1) := by decide +kernel
theorem dX5_setShut_12 : decode cX5_setShut 12 = .ok (.getfield 173, 3) := by decide +kernel
theorem dX5_setShut_15 : decode cX5_setShut 15 = .ok (.iload_n 1, 1) := by decide +kernel
theorem dX5_setShut_16 : decode cX5_setShut 16 = .ok (.if_icmp .ne 6, 3) := by decide +kernel
theorem dX5_setShut_19 : decode cX5_setShut 19 = .ok (.bipush (-11), 2) := by decide +kernel
end
section
theorem dX5_setShut_21 : decode cX5_setShut 21 = .ok (.ireturn, 1) := by decide +kernel
theorem dX5_setShut_22 : decode cX5_setShut 22 = .ok (.aload_n 0, 1) := by decide +kernel
theorem dX5_setShut_23 : decode cX5_setShut 23 = .ok (.iload_n 1, 1) := by decide +kernel
theorem dX5_setShut_24 : decode cX5_setShut 24 = .ok (.putfield 173, 3) := by decide +kernel
theorem dX5_setShut_27 : decode cX5_setShut 27 = .ok (.iconst 1, 1) := by decide +kernel
theorem dX5_setShut_28 : decode cX5_setShut 28 = .ok (.ireturn, 1) := by decide +kernel
theorem dX5_goBy_0 : decode cX5_goBy 0 = .ok (.aload_n 1, 1) := by decide +kernel
theorem dX5_goBy_1 : decode cX5_goBy 1 = .ok (.getfield 170, 3) := by decide +kernel
theorem dX5_goBy_4 : decode cX5_goBy 4 = .ok (.astore_n 3, 1) := by decide +kernel
theorem dX5_goBy_5 : decode cX5_goBy 5 = .ok (.aload_n 3, 1) := by decide +kernel
theorem dX5_goBy_6 : decode cX5_goBy 6 = .ok (.ifnull 26, 3) := by decide +kernel
theorem dX5_goBy_9 : decode cX5_goBy 9 = .ok (.aload_n 3, 1) := by decide +kernel
theorem dX5_goBy_10 : decode cX5_goBy 10 = .ok (.getfield 109, 3) := by decide +kernel
theorem dX5_goBy_13 : decode cX5_goBy 13 = .ok (.iconst 3, 1) := by decide +kernel
theorem dX5_goBy_14 : decode cX5_goBy 14 = .ok (.if_icmp .ne 18, 3) := by decide +kernel
theorem dX5_goBy_17 : decode cX5_goBy 17 = .ok (.aload_n 3, 1) := by decide +kernel
theorem dX5_goBy_18 : decode cX5_goBy 18 = .ok (.getfield 173, 3) := by decide +kernel
theorem dX5_goBy_21 : decode cX5_goBy 21 = .ok (.ifCond .eq 8, 3) := by decide +kernel
theorem dX5_goBy_24 : decode cX5_goBy 24 = .ok (.bipush (-21), 2) := by decide +kernel
theorem dX5_goBy_26 : decode cX5_goBy 26 = .ok (.goto 5, 3) := by decide +kernel
theorem dX5_goBy_29 : decode cX5_goBy 29 = .ok (.bipush (-24), 2) := by decide +kernel
theorem dX5_goBy_31 : decode cX5_goBy 31 = .ok (.ireturn, 1) := by decide +kernel
theorem dX5_goBy_32 : decode cX5_goBy 32 = .ok (.aload_n 0, 1) := by decide +kernel
theorem dX5_goBy_33 : decode cX5_goBy 33 = .ok (.aload_n 1, 1) := by decide +kernel
theorem dX5_goBy_34 : decode cX5_goBy 34 = .ok (.aload_n 3, 1) := by decide +kernel
theorem dX5_goBy_35 : decode cX5_goBy 35 = .ok (.iload_n 2, 1) := by decide +kernel
theorem dX5_goBy_36 : decode cX5_goBy 36 = .ok (.invokevirtual 183, 3) := by decide +kernel
theorem dX5_goBy_39 : decode cX5_goBy 39 = .ok (.ireturn, 1) := by decide +kernel
theorem dX5_directionBack_0 : decode cX5_directionBack 0 = .ok (.aload_n 1, 1) := by decide +kernel
theorem dX5_directionBack_1 : decode cX5_directionBack 1 = .ok (.getfield 226, 3) := by decide +kernel
theorem dX5_directionBack_4 : decode cX5_directionBack 4 = .ok (.iconst (-1), 1) := by decide +kernel
theorem dX5_directionBack_5 : decode cX5_directionBack 5 = .ok (.if_icmp .ne 5, 3) := by decide +kernel
theorem dX5_directionBack_8 : decode cX5_directionBack 8 = .ok (.iconst (-1), 1) := by decide +kernel
theorem dX5_directionBack_9 : decode cX5_directionBack 9 = .ok (.ireturn, 1) := by decide +kernel
theorem dX5_directionBack_10 : decode cX5_directionBack 10 = .ok (.iconst 0, 1) := by decide +kernel
theorem dX5_directionBack_11 : decode cX5_directionBack 11 = .ok (.istore_n 2, 1) := by decide +kernel
theorem dX5_directionBack_12 : decode cX5_directionBack 12 = .ok (.iload_n 2, 1) := by decide +kernel
theorem dX5_directionBack_13 : decode cX5_directionBack 13 = .ok (.bipush 8, 2) := by decide +kernel
theorem dX5_directionBack_15 : decode cX5_directionBack 15 = .ok (.if_icmp .ge 27, 3) := by decide +kernel
theorem dX5_directionBack_18 : decode cX5_directionBack 18 = .ok (.aload_n 0, 1) := by decide +kernel
theorem dX5_directionBack_19 : decode cX5_directionBack 19 = .ok (.aload_n 1, 1) := by decide +kernel
theorem dX5_directionBack_20 : decode cX5_directionBack 20 = .ok (.getfield 191, 3) := by decide +kernel
theorem dX5_directionBack_23 : decode cX5_directionBack 23 = .ok (.iload_n 2, 1) := by decide +kernel
theorem dX5_directionBack_24 : decode cX5_directionBack 24 = .ok (.invokevirtual 204, 3) := by decide +kernel
theorem dX5_directionBack_27 : decode cX5_directionBack 27 = .ok (.aload_n 1, 1) := by decide +kernel
theorem dX5_directionBack_28 : decode cX5_directionBack 28 = .ok (.getfield 226, 3) := by decide +kernel
theorem dX5_directionBack_31 : decode cX5_directionBack 31 = .ok (.if_icmp .ne 5, 3) := by decide +kernel
theorem dX5_directionBack_34 : decode cX5_directionBack 34 = .ok (.iload_n 2, 1) := by decide +kernel
theorem dX5_directionBack_35 : decode cX5_directionBack 35 = .ok (.ireturn, 1) := by decide +kernel
theorem dX5_directionBack_36 : decode cX5_directionBack 36 = .ok (.iinc 2 1, 3) := by decide +kernel
theorem dX5_directionBack_39 : decode cX5_directionBack 39 = .ok (.goto (-27), 3) := by decide +kernel
theorem dX5_directionBack_42 : decode cX5_directionBack 42 = .ok (.iconst (-1), 1) := by decide +kernel
theorem dX5_directionBack_43 : decode cX5_directionBack 43 = .ok (.ireturn, 1) := by decide +kernel
theorem dX5_travel_0 : decode cX5_travel 0 = .ok (.aload_n 1, 1) := by decide +kernel
theorem dX5_travel_1 : decode cX5_travel 1 = .ok (.getfield 191, 3) := by decide +kernel
theorem dX5_travel_4 : decode cX5_travel 4 = .ok (.istore 4, 2) := by decide +kernel
theorem dX5_travel_6 : decode cX5_travel 6 = .ok (.aload_n 0, 1) := by decide +kernel
theorem dX5_travel_7 : decode cX5_travel 7 = .ok (.iload 4, 2) := by decide +kernel
theorem dX5_travel_9 : decode cX5_travel 9 = .ok (.iload_n 3, 1) := by decide +kernel
theorem dX5_travel_10 : decode cX5_travel 10 = .ok (.invokevirtual 71, 3) := by decide +kernel
theorem dX5_travel_13 : decode cX5_travel 13 = .ok (.ifCond .ne 5, 3) := by decide +kernel
theorem dX5_travel_16 : decode cX5_travel 16 = .ok (.iconst (-1), 1) := by decide +kernel
theorem dX5_travel_17 : decode cX5_travel 17 = .ok (.ireturn, 1) := by decide +kernel
theorem dX5_travel_18 : decode cX5_travel 18 = .ok (.iload 4, 2) := by decide +kernel
theorem dX5_travel_20 : decode cX5_travel 20 = .ok (.iload_n 3, 1) := by decide +kernel
theorem dX5_travel_21 : decode cX5_travel 21 = .ok (.invokestatic 78, 3) := by decide +kernel
theorem dX5_travel_24 : decode cX5_travel 24 = .ok (.istore 5, 2) := by decide +kernel
theorem dX5_travel_26 : decode cX5_travel 26 = .ok (.aload_n 0, 1) := by decide +kernel
theorem dX5_travel_27 : decode cX5_travel 27 = .ok (.aload_n 0, 1) := by decide +kernel
theorem dX5_travel_28 : decode cX5_travel 28 = .ok (.getfield 9, 3) := by decide +kernel
theorem dX5_travel_31 : decode cX5_travel 31 = .ok (.iload 5, 2) := by decide +kernel
theorem dX5_travel_33 : decode cX5_travel 33 = .ok (.iaload, 1) := by decide +kernel
theorem dX5_travel_34 : decode cX5_travel 34 = .ok (.invokevirtual 298, 3) := by decide +kernel
theorem dX5_travel_37 : decode cX5_travel 37 = .ok (.istore 6, 2) := by decide +kernel
theorem dX5_travel_39 : decode cX5_travel 39 = .ok (.iload 6, 2) := by decide +kernel
theorem dX5_travel_41 : decode cX5_travel 41 = .ok (.ifCond .eq 7, 3) := by decide +kernel
theorem dX5_travel_44 : decode cX5_travel 44 = .ok (.iload 6, 2) := by decide +kernel
theorem dX5_travel_46 : decode cX5_travel 46 = .ok (.ineg, 1) := by decide +kernel
theorem dX5_travel_47 : decode cX5_travel 47 = .ok (.ireturn, 1) := by decide +kernel
theorem dX5_travel_48 : decode cX5_travel 48 = .ok (.aload_n 2, 1) := by decide +kernel
theorem dX5_travel_49 : decode cX5_travel 49 = .ok (.ifnull 20, 3) := by decide +kernel
theorem dX5_travel_52 : decode cX5_travel 52 = .ok (.aload_n 2, 1) := by decide +kernel
theorem dX5_travel_53 : decode cX5_travel 53 = .ok (.getfield 217, 3) := by decide +kernel
theorem dX5_travel_56 : decode cX5_travel 56 = .ok (.aload_n 0, 1) := by decide +kernel
theorem dX5_travel_57 : decode cX5_travel 57 = .ok (.getfield 13, 3) := by decide +kernel
theorem dX5_travel_60 : decode cX5_travel 60 = .ok (.iload 5, 2) := by decide +kernel
theorem dX5_travel_62 : decode cX5_travel 62 = .ok (.iaload, 1) := by decide +kernel
theorem dX5_travel_63 : decode cX5_travel 63 = .ok (.if_icmp .le 6, 3) := by decide +kernel
theorem dX5_travel_66 : decode cX5_travel 66 = .ok (.bipush (-29), 2) := by decide +kernel
theorem dX5_travel_68 : decode cX5_travel 68 = .ok (.ireturn, 1) := by decide +kernel
theorem dX5_travel_69 : decode cX5_travel 69 = .ok (.aload_n 0, 1) := by decide +kernel
theorem dX5_travel_70 : decode cX5_travel 70 = .ok (.iload 4, 2) := by decide +kernel
theorem dX5_travel_72 : decode cX5_travel 72 = .ok (.iload_n 3, 1) := by decide +kernel
theorem dX5_travel_73 : decode cX5_travel 73 = .ok (.invokevirtual 204, 3) := by decide +kernel
theorem dX5_travel_76 : decode cX5_travel 76 = .ok (.istore 7, 2) := by decide +kernel
theorem dX5_travel_78 : decode cX5_travel 78 = .ok (.aload_n 0, 1) := by decide +kernel
theorem dX5_travel_79 : decode cX5_travel 79 = .ok (.aload_n 0, 1) := by decide +kernel
theorem dX5_travel_80 : decode cX5_travel 80 = .ok (.getfield 9, 3) := by decide +kernel
theorem dX5_travel_83 : decode cX5_travel 83 = .ok (.iload 5, 2) := by decide +kernel
theorem dX5_travel_85 : decode cX5_travel 85 = .ok (.iaload, 1) := by decide +kernel
theorem dX5_travel_86 : decode cX5_travel 86 = .ok (.invokevirtual 301, 3) := by decide +kernel
theorem dX5_travel_89 : decode cX5_travel 89 = .ok (.aload_n 0, 1) := by decide +kernel
theorem dX5_travel_90 : decode cX5_travel 90 = .ok (.aload_n 1, 1) := by decide +kernel
theorem dX5_travel_91 : decode cX5_travel 91 = .ok (.aload_n 2, 1) := by decide +kernel
theorem dX5_travel_92 : decode cX5_travel 92 = .ok (.iload_n 3, 1) := by decide +kernel
theorem dX5_travel_93 : decode cX5_travel 93 = .ok (.iload 7, 2) := by decide +kernel
theorem dX5_travel_95 : decode cX5_travel 95 = .ok (.invokevirtual 304, 3) := by decide +kernel
theorem dX5_travel_98 : decode cX5_travel 98 = .ok (.aload_n 0, 1) := by decide +kernel
theorem dX5_travel_99 : decode cX5_travel 99 = .ok (.aload_n 1, 1) := by decide +kernel
theorem dX5_travel_100 : decode cX5_travel 100 = .ok (.aload_n 2, 1) := by decide +kernel
theorem dX5_travel_101 : decode cX5_travel 101 = .ok (.iload 7, 2) := by decide +kernel
theorem dX5_travel_103 : decode cX5_travel 103 = .ok (.invokevirtual 308, 3) := by decide +kernel
theorem dX5_travel_106 : decode cX5_travel 106 = .ok (.iload 7, 2) := by decide +kernel
theorem dX5_travel_108 : decode cX5_travel 108 = .ok (.ireturn, 1) := by decide +kernel
theorem dX5_obstacleOf_0 : decode cX5_obstacleOf 0 = .ok (.iload_n 1, 1) := by decide +kernel
theorem dX5_obstacleOf_1 : decode cX5_obstacleOf 1 = .ok (.iconst (-1), 1) := by decide +kernel
theorem dX5_obstacleOf_2 : decode cX5_obstacleOf 2 = .ok (.if_icmp .ne 6, 3) := by decide +kernel
theorem dX5_obstacleOf_5 : decode cX5_obstacleOf 5 = .ok (.bipush 25, 2) := by decide +kernel
theorem dX5_obstacleOf_7 : decode cX5_obstacleOf 7 = .ok (.ireturn, 1) := by decide +kernel
theorem dX5_obstacleOf_8 : decode cX5_obstacleOf 8 = .ok (.iload_n 1, 1) := by decide +kernel
theorem dX5_obstacleOf_9 : decode cX5_obstacleOf 9 = .ok (.sipush 200, 3) := by decide +kernel
theorem dX5_obstacleOf_12 : decode cX5_obstacleOf 12 = .ok (.if_icmp .lt 19, 3) := by decide +kernel
theorem dX5_obstacleOf_15 : decode cX5_obstacleOf 15 = .ok (.iload_n 1, 1) := by decide +kernel
theorem dX5_obstacleOf_16 : decode cX5_obstacleOf 16 = .ok (.sipush 300, 3) := by decide +kernel
theorem dX5_obstacleOf_19 : decode cX5_obstacleOf 19 = .ok (.if_icmp .ge 12, 3) := by decide +kernel
theorem dX5_obstacleOf_22 : decode cX5_obstacleOf 22 = .ok (.bipush 50, 2) := by decide +kernel
theorem dX5_obstacleOf_24 : decode cX5_obstacleOf 24 = .ok (.iload_n 1, 1) := by decide +kernel
theorem dX5_obstacleOf_25 : decode cX5_obstacleOf 25 = .ok (.iadd, 1) := by decide +kernel
theorem dX5_obstacleOf_26 : decode cX5_obstacleOf 26 = .ok (.sipush 200, 3) := by decide +kernel
theorem dX5_obstacleOf_29 : decode cX5_obstacleOf 29 = .ok (.isub, 1) := by decide +kernel
theorem dX5_obstacleOf_30 : decode cX5_obstacleOf 30 = .ok (.ireturn, 1) := by decide +kernel
theorem dX5_obstacleOf_31 : decode cX5_obstacleOf 31 = .ok (.aload_n 0, 1) := by decide +kernel
theorem dX5_obstacleOf_32 : decode cX5_obstacleOf 32 = .ok (.iload_n 1, 1) := by decide +kernel
theorem dX5_obstacleOf_33 : decode cX5_obstacleOf 33 = .ok (.invokevirtual 249, 3) := by decide +kernel
theorem dX5_obstacleOf_36 : decode cX5_obstacleOf 36 = .ok (.astore_n 2, 1) := by decide +kernel
theorem dX5_obstacleOf_37 : decode cX5_obstacleOf 37 = .ok (.aload_n 2, 1) := by decide +kernel
theorem dX5_obstacleOf_38 : decode cX5_obstacleOf 38 = .ok (.ifnull 8, 3) := by decide +kernel
theorem dX5_obstacleOf_41 : decode cX5_obstacleOf 41 = .ok (.aload_n 2, 1) := by decide +kernel
theorem dX5_obstacleOf_42 : decode cX5_obstacleOf 42 = .ok (.invokevirtual 312, 3) := by decide +kernel
theorem dX5_obstacleOf_45 : decode cX5_obstacleOf 45 = .ok (.ireturn, 1) := by decide +kernel
theorem dX5_obstacleOf_46 : decode cX5_obstacleOf 46 = .ok (.aload_n 0, 1) := by decide +kernel
theorem dX5_obstacleOf_47 : decode cX5_obstacleOf 47 = .ok (.iload_n 1, 1) := by decide +kernel
theorem dX5_obstacleOf_48 : decode cX5_obstacleOf 48 = .ok (.invokevirtual 255, 3) := by decide +kernel
theorem dX5_obstacleOf_51 : decode cX5_obstacleOf 51 = .ok (.astore_n 3, 1) := by decide +kernel
theorem dX5_obstacleOf_52 : decode cX5_obstacleOf 52 = .ok (.aload_n 3, 1) := by decide +kernel
theorem dX5_obstacleOf_53 : decode cX5_obstacleOf 53 = .ok (.ifnull 15, 3) := by decide +kernel
theorem dX5_obstacleOf_56 : decode cX5_obstacleOf 56 = .ok (.aload_n 3, 1) := by decide +kernel
theorem dX5_obstacleOf_57 : decode cX5_obstacleOf 57 = .ok (.getfield 89, 3) := by decide +kernel
theorem dX5_obstacleOf_60 : decode cX5_obstacleOf 60 = .ok (.ifCond .ne 8, 3) := by decide +kernel
theorem dX5_obstacleOf_63 : decode cX5_obstacleOf 63 = .ok (.bipush 28, 2) := by decide +kernel
theorem dX5_obstacleOf_65 : decode cX5_obstacleOf 65 = .ok (.goto 4, 3) := by decide +kernel
theorem dX5_obstacleOf_68 : decode cX5_obstacleOf 68 = .ok (.iconst 0, 1) := by decide +kernel
theorem dX5_obstacleOf_69 : decode cX5_obstacleOf 69 = .ok (.ireturn, 1) := by decide +kernel
theorem dX5_takeTurn_0 : decode cX5_takeTurn 0 = .ok (.aload_n 0, 1) := by decide +kernel
theorem dX5_takeTurn_1 : decode cX5_takeTurn 1 = .ok (.iload_n 1, 1) := by decide +kernel
theorem dX5_takeTurn_2 : decode cX5_takeTurn 2 = .ok (.invokevirtual 255, 3) := by decide +kernel
theorem dX5_takeTurn_5 : decode cX5_takeTurn 5 = .ok (.astore_n 2, 1) := by decide +kernel
theorem dX5_takeTurn_6 : decode cX5_takeTurn 6 = .ok (.aload_n 2, 1) := by decide +kernel
theorem dX5_takeTurn_7 : decode cX5_takeTurn 7 = .ok (.ifnull 7, 3) := by decide +kernel
theorem dX5_takeTurn_10 : decode cX5_takeTurn 10 = .ok (.aload_n 2, 1) := by decide +kernel
theorem dX5_takeTurn_11 : decode cX5_takeTurn 11 = .ok (.invokevirtual 315, 3) := by decide +kernel
theorem dX5_takeTurn_14 : decode cX5_takeTurn 14 = .ok (.return_, 1) := by decide +kernel
theorem dX5_goesWith_0 : decode cX5_goesWith 0 = .ok (.aload_n 0, 1) := by decide +kernel
theorem dX5_goesWith_1 : decode cX5_goesWith 1 = .ok (.aload_n 1, 1) := by decide +kernel
theorem dX5_goesWith_2 : decode cX5_goesWith 2 = .ok (.if_acmp .eq 15, 3) := by decide +kernel
theorem dX5_goesWith_5 : decode cX5_goesWith 5 = .ok (.aload_n 2, 1) := by decide +kernel
theorem dX5_goesWith_6 : decode cX5_goesWith 6 = .ok (.ifnull 15, 3) := by decide +kernel
theorem dX5_goesWith_9 : decode cX5_goesWith 9 = .ok (.aload_n 0, 1) := by decide +kernel
theorem dX5_goesWith_10 : decode cX5_goesWith 10 = .ok (.getfield 170, 3) := by decide +kernel
theorem dX5_goesWith_13 : decode cX5_goesWith 13 = .ok (.aload_n 2, 1) := by decide +kernel
theorem dX5_goesWith_14 : decode cX5_goesWith 14 = .ok (.if_acmp .ne 7, 3) := by decide +kernel
theorem dX5_goesWith_17 : decode cX5_goesWith 17 = .ok (.iconst 1, 1) := by decide +kernel
theorem dX5_goesWith_18 : decode cX5_goesWith 18 = .ok (.goto 4, 3) := by decide +kernel
theorem dX5_goesWith_21 : decode cX5_goesWith 21 = .ok (.iconst 0, 1) := by decide +kernel
theorem dX5_goesWith_22 : decode cX5_goesWith 22 = .ok (.ireturn, 1) := by decide +kernel
theorem dX5_tellOfAll_0 : decode cX5_tellOfAll 0 = .ok (.iconst 0, 1) := by decide +kernel
theorem dX5_tellOfAll_1 : decode cX5_tellOfAll 1 = .ok (.istore 5, 2) := by decide +kernel
theorem dX5_tellOfAll_3 : decode cX5_tellOfAll 3 = .ok (.iload 5, 2) := by decide +kernel
theorem dX5_tellOfAll_5 : decode cX5_tellOfAll 5 = .ok (.aload_n 0, 1) := by decide +kernel
theorem dX5_tellOfAll_6 : decode cX5_tellOfAll 6 = .ok (.getfield 129, 3) := by decide +kernel
theorem dX5_tellOfAll_9 : decode cX5_tellOfAll 9 = .ok (.if_icmp .ge 61, 3) := by decide +kernel
theorem dX5_tellOfAll_12 : decode cX5_tellOfAll 12 = .ok (.aload_n 0, 1) := by decide +kernel
theorem dX5_tellOfAll_13 : decode cX5_tellOfAll 13 = .ok (.getfield 39, 3) := by decide +kernel
theorem dX5_tellOfAll_16 : decode cX5_tellOfAll 16 = .ok (.iload 5, 2) := by decide +kernel
theorem dX5_tellOfAll_18 : decode cX5_tellOfAll 18 = .ok (.aaload, 1) := by decide +kernel
theorem dX5_tellOfAll_19 : decode cX5_tellOfAll 19 = .ok (.aload_n 1, 1) := by decide +kernel
theorem dX5_tellOfAll_20 : decode cX5_tellOfAll 20 = .ok (.aload_n 2, 1) := by decide +kernel
theorem dX5_tellOfAll_21 : decode cX5_tellOfAll 21 = .ok (.invokestatic 318, 3) := by decide +kernel
theorem dX5_tellOfAll_24 : decode cX5_tellOfAll 24 = .ok (.ifCond .eq 40, 3) := by decide +kernel
theorem dX5_tellOfAll_27 : decode cX5_tellOfAll 27 = .ok (.sipush 1000, 3) := by decide +kernel
theorem dX5_tellOfAll_30 : decode cX5_tellOfAll 30 = .ok (.iload 5, 2) := by decide +kernel
theorem dX5_tellOfAll_32 : decode cX5_tellOfAll 32 = .ok (.imul, 1) := by decide +kernel
theorem dX5_tellOfAll_33 : decode cX5_tellOfAll 33 = .ok (.bipush 10, 2) := by decide +kernel
theorem dX5_tellOfAll_35 : decode cX5_tellOfAll 35 = .ok (.iload_n 3, 1) := by decide +kernel
theorem dX5_tellOfAll_36 : decode cX5_tellOfAll 36 = .ok (.imul, 1) := by decide +kernel
theorem dX5_tellOfAll_37 : decode cX5_tellOfAll 37 = .ok (.iadd, 1) := by decide +kernel
theorem dX5_tellOfAll_38 : decode cX5_tellOfAll 38 = .ok (.istore 6, 2) := by decide +kernel
theorem dX5_tellOfAll_40 : decode cX5_tellOfAll 40 = .ok (.aload_n 0, 1) := by decide +kernel
theorem dX5_tellOfAll_41 : decode cX5_tellOfAll 41 = .ok (.aload_n 1, 1) := by decide +kernel
theorem dX5_tellOfAll_42 : decode cX5_tellOfAll 42 = .ok (.getfield 191, 3) := by decide +kernel
theorem dX5_tellOfAll_45 : decode cX5_tellOfAll 45 = .ok (.iload 6, 2) := by decide +kernel
theorem dX5_tellOfAll_47 : decode cX5_tellOfAll 47 = .ok (.aload_n 1, 1) := by decide +kernel
theorem dX5_tellOfAll_48 : decode cX5_tellOfAll 48 = .ok (.aload_n 2, 1) := by decide +kernel
theorem dX5_tellOfAll_49 : decode cX5_tellOfAll 49 = .ok (.invokevirtual 322, 3) := by decide +kernel
theorem dX5_tellOfAll_52 : decode cX5_tellOfAll 52 = .ok (.aload_n 0, 1) := by decide +kernel
theorem dX5_tellOfAll_53 : decode cX5_tellOfAll 53 = .ok (.iload 4, 2) := by decide +kernel
theorem dX5_tellOfAll_55 : decode cX5_tellOfAll 55 = .ok (.iload 6, 2) := by decide +kernel
theorem dX5_tellOfAll_57 : decode cX5_tellOfAll 57 = .ok (.iconst 1, 1) := by decide +kernel
theorem dX5_tellOfAll_58 : decode cX5_tellOfAll 58 = .ok (.iadd, 1) := by decide +kernel
theorem dX5_tellOfAll_59 : decode cX5_tellOfAll 59 = .ok (.aload_n 1, 1) := by decide +kernel
theorem dX5_tellOfAll_60 : decode cX5_tellOfAll 60 = .ok (.aload_n 2, 1) := by decide +kernel
theorem dX5_tellOfAll_61 : decode cX5_tellOfAll 61 = .ok (.invokevirtual 322, 3) := by decide +kernel
theorem dX5_tellOfAll_64 : decode cX5_tellOfAll 64 = .ok (.iinc 5 1, 3) := by decide +kernel
theorem dX5_tellOfAll_67 : decode cX5_tellOfAll 67 = .ok (.goto (-64), 3) := by decide +kernel
theorem dX5_tellOfAll_70 : decode cX5_tellOfAll 70 = .ok (.return_, 1) := by decide +kernel
theorem dX5_tellOthersIn_0 : decode cX5_tellOthersIn 0 = .ok (.iconst 0, 1) := by decide +kernel
theorem dX5_tellOthersIn_1 : decode cX5_tellOthersIn 1 = .ok (.istore 5, 2) := by decide +kernel
theorem dX5_tellOthersIn_3 : decode cX5_tellOthersIn 3 = .ok (.iload 5, 2) := by decide +kernel
theorem dX5_tellOthersIn_5 : decode cX5_tellOthersIn 5 = .ok (.aload_n 0, 1) := by decide +kernel
theorem dX5_tellOthersIn_6 : decode cX5_tellOthersIn 6 = .ok (.getfield 129, 3) := by decide +kernel
theorem dX5_tellOthersIn_9 : decode cX5_tellOthersIn 9 = .ok (.if_icmp .ge 50, 3) := by decide +kernel
theorem dX5_tellOthersIn_12 : decode cX5_tellOthersIn 12 = .ok (.aload_n 0, 1) := by decide +kernel
theorem dX5_tellOthersIn_13 : decode cX5_tellOthersIn 13 = .ok (.getfield 39, 3) := by decide +kernel
theorem dX5_tellOthersIn_16 : decode cX5_tellOthersIn 16 = .ok (.iload 5, 2) := by decide +kernel
theorem dX5_tellOthersIn_18 : decode cX5_tellOthersIn 18 = .ok (.aaload, 1) := by decide +kernel
theorem dX5_tellOthersIn_19 : decode cX5_tellOthersIn 19 = .ok (.getfield 191, 3) := by decide +kernel
theorem dX5_tellOthersIn_22 : decode cX5_tellOthersIn 22 = .ok (.iload_n 1, 1) := by decide +kernel
theorem dX5_tellOthersIn_23 : decode cX5_tellOthersIn 23 = .ok (.if_icmp .ne 30, 3) := by decide +kernel
theorem dX5_tellOthersIn_26 : decode cX5_tellOthersIn 26 = .ok (.aload_n 0, 1) := by decide +kernel
theorem dX5_tellOthersIn_27 : decode cX5_tellOthersIn 27 = .ok (.getfield 39, 3) := by decide +kernel
theorem dX5_tellOthersIn_30 : decode cX5_tellOthersIn 30 = .ok (.iload 5, 2) := by decide +kernel
theorem dX5_tellOthersIn_32 : decode cX5_tellOthersIn 32 = .ok (.aaload, 1) := by decide +kernel
theorem dX5_tellOthersIn_33 : decode cX5_tellOthersIn 33 = .ok (.aload_n 3, 1) := by decide +kernel
theorem dX5_tellOthersIn_34 : decode cX5_tellOthersIn 34 = .ok (.aload 4, 2) := by decide +kernel
theorem dX5_tellOthersIn_36 : decode cX5_tellOthersIn 36 = .ok (.invokestatic 318, 3) := by decide +kernel
theorem dX5_tellOthersIn_39 : decode cX5_tellOthersIn 39 = .ok (.ifCond .ne 14, 3) := by decide +kernel
theorem dX5_tellOthersIn_42 : decode cX5_tellOthersIn 42 = .ok (.aload_n 0, 1) := by decide +kernel
theorem dX5_tellOthersIn_43 : decode cX5_tellOthersIn 43 = .ok (.getfield 39, 3) := by decide +kernel
theorem dX5_tellOthersIn_46 : decode cX5_tellOthersIn 46 = .ok (.iload 5, 2) := by decide +kernel
theorem dX5_tellOthersIn_48 : decode cX5_tellOthersIn 48 = .ok (.aaload, 1) := by decide +kernel
theorem dX5_tellOthersIn_49 : decode cX5_tellOthersIn 49 = .ok (.iload_n 2, 1) := by decide +kernel
theorem dX5_tellOthersIn_50 : decode cX5_tellOthersIn 50 = .ok (.invokevirtual 326, 3) := by decide +kernel
theorem dX5_tellOthersIn_53 : decode cX5_tellOthersIn 53 = .ok (.iinc 5 1, 3) := by decide +kernel
theorem dX5_tellOthersIn_56 : decode cX5_tellOthersIn 56 = .ok (.goto (-53), 3) := by decide +kernel
theorem dX5_tellOthersIn_59 : decode cX5_tellOthersIn 59 = .ok (.return_, 1) := by decide +kernel
theorem dX5_moveAll_0 : decode cX5_moveAll 0 = .ok (.iconst 0, 1) := by decide +kernel
theorem dX5_moveAll_1 : decode cX5_moveAll 1 = .ok (.istore 4, 2) := by decide +kernel
theorem dX5_moveAll_3 : decode cX5_moveAll 3 = .ok (.iload 4, 2) := by decide +kernel
theorem dX5_moveAll_5 : decode cX5_moveAll 5 = .ok (.aload_n 0, 1) := by decide +kernel
theorem dX5_moveAll_6 : decode cX5_moveAll 6 = .ok (.getfield 129, 3) := by decide +kernel
theorem dX5_moveAll_9 : decode cX5_moveAll 9 = .ok (.if_icmp .ge 55, 3) := by decide +kernel
theorem dX5_moveAll_12 : decode cX5_moveAll 12 = .ok (.aload_n 0, 1) := by decide +kernel
theorem dX5_moveAll_13 : decode cX5_moveAll 13 = .ok (.getfield 39, 3) := by decide +kernel
theorem dX5_moveAll_16 : decode cX5_moveAll 16 = .ok (.iload 4, 2) := by decide +kernel
theorem dX5_moveAll_18 : decode cX5_moveAll 18 = .ok (.aaload, 1) := by decide +kernel
theorem dX5_moveAll_19 : decode cX5_moveAll 19 = .ok (.aload_n 1, 1) := by decide +kernel
theorem dX5_moveAll_20 : decode cX5_moveAll 20 = .ok (.aload_n 2, 1) := by decide +kernel
theorem dX5_moveAll_21 : decode cX5_moveAll 21 = .ok (.invokestatic 318, 3) := by decide +kernel
theorem dX5_moveAll_24 : decode cX5_moveAll 24 = .ok (.ifCond .eq 34, 3) := by decide +kernel
theorem dX5_moveAll_27 : decode cX5_moveAll 27 = .ok (.aload_n 0, 1) := by decide +kernel
theorem dX5_moveAll_28 : decode cX5_moveAll 28 = .ok (.getfield 39, 3) := by decide +kernel
theorem dX5_moveAll_31 : decode cX5_moveAll 31 = .ok (.iload 4, 2) := by decide +kernel
theorem dX5_moveAll_33 : decode cX5_moveAll 33 = .ok (.aaload, 1) := by decide +kernel
theorem dX5_moveAll_34 : decode cX5_moveAll 34 = .ok (.aload_n 0, 1) := by decide +kernel
theorem dX5_moveAll_35 : decode cX5_moveAll 35 = .ok (.getfield 39, 3) := by decide +kernel
theorem dX5_moveAll_38 : decode cX5_moveAll 38 = .ok (.iload 4, 2) := by decide +kernel
theorem dX5_moveAll_40 : decode cX5_moveAll 40 = .ok (.aaload, 1) := by decide +kernel
theorem dX5_moveAll_41 : decode cX5_moveAll 41 = .ok (.getfield 191, 3) := by decide +kernel
theorem dX5_moveAll_44 : decode cX5_moveAll 44 = .ok (.putfield 226, 3) := by decide +kernel
theorem dX5_moveAll_47 : decode cX5_moveAll 47 = .ok (.aload_n 0, 1) := by decide +kernel
theorem dX5_moveAll_48 : decode cX5_moveAll 48 = .ok (.getfield 39, 3) := by decide +kernel
theorem dX5_moveAll_51 : decode cX5_moveAll 51 = .ok (.iload 4, 2) := by decide +kernel
theorem dX5_moveAll_53 : decode cX5_moveAll 53 = .ok (.aaload, 1) := by decide +kernel
theorem dX5_moveAll_54 : decode cX5_moveAll 54 = .ok (.iload_n 3, 1) := by decide +kernel
theorem dX5_moveAll_55 : decode cX5_moveAll 55 = .ok (.putfield 191, 3) := by decide +kernel
theorem dX5_moveAll_58 : decode cX5_moveAll 58 = .ok (.iinc 4 1, 3) := by decide +kernel
theorem dX5_moveAll_61 : decode cX5_moveAll 61 = .ok (.goto (-58), 3) := by decide +kernel
theorem dX5_moveAll_64 : decode cX5_moveAll 64 = .ok (.aload_n 2, 1) := by decide +kernel
theorem dX5_moveAll_65 : decode cX5_moveAll 65 = .ok (.ifnull 8, 3) := by decide +kernel
theorem dX5_moveAll_68 : decode cX5_moveAll 68 = .ok (.aload_n 2, 1) := by decide +kernel
theorem dX5_moveAll_69 : decode cX5_moveAll 69 = .ok (.iload_n 3, 1) := by decide +kernel
theorem dX5_moveAll_70 : decode cX5_moveAll 70 = .ok (.putfield 287, 3) := by decide +kernel
theorem dX5_moveAll_73 : decode cX5_moveAll 73 = .ok (.return_, 1) := by decide +kernel
theorem dX6_init_0 : decode cX6_init 0 = .ok (.aload_n 0, 1) := by decide +kernel
theorem dX6_init_1 : decode cX6_init 1 = .ok (.invokespecial 1, 3) := by decide +kernel
theorem dX6_init_4 : decode cX6_init 4 = .ok (.aload_n 0, 1) := by decide +kernel
theorem dX6_init_5 : decode cX6_init 5 = .ok (.sipush 160, 3) := by decide +kernel
theorem dX6_init_8 : decode cX6_init 8 = .ok (.newarray .int, 2) := by decide +kernel
theorem dX6_init_10 : decode cX6_init 10 = .ok (.putfield 7, 3) := by decide +kernel
theorem dX6_init_13 : decode cX6_init 13 = .ok (.aload_n 0, 1) := by decide +kernel
theorem dX6_init_14 : decode cX6_init 14 = .ok (.sipush 160, 3) := by decide +kernel
theorem dX6_init_17 : decode cX6_init 17 = .ok (.newarray .int, 2) := by decide +kernel
theorem dX6_init_19 : decode cX6_init 19 = .ok (.putfield 13, 3) := by decide +kernel
theorem dX6_init_22 : decode cX6_init 22 = .ok (.aload_n 0, 1) := by decide +kernel
theorem dX6_init_23 : decode cX6_init 23 = .ok (.bipush 15, 2) := by decide +kernel
theorem dX6_init_25 : decode cX6_init 25 = .ok (.newarray .int, 2) := by decide +kernel
theorem dX6_init_27 : decode cX6_init 27 = .ok (.putfield 16, 3) := by decide +kernel
theorem dX6_init_30 : decode cX6_init 30 = .ok (.aload_n 0, 1) := by decide +kernel
theorem dX6_init_31 : decode cX6_init 31 = .ok (.bipush 15, 2) := by decide +kernel
theorem dX6_init_33 : decode cX6_init 33 = .ok (.newarray .int, 2) := by decide +kernel
theorem dX6_init_35 : decode cX6_init 35 = .ok (.putfield 19, 3) := by decide +kernel
theorem dX6_init_38 : decode cX6_init 38 = .ok (.aload_n 0, 1) := by decide +kernel
theorem dX6_init_39 : decode cX6_init 39 = .ok (.bipush 15, 2) := by decide +kernel
theorem dX6_init_41 : decode cX6_init 41 = .ok (.newarray .int, 2) := by decide +kernel
theorem dX6_init_43 : decode cX6_init 43 = .ok (.putfield 22, 3) := by decide +kernel
theorem dX6_init_46 : decode cX6_init 46 = .ok (.aload_n 0, 1) := by decide +kernel
theorem dX6_init_47 : decode cX6_init 47 = .ok (.bipush 15, 2) := by decide +kernel
theorem dX6_init_49 : decode cX6_init 49 = .ok (.newarray .boolean, 2) := by decide +kernel
theorem dX6_init_51 : decode cX6_init 51 = .ok (.putfield 25, 3) := by decide +kernel
theorem dX6_init_54 : decode cX6_init 54 = .ok (.aload_n 0, 1) := by decide +kernel
theorem dX6_init_55 : decode cX6_init 55 = .ok (.bipush 15, 2) := by decide +kernel
theorem dX6_init_57 : decode cX6_init 57 = .ok (.newarray .boolean, 2) := by decide +kernel
theorem dX6_init_59 : decode cX6_init 59 = .ok (.putfield 29, 3) := by decide +kernel
theorem dX6_init_62 : decode cX6_init 62 = .ok (.aload_n 0, 1) := by decide +kernel
theorem dX6_init_63 : decode cX6_init 63 = .ok (.bipush 30, 2) := by decide +kernel
theorem dX6_init_65 : decode cX6_init 65 = .ok (.newarray .int, 2) := by decide +kernel
theorem dX6_init_67 : decode cX6_init 67 = .ok (.putfield 32, 3) := by decide +kernel
theorem dX6_init_70 : decode cX6_init 70 = .ok (.aload_n 0, 1) := by decide +kernel
theorem dX6_init_71 : decode cX6_init 71 = .ok (.bipush 30, 2) := by decide +kernel
theorem dX6_init_73 : decode cX6_init 73 = .ok (.newarray .int, 2) := by decide +kernel
theorem dX6_init_75 : decode cX6_init 75 = .ok (.putfield 35, 3) := by decide +kernel
theorem dX6_init_78 : decode cX6_init 78 = .ok (.aload_n 0, 1) := by decide +kernel
theorem dX6_init_79 : decode cX6_init 79 = .ok (.bipush 30, 2) := by decide +kernel
theorem dX6_init_81 : decode cX6_init 81 = .ok (.newarray .int, 2) := by decide +kernel
theorem dX6_init_83 : decode cX6_init 83 = .ok (.putfield 38, 3) := by decide +kernel
theorem dX6_init_86 : decode cX6_init 86 = .ok (.aload_n 0, 1) := by decide +kernel
theorem dX6_init_87 : decode cX6_init 87 = .ok (.bipush 30, 2) := by decide +kernel
theorem dX6_init_89 : decode cX6_init 89 = .ok (.newarray .int, 2) := by decide +kernel
theorem dX6_init_91 : decode cX6_init 91 = .ok (.putfield 41, 3) := by decide +kernel
theorem dX6_init_94 : decode cX6_init 94 = .ok (.aload_n 0, 1) := by decide +kernel
theorem dX6_init_95 : decode cX6_init 95 = .ok (.bipush 30, 2) := by decide +kernel
theorem dX6_init_97 : decode cX6_init 97 = .ok (.newarray .boolean, 2) := by decide +kernel
theorem dX6_init_99 : decode cX6_init 99 = .ok (.putfield 44, 3) := by decide +kernel
theorem dX6_init_102 : decode cX6_init 102 = .ok (.aload_n 0, 1) := by decide +kernel
theorem dX6_init_103 : decode cX6_init 103 = .ok (.bipush 6, 2) := by decide +kernel
theorem dX6_init_105 : decode cX6_init 105 = .ok (.newarray .int, 2) := by decide +kernel
theorem dX6_init_107 : decode cX6_init 107 = .ok (.putfield 47, 3) := by decide +kernel
theorem dX6_init_110 : decode cX6_init 110 = .ok (.aload_n 0, 1) := by decide +kernel
theorem dX6_init_111 : decode cX6_init 111 = .ok (.bipush 6, 2) := by decide +kernel
theorem dX6_init_113 : decode cX6_init 113 = .ok (.newarray .int, 2) := by decide +kernel
theorem dX6_init_115 : decode cX6_init 115 = .ok (.putfield 50, 3) := by decide +kernel
theorem dX6_init_118 : decode cX6_init 118 = .ok (.aload_n 0, 1) := by decide +kernel
theorem dX6_init_119 : decode cX6_init 119 = .ok (.bipush 6, 2) := by decide +kernel
theorem dX6_init_121 : decode cX6_init 121 = .ok (.newarray .int, 2) := by decide +kernel
theorem dX6_init_123 : decode cX6_init 123 = .ok (.putfield 53, 3) := by decide +kernel
theorem dX6_init_126 : decode cX6_init 126 = .ok (.aload_n 0, 1) := by decide +kernel
theorem dX6_init_127 : decode cX6_init 127 = .ok (.bipush 48, 2) := by decide +kernel
theorem dX6_init_129 : decode cX6_init 129 = .ok (.newarray .int, 2) := by decide +kernel
theorem dX6_init_131 : decode cX6_init 131 = .ok (.putfield 56, 3) := by decide +kernel
theorem dX6_init_134 : decode cX6_init 134 = .ok (.aload_n 0, 1) := by decide +kernel
theorem dX6_init_135 : decode cX6_init 135 = .ok (.bipush 6, 2) := by decide +kernel
theorem dX6_init_137 : decode cX6_init 137 = .ok (.newarray .int, 2) := by decide +kernel
theorem dX6_init_139 : decode cX6_init 139 = .ok (.putfield 59, 3) := by decide +kernel
theorem dX6_init_142 : decode cX6_init 142 = .ok (.aload_n 0, 1) := by decide +kernel
theorem dX6_init_143 : decode cX6_init 143 = .ok (.bipush 20, 2) := by decide +kernel
theorem dX6_init_145 : decode cX6_init 145 = .ok (.newarray .int, 2) := by decide +kernel
theorem dX6_init_147 : decode cX6_init 147 = .ok (.putfield 62, 3) := by decide +kernel
theorem dX6_init_150 : decode cX6_init 150 = .ok (.aload_n 0, 1) := by decide +kernel
theorem dX6_init_151 : decode cX6_init 151 = .ok (.iconst 5, 1) := by decide +kernel
theorem dX6_init_152 : decode cX6_init 152 = .ok (.newarray .int, 2) := by decide +kernel
theorem dX6_init_154 : decode cX6_init 154 = .ok (.putfield 65, 3) := by decide +kernel
theorem dX6_init_157 : decode cX6_init 157 = .ok (.aload_n 0, 1) := by decide +kernel
theorem dX6_init_158 : decode cX6_init 158 = .ok (.iconst 5, 1) := by decide +kernel
theorem dX6_init_159 : decode cX6_init 159 = .ok (.newarray .int, 2) := by decide +kernel
theorem dX6_init_161 : decode cX6_init 161 = .ok (.putfield 68, 3) := by decide +kernel
theorem dX6_init_164 : decode cX6_init 164 = .ok (.aload_n 0, 1) := by decide +kernel
theorem dX6_init_165 : decode cX6_init 165 = .ok (.sipush 140, 3) := by decide +kernel
theorem dX6_init_168 : decode cX6_init 168 = .ok (.newarray .boolean, 2) := by decide +kernel
theorem dX6_init_170 : decode cX6_init 170 = .ok (.putfield 71, 3) := by decide +kernel
theorem dX6_init_173 : decode cX6_init 173 = .ok (.aload_n 0, 1) := by decide +kernel
theorem dX6_init_174 : decode cX6_init 174 = .ok (.bipush 20, 2) := by decide +kernel
theorem dX6_init_176 : decode cX6_init 176 = .ok (.newarray .int, 2) := by decide +kernel
theorem dX6_init_178 : decode cX6_init 178 = .ok (.putfield 74, 3) := by decide +kernel
theorem dX6_init_181 : decode cX6_init 181 = .ok (.return_, 1) := by decide +kernel
theorem dX6_in_0 : decode cX6_in 0 = .ok (.iload_n 0, 1) := by decide +kernel
theorem dX6_in_1 : decode cX6_in 1 = .ok (.iload_n 1, 1) := by decide +kernel
theorem dX6_in_2 : decode cX6_in 2 = .ok (.if_icmp .lt 12, 3) := by decide +kernel
theorem dX6_in_5 : decode cX6_in 5 = .ok (.iload_n 0, 1) := by decide +kernel
theorem dX6_in_6 : decode cX6_in 6 = .ok (.iload_n 2, 1) := by decide +kernel
theorem dX6_in_7 : decode cX6_in 7 = .ok (.if_icmp .gt 7, 3) := by decide +kernel
theorem dX6_in_10 : decode cX6_in 10 = .ok (.iconst 1, 1) := by decide +kernel
theorem dX6_in_11 : decode cX6_in 11 = .ok (.goto 4, 3) := by decide +kernel
theorem dX6_in_14 : decode cX6_in 14 = .ok (.iconst 0, 1) := by decide +kernel
theorem dX6_in_15 : decode cX6_in 15 = .ok (.ireturn, 1) := by decide +kernel
theorem dX6_isRoom_0 : decode cX6_isRoom 0 = .ok (.iload_n 1, 1) := by decide +kernel
theorem dX6_isRoom_1 : decode cX6_isRoom 1 = .ok (.iconst 0, 1) := by decide +kernel
theorem dX6_isRoom_2 : decode cX6_isRoom 2 = .ok (.aload_n 0, 1) := by decide +kernel
theorem dX6_isRoom_3 : decode cX6_isRoom 3 = .ok (.getfield 81, 3) := by decide +kernel
theorem dX6_isRoom_6 : decode cX6_isRoom 6 = .ok (.iconst 1, 1) := by decide +kernel
theorem dX6_isRoom_7 : decode cX6_isRoom 7 = .ok (.isub, 1) := by decide +kernel
theorem dX6_isRoom_8 : decode cX6_isRoom 8 = .ok (.invokestatic 84, 3) := by decide +kernel
theorem dX6_isRoom_11 : decode cX6_isRoom 11 = .ok (.ireturn, 1) := by decide +kernel
theorem dX6_isDoor_0 : decode cX6_isDoor 0 = .ok (.iload_n 1, 1) := by decide +kernel
theorem dX6_isDoor_1 : decode cX6_isDoor 1 = .ok (.iconst 0, 1) := by decide +kernel
theorem dX6_isDoor_2 : decode cX6_isDoor 2 = .ok (.aload_n 0, 1) := by decide +kernel
theorem dX6_isDoor_3 : decode cX6_isDoor 3 = .ok (.getfield 88, 3) := by decide +kernel
theorem dX6_isDoor_6 : decode cX6_isDoor 6 = .ok (.iconst 1, 1) := by decide +kernel
theorem dX6_isDoor_7 : decode cX6_isDoor 7 = .ok (.isub, 1) := by decide +kernel
theorem dX6_isDoor_8 : decode cX6_isDoor 8 = .ok (.invokestatic 84, 3) := by decide +kernel
theorem dX6_isDoor_11 : decode cX6_isDoor 11 = .ok (.ireturn, 1) := by decide +kernel
theorem dX6_isThing_0 : decode cX6_isThing 0 = .ok (.iload_n 1, 1) := by decide +kernel
theorem dX6_isThing_1 : decode cX6_isThing 1 = .ok (.iconst 0, 1) := by decide +kernel
theorem dX6_isThing_2 : decode cX6_isThing 2 = .ok (.aload_n 0, 1) := by decide +kernel
theorem dX6_isThing_3 : decode cX6_isThing 3 = .ok (.getfield 91, 3) := by decide +kernel
theorem dX6_isThing_6 : decode cX6_isThing 6 = .ok (.iconst 1, 1) := by decide +kernel
theorem dX6_isThing_7 : decode cX6_isThing 7 = .ok (.isub, 1) := by decide +kernel
theorem dX6_isThing_8 : decode cX6_isThing 8 = .ok (.invokestatic 84, 3) := by decide +kernel
theorem dX6_isThing_11 : decode cX6_isThing 11 = .ok (.ireturn, 1) := by decide +kernel
theorem dX6_isBeing_0 : decode cX6_isBeing 0 = .ok (.iload_n 1, 1) := by decide +kernel
theorem dX6_isBeing_1 : decode cX6_isBeing 1 = .ok (.iconst 0, 1) := by decide +kernel
theorem dX6_isBeing_2 : decode cX6_isBeing 2 = .ok (.aload_n 0, 1) := by decide +kernel
theorem dX6_isBeing_3 : decode cX6_isBeing 3 = .ok (.getfield 94, 3) := by decide +kernel
theorem dX6_isBeing_6 : decode cX6_isBeing 6 = .ok (.iconst 1, 1) := by decide +kernel
theorem dX6_isBeing_7 : decode cX6_isBeing 7 = .ok (.isub, 1) := by decide +kernel
theorem dX6_isBeing_8 : decode cX6_isBeing 8 = .ok (.invokestatic 84, 3) := by decide +kernel
theorem dX6_isBeing_11 : decode cX6_isBeing 11 = .ok (.ireturn, 1) := by decide +kernel
theorem dX6_room_0 : decode cX6_room 0 = .ok (.aload_n 0, 1) := by decide +kernel
theorem dX6_room_1 : decode cX6_room 1 = .ok (.iconst 0, 1) := by decide +kernel
theorem dX6_room_2 : decode cX6_room 2 = .ok (.putfield 77, 3) := by decide +kernel
theorem dX6_room_5 : decode cX6_room 5 = .ok (.aload_n 0, 1) := by decide +kernel
theorem dX6_room_6 : decode cX6_room 6 = .ok (.getfield 81, 3) := by decide +kernel
theorem dX6_room_9 : decode cX6_room 9 = .ok (.bipush 20, 2) := by decide +kernel
theorem dX6_room_11 : decode cX6_room 11 = .ok (.if_icmp .ne 6, 3) := by decide +kernel
theorem dX6_room_14 : decode cX6_room 14 = .ok (.bipush (-2), 2) := by decide +kernel
theorem dX6_room_16 : decode cX6_room 16 = .ok (.ireturn, 1) := by decide +kernel
theorem dX6_room_17 : decode cX6_room 17 = .ok (.iconst 0, 1) := by decide +kernel
theorem dX6_room_18 : decode cX6_room 18 = .ok (.istore_n 1, 1) := by decide +kernel
theorem dX6_room_19 : decode cX6_room 19 = .ok (.iload_n 1, 1) := by decide +kernel
theorem dX6_room_20 : decode cX6_room 20 = .ok (.bipush 8, 2) := by decide +kernel
theorem dX6_room_22 : decode cX6_room 22 = .ok (.if_icmp .ge 40, 3) := by decide +kernel
theorem dX6_room_25 : decode cX6_room 25 = .ok (.aload_n 0, 1) := by decide +kernel
theorem dX6_room_26 : decode cX6_room 26 = .ok (.getfield 7, 3) := by decide +kernel
theorem dX6_room_29 : decode cX6_room 29 = .ok (.bipush 8, 2) := by decide +kernel
theorem dX6_room_31 : decode cX6_room 31 = .ok (.aload_n 0, 1) := by decide +kernel
theorem dX6_room_32 : decode cX6_room 32 = .ok (.getfield 81, 3) := by decide +kernel
theorem dX6_room_35 : decode cX6_room 35 = .ok (.imul, 1) := by decide +kernel
theorem dX6_room_36 : decode cX6_room 36 = .ok (.iload_n 1, 1) := by decide +kernel
theorem dX6_room_37 : decode cX6_room 37 = .ok (.iadd, 1) := by decide +kernel
theorem dX6_room_38 : decode cX6_room 38 = .ok (.iconst (-1), 1) := by decide +kernel
theorem dX6_room_39 : decode cX6_room 39 = .ok (.iastore, 1) := by decide +kernel
theorem dX6_room_40 : decode cX6_room 40 = .ok (.aload_n 0, 1) := by decide +kernel
theorem dX6_room_41 : decode cX6_room 41 = .ok (.getfield 13, 3) := by decide +kernel
theorem dX6_room_44 : decode cX6_room 44 = .ok (.bipush 8, 2) := by decide +kernel
theorem dX6_room_46 : decode cX6_room 46 = .ok (.aload_n 0, 1) := by decide +kernel
theorem dX6_room_47 : decode cX6_room 47 = .ok (.getfield 81, 3) := by decide +kernel
theorem dX6_room_50 : decode cX6_room 50 = .ok (.imul, 1) := by decide +kernel
theorem dX6_room_51 : decode cX6_room 51 = .ok (.iload_n 1, 1) := by decide +kernel
theorem dX6_room_52 : decode cX6_room 52 = .ok (.iadd, 1) := by decide +kernel
theorem dX6_room_53 : decode cX6_room 53 = .ok (.bipush 9, 2) := by decide +kernel
theorem dX6_room_55 : decode cX6_room 55 = .ok (.iastore, 1) := by decide +kernel
theorem dX6_room_56 : decode cX6_room 56 = .ok (.iinc 1 1, 3) := by decide +kernel
theorem dX6_room_59 : decode cX6_room 59 = .ok (.goto (-40), 3) := by decide +kernel
theorem dX6_room_62 : decode cX6_room 62 = .ok (.aload_n 0, 1) := by decide +kernel
theorem dX6_room_63 : decode cX6_room 63 = .ok (.dup, 1) := by decide +kernel
theorem dX6_room_64 : decode cX6_room 64 = .ok (.getfield 81, 3) := by decide +kernel
theorem dX6_room_67 : decode cX6_room 67 = .ok (.iconst 1, 1) := by decide +kernel
theorem dX6_room_68 : decode cX6_room 68 = .ok (.iadd, 1) := by decide +kernel
theorem dX6_room_69 : decode cX6_room 69 = .ok (.putfield 81, 3) := by decide +kernel
theorem dX6_room_72 : decode cX6_room 72 = .ok (.aload_n 0, 1) := by decide +kernel
theorem dX6_room_73 : decode cX6_room 73 = .ok (.getfield 81, 3) := by decide +kernel
theorem dX6_room_76 : decode cX6_room 76 = .ok (.iconst 1, 1) := by decide +kernel
theorem dX6_room_77 : decode cX6_room 77 = .ok (.isub, 1) := by decide +kernel
theorem dX6_room_78 : decode cX6_room 78 = .ok (.ireturn, 1) := by decide +kernel
theorem dX6_door_0 : decode cX6_door 0 = .ok (.aload_n 0, 1) := by decide +kernel
theorem dX6_door_1 : decode cX6_door 1 = .ok (.iconst 0, 1) := by decide +kernel
theorem dX6_door_2 : decode cX6_door 2 = .ok (.putfield 77, 3) := by decide +kernel
theorem dX6_door_5 : decode cX6_door 5 = .ok (.aload_n 0, 1) := by decide +kernel
theorem dX6_door_6 : decode cX6_door 6 = .ok (.iload_n 1, 1) := by decide +kernel
theorem dX6_door_7 : decode cX6_door 7 = .ok (.invokevirtual 97, 3) := by decide +kernel
theorem dX6_door_10 : decode cX6_door 10 = .ok (.ifCond .eq 21, 3) := by decide +kernel
theorem dX6_door_13 : decode cX6_door 13 = .ok (.iload_n 2, 1) := by decide +kernel
theorem dX6_door_14 : decode cX6_door 14 = .ok (.iconst (-1), 1) := by decide +kernel
theorem dX6_door_15 : decode cX6_door 15 = .ok (.if_icmp .eq 11, 3) := by decide +kernel
theorem dX6_door_18 : decode cX6_door 18 = .ok (.aload_n 0, 1) := by decide +kernel
theorem dX6_door_19 : decode cX6_door 19 = .ok (.iload_n 2, 1) := by decide +kernel
theorem dX6_door_20 : decode cX6_door 20 = .ok (.invokevirtual 97, 3) := by decide +kernel
theorem dX6_door_23 : decode cX6_door 23 = .ok (.ifCond .eq 8, 3) := by decide +kernel
theorem dX6_door_26 : decode cX6_door 26 = .ok (.iload_n 1, 1) := by decide +kernel
theorem dX6_door_27 : decode cX6_door 27 = .ok (.iload_n 2, 1) := by decide +kernel
theorem dX6_door_28 : decode cX6_door 28 = .ok (.if_icmp .ne 5, 3) := by decide +kernel
theorem dX6_door_31 : decode cX6_door 31 = .ok (.iconst (-1), 1) := by decide +kernel
theorem dX6_door_32 : decode cX6_door 32 = .ok (.ireturn, 1) := by decide +kernel
theorem dX6_door_33 : decode cX6_door 33 = .ok (.aload_n 0, 1) := by decide +kernel
theorem dX6_door_34 : decode cX6_door 34 = .ok (.getfield 88, 3) := by decide +kernel
theorem dX6_door_37 : decode cX6_door 37 = .ok (.bipush 15, 2) := by decide +kernel
theorem dX6_door_39 : decode cX6_door 39 = .ok (.if_icmp .ne 6, 3) := by decide +kernel
theorem dX6_door_42 : decode cX6_door 42 = .ok (.bipush (-2), 2) := by decide +kernel
theorem dX6_door_44 : decode cX6_door 44 = .ok (.ireturn, 1) := by decide +kernel
theorem dX6_door_45 : decode cX6_door 45 = .ok (.aload_n 0, 1) := by decide +kernel
theorem dX6_door_46 : decode cX6_door 46 = .ok (.getfield 16, 3) := by decide +kernel
theorem dX6_door_49 : decode cX6_door 49 = .ok (.aload_n 0, 1) := by decide +kernel
theorem dX6_door_50 : decode cX6_door 50 = .ok (.getfield 88, 3) := by decide +kernel
theorem dX6_door_53 : decode cX6_door 53 = .ok (.iload_n 1, 1) := by decide +kernel
theorem dX6_door_54 : decode cX6_door 54 = .ok (.iastore, 1) := by decide +kernel
theorem dX6_door_55 : decode cX6_door 55 = .ok (.aload_n 0, 1) := by decide +kernel
theorem dX6_door_56 : decode cX6_door 56 = .ok (.getfield 19, 3) := by decide +kernel
theorem dX6_door_59 : decode cX6_door 59 = .ok (.aload_n 0, 1) := by decide +kernel
theorem dX6_door_60 : decode cX6_door 60 = .ok (.getfield 88, 3) := by decide +kernel
theorem dX6_door_63 : decode cX6_door 63 = .ok (.iload_n 2, 1) := by decide +kernel
theorem dX6_door_64 : decode cX6_door 64 = .ok (.iastore, 1) := by decide +kernel
theorem dX6_door_65 : decode cX6_door 65 = .ok (.aload_n 0, 1) := by decide +kernel
theorem dX6_door_66 : decode cX6_door 66 = .ok (.getfield 22, 3) := by decide +kernel
theorem dX6_door_69 : decode cX6_door 69 = .ok (.aload_n 0, 1) := by decide +kernel
theorem dX6_door_70 : decode cX6_door 70 = .ok (.getfield 88, 3) := by decide +kernel
theorem dX6_door_73 : decode cX6_door 73 = .ok (.iconst (-1), 1) := by decide +kernel
theorem dX6_door_74 : decode cX6_door 74 = .ok (.iastore, 1) := by decide +kernel
theorem dX6_door_75 : decode cX6_door 75 = .ok (.aload_n 0, 1) := by decide +kernel
theorem dX6_door_76 : decode cX6_door 76 = .ok (.dup, 1) := by decide +kernel
theorem dX6_door_77 : decode cX6_door 77 = .ok (.getfield 88, 3) := by decide +kernel
theorem dX6_door_80 : decode cX6_door 80 = .ok (.iconst 1, 1) := by decide +kernel
theorem dX6_door_81 : decode cX6_door 81 = .ok (.iadd, 1) := by decide +kernel
theorem dX6_door_82 : decode cX6_door 82 = .ok (.putfield 88, 3) := by decide +kernel
theorem dX6_door_85 : decode cX6_door 85 = .ok (.aload_n 0, 1) := by decide +kernel
theorem dX6_door_86 : decode cX6_door 86 = .ok (.getfield 88, 3) := by decide +kernel
theorem dX6_door_89 : decode cX6_door 89 = .ok (.iconst 1, 1) := by decide +kernel
theorem dX6_door_90 : decode cX6_door 90 = .ok (.isub, 1) := by decide +kernel
theorem dX6_door_91 : decode cX6_door 91 = .ok (.ireturn, 1) := by decide +kernel
theorem dX6_isSide_0 : decode cX6_isSide 0 = .ok (.aload_n 0, 1) := by decide +kernel
theorem dX6_isSide_1 : decode cX6_isSide 1 = .ok (.getfield 16, 3) := by decide +kernel
theorem dX6_isSide_4 : decode cX6_isSide 4 = .ok (.iload_n 1, 1) := by decide +kernel
theorem dX6_isSide_5 : decode cX6_isSide 5 = .ok (.iaload, 1) := by decide +kernel
theorem dX6_isSide_6 : decode cX6_isSide 6 = .ok (.iload_n 2, 1) := by decide +kernel
theorem dX6_isSide_7 : decode cX6_isSide 7 = .ok (.if_icmp .eq 13, 3) := by decide +kernel
theorem dX6_isSide_10 : decode cX6_isSide 10 = .ok (.aload_n 0, 1) := by decide +kernel
theorem dX6_isSide_11 : decode cX6_isSide 11 = .ok (.getfield 19, 3) := by decide +kernel
theorem dX6_isSide_14 : decode cX6_isSide 14 = .ok (.iload_n 1, 1) := by decide +kernel
theorem dX6_isSide_15 : decode cX6_isSide 15 = .ok (.iaload, 1) := by decide +kernel
theorem dX6_isSide_16 : decode cX6_isSide 16 = .ok (.iload_n 2, 1) := by decide +kernel
theorem dX6_isSide_17 : decode cX6_isSide 17 = .ok (.if_icmp .ne 7, 3) := by decide +kernel
theorem dX6_isSide_20 : decode cX6_isSide 20 = .ok (.iconst 1, 1) := by decide +kernel
theorem dX6_isSide_21 : decode cX6_isSide 21 = .ok (.goto 4, 3) := by decide +kernel
theorem dX6_isSide_24 : decode cX6_isSide 24 = .ok (.iconst 0, 1) := by decide +kernel
theorem dX6_isSide_25 : decode cX6_isSide 25 = .ok (.ireturn, 1) := by decide +kernel
theorem dX6_mayBe_0 : decode cX6_mayBe 0 = .ok (.iload_n 2, 1) := by decide +kernel
theorem dX6_mayBe_1 : decode cX6_mayBe 1 = .ok (.bipush 100, 2) := by decide +kernel
theorem dX6_mayBe_3 : decode cX6_mayBe 3 = .ok (.if_icmp .ge 22, 3) := by decide +kernel
theorem dX6_mayBe_6 : decode cX6_mayBe 6 = .ok (.iload_n 2, 1) := by decide +kernel
theorem dX6_mayBe_7 : decode cX6_mayBe 7 = .ok (.iconst (-1), 1) := by decide +kernel
theorem dX6_mayBe_8 : decode cX6_mayBe 8 = .ok (.if_icmp .eq 11, 3) := by decide +kernel
theorem dX6_mayBe_11 : decode cX6_mayBe 11 = .ok (.aload_n 0, 1) := by decide +kernel
theorem dX6_mayBe_12 : decode cX6_mayBe 12 = .ok (.iload_n 2, 1) := by decide +kernel
theorem dX6_mayBe_13 : decode cX6_mayBe 13 = .ok (.invokevirtual 97, 3) := by decide +kernel
theorem dX6_mayBe_16 : decode cX6_mayBe 16 = .ok (.ifCond .eq 7, 3) := by decide +kernel
theorem dX6_mayBe_19 : decode cX6_mayBe 19 = .ok (.iconst 1, 1) := by decide +kernel
theorem dX6_mayBe_20 : decode cX6_mayBe 20 = .ok (.goto 4, 3) := by decide +kernel
theorem dX6_mayBe_23 : decode cX6_mayBe 23 = .ok (.iconst 0, 1) := by decide +kernel
theorem dX6_mayBe_24 : decode cX6_mayBe 24 = .ok (.ireturn, 1) := by decide +kernel
theorem dX6_mayBe_25 : decode cX6_mayBe 25 = .ok (.iload_n 2, 1) := by decide +kernel
theorem dX6_mayBe_26 : decode cX6_mayBe 26 = .ok (.sipush 200, 3) := by decide +kernel
theorem dX6_mayBe_29 : decode cX6_mayBe 29 = .ok (.if_icmp .ge 32, 3) := by decide +kernel
theorem dX6_mayBe_32 : decode cX6_mayBe 32 = .ok (.aload_n 0, 1) := by decide +kernel
theorem dX6_mayBe_33 : decode cX6_mayBe 33 = .ok (.iload_n 2, 1) := by decide +kernel
theorem dX6_mayBe_34 : decode cX6_mayBe 34 = .ok (.bipush 100, 2) := by decide +kernel
theorem dX6_mayBe_36 : decode cX6_mayBe 36 = .ok (.isub, 1) := by decide +kernel
theorem dX6_mayBe_37 : decode cX6_mayBe 37 = .ok (.invokevirtual 101, 3) := by decide +kernel
theorem dX6_mayBe_40 : decode cX6_mayBe 40 = .ok (.ifCond .eq 19, 3) := by decide +kernel
theorem dX6_mayBe_43 : decode cX6_mayBe 43 = .ok (.aload_n 0, 1) := by decide +kernel
theorem dX6_mayBe_44 : decode cX6_mayBe 44 = .ok (.iload_n 2, 1) := by decide +kernel
theorem dX6_mayBe_45 : decode cX6_mayBe 45 = .ok (.bipush 100, 2) := by decide +kernel
theorem dX6_mayBe_47 : decode cX6_mayBe 47 = .ok (.isub, 1) := by decide +kernel
theorem dX6_mayBe_48 : decode cX6_mayBe 48 = .ok (.iload_n 1, 1) := by decide +kernel
theorem dX6_mayBe_49 : decode cX6_mayBe 49 = .ok (.invokevirtual 104, 3) := by decide +kernel
theorem dX6_mayBe_52 : decode cX6_mayBe 52 = .ok (.ifCond .eq 7, 3) := by decide +kernel
theorem dX6_mayBe_55 : decode cX6_mayBe 55 = .ok (.iconst 1, 1) := by decide +kernel
theorem dX6_mayBe_56 : decode cX6_mayBe 56 = .ok (.goto 4, 3) := by decide +kernel
theorem dX6_mayBe_59 : decode cX6_mayBe 59 = .ok (.iconst 0, 1) := by decide +kernel
theorem dX6_mayBe_60 : decode cX6_mayBe 60 = .ok (.ireturn, 1) := by decide +kernel
theorem dX6_mayBe_61 : decode cX6_mayBe 61 = .ok (.iload_n 2, 1) := by decide +kernel
theorem dX6_mayBe_62 : decode cX6_mayBe 62 = .ok (.sipush 200, 3) := by decide +kernel
theorem dX6_mayBe_65 : decode cX6_mayBe 65 = .ok (.sipush 249, 3) := by decide +kernel
theorem dX6_mayBe_68 : decode cX6_mayBe 68 = .ok (.invokestatic 84, 3) := by decide +kernel
theorem dX6_mayBe_71 : decode cX6_mayBe 71 = .ok (.ifCond .ne 16, 3) := by decide +kernel
theorem dX6_mayBe_74 : decode cX6_mayBe 74 = .ok (.iload_n 2, 1) := by decide +kernel
theorem dX6_mayBe_75 : decode cX6_mayBe 75 = .ok (.sipush 300, 3) := by decide +kernel
theorem dX6_mayBe_78 : decode cX6_mayBe 78 = .ok (.sipush 304, 3) := by decide +kernel
theorem dX6_mayBe_81 : decode cX6_mayBe 81 = .ok (.invokestatic 84, 3) := by decide +kernel
theorem dX6_mayBe_84 : decode cX6_mayBe 84 = .ok (.ifCond .eq 7, 3) := by decide +kernel
theorem dX6_mayBe_87 : decode cX6_mayBe 87 = .ok (.iconst 1, 1) := by decide +kernel
theorem dX6_mayBe_88 : decode cX6_mayBe 88 = .ok (.goto 4, 3) := by decide +kernel
theorem dX6_mayBe_91 : decode cX6_mayBe 91 = .ok (.iconst 0, 1) := by decide +kernel
theorem dX6_mayBe_92 : decode cX6_mayBe 92 = .ok (.ireturn, 1) := by decide +kernel
theorem dX6_exit_0 : decode cX6_exit 0 = .ok (.aload_n 0, 1) := by decide +kernel
theorem dX6_exit_1 : decode cX6_exit 1 = .ok (.iconst 0, 1) := by decide +kernel
theorem dX6_exit_2 : decode cX6_exit 2 = .ok (.putfield 77, 3) := by decide +kernel
theorem dX6_exit_5 : decode cX6_exit 5 = .ok (.aload_n 0, 1) := by decide +kernel
theorem dX6_exit_6 : decode cX6_exit 6 = .ok (.iload_n 1, 1) := by decide +kernel
theorem dX6_exit_7 : decode cX6_exit 7 = .ok (.invokevirtual 97, 3) := by decide +kernel
theorem dX6_exit_10 : decode cX6_exit 10 = .ok (.ifCond .eq 22, 3) := by decide +kernel
theorem dX6_exit_13 : decode cX6_exit 13 = .ok (.iload_n 2, 1) := by decide +kernel
theorem dX6_exit_14 : decode cX6_exit 14 = .ok (.iconst 0, 1) := by decide +kernel
theorem dX6_exit_15 : decode cX6_exit 15 = .ok (.bipush 7, 2) := by decide +kernel
theorem dX6_exit_17 : decode cX6_exit 17 = .ok (.invokestatic 84, 3) := by decide +kernel
theorem dX6_exit_20 : decode cX6_exit 20 = .ok (.ifCond .eq 12, 3) := by decide +kernel
theorem dX6_exit_23 : decode cX6_exit 23 = .ok (.aload_n 0, 1) := by decide +kernel
theorem dX6_exit_24 : decode cX6_exit 24 = .ok (.iload_n 1, 1) := by decide +kernel
theorem dX6_exit_25 : decode cX6_exit 25 = .ok (.iload_n 3, 1) := by decide +kernel
theorem dX6_exit_26 : decode cX6_exit 26 = .ok (.invokevirtual 108, 3) := by decide +kernel
theorem dX6_exit_29 : decode cX6_exit 29 = .ok (.ifCond .ne 5, 3) := by decide +kernel
theorem dX6_exit_32 : decode cX6_exit 32 = .ok (.iconst (-1), 1) := by decide +kernel
theorem dX6_exit_33 : decode cX6_exit 33 = .ok (.ireturn, 1) := by decide +kernel
theorem dX6_exit_34 : decode cX6_exit 34 = .ok (.aload_n 0, 1) := by decide +kernel
theorem dX6_exit_35 : decode cX6_exit 35 = .ok (.getfield 7, 3) := by decide +kernel
theorem dX6_exit_38 : decode cX6_exit 38 = .ok (.bipush 8, 2) := by decide +kernel
theorem dX6_exit_40 : decode cX6_exit 40 = .ok (.iload_n 1, 1) := by decide +kernel
theorem dX6_exit_41 : decode cX6_exit 41 = .ok (.imul, 1) := by decide +kernel
theorem dX6_exit_42 : decode cX6_exit 42 = .ok (.iload_n 2, 1) := by decide +kernel
theorem dX6_exit_43 : decode cX6_exit 43 = .ok (.iadd, 1) := by decide +kernel
theorem dX6_exit_44 : decode cX6_exit 44 = .ok (.iaload, 1) := by decide +kernel
theorem dX6_exit_45 : decode cX6_exit 45 = .ok (.istore 4, 2) := by decide +kernel
theorem dX6_exit_47 : decode cX6_exit 47 = .ok (.aload_n 0, 1) := by decide +kernel
theorem dX6_exit_48 : decode cX6_exit 48 = .ok (.getfield 7, 3) := by decide +kernel
theorem dX6_exit_51 : decode cX6_exit 51 = .ok (.bipush 8, 2) := by decide +kernel
theorem dX6_exit_53 : decode cX6_exit 53 = .ok (.iload_n 1, 1) := by decide +kernel
theorem dX6_exit_54 : decode cX6_exit 54 = .ok (.imul, 1) := by decide +kernel
theorem dX6_exit_55 : decode cX6_exit 55 = .ok (.iload_n 2, 1) := by decide +kernel
theorem dX6_exit_56 : decode cX6_exit 56 = .ok (.iadd, 1) := by decide +kernel
theorem dX6_exit_57 : decode cX6_exit 57 = .ok (.iload_n 3, 1) := by decide +kernel
theorem dX6_exit_58 : decode cX6_exit 58 = .ok (.iastore, 1) := by decide +kernel
theorem dX6_exit_59 : decode cX6_exit 59 = .ok (.iload 4, 2) := by decide +kernel
theorem dX6_exit_61 : decode cX6_exit 61 = .ok (.ireturn, 1) := by decide +kernel
theorem dX6_width_0 : decode cX6_width 0 = .ok (.aload_n 0, 1) := by decide +kernel
theorem dX6_width_1 : decode cX6_width 1 = .ok (.iconst 0, 1) := by decide +kernel
theorem dX6_width_2 : decode cX6_width 2 = .ok (.putfield 77, 3) := by decide +kernel
theorem dX6_width_5 : decode cX6_width 5 = .ok (.aload_n 0, 1) := by decide +kernel
theorem dX6_width_6 : decode cX6_width 6 = .ok (.iload_n 1, 1) := by decide +kernel
theorem dX6_width_7 : decode cX6_width 7 = .ok (.invokevirtual 97, 3) := by decide +kernel
theorem dX6_width_10 : decode cX6_width 10 = .ok (.ifCond .eq 23, 3) := by decide +kernel
theorem dX6_width_13 : decode cX6_width 13 = .ok (.iload_n 2, 1) := by decide +kernel
theorem dX6_width_14 : decode cX6_width 14 = .ok (.iconst 0, 1) := by decide +kernel
theorem dX6_width_15 : decode cX6_width 15 = .ok (.bipush 7, 2) := by decide +kernel
theorem dX6_width_17 : decode cX6_width 17 = .ok (.invokestatic 84, 3) := by decide +kernel
theorem dX6_width_20 : decode cX6_width 20 = .ok (.ifCond .eq 13, 3) := by decide +kernel
theorem dX6_width_23 : decode cX6_width 23 = .ok (.iload_n 3, 1) := by decide +kernel
theorem dX6_width_24 : decode cX6_width 24 = .ok (.iconst 1, 1) := by decide +kernel
theorem dX6_width_25 : decode cX6_width 25 = .ok (.bipush 9, 2) := by decide +kernel
theorem dX6_width_27 : decode cX6_width 27 = .ok (.invokestatic 84, 3) := by decide +kernel
theorem dX6_width_30 : decode cX6_width 30 = .ok (.ifCond .ne 5, 3) := by decide +kernel
theorem dX6_width_33 : decode cX6_width 33 = .ok (.iconst (-1), 1) := by decide +kernel
theorem dX6_width_34 : decode cX6_width 34 = .ok (.ireturn, 1) := by decide +kernel
theorem dX6_width_35 : decode cX6_width 35 = .ok (.aload_n 0, 1) := by decide +kernel
theorem dX6_width_36 : decode cX6_width 36 = .ok (.getfield 13, 3) := by decide +kernel
theorem dX6_width_39 : decode cX6_width 39 = .ok (.bipush 8, 2) := by decide +kernel
theorem dX6_width_41 : decode cX6_width 41 = .ok (.iload_n 1, 1) := by decide +kernel
theorem dX6_width_42 : decode cX6_width 42 = .ok (.imul, 1) := by decide +kernel
theorem dX6_width_43 : decode cX6_width 43 = .ok (.iload_n 2, 1) := by decide +kernel
theorem dX6_width_44 : decode cX6_width 44 = .ok (.iadd, 1) := by decide +kernel
theorem dX6_width_45 : decode cX6_width 45 = .ok (.iaload, 1) := by decide +kernel
theorem dX6_width_46 : decode cX6_width 46 = .ok (.istore 4, 2) := by decide +kernel
theorem dX6_width_48 : decode cX6_width 48 = .ok (.aload_n 0, 1) := by decide +kernel
theorem dX6_width_49 : decode cX6_width 49 = .ok (.getfield 13, 3) := by decide +kernel
theorem dX6_width_52 : decode cX6_width 52 = .ok (.bipush 8, 2) := by decide +kernel
theorem dX6_width_54 : decode cX6_width 54 = .ok (.iload_n 1, 1) := by decide +kernel
theorem dX6_width_55 : decode cX6_width 55 = .ok (.imul, 1) := by decide +kernel
theorem dX6_width_56 : decode cX6_width 56 = .ok (.iload_n 2, 1) := by decide +kernel
theorem dX6_width_57 : decode cX6_width 57 = .ok (.iadd, 1) := by decide +kernel
theorem dX6_width_58 : decode cX6_width 58 = .ok (.iload_n 3, 1) := by decide +kernel
theorem dX6_width_59 : decode cX6_width 59 = .ok (.iastore, 1) := by decide +kernel
theorem dX6_width_60 : decode cX6_width 60 = .ok (.iload 4, 2) := by decide +kernel
theorem dX6_width_62 : decode cX6_width 62 = .ok (.ireturn, 1) := by decide +kernel
theorem dX6_turn_0 : decode cX6_turn 0 = .ok (.aload_n 0, 1) := by decide +kernel
theorem dX6_turn_1 : decode cX6_turn 1 = .ok (.iconst 0, 1) := by decide +kernel
theorem dX6_turn_2 : decode cX6_turn 2 = .ok (.putfield 77, 3) := by decide +kernel
theorem dX6_turn_5 : decode cX6_turn 5 = .ok (.iload_n 1, 1) := by decide +kernel
theorem dX6_turn_6 : decode cX6_turn 6 = .ok (.iconst 0, 1) := by decide +kernel
theorem dX6_turn_7 : decode cX6_turn 7 = .ok (.iconst 4, 1) := by decide +kernel
theorem dX6_turn_8 : decode cX6_turn 8 = .ok (.invokestatic 84, 3) := by decide +kernel
theorem dX6_turn_11 : decode cX6_turn 11 = .ok (.ifCond .eq 11, 3) := by decide +kernel
theorem dX6_turn_14 : decode cX6_turn 14 = .ok (.aload_n 0, 1) := by decide +kernel
theorem dX6_turn_15 : decode cX6_turn 15 = .ok (.iload_n 2, 1) := by decide +kernel
theorem dX6_turn_16 : decode cX6_turn 16 = .ok (.invokevirtual 97, 3) := by decide +kernel
theorem dX6_turn_19 : decode cX6_turn 19 = .ok (.ifCond .ne 5, 3) := by decide +kernel
theorem dX6_turn_22 : decode cX6_turn 22 = .ok (.iconst (-1), 1) := by decide +kernel
theorem dX6_turn_23 : decode cX6_turn 23 = .ok (.ireturn, 1) := by decide +kernel
theorem dX6_turn_24 : decode cX6_turn 24 = .ok (.aload_n 0, 1) := by decide +kernel
theorem dX6_turn_25 : decode cX6_turn 25 = .ok (.getfield 65, 3) := by decide +kernel
theorem dX6_turn_28 : decode cX6_turn 28 = .ok (.iload_n 1, 1) := by decide +kernel
theorem dX6_turn_29 : decode cX6_turn 29 = .ok (.iaload, 1) := by decide +kernel
theorem dX6_turn_30 : decode cX6_turn 30 = .ok (.iconst 4, 1) := by decide +kernel
theorem dX6_turn_31 : decode cX6_turn 31 = .ok (.if_icmp .ne 6, 3) := by decide +kernel
theorem dX6_turn_34 : decode cX6_turn 34 = .ok (.bipush (-2), 2) := by decide +kernel
theorem dX6_turn_36 : decode cX6_turn 36 = .ok (.ireturn, 1) := by decide +kernel
theorem dX6_turn_37 : decode cX6_turn 37 = .ok (.aload_n 0, 1) := by decide +kernel
theorem dX6_turn_38 : decode cX6_turn 38 = .ok (.getfield 62, 3) := by decide +kernel
theorem dX6_turn_41 : decode cX6_turn 41 = .ok (.iconst 4, 1) := by decide +kernel
theorem dX6_turn_42 : decode cX6_turn 42 = .ok (.iload_n 1, 1) := by decide +kernel
theorem dX6_turn_43 : decode cX6_turn 43 = .ok (.imul, 1) := by decide +kernel
theorem dX6_turn_44 : decode cX6_turn 44 = .ok (.aload_n 0, 1) := by decide +kernel
theorem dX6_turn_45 : decode cX6_turn 45 = .ok (.getfield 65, 3) := by decide +kernel
theorem dX6_turn_48 : decode cX6_turn 48 = .ok (.iload_n 1, 1) := by decide +kernel
theorem dX6_turn_49 : decode cX6_turn 49 = .ok (.iaload, 1) := by decide +kernel
theorem dX6_turn_50 : decode cX6_turn 50 = .ok (.iadd, 1) := by decide +kernel
theorem dX6_turn_51 : decode cX6_turn 51 = .ok (.iload_n 2, 1) := by decide +kernel
theorem dX6_turn_52 : decode cX6_turn 52 = .ok (.iastore, 1) := by decide +kernel
theorem dX6_turn_53 : decode cX6_turn 53 = .ok (.aload_n 0, 1) := by decide +kernel
theorem dX6_turn_54 : decode cX6_turn 54 = .ok (.getfield 65, 3) := by decide +kernel
theorem dX6_turn_57 : decode cX6_turn 57 = .ok (.iload_n 1, 1) := by decide +kernel
theorem dX6_turn_58 : decode cX6_turn 58 = .ok (.dup2, 1) := by decide +kernel
theorem dX6_turn_59 : decode cX6_turn 59 = .ok (.iaload, 1) := by decide +kernel
theorem dX6_turn_60 : decode cX6_turn 60 = .ok (.iconst 1, 1) := by decide +kernel
theorem dX6_turn_61 : decode cX6_turn 61 = .ok (.iadd, 1) := by decide +kernel
theorem dX6_turn_62 : decode cX6_turn 62 = .ok (.iastore, 1) := by decide +kernel
theorem dX6_turn_63 : decode cX6_turn 63 = .ok (.aload_n 0, 1) := by decide +kernel
theorem dX6_turn_64 : decode cX6_turn 64 = .ok (.getfield 65, 3) := by decide +kernel
theorem dX6_turn_67 : decode cX6_turn 67 = .ok (.iload_n 1, 1) := by decide +kernel
theorem dX6_turn_68 : decode cX6_turn 68 = .ok (.iaload, 1) := by decide +kernel
theorem dX6_turn_69 : decode cX6_turn 69 = .ok (.ireturn, 1) := by decide +kernel
theorem dX6_region_0 : decode cX6_region 0 = .ok (.aload_n 0, 1) := by decide +kernel
theorem dX6_region_1 : decode cX6_region 1 = .ok (.iconst 0, 1) := by decide +kernel
theorem dX6_region_2 : decode cX6_region 2 = .ok (.putfield 77, 3) := by decide +kernel
theorem dX6_region_5 : decode cX6_region 5 = .ok (.iload_n 1, 1) := by decide +kernel
theorem dX6_region_6 : decode cX6_region 6 = .ok (.iconst 0, 1) := by decide +kernel
theorem dX6_region_7 : decode cX6_region 7 = .ok (.bipush 6, 2) := by decide +kernel
theorem dX6_region_9 : decode cX6_region 9 = .ok (.invokestatic 84, 3) := by decide +kernel
theorem dX6_region_12 : decode cX6_region 12 = .ok (.ifCond .eq 11, 3) := by decide +kernel
theorem dX6_region_15 : decode cX6_region 15 = .ok (.aload_n 0, 1) := by decide +kernel
theorem dX6_region_16 : decode cX6_region 16 = .ok (.iload_n 2, 1) := by decide +kernel
theorem dX6_region_17 : decode cX6_region 17 = .ok (.invokevirtual 97, 3) := by decide +kernel
theorem dX6_region_20 : decode cX6_region 20 = .ok (.ifCond .ne 5, 3) := by decide +kernel
theorem dX6_region_23 : decode cX6_region 23 = .ok (.iconst (-1), 1) := by decide +kernel
theorem dX6_region_24 : decode cX6_region 24 = .ok (.ireturn, 1) := by decide +kernel
theorem dX6_region_25 : decode cX6_region 25 = .ok (.aload_n 0, 1) := by decide +kernel
theorem dX6_region_26 : decode cX6_region 26 = .ok (.getfield 71, 3) := by decide +kernel
theorem dX6_region_29 : decode cX6_region 29 = .ok (.bipush 20, 2) := by decide +kernel
theorem dX6_region_31 : decode cX6_region 31 = .ok (.iload_n 1, 1) := by decide +kernel
theorem dX6_region_32 : decode cX6_region 32 = .ok (.imul, 1) := by decide +kernel
theorem dX6_region_33 : decode cX6_region 33 = .ok (.iload_n 2, 1) := by decide +kernel
theorem dX6_region_34 : decode cX6_region 34 = .ok (.iadd, 1) := by decide +kernel
theorem dX6_region_35 : decode cX6_region 35 = .ok (.iload_n 3, 1) := by decide +kernel
theorem dX6_region_36 : decode cX6_region 36 = .ok (.bastore, 1) := by decide +kernel
theorem dX6_region_37 : decode cX6_region 37 = .ok (.iconst 0, 1) := by decide +kernel
theorem dX6_region_38 : decode cX6_region 38 = .ok (.istore 4, 2) := by decide +kernel
theorem dX6_region_40 : decode cX6_region 40 = .ok (.iconst 0, 1) := by decide +kernel
theorem dX6_region_41 : decode cX6_region 41 = .ok (.istore 5, 2) := by decide +kernel
theorem dX6_region_43 : decode cX6_region 43 = .ok (.iload 5, 2) := by decide +kernel
theorem dX6_region_45 : decode cX6_region 45 = .ok (.bipush 20, 2) := by decide +kernel
theorem dX6_region_47 : decode cX6_region 47 = .ok (.if_icmp .ge 34, 3) := by decide +kernel
theorem dX6_region_50 : decode cX6_region 50 = .ok (.iload 4, 2) := by decide +kernel
theorem dX6_region_52 : decode cX6_region 52 = .ok (.aload_n 0, 1) := by decide +kernel
theorem dX6_region_53 : decode cX6_region 53 = .ok (.getfield 71, 3) := by decide +kernel
theorem dX6_region_56 : decode cX6_region 56 = .ok (.bipush 20, 2) := by decide +kernel
theorem dX6_region_58 : decode cX6_region 58 = .ok (.iload_n 1, 1) := by decide +kernel
theorem dX6_region_59 : decode cX6_region 59 = .ok (.imul, 1) := by decide +kernel
theorem dX6_region_60 : decode cX6_region 60 = .ok (.iload 5, 2) := by decide +kernel
theorem dX6_region_62 : decode cX6_region 62 = .ok (.iadd, 1) := by decide +kernel
theorem dX6_region_63 : decode cX6_region 63 = .ok (.baload, 1) := by decide +kernel
theorem dX6_region_64 : decode cX6_region 64 = .ok (.ifCond .eq 7, 3) := by decide +kernel
theorem dX6_region_67 : decode cX6_region 67 = .ok (.iconst 1, 1) := by decide +kernel
theorem dX6_region_68 : decode cX6_region 68 = .ok (.goto 4, 3) := by decide +kernel
theorem dX6_region_71 : decode cX6_region 71 = .ok (.iconst 0, 1) := by decide +kernel
theorem dX6_region_72 : decode cX6_region 72 = .ok (.iadd, 1) := by decide +kernel
theorem dX6_region_73 : decode cX6_region 73 = .ok (.istore 4, 2) := by decide +kernel
theorem dX6_region_75 : decode cX6_region 75 = .ok (.iinc 5 1, 3) := by decide +kernel
theorem dX6_region_78 : decode cX6_region 78 = .ok (.goto (-35), 3) := by decide +kernel
theorem dX6_region_81 : decode cX6_region 81 = .ok (.iload 4, 2) := by decide +kernel
theorem dX6_region_83 : decode cX6_region 83 = .ok (.ireturn, 1) := by decide +kernel
theorem dX6_lock_0 : decode cX6_lock 0 = .ok (.aload_n 0, 1) := by decide +kernel
theorem dX6_lock_1 : decode cX6_lock 1 = .ok (.iconst 0, 1) := by decide +kernel
theorem dX6_lock_2 : decode cX6_lock 2 = .ok (.putfield 77, 3) := by decide +kernel
theorem dX6_lock_5 : decode cX6_lock 5 = .ok (.aload_n 0, 1) := by decide +kernel
theorem dX6_lock_6 : decode cX6_lock 6 = .ok (.iload_n 1, 1) := by decide +kernel
theorem dX6_lock_7 : decode cX6_lock 7 = .ok (.invokevirtual 101, 3) := by decide +kernel
theorem dX6_lock_10 : decode cX6_lock 10 = .ok (.ifCond .eq 34, 3) := by decide +kernel
theorem dX6_lock_13 : decode cX6_lock 13 = .ok (.iload_n 2, 1) := by decide +kernel
theorem dX6_lock_14 : decode cX6_lock 14 = .ok (.iconst (-1), 1) := by decide +kernel
theorem dX6_lock_15 : decode cX6_lock 15 = .ok (.if_icmp .eq 20, 3) := by decide +kernel
theorem dX6_lock_18 : decode cX6_lock 18 = .ok (.aload_n 0, 1) := by decide +kernel
theorem dX6_lock_19 : decode cX6_lock 19 = .ok (.iload_n 2, 1) := by decide +kernel
theorem dX6_lock_20 : decode cX6_lock 20 = .ok (.invokevirtual 111, 3) := by decide +kernel
theorem dX6_lock_23 : decode cX6_lock 23 = .ok (.ifCond .eq 21, 3) := by decide +kernel
theorem dX6_lock_26 : decode cX6_lock 26 = .ok (.aload_n 0, 1) := by decide +kernel
theorem dX6_lock_27 : decode cX6_lock 27 = .ok (.getfield 32, 3) := by decide +kernel
theorem dX6_lock_30 : decode cX6_lock 30 = .ok (.iload_n 2, 1) := by decide +kernel
theorem dX6_lock_31 : decode cX6_lock 31 = .ok (.iaload, 1) := by decide +kernel
theorem dX6_lock_32 : decode cX6_lock 32 = .ok (.ifCond .ne 12, 3) := by decide +kernel
theorem dX6_lock_35 : decode cX6_lock 35 = .ok (.iload_n 3, 1) := by decide +kernel
theorem dX6_lock_36 : decode cX6_lock 36 = .ok (.ifCond .eq 10, 3) := by decide +kernel
theorem dX6_lock_39 : decode cX6_lock 39 = .ok (.iload_n 2, 1) := by decide +kernel
theorem dX6_lock_40 : decode cX6_lock 40 = .ok (.iconst (-1), 1) := by decide +kernel
theorem dX6_lock_41 : decode cX6_lock 41 = .ok (.if_icmp .ne 5, 3) := by decide +kernel
theorem dX6_lock_44 : decode cX6_lock 44 = .ok (.iconst (-1), 1) := by decide +kernel
theorem dX6_lock_45 : decode cX6_lock 45 = .ok (.ireturn, 1) := by decide +kernel
theorem dX6_lock_46 : decode cX6_lock 46 = .ok (.aload_n 0, 1) := by decide +kernel
theorem dX6_lock_47 : decode cX6_lock 47 = .ok (.getfield 22, 3) := by decide +kernel
theorem dX6_lock_50 : decode cX6_lock 50 = .ok (.iload_n 1, 1) := by decide +kernel
theorem dX6_lock_51 : decode cX6_lock 51 = .ok (.iload_n 2, 1) := by decide +kernel
theorem dX6_lock_52 : decode cX6_lock 52 = .ok (.iastore, 1) := by decide +kernel
theorem dX6_lock_53 : decode cX6_lock 53 = .ok (.aload_n 0, 1) := by decide +kernel
theorem dX6_lock_54 : decode cX6_lock 54 = .ok (.getfield 29, 3) := by decide +kernel
theorem dX6_lock_57 : decode cX6_lock 57 = .ok (.iload_n 1, 1) := by decide +kernel
theorem dX6_lock_58 : decode cX6_lock 58 = .ok (.iload_n 3, 1) := by decide +kernel
theorem dX6_lock_59 : decode cX6_lock 59 = .ok (.bastore, 1) := by decide +kernel
theorem dX6_lock_60 : decode cX6_lock 60 = .ok (.iconst 1, 1) := by decide +kernel
theorem dX6_lock_61 : decode cX6_lock 61 = .ok (.ireturn, 1) := by decide +kernel
theorem dX6_thing_0 : decode cX6_thing 0 = .ok (.aload_n 0, 1) := by decide +kernel
theorem dX6_thing_1 : decode cX6_thing 1 = .ok (.iconst 0, 1) := by decide +kernel
theorem dX6_thing_2 : decode cX6_thing 2 = .ok (.putfield 77, 3) := by decide +kernel
theorem dX6_thing_5 : decode cX6_thing 5 = .ok (.aload_n 0, 1) := by decide +kernel
theorem dX6_thing_6 : decode cX6_thing 6 = .ok (.iload_n 1, 1) := by decide +kernel
theorem dX6_thing_7 : decode cX6_thing 7 = .ok (.invokevirtual 97, 3) := by decide +kernel
theorem dX6_thing_10 : decode cX6_thing 10 = .ok (.ifCond .eq 22, 3) := by decide +kernel
theorem dX6_thing_13 : decode cX6_thing 13 = .ok (.iload_n 2, 1) := by decide +kernel
theorem dX6_thing_14 : decode cX6_thing 14 = .ok (.iconst 0, 1) := by decide +kernel
theorem dX6_thing_15 : decode cX6_thing 15 = .ok (.iconst 3, 1) := by decide +kernel
theorem dX6_thing_16 : decode cX6_thing 16 = .ok (.invokestatic 84, 3) := by decide +kernel
theorem dX6_thing_19 : decode cX6_thing 19 = .ok (.ifCond .eq 13, 3) := by decide +kernel
theorem dX6_thing_22 : decode cX6_thing 22 = .ok (.iload_n 3, 1) := by decide +kernel
theorem dX6_thing_23 : decode cX6_thing 23 = .ok (.iconst 1, 1) := by decide +kernel
theorem dX6_thing_24 : decode cX6_thing 24 = .ok (.bipush 9, 2) := by decide +kernel
theorem dX6_thing_26 : decode cX6_thing 26 = .ok (.invokestatic 84, 3) := by decide +kernel
theorem dX6_thing_29 : decode cX6_thing 29 = .ok (.ifCond .ne 5, 3) := by decide +kernel
theorem dX6_thing_32 : decode cX6_thing 32 = .ok (.iconst (-1), 1) := by decide +kernel
theorem dX6_thing_33 : decode cX6_thing 33 = .ok (.ireturn, 1) := by decide +kernel
theorem dX6_thing_34 : decode cX6_thing 34 = .ok (.aload_n 0, 1) := by decide +kernel
theorem dX6_thing_35 : decode cX6_thing 35 = .ok (.getfield 91, 3) := by decide +kernel
theorem dX6_thing_38 : decode cX6_thing 38 = .ok (.bipush 30, 2) := by decide +kernel
theorem dX6_thing_40 : decode cX6_thing 40 = .ok (.if_icmp .ne 6, 3) := by decide +kernel
theorem dX6_thing_43 : decode cX6_thing 43 = .ok (.bipush (-2), 2) := by decide +kernel
theorem dX6_thing_45 : decode cX6_thing 45 = .ok (.ireturn, 1) := by decide +kernel
theorem dX6_thing_46 : decode cX6_thing 46 = .ok (.aload_n 0, 1) := by decide +kernel
theorem dX6_thing_47 : decode cX6_thing 47 = .ok (.getfield 32, 3) := by decide +kernel
theorem dX6_thing_50 : decode cX6_thing 50 = .ok (.aload_n 0, 1) := by decide +kernel
theorem dX6_thing_51 : decode cX6_thing 51 = .ok (.getfield 91, 3) := by decide +kernel
theorem dX6_thing_54 : decode cX6_thing 54 = .ok (.iload_n 2, 1) := by decide +kernel
theorem dX6_thing_55 : decode cX6_thing 55 = .ok (.iastore, 1) := by decide +kernel
theorem dX6_thing_56 : decode cX6_thing 56 = .ok (.aload_n 0, 1) := by decide +kernel
theorem dX6_thing_57 : decode cX6_thing 57 = .ok (.getfield 35, 3) := by decide +kernel
theorem dX6_thing_60 : decode cX6_thing 60 = .ok (.aload_n 0, 1) := by decide +kernel
theorem dX6_thing_61 : decode cX6_thing 61 = .ok (.getfield 91, 3) := by decide +kernel
theorem dX6_thing_64 : decode cX6_thing 64 = .ok (.iload_n 3, 1) := by decide +kernel
theorem dX6_thing_65 : decode cX6_thing 65 = .ok (.iastore, 1) := by decide +kernel
theorem dX6_thing_66 : decode cX6_thing 66 = .ok (.aload_n 0, 1) := by decide +kernel
theorem dX6_thing_67 : decode cX6_thing 67 = .ok (.getfield 38, 3) := by decide +kernel
theorem dX6_thing_70 : decode cX6_thing 70 = .ok (.aload_n 0, 1) := by decide +kernel
theorem dX6_thing_71 : decode cX6_thing 71 = .ok (.getfield 91, 3) := by decide +kernel
theorem dX6_thing_74 : decode cX6_thing 74 = .ok (.iload_n 1, 1) := by decide +kernel
theorem dX6_thing_75 : decode cX6_thing 75 = .ok (.iastore, 1) := by decide +kernel
theorem dX6_thing_76 : decode cX6_thing 76 = .ok (.aload_n 0, 1) := by decide +kernel
theorem dX6_thing_77 : decode cX6_thing 77 = .ok (.getfield 41, 3) := by decide +kernel
theorem dX6_thing_80 : decode cX6_thing 80 = .ok (.aload_n 0, 1) := by decide +kernel
theorem dX6_thing_81 : decode cX6_thing 81 = .ok (.getfield 91, 3) := by decide +kernel
theorem dX6_thing_84 : decode cX6_thing 84 = .ok (.iconst (-1), 1) := by decide +kernel
theorem dX6_thing_85 : decode cX6_thing 85 = .ok (.iastore, 1) := by decide +kernel
theorem dX6_thing_86 : decode cX6_thing 86 = .ok (.aload_n 0, 1) := by decide +kernel
theorem dX6_thing_87 : decode cX6_thing 87 = .ok (.dup, 1) := by decide +kernel
theorem dX6_thing_88 : decode cX6_thing 88 = .ok (.getfield 91, 3) := by decide +kernel
theorem dX6_thing_91 : decode cX6_thing 91 = .ok (.iconst 1, 1) := by decide +kernel
theorem dX6_thing_92 : decode cX6_thing 92 = .ok (.iadd, 1) := by decide +kernel
theorem dX6_thing_93 : decode cX6_thing 93 = .ok (.putfield 91, 3) := by decide +kernel
theorem dX6_thing_96 : decode cX6_thing 96 = .ok (.aload_n 0, 1) := by decide +kernel
theorem dX6_thing_97 : decode cX6_thing 97 = .ok (.getfield 91, 3) := by decide +kernel
theorem dX6_thing_100 : decode cX6_thing 100 = .ok (.iconst 1, 1) := by decide +kernel
theorem dX6_thing_101 : decode cX6_thing 101 = .ok (.isub, 1) := by decide +kernel
theorem dX6_thing_102 : decode cX6_thing 102 = .ok (.ireturn, 1) := by decide +kernel
theorem dX6_floats_0 : decode cX6_floats 0 = .ok (.aload_n 0, 1) := by decide +kernel
theorem dX6_floats_1 : decode cX6_floats 1 = .ok (.iconst 0, 1) := by decide +kernel
theorem dX6_floats_2 : decode cX6_floats 2 = .ok (.putfield 77, 3) := by decide +kernel
theorem dX6_floats_5 : decode cX6_floats 5 = .ok (.aload_n 0, 1) := by decide +kernel
theorem dX6_floats_6 : decode cX6_floats 6 = .ok (.iload_n 1, 1) := by decide +kernel
theorem dX6_floats_7 : decode cX6_floats 7 = .ok (.invokevirtual 111, 3) := by decide +kernel
theorem dX6_floats_10 : decode cX6_floats 10 = .ok (.ifCond .eq 23, 3) := by decide +kernel
theorem dX6_floats_13 : decode cX6_floats 13 = .ok (.aload_n 0, 1) := by decide +kernel
theorem dX6_floats_14 : decode cX6_floats 14 = .ok (.getfield 32, 3) := by decide +kernel
theorem dX6_floats_17 : decode cX6_floats 17 = .ok (.iload_n 1, 1) := by decide +kernel
theorem dX6_floats_18 : decode cX6_floats 18 = .ok (.iaload, 1) := by decide +kernel
theorem dX6_floats_19 : decode cX6_floats 19 = .ok (.iconst 1, 1) := by decide +kernel
theorem dX6_floats_20 : decode cX6_floats 20 = .ok (.if_icmp .ne 13, 3) := by decide +kernel
theorem dX6_floats_23 : decode cX6_floats 23 = .ok (.iload_n 2, 1) := by decide +kernel
theorem dX6_floats_24 : decode cX6_floats 24 = .ok (.iconst 0, 1) := by decide +kernel
theorem dX6_floats_25 : decode cX6_floats 25 = .ok (.bipush 6, 2) := by decide +kernel
theorem dX6_floats_27 : decode cX6_floats 27 = .ok (.invokestatic 84, 3) := by decide +kernel
theorem dX6_floats_30 : decode cX6_floats 30 = .ok (.ifCond .ne 5, 3) := by decide +kernel
theorem dX6_floats_33 : decode cX6_floats 33 = .ok (.iconst (-1), 1) := by decide +kernel
theorem dX6_floats_34 : decode cX6_floats 34 = .ok (.ireturn, 1) := by decide +kernel
theorem dX6_floats_35 : decode cX6_floats 35 = .ok (.aload_n 0, 1) := by decide +kernel
theorem dX6_floats_36 : decode cX6_floats 36 = .ok (.getfield 41, 3) := by decide +kernel
theorem dX6_floats_39 : decode cX6_floats 39 = .ok (.iload_n 1, 1) := by decide +kernel
theorem dX6_floats_40 : decode cX6_floats 40 = .ok (.iload_n 2, 1) := by decide +kernel
theorem dX6_floats_41 : decode cX6_floats 41 = .ok (.iastore, 1) := by decide +kernel
theorem dX6_floats_42 : decode cX6_floats 42 = .ok (.iconst 1, 1) := by decide +kernel
theorem dX6_floats_43 : decode cX6_floats 43 = .ok (.ireturn, 1) := by decide +kernel
theorem dX6_being_0 : decode cX6_being 0 = .ok (.aload_n 0, 1) := by decide +kernel
theorem dX6_being_1 : decode cX6_being 1 = .ok (.iconst 0, 1) := by decide +kernel
theorem dX6_being_2 : decode cX6_being 2 = .ok (.putfield 77, 3) := by decide +kernel
theorem dX6_being_5 : decode cX6_being 5 = .ok (.aload_n 0, 1) := by decide +kernel
theorem dX6_being_6 : decode cX6_being 6 = .ok (.iload_n 1, 1) := by decide +kernel
theorem dX6_being_7 : decode cX6_being 7 = .ok (.invokevirtual 97, 3) := by decide +kernel
theorem dX6_being_10 : decode cX6_being 10 = .ok (.ifCond .ne 5, 3) := by decide +kernel
theorem dX6_being_13 : decode cX6_being 13 = .ok (.iconst (-1), 1) := by decide +kernel
theorem dX6_being_14 : decode cX6_being 14 = .ok (.ireturn, 1) := by decide +kernel
theorem dX6_being_15 : decode cX6_being 15 = .ok (.aload_n 0, 1) := by decide +kernel
theorem dX6_being_16 : decode cX6_being 16 = .ok (.getfield 94, 3) := by decide +kernel
theorem dX6_being_19 : decode cX6_being 19 = .ok (.bipush 6, 2) := by decide +kernel
theorem dX6_being_21 : decode cX6_being 21 = .ok (.if_icmp .ne 6, 3) := by decide +kernel
theorem dX6_being_24 : decode cX6_being 24 = .ok (.bipush (-2), 2) := by decide +kernel
theorem dX6_being_26 : decode cX6_being 26 = .ok (.ireturn, 1) := by decide +kernel
theorem dX6_being_27 : decode cX6_being 27 = .ok (.aload_n 0, 1) := by decide +kernel
theorem dX6_being_28 : decode cX6_being 28 = .ok (.getfield 47, 3) := by decide +kernel
theorem dX6_being_31 : decode cX6_being 31 = .ok (.aload_n 0, 1) := by decide +kernel
theorem dX6_being_32 : decode cX6_being 32 = .ok (.getfield 94, 3) := by decide +kernel
theorem dX6_being_35 : decode cX6_being 35 = .ok (.iload_n 1, 1) := by decide +kernel
end
section
theorem dX6_being_36 : decode cX6_being 36 = .ok (.iastore, 1) := by decide +kernel
theorem dX6_being_37 : decode cX6_being 37 = .ok (.aload_n 0, 1) := by decide +kernel
theorem dX6_being_38 : decode cX6_being 38 = .ok (.getfield 50, 3) := by decide +kernel
theorem dX6_being_41 : decode cX6_being 41 = .ok (.aload_n 0, 1) := by decide +kernel
theorem dX6_being_42 : decode cX6_being 42 = .ok (.getfield 94, 3) := by decide +kernel
theorem dX6_being_45 : decode cX6_being 45 = .ok (.iconst (-1), 1) := by decide +kernel
theorem dX6_being_46 : decode cX6_being 46 = .ok (.iastore, 1) := by decide +kernel
theorem dX6_being_47 : decode cX6_being 47 = .ok (.aload_n 0, 1) := by decide +kernel
theorem dX6_being_48 : decode cX6_being 48 = .ok (.getfield 53, 3) := by decide +kernel
theorem dX6_being_51 : decode cX6_being 51 = .ok (.aload_n 0, 1) := by decide +kernel
theorem dX6_being_52 : decode cX6_being 52 = .ok (.getfield 94, 3) := by decide +kernel
theorem dX6_being_55 : decode cX6_being 55 = .ok (.iconst (-1), 1) := by decide +kernel
theorem dX6_being_56 : decode cX6_being 56 = .ok (.iastore, 1) := by decide +kernel
theorem dX6_being_57 : decode cX6_being 57 = .ok (.aload_n 0, 1) := by decide +kernel
theorem dX6_being_58 : decode cX6_being 58 = .ok (.dup, 1) := by decide +kernel
theorem dX6_being_59 : decode cX6_being 59 = .ok (.getfield 94, 3) := by decide +kernel
theorem dX6_being_62 : decode cX6_being 62 = .ok (.iconst 1, 1) := by decide +kernel
theorem dX6_being_63 : decode cX6_being 63 = .ok (.iadd, 1) := by decide +kernel
theorem dX6_being_64 : decode cX6_being 64 = .ok (.putfield 94, 3) := by decide +kernel
theorem dX6_being_67 : decode cX6_being 67 = .ok (.aload_n 0, 1) := by decide +kernel
theorem dX6_being_68 : decode cX6_being 68 = .ok (.getfield 94, 3) := by decide +kernel
theorem dX6_being_71 : decode cX6_being 71 = .ok (.iconst 1, 1) := by decide +kernel
theorem dX6_being_72 : decode cX6_being 72 = .ok (.isub, 1) := by decide +kernel
theorem dX6_being_73 : decode cX6_being 73 = .ok (.ireturn, 1) := by decide +kernel
theorem dX6_isShutIn_0 : decode cX6_isShutIn 0 = .ok (.aload_n 0, 1) := by decide +kernel
theorem dX6_isShutIn_1 : decode cX6_isShutIn 1 = .ok (.getfield 50, 3) := by decide +kernel
theorem dX6_isShutIn_4 : decode cX6_isShutIn 4 = .ok (.iload_n 1, 1) := by decide +kernel
theorem dX6_isShutIn_5 : decode cX6_isShutIn 5 = .ok (.iaload, 1) := by decide +kernel
theorem dX6_isShutIn_6 : decode cX6_isShutIn 6 = .ok (.ifCond .lt 21, 3) := by decide +kernel
theorem dX6_isShutIn_9 : decode cX6_isShutIn 9 = .ok (.aload_n 0, 1) := by decide +kernel
theorem dX6_isShutIn_10 : decode cX6_isShutIn 10 = .ok (.getfield 44, 3) := by decide +kernel
theorem dX6_isShutIn_13 : decode cX6_isShutIn 13 = .ok (.aload_n 0, 1) := by decide +kernel
theorem dX6_isShutIn_14 : decode cX6_isShutIn 14 = .ok (.getfield 50, 3) := by decide +kernel
theorem dX6_isShutIn_17 : decode cX6_isShutIn 17 = .ok (.iload_n 1, 1) := by decide +kernel
theorem dX6_isShutIn_18 : decode cX6_isShutIn 18 = .ok (.iaload, 1) := by decide +kernel
theorem dX6_isShutIn_19 : decode cX6_isShutIn 19 = .ok (.baload, 1) := by decide +kernel
theorem dX6_isShutIn_20 : decode cX6_isShutIn 20 = .ok (.ifCond .eq 7, 3) := by decide +kernel
theorem dX6_isShutIn_23 : decode cX6_isShutIn 23 = .ok (.iconst 1, 1) := by decide +kernel
theorem dX6_isShutIn_24 : decode cX6_isShutIn 24 = .ok (.goto 4, 3) := by decide +kernel
theorem dX6_isShutIn_27 : decode cX6_isShutIn 27 = .ok (.iconst 0, 1) := by decide +kernel
theorem dX6_isShutIn_28 : decode cX6_isShutIn 28 = .ok (.ireturn, 1) := by decide +kernel
theorem dX6_isThingIn_0 : decode cX6_isThingIn 0 = .ok (.aload_n 0, 1) := by decide +kernel
theorem dX6_isThingIn_1 : decode cX6_isThingIn 1 = .ok (.getfield 41, 3) := by decide +kernel
theorem dX6_isThingIn_4 : decode cX6_isThingIn 4 = .ok (.iload_n 1, 1) := by decide +kernel
theorem dX6_isThingIn_5 : decode cX6_isThingIn 5 = .ok (.iaload, 1) := by decide +kernel
theorem dX6_isThingIn_6 : decode cX6_isThingIn 6 = .ok (.ifCond .lt 22, 3) := by decide +kernel
theorem dX6_isThingIn_9 : decode cX6_isThingIn 9 = .ok (.aload_n 0, 1) := by decide +kernel
theorem dX6_isThingIn_10 : decode cX6_isThingIn 10 = .ok (.getfield 71, 3) := by decide +kernel
theorem dX6_isThingIn_13 : decode cX6_isThingIn 13 = .ok (.bipush 20, 2) := by decide +kernel
theorem dX6_isThingIn_15 : decode cX6_isThingIn 15 = .ok (.aload_n 0, 1) := by decide +kernel
theorem dX6_isThingIn_16 : decode cX6_isThingIn 16 = .ok (.getfield 41, 3) := by decide +kernel
theorem dX6_isThingIn_19 : decode cX6_isThingIn 19 = .ok (.iload_n 1, 1) := by decide +kernel
theorem dX6_isThingIn_20 : decode cX6_isThingIn 20 = .ok (.iaload, 1) := by decide +kernel
theorem dX6_isThingIn_21 : decode cX6_isThingIn 21 = .ok (.imul, 1) := by decide +kernel
theorem dX6_isThingIn_22 : decode cX6_isThingIn 22 = .ok (.iload_n 2, 1) := by decide +kernel
theorem dX6_isThingIn_23 : decode cX6_isThingIn 23 = .ok (.iadd, 1) := by decide +kernel
theorem dX6_isThingIn_24 : decode cX6_isThingIn 24 = .ok (.baload, 1) := by decide +kernel
theorem dX6_isThingIn_25 : decode cX6_isThingIn 25 = .ok (.goto 18, 3) := by decide +kernel
theorem dX6_isThingIn_28 : decode cX6_isThingIn 28 = .ok (.aload_n 0, 1) := by decide +kernel
theorem dX6_isThingIn_29 : decode cX6_isThingIn 29 = .ok (.getfield 38, 3) := by decide +kernel
theorem dX6_isThingIn_32 : decode cX6_isThingIn 32 = .ok (.iload_n 1, 1) := by decide +kernel
theorem dX6_isThingIn_33 : decode cX6_isThingIn 33 = .ok (.iaload, 1) := by decide +kernel
theorem dX6_isThingIn_34 : decode cX6_isThingIn 34 = .ok (.iload_n 2, 1) := by decide +kernel
theorem dX6_isThingIn_35 : decode cX6_isThingIn 35 = .ok (.if_icmp .ne 7, 3) := by decide +kernel
theorem dX6_isThingIn_38 : decode cX6_isThingIn 38 = .ok (.iconst 1, 1) := by decide +kernel
theorem dX6_isThingIn_39 : decode cX6_isThingIn 39 = .ok (.goto 4, 3) := by decide +kernel
theorem dX6_isThingIn_42 : decode cX6_isThingIn 42 = .ok (.iconst 0, 1) := by decide +kernel
theorem dX6_isThingIn_43 : decode cX6_isThingIn 43 = .ok (.ireturn, 1) := by decide +kernel
theorem dX6_holds_0 : decode cX6_holds 0 = .ok (.aload_n 0, 1) := by decide +kernel
theorem dX6_holds_1 : decode cX6_holds 1 = .ok (.getfield 41, 3) := by decide +kernel
theorem dX6_holds_4 : decode cX6_holds 4 = .ok (.iload_n 2, 1) := by decide +kernel
theorem dX6_holds_5 : decode cX6_holds 5 = .ok (.iaload, 1) := by decide +kernel
theorem dX6_holds_6 : decode cX6_holds 6 = .ok (.ifCond .ge 20, 3) := by decide +kernel
theorem dX6_holds_9 : decode cX6_holds 9 = .ok (.aload_n 0, 1) := by decide +kernel
theorem dX6_holds_10 : decode cX6_holds 10 = .ok (.getfield 38, 3) := by decide +kernel
theorem dX6_holds_13 : decode cX6_holds 13 = .ok (.iload_n 2, 1) := by decide +kernel
theorem dX6_holds_14 : decode cX6_holds 14 = .ok (.iaload, 1) := by decide +kernel
theorem dX6_holds_15 : decode cX6_holds 15 = .ok (.bipush 100, 2) := by decide +kernel
theorem dX6_holds_17 : decode cX6_holds 17 = .ok (.iload_n 1, 1) := by decide +kernel
theorem dX6_holds_18 : decode cX6_holds 18 = .ok (.iadd, 1) := by decide +kernel
theorem dX6_holds_19 : decode cX6_holds 19 = .ok (.if_icmp .ne 7, 3) := by decide +kernel
theorem dX6_holds_22 : decode cX6_holds 22 = .ok (.iconst 1, 1) := by decide +kernel
theorem dX6_holds_23 : decode cX6_holds 23 = .ok (.goto 4, 3) := by decide +kernel
theorem dX6_holds_26 : decode cX6_holds 26 = .ok (.iconst 0, 1) := by decide +kernel
theorem dX6_holds_27 : decode cX6_holds 27 = .ok (.ireturn, 1) := by decide +kernel
theorem dX6_hasThing_0 : decode cX6_hasThing 0 = .ok (.aload_n 0, 1) := by decide +kernel
theorem dX6_hasThing_1 : decode cX6_hasThing 1 = .ok (.iload_n 1, 1) := by decide +kernel
theorem dX6_hasThing_2 : decode cX6_hasThing 2 = .ok (.iload_n 2, 1) := by decide +kernel
theorem dX6_hasThing_3 : decode cX6_hasThing 3 = .ok (.invokevirtual 114, 3) := by decide +kernel
theorem dX6_hasThing_6 : decode cX6_hasThing 6 = .ok (.ifCond .ne 38, 3) := by decide +kernel
theorem dX6_hasThing_9 : decode cX6_hasThing 9 = .ok (.aload_n 0, 1) := by decide +kernel
theorem dX6_hasThing_10 : decode cX6_hasThing 10 = .ok (.iload_n 1, 1) := by decide +kernel
theorem dX6_hasThing_11 : decode cX6_hasThing 11 = .ok (.invokevirtual 117, 3) := by decide +kernel
theorem dX6_hasThing_14 : decode cX6_hasThing 14 = .ok (.ifCond .eq 16, 3) := by decide +kernel
theorem dX6_hasThing_17 : decode cX6_hasThing 17 = .ok (.aload_n 0, 1) := by decide +kernel
theorem dX6_hasThing_18 : decode cX6_hasThing 18 = .ok (.getfield 50, 3) := by decide +kernel
theorem dX6_hasThing_21 : decode cX6_hasThing 21 = .ok (.iload_n 1, 1) := by decide +kernel
theorem dX6_hasThing_22 : decode cX6_hasThing 22 = .ok (.iaload, 1) := by decide +kernel
theorem dX6_hasThing_23 : decode cX6_hasThing 23 = .ok (.iload_n 2, 1) := by decide +kernel
theorem dX6_hasThing_24 : decode cX6_hasThing 24 = .ok (.if_icmp .ne 24, 3) := by decide +kernel
theorem dX6_hasThing_27 : decode cX6_hasThing 27 = .ok (.goto 17, 3) := by decide +kernel
theorem dX6_hasThing_30 : decode cX6_hasThing 30 = .ok (.aload_n 0, 1) := by decide +kernel
theorem dX6_hasThing_31 : decode cX6_hasThing 31 = .ok (.iload_n 2, 1) := by decide +kernel
theorem dX6_hasThing_32 : decode cX6_hasThing 32 = .ok (.aload_n 0, 1) := by decide +kernel
theorem dX6_hasThing_33 : decode cX6_hasThing 33 = .ok (.getfield 47, 3) := by decide +kernel
theorem dX6_hasThing_36 : decode cX6_hasThing 36 = .ok (.iload_n 1, 1) := by decide +kernel
theorem dX6_hasThing_37 : decode cX6_hasThing 37 = .ok (.iaload, 1) := by decide +kernel
theorem dX6_hasThing_38 : decode cX6_hasThing 38 = .ok (.invokevirtual 120, 3) := by decide +kernel
theorem dX6_hasThing_41 : decode cX6_hasThing 41 = .ok (.ifCond .eq 7, 3) := by decide +kernel
theorem dX6_hasThing_44 : decode cX6_hasThing 44 = .ok (.iconst 1, 1) := by decide +kernel
theorem dX6_hasThing_45 : decode cX6_hasThing 45 = .ok (.goto 4, 3) := by decide +kernel
theorem dX6_hasThing_48 : decode cX6_hasThing 48 = .ok (.iconst 0, 1) := by decide +kernel
theorem dX6_hasThing_49 : decode cX6_hasThing 49 = .ok (.ireturn, 1) := by decide +kernel
theorem dX6_hasDoor_0 : decode cX6_hasDoor 0 = .ok (.aload_n 0, 1) := by decide +kernel
theorem dX6_hasDoor_1 : decode cX6_hasDoor 1 = .ok (.iload_n 1, 1) := by decide +kernel
theorem dX6_hasDoor_2 : decode cX6_hasDoor 2 = .ok (.invokevirtual 117, 3) := by decide +kernel
theorem dX6_hasDoor_5 : decode cX6_hasDoor 5 = .ok (.ifCond .ne 21, 3) := by decide +kernel
theorem dX6_hasDoor_8 : decode cX6_hasDoor 8 = .ok (.aload_n 0, 1) := by decide +kernel
theorem dX6_hasDoor_9 : decode cX6_hasDoor 9 = .ok (.iload_n 2, 1) := by decide +kernel
theorem dX6_hasDoor_10 : decode cX6_hasDoor 10 = .ok (.aload_n 0, 1) := by decide +kernel
theorem dX6_hasDoor_11 : decode cX6_hasDoor 11 = .ok (.getfield 47, 3) := by decide +kernel
theorem dX6_hasDoor_14 : decode cX6_hasDoor 14 = .ok (.iload_n 1, 1) := by decide +kernel
theorem dX6_hasDoor_15 : decode cX6_hasDoor 15 = .ok (.iaload, 1) := by decide +kernel
theorem dX6_hasDoor_16 : decode cX6_hasDoor 16 = .ok (.invokevirtual 104, 3) := by decide +kernel
theorem dX6_hasDoor_19 : decode cX6_hasDoor 19 = .ok (.ifCond .eq 7, 3) := by decide +kernel
theorem dX6_hasDoor_22 : decode cX6_hasDoor 22 = .ok (.iconst 1, 1) := by decide +kernel
theorem dX6_hasDoor_23 : decode cX6_hasDoor 23 = .ok (.goto 4, 3) := by decide +kernel
theorem dX6_hasDoor_26 : decode cX6_hasDoor 26 = .ok (.iconst 0, 1) := by decide +kernel
theorem dX6_hasDoor_27 : decode cX6_hasDoor 27 = .ok (.ireturn, 1) := by decide +kernel
theorem dX6_held_0 : decode cX6_held 0 = .ok (.iconst 0, 1) := by decide +kernel
theorem dX6_held_1 : decode cX6_held 1 = .ok (.istore_n 2, 1) := by decide +kernel
theorem dX6_held_2 : decode cX6_held 2 = .ok (.iconst 0, 1) := by decide +kernel
theorem dX6_held_3 : decode cX6_held 3 = .ok (.istore_n 3, 1) := by decide +kernel
theorem dX6_held_4 : decode cX6_held 4 = .ok (.iload_n 3, 1) := by decide +kernel
theorem dX6_held_5 : decode cX6_held 5 = .ok (.aload_n 0, 1) := by decide +kernel
theorem dX6_held_6 : decode cX6_held 6 = .ok (.getfield 91, 3) := by decide +kernel
theorem dX6_held_9 : decode cX6_held 9 = .ok (.if_icmp .ge 26, 3) := by decide +kernel
theorem dX6_held_12 : decode cX6_held 12 = .ok (.iload_n 2, 1) := by decide +kernel
theorem dX6_held_13 : decode cX6_held 13 = .ok (.aload_n 0, 1) := by decide +kernel
theorem dX6_held_14 : decode cX6_held 14 = .ok (.iload_n 1, 1) := by decide +kernel
theorem dX6_held_15 : decode cX6_held 15 = .ok (.iload_n 3, 1) := by decide +kernel
theorem dX6_held_16 : decode cX6_held 16 = .ok (.invokevirtual 114, 3) := by decide +kernel
theorem dX6_held_19 : decode cX6_held 19 = .ok (.ifCond .eq 7, 3) := by decide +kernel
theorem dX6_held_22 : decode cX6_held 22 = .ok (.iconst 1, 1) := by decide +kernel
theorem dX6_held_23 : decode cX6_held 23 = .ok (.goto 4, 3) := by decide +kernel
theorem dX6_held_26 : decode cX6_held 26 = .ok (.iconst 0, 1) := by decide +kernel
theorem dX6_held_27 : decode cX6_held 27 = .ok (.iadd, 1) := by decide +kernel
theorem dX6_held_28 : decode cX6_held 28 = .ok (.istore_n 2, 1) := by decide +kernel
theorem dX6_held_29 : decode cX6_held 29 = .ok (.iinc 3 1, 3) := by decide +kernel
theorem dX6_held_32 : decode cX6_held 32 = .ok (.goto (-28), 3) := by decide +kernel
theorem dX6_held_35 : decode cX6_held 35 = .ok (.iload_n 2, 1) := by decide +kernel
theorem dX6_held_36 : decode cX6_held 36 = .ok (.ireturn, 1) := by decide +kernel
theorem dX6_here_0 : decode cX6_here 0 = .ok (.aload_n 0, 1) := by decide +kernel
theorem dX6_here_1 : decode cX6_here 1 = .ok (.iconst 0, 1) := by decide +kernel
theorem dX6_here_2 : decode cX6_here 2 = .ok (.putfield 77, 3) := by decide +kernel
theorem dX6_here_5 : decode cX6_here 5 = .ok (.aload_n 0, 1) := by decide +kernel
theorem dX6_here_6 : decode cX6_here 6 = .ok (.iload_n 1, 1) := by decide +kernel
theorem dX6_here_7 : decode cX6_here 7 = .ok (.invokevirtual 123, 3) := by decide +kernel
theorem dX6_here_10 : decode cX6_here 10 = .ok (.ifCond .eq 12, 3) := by decide +kernel
theorem dX6_here_13 : decode cX6_here 13 = .ok (.iload_n 2, 1) := by decide +kernel
theorem dX6_here_14 : decode cX6_here 14 = .ok (.iconst 0, 1) := by decide +kernel
theorem dX6_here_15 : decode cX6_here 15 = .ok (.iconst 2, 1) := by decide +kernel
theorem dX6_here_16 : decode cX6_here 16 = .ok (.invokestatic 84, 3) := by decide +kernel
theorem dX6_here_19 : decode cX6_here 19 = .ok (.ifCond .ne 5, 3) := by decide +kernel
theorem dX6_here_22 : decode cX6_here 22 = .ok (.iconst 0, 1) := by decide +kernel
theorem dX6_here_23 : decode cX6_here 23 = .ok (.ireturn, 1) := by decide +kernel
theorem dX6_here_24 : decode cX6_here 24 = .ok (.iload_n 2, 1) := by decide +kernel
theorem dX6_here_25 : decode cX6_here 25 = .ok (.ifCond .ne 26, 3) := by decide +kernel
theorem dX6_here_28 : decode cX6_here 28 = .ok (.aload_n 0, 1) := by decide +kernel
theorem dX6_here_29 : decode cX6_here 29 = .ok (.iload_n 3, 1) := by decide +kernel
theorem dX6_here_30 : decode cX6_here 30 = .ok (.invokevirtual 101, 3) := by decide +kernel
theorem dX6_here_33 : decode cX6_here 33 = .ok (.ifCond .eq 16, 3) := by decide +kernel
theorem dX6_here_36 : decode cX6_here 36 = .ok (.aload_n 0, 1) := by decide +kernel
theorem dX6_here_37 : decode cX6_here 37 = .ok (.iload_n 1, 1) := by decide +kernel
theorem dX6_here_38 : decode cX6_here 38 = .ok (.iload_n 3, 1) := by decide +kernel
theorem dX6_here_39 : decode cX6_here 39 = .ok (.invokevirtual 126, 3) := by decide +kernel
theorem dX6_here_42 : decode cX6_here 42 = .ok (.ifCond .eq 7, 3) := by decide +kernel
theorem dX6_here_45 : decode cX6_here 45 = .ok (.iconst 1, 1) := by decide +kernel
theorem dX6_here_46 : decode cX6_here 46 = .ok (.goto 4, 3) := by decide +kernel
theorem dX6_here_49 : decode cX6_here 49 = .ok (.iconst 0, 1) := by decide +kernel
theorem dX6_here_50 : decode cX6_here 50 = .ok (.ireturn, 1) := by decide +kernel
theorem dX6_here_51 : decode cX6_here 51 = .ok (.iload_n 2, 1) := by decide +kernel
theorem dX6_here_52 : decode cX6_here 52 = .ok (.iconst 1, 1) := by decide +kernel
theorem dX6_here_53 : decode cX6_here 53 = .ok (.if_icmp .ne 26, 3) := by decide +kernel
theorem dX6_here_56 : decode cX6_here 56 = .ok (.aload_n 0, 1) := by decide +kernel
theorem dX6_here_57 : decode cX6_here 57 = .ok (.iload_n 3, 1) := by decide +kernel
theorem dX6_here_58 : decode cX6_here 58 = .ok (.invokevirtual 111, 3) := by decide +kernel
theorem dX6_here_61 : decode cX6_here 61 = .ok (.ifCond .eq 16, 3) := by decide +kernel
theorem dX6_here_64 : decode cX6_here 64 = .ok (.aload_n 0, 1) := by decide +kernel
theorem dX6_here_65 : decode cX6_here 65 = .ok (.iload_n 1, 1) := by decide +kernel
theorem dX6_here_66 : decode cX6_here 66 = .ok (.iload_n 3, 1) := by decide +kernel
theorem dX6_here_67 : decode cX6_here 67 = .ok (.invokevirtual 129, 3) := by decide +kernel
theorem dX6_here_70 : decode cX6_here 70 = .ok (.ifCond .eq 7, 3) := by decide +kernel
theorem dX6_here_73 : decode cX6_here 73 = .ok (.iconst 1, 1) := by decide +kernel
theorem dX6_here_74 : decode cX6_here 74 = .ok (.goto 4, 3) := by decide +kernel
theorem dX6_here_77 : decode cX6_here 77 = .ok (.iconst 0, 1) := by decide +kernel
theorem dX6_here_78 : decode cX6_here 78 = .ok (.ireturn, 1) := by decide +kernel
theorem dX6_here_79 : decode cX6_here 79 = .ok (.aload_n 0, 1) := by decide +kernel
theorem dX6_here_80 : decode cX6_here 80 = .ok (.iload_n 3, 1) := by decide +kernel
theorem dX6_here_81 : decode cX6_here 81 = .ok (.invokevirtual 123, 3) := by decide +kernel
theorem dX6_here_84 : decode cX6_here 84 = .ok (.ifCond .eq 48, 3) := by decide +kernel
theorem dX6_here_87 : decode cX6_here 87 = .ok (.aload_n 0, 1) := by decide +kernel
theorem dX6_here_88 : decode cX6_here 88 = .ok (.iload_n 1, 1) := by decide +kernel
theorem dX6_here_89 : decode cX6_here 89 = .ok (.invokevirtual 117, 3) := by decide +kernel
theorem dX6_here_92 : decode cX6_here 92 = .ok (.ifCond .eq 21, 3) := by decide +kernel
theorem dX6_here_95 : decode cX6_here 95 = .ok (.aload_n 0, 1) := by decide +kernel
theorem dX6_here_96 : decode cX6_here 96 = .ok (.getfield 50, 3) := by decide +kernel
theorem dX6_here_99 : decode cX6_here 99 = .ok (.iload_n 3, 1) := by decide +kernel
theorem dX6_here_100 : decode cX6_here 100 = .ok (.iaload, 1) := by decide +kernel
theorem dX6_here_101 : decode cX6_here 101 = .ok (.aload_n 0, 1) := by decide +kernel
theorem dX6_here_102 : decode cX6_here 102 = .ok (.getfield 50, 3) := by decide +kernel
theorem dX6_here_105 : decode cX6_here 105 = .ok (.iload_n 1, 1) := by decide +kernel
theorem dX6_here_106 : decode cX6_here 106 = .ok (.iaload, 1) := by decide +kernel
theorem dX6_here_107 : decode cX6_here 107 = .ok (.if_icmp .ne 25, 3) := by decide +kernel
theorem dX6_here_110 : decode cX6_here 110 = .ok (.goto 18, 3) := by decide +kernel
theorem dX6_here_113 : decode cX6_here 113 = .ok (.aload_n 0, 1) := by decide +kernel
theorem dX6_here_114 : decode cX6_here 114 = .ok (.getfield 47, 3) := by decide +kernel
theorem dX6_here_117 : decode cX6_here 117 = .ok (.iload_n 3, 1) := by decide +kernel
theorem dX6_here_118 : decode cX6_here 118 = .ok (.iaload, 1) := by decide +kernel
theorem dX6_here_119 : decode cX6_here 119 = .ok (.aload_n 0, 1) := by decide +kernel
theorem dX6_here_120 : decode cX6_here 120 = .ok (.getfield 47, 3) := by decide +kernel
theorem dX6_here_123 : decode cX6_here 123 = .ok (.iload_n 1, 1) := by decide +kernel
theorem dX6_here_124 : decode cX6_here 124 = .ok (.iaload, 1) := by decide +kernel
theorem dX6_here_125 : decode cX6_here 125 = .ok (.if_icmp .ne 7, 3) := by decide +kernel
theorem dX6_here_128 : decode cX6_here 128 = .ok (.iconst 1, 1) := by decide +kernel
theorem dX6_here_129 : decode cX6_here 129 = .ok (.goto 4, 3) := by decide +kernel
theorem dX6_here_132 : decode cX6_here 132 = .ok (.iconst 0, 1) := by decide +kernel
theorem dX6_here_133 : decode cX6_here 133 = .ok (.ireturn, 1) := by decide +kernel
theorem dX6_holdsOther_0 : decode cX6_holdsOther 0 = .ok (.iconst 0, 1) := by decide +kernel
theorem dX6_holdsOther_1 : decode cX6_holdsOther 1 = .ok (.istore_n 3, 1) := by decide +kernel
theorem dX6_holdsOther_2 : decode cX6_holdsOther 2 = .ok (.iconst 0, 1) := by decide +kernel
theorem dX6_holdsOther_3 : decode cX6_holdsOther 3 = .ok (.istore 4, 2) := by decide +kernel
theorem dX6_holdsOther_5 : decode cX6_holdsOther 5 = .ok (.iload 4, 2) := by decide +kernel
theorem dX6_holdsOther_7 : decode cX6_holdsOther 7 = .ok (.aload_n 0, 1) := by decide +kernel
theorem dX6_holdsOther_8 : decode cX6_holdsOther 8 = .ok (.getfield 88, 3) := by decide +kernel
theorem dX6_holdsOther_11 : decode cX6_holdsOther 11 = .ok (.if_icmp .ge 50, 3) := by decide +kernel
theorem dX6_holdsOther_14 : decode cX6_holdsOther 14 = .ok (.iload_n 3, 1) := by decide +kernel
theorem dX6_holdsOther_15 : decode cX6_holdsOther 15 = .ok (.ifCond .ne 34, 3) := by decide +kernel
theorem dX6_holdsOther_18 : decode cX6_holdsOther 18 = .ok (.iload 4, 2) := by decide +kernel
theorem dX6_holdsOther_20 : decode cX6_holdsOther 20 = .ok (.iload_n 2, 1) := by decide +kernel
theorem dX6_holdsOther_21 : decode cX6_holdsOther 21 = .ok (.if_icmp .eq 32, 3) := by decide +kernel
theorem dX6_holdsOther_24 : decode cX6_holdsOther 24 = .ok (.aload_n 0, 1) := by decide +kernel
theorem dX6_holdsOther_25 : decode cX6_holdsOther 25 = .ok (.getfield 22, 3) := by decide +kernel
theorem dX6_holdsOther_28 : decode cX6_holdsOther 28 = .ok (.iload 4, 2) := by decide +kernel
theorem dX6_holdsOther_30 : decode cX6_holdsOther 30 = .ok (.iaload, 1) := by decide +kernel
theorem dX6_holdsOther_31 : decode cX6_holdsOther 31 = .ok (.ifCond .lt 22, 3) := by decide +kernel
theorem dX6_holdsOther_34 : decode cX6_holdsOther 34 = .ok (.aload_n 0, 1) := by decide +kernel
theorem dX6_holdsOther_35 : decode cX6_holdsOther 35 = .ok (.iload_n 1, 1) := by decide +kernel
theorem dX6_holdsOther_36 : decode cX6_holdsOther 36 = .ok (.aload_n 0, 1) := by decide +kernel
theorem dX6_holdsOther_37 : decode cX6_holdsOther 37 = .ok (.getfield 22, 3) := by decide +kernel
theorem dX6_holdsOther_40 : decode cX6_holdsOther 40 = .ok (.iload 4, 2) := by decide +kernel
theorem dX6_holdsOther_42 : decode cX6_holdsOther 42 = .ok (.iaload, 1) := by decide +kernel
theorem dX6_holdsOther_43 : decode cX6_holdsOther 43 = .ok (.invokevirtual 114, 3) := by decide +kernel
theorem dX6_holdsOther_46 : decode cX6_holdsOther 46 = .ok (.ifCond .eq 7, 3) := by decide +kernel
theorem dX6_holdsOther_49 : decode cX6_holdsOther 49 = .ok (.iconst 1, 1) := by decide +kernel
theorem dX6_holdsOther_50 : decode cX6_holdsOther 50 = .ok (.goto 4, 3) := by decide +kernel
theorem dX6_holdsOther_53 : decode cX6_holdsOther 53 = .ok (.iconst 0, 1) := by decide +kernel
theorem dX6_holdsOther_54 : decode cX6_holdsOther 54 = .ok (.istore_n 3, 1) := by decide +kernel
theorem dX6_holdsOther_55 : decode cX6_holdsOther 55 = .ok (.iinc 4 1, 3) := by decide +kernel
theorem dX6_holdsOther_58 : decode cX6_holdsOther 58 = .ok (.goto (-53), 3) := by decide +kernel
theorem dX6_holdsOther_61 : decode cX6_holdsOther 61 = .ok (.iload_n 3, 1) := by decide +kernel
theorem dX6_holdsOther_62 : decode cX6_holdsOther 62 = .ok (.ireturn, 1) := by decide +kernel
theorem dX6_actText_0 : decode cX6_actText 0 = .ok (.aload_n 0, 1) := by decide +kernel
theorem dX6_actText_1 : decode cX6_actText 1 = .ok (.iload_n 1, 1) := by decide +kernel
theorem dX6_actText_2 : decode cX6_actText 2 = .ok (.iload_n 3, 1) := by decide +kernel
theorem dX6_actText_3 : decode cX6_actText 3 = .ok (.invokevirtual 126, 3) := by decide +kernel
theorem dX6_actText_6 : decode cX6_actText 6 = .ok (.ifCond .ne 6, 3) := by decide +kernel
theorem dX6_actText_9 : decode cX6_actText 9 = .ok (.bipush 10, 2) := by decide +kernel
theorem dX6_actText_11 : decode cX6_actText 11 = .ok (.ireturn, 1) := by decide +kernel
theorem dX6_actText_12 : decode cX6_actText 12 = .ok (.iload_n 2, 1) := by decide +kernel
theorem dX6_actText_13 : decode cX6_actText 13 = .ok (.iconst 2, 1) := by decide +kernel
theorem dX6_actText_14 : decode cX6_actText 14 = .ok (.if_icmp .ge 58, 3) := by decide +kernel
theorem dX6_actText_17 : decode cX6_actText 17 = .ok (.aload_n 0, 1) := by decide +kernel
theorem dX6_actText_18 : decode cX6_actText 18 = .ok (.getfield 25, 3) := by decide +kernel
theorem dX6_actText_21 : decode cX6_actText 21 = .ok (.iload_n 3, 1) := by decide +kernel
theorem dX6_actText_22 : decode cX6_actText 22 = .ok (.baload, 1) := by decide +kernel
theorem dX6_actText_23 : decode cX6_actText 23 = .ok (.iload_n 2, 1) := by decide +kernel
theorem dX6_actText_24 : decode cX6_actText 24 = .ok (.ifCond .ne 7, 3) := by decide +kernel
theorem dX6_actText_27 : decode cX6_actText 27 = .ok (.iconst 1, 1) := by decide +kernel
theorem dX6_actText_28 : decode cX6_actText 28 = .ok (.goto 4, 3) := by decide +kernel
theorem dX6_actText_31 : decode cX6_actText 31 = .ok (.iconst 0, 1) := by decide +kernel
theorem dX6_actText_32 : decode cX6_actText 32 = .ok (.if_icmp .ne 7, 3) := by decide +kernel
theorem dX6_actText_35 : decode cX6_actText 35 = .ok (.iconst 1, 1) := by decide +kernel
theorem dX6_actText_36 : decode cX6_actText 36 = .ok (.goto 4, 3) := by decide +kernel
theorem dX6_actText_39 : decode cX6_actText 39 = .ok (.iconst 0, 1) := by decide +kernel
theorem dX6_actText_40 : decode cX6_actText 40 = .ok (.istore 4, 2) := by decide +kernel
theorem dX6_actText_42 : decode cX6_actText 42 = .ok (.iload 4, 2) := by decide +kernel
theorem dX6_actText_44 : decode cX6_actText 44 = .ok (.ifCond .eq 8, 3) := by decide +kernel
theorem dX6_actText_47 : decode cX6_actText 47 = .ok (.bipush 11, 2) := by decide +kernel
theorem dX6_actText_49 : decode cX6_actText 49 = .ok (.goto 22, 3) := by decide +kernel
theorem dX6_actText_52 : decode cX6_actText 52 = .ok (.iload_n 2, 1) := by decide +kernel
theorem dX6_actText_53 : decode cX6_actText 53 = .ok (.ifCond .ne 17, 3) := by decide +kernel
theorem dX6_actText_56 : decode cX6_actText 56 = .ok (.aload_n 0, 1) := by decide +kernel
theorem dX6_actText_57 : decode cX6_actText 57 = .ok (.getfield 29, 3) := by decide +kernel
theorem dX6_actText_60 : decode cX6_actText 60 = .ok (.iload_n 3, 1) := by decide +kernel
theorem dX6_actText_61 : decode cX6_actText 61 = .ok (.baload, 1) := by decide +kernel
theorem dX6_actText_62 : decode cX6_actText 62 = .ok (.ifCond .eq 8, 3) := by decide +kernel
theorem dX6_actText_65 : decode cX6_actText 65 = .ok (.bipush 12, 2) := by decide +kernel
theorem dX6_actText_67 : decode cX6_actText 67 = .ok (.goto 4, 3) := by decide +kernel
theorem dX6_actText_70 : decode cX6_actText 70 = .ok (.iconst 0, 1) := by decide +kernel
theorem dX6_actText_71 : decode cX6_actText 71 = .ok (.ireturn, 1) := by decide +kernel
theorem dX6_actText_72 : decode cX6_actText 72 = .ok (.aload_n 0, 1) := by decide +kernel
theorem dX6_actText_73 : decode cX6_actText 73 = .ok (.getfield 29, 3) := by decide +kernel
theorem dX6_actText_76 : decode cX6_actText 76 = .ok (.iload_n 3, 1) := by decide +kernel
theorem dX6_actText_77 : decode cX6_actText 77 = .ok (.baload, 1) := by decide +kernel
theorem dX6_actText_78 : decode cX6_actText 78 = .ok (.iload_n 2, 1) := by decide +kernel
theorem dX6_actText_79 : decode cX6_actText 79 = .ok (.iconst 2, 1) := by decide +kernel
theorem dX6_actText_80 : decode cX6_actText 80 = .ok (.if_icmp .ne 7, 3) := by decide +kernel
theorem dX6_actText_83 : decode cX6_actText 83 = .ok (.iconst 1, 1) := by decide +kernel
theorem dX6_actText_84 : decode cX6_actText 84 = .ok (.goto 4, 3) := by decide +kernel
theorem dX6_actText_87 : decode cX6_actText 87 = .ok (.iconst 0, 1) := by decide +kernel
theorem dX6_actText_88 : decode cX6_actText 88 = .ok (.if_icmp .ne 6, 3) := by decide +kernel
theorem dX6_actText_91 : decode cX6_actText 91 = .ok (.bipush 11, 2) := by decide +kernel
theorem dX6_actText_93 : decode cX6_actText 93 = .ok (.ireturn, 1) := by decide +kernel
theorem dX6_actText_94 : decode cX6_actText 94 = .ok (.aload_n 0, 1) := by decide +kernel
theorem dX6_actText_95 : decode cX6_actText 95 = .ok (.getfield 22, 3) := by decide +kernel
theorem dX6_actText_98 : decode cX6_actText 98 = .ok (.iload_n 3, 1) := by decide +kernel
theorem dX6_actText_99 : decode cX6_actText 99 = .ok (.iaload, 1) := by decide +kernel
theorem dX6_actText_100 : decode cX6_actText 100 = .ok (.ifCond .ge 6, 3) := by decide +kernel
theorem dX6_actText_103 : decode cX6_actText 103 = .ok (.bipush 13, 2) := by decide +kernel
theorem dX6_actText_105 : decode cX6_actText 105 = .ok (.ireturn, 1) := by decide +kernel
theorem dX6_actText_106 : decode cX6_actText 106 = .ok (.aload_n 0, 1) := by decide +kernel
theorem dX6_actText_107 : decode cX6_actText 107 = .ok (.iload_n 1, 1) := by decide +kernel
theorem dX6_actText_108 : decode cX6_actText 108 = .ok (.aload_n 0, 1) := by decide +kernel
theorem dX6_actText_109 : decode cX6_actText 109 = .ok (.getfield 22, 3) := by decide +kernel
theorem dX6_actText_112 : decode cX6_actText 112 = .ok (.iload_n 3, 1) := by decide +kernel
theorem dX6_actText_113 : decode cX6_actText 113 = .ok (.iaload, 1) := by decide +kernel
theorem dX6_actText_114 : decode cX6_actText 114 = .ok (.invokevirtual 114, 3) := by decide +kernel
theorem dX6_actText_117 : decode cX6_actText 117 = .ok (.ifCond .eq 5, 3) := by decide +kernel
theorem dX6_actText_120 : decode cX6_actText 120 = .ok (.iconst 0, 1) := by decide +kernel
theorem dX6_actText_121 : decode cX6_actText 121 = .ok (.ireturn, 1) := by decide +kernel
theorem dX6_actText_122 : decode cX6_actText 122 = .ok (.aload_n 0, 1) := by decide +kernel
theorem dX6_actText_123 : decode cX6_actText 123 = .ok (.iload_n 1, 1) := by decide +kernel
theorem dX6_actText_124 : decode cX6_actText 124 = .ok (.iload_n 3, 1) := by decide +kernel
theorem dX6_actText_125 : decode cX6_actText 125 = .ok (.invokevirtual 132, 3) := by decide +kernel
theorem dX6_actText_128 : decode cX6_actText 128 = .ok (.ifCond .eq 8, 3) := by decide +kernel
theorem dX6_actText_131 : decode cX6_actText 131 = .ok (.bipush 15, 2) := by decide +kernel
theorem dX6_actText_133 : decode cX6_actText 133 = .ok (.goto 5, 3) := by decide +kernel
theorem dX6_actText_136 : decode cX6_actText 136 = .ok (.bipush 14, 2) := by decide +kernel
theorem dX6_actText_138 : decode cX6_actText 138 = .ok (.ireturn, 1) := by decide +kernel
theorem dX6_act_0 : decode cX6_act 0 = .ok (.aload_n 0, 1) := by decide +kernel
theorem dX6_act_1 : decode cX6_act 1 = .ok (.iconst 0, 1) := by decide +kernel
theorem dX6_act_2 : decode cX6_act 2 = .ok (.putfield 77, 3) := by decide +kernel
theorem dX6_act_5 : decode cX6_act 5 = .ok (.aload_n 0, 1) := by decide +kernel
theorem dX6_act_6 : decode cX6_act 6 = .ok (.iload_n 1, 1) := by decide +kernel
theorem dX6_act_7 : decode cX6_act 7 = .ok (.invokevirtual 123, 3) := by decide +kernel
theorem dX6_act_10 : decode cX6_act 10 = .ok (.ifCond .eq 20, 3) := by decide +kernel
theorem dX6_act_13 : decode cX6_act 13 = .ok (.iload_n 2, 1) := by decide +kernel
theorem dX6_act_14 : decode cX6_act 14 = .ok (.iconst 0, 1) := by decide +kernel
theorem dX6_act_15 : decode cX6_act 15 = .ok (.iconst 3, 1) := by decide +kernel
theorem dX6_act_16 : decode cX6_act 16 = .ok (.invokestatic 84, 3) := by decide +kernel
theorem dX6_act_19 : decode cX6_act 19 = .ok (.ifCond .eq 11, 3) := by decide +kernel
theorem dX6_act_22 : decode cX6_act 22 = .ok (.aload_n 0, 1) := by decide +kernel
theorem dX6_act_23 : decode cX6_act 23 = .ok (.iload_n 3, 1) := by decide +kernel
theorem dX6_act_24 : decode cX6_act 24 = .ok (.invokevirtual 101, 3) := by decide +kernel
theorem dX6_act_27 : decode cX6_act 27 = .ok (.ifCond .ne 5, 3) := by decide +kernel
theorem dX6_act_30 : decode cX6_act 30 = .ok (.iconst (-1), 1) := by decide +kernel
theorem dX6_act_31 : decode cX6_act 31 = .ok (.ireturn, 1) := by decide +kernel
theorem dX6_act_32 : decode cX6_act 32 = .ok (.aload_n 0, 1) := by decide +kernel
theorem dX6_act_33 : decode cX6_act 33 = .ok (.iload_n 1, 1) := by decide +kernel
theorem dX6_act_34 : decode cX6_act 34 = .ok (.iload_n 2, 1) := by decide +kernel
theorem dX6_act_35 : decode cX6_act 35 = .ok (.iload_n 3, 1) := by decide +kernel
theorem dX6_act_36 : decode cX6_act 36 = .ok (.invokevirtual 135, 3) := by decide +kernel
theorem dX6_act_39 : decode cX6_act 39 = .ok (.istore 4, 2) := by decide +kernel
theorem dX6_act_41 : decode cX6_act 41 = .ok (.iload 4, 2) := by decide +kernel
theorem dX6_act_43 : decode cX6_act 43 = .ok (.ifCond .le 7, 3) := by decide +kernel
theorem dX6_act_46 : decode cX6_act 46 = .ok (.iload 4, 2) := by decide +kernel
theorem dX6_act_48 : decode cX6_act 48 = .ok (.ineg, 1) := by decide +kernel
theorem dX6_act_49 : decode cX6_act 49 = .ok (.ireturn, 1) := by decide +kernel
theorem dX6_act_50 : decode cX6_act 50 = .ok (.iload_n 2, 1) := by decide +kernel
theorem dX6_act_51 : decode cX6_act 51 = .ok (.iconst 2, 1) := by decide +kernel
theorem dX6_act_52 : decode cX6_act 52 = .ok (.if_icmp .ge 21, 3) := by decide +kernel
theorem dX6_act_55 : decode cX6_act 55 = .ok (.aload_n 0, 1) := by decide +kernel
theorem dX6_act_56 : decode cX6_act 56 = .ok (.getfield 25, 3) := by decide +kernel
theorem dX6_act_59 : decode cX6_act 59 = .ok (.iload_n 3, 1) := by decide +kernel
theorem dX6_act_60 : decode cX6_act 60 = .ok (.iload_n 2, 1) := by decide +kernel
theorem dX6_act_61 : decode cX6_act 61 = .ok (.ifCond .ne 7, 3) := by decide +kernel
theorem dX6_act_64 : decode cX6_act 64 = .ok (.iconst 1, 1) := by decide +kernel
theorem dX6_act_65 : decode cX6_act 65 = .ok (.goto 4, 3) := by decide +kernel
theorem dX6_act_68 : decode cX6_act 68 = .ok (.iconst 0, 1) := by decide +kernel
theorem dX6_act_69 : decode cX6_act 69 = .ok (.bastore, 1) := by decide +kernel
theorem dX6_act_70 : decode cX6_act 70 = .ok (.goto 19, 3) := by decide +kernel
theorem dX6_act_73 : decode cX6_act 73 = .ok (.aload_n 0, 1) := by decide +kernel
theorem dX6_act_74 : decode cX6_act 74 = .ok (.getfield 29, 3) := by decide +kernel
theorem dX6_act_77 : decode cX6_act 77 = .ok (.iload_n 3, 1) := by decide +kernel
theorem dX6_act_78 : decode cX6_act 78 = .ok (.iload_n 2, 1) := by decide +kernel
theorem dX6_act_79 : decode cX6_act 79 = .ok (.iconst 2, 1) := by decide +kernel
theorem dX6_act_80 : decode cX6_act 80 = .ok (.if_icmp .ne 7, 3) := by decide +kernel
theorem dX6_act_83 : decode cX6_act 83 = .ok (.iconst 1, 1) := by decide +kernel
theorem dX6_act_84 : decode cX6_act 84 = .ok (.goto 4, 3) := by decide +kernel
theorem dX6_act_87 : decode cX6_act 87 = .ok (.iconst 0, 1) := by decide +kernel
theorem dX6_act_88 : decode cX6_act 88 = .ok (.bastore, 1) := by decide +kernel
theorem dX6_act_89 : decode cX6_act 89 = .ok (.iconst 1, 1) := by decide +kernel
theorem dX6_act_90 : decode cX6_act 90 = .ok (.ireturn, 1) := by decide +kernel
theorem dX6_handleText_0 : decode cX6_handleText 0 = .ok (.iload_n 2, 1) := by decide +kernel
theorem dX6_handleText_1 : decode cX6_handleText 1 = .ok (.iconst 1, 1) := by decide +kernel
theorem dX6_handleText_2 : decode cX6_handleText 2 = .ok (.if_icmp .ne 19, 3) := by decide +kernel
theorem dX6_handleText_5 : decode cX6_handleText 5 = .ok (.aload_n 0, 1) := by decide +kernel
theorem dX6_handleText_6 : decode cX6_handleText 6 = .ok (.iload_n 1, 1) := by decide +kernel
theorem dX6_handleText_7 : decode cX6_handleText 7 = .ok (.iload_n 3, 1) := by decide +kernel
theorem dX6_handleText_8 : decode cX6_handleText 8 = .ok (.invokevirtual 114, 3) := by decide +kernel
theorem dX6_handleText_11 : decode cX6_handleText 11 = .ok (.ifCond .eq 7, 3) := by decide +kernel
theorem dX6_handleText_14 : decode cX6_handleText 14 = .ok (.iconst 0, 1) := by decide +kernel
theorem dX6_handleText_15 : decode cX6_handleText 15 = .ok (.goto 5, 3) := by decide +kernel
theorem dX6_handleText_18 : decode cX6_handleText 18 = .ok (.bipush 18, 2) := by decide +kernel
theorem dX6_handleText_20 : decode cX6_handleText 20 = .ok (.ireturn, 1) := by decide +kernel
theorem dX6_handleText_21 : decode cX6_handleText 21 = .ok (.aload_n 0, 1) := by decide +kernel
theorem dX6_handleText_22 : decode cX6_handleText 22 = .ok (.iload_n 1, 1) := by decide +kernel
theorem dX6_handleText_23 : decode cX6_handleText 23 = .ok (.iload_n 3, 1) := by decide +kernel
theorem dX6_handleText_24 : decode cX6_handleText 24 = .ok (.invokevirtual 129, 3) := by decide +kernel
theorem dX6_handleText_27 : decode cX6_handleText 27 = .ok (.ifCond .ne 6, 3) := by decide +kernel
theorem dX6_handleText_30 : decode cX6_handleText 30 = .ok (.bipush 10, 2) := by decide +kernel
theorem dX6_handleText_32 : decode cX6_handleText 32 = .ok (.ireturn, 1) := by decide +kernel
theorem dX6_handleText_33 : decode cX6_handleText 33 = .ok (.iload_n 2, 1) := by decide +kernel
theorem dX6_handleText_34 : decode cX6_handleText 34 = .ok (.ifCond .ne 47, 3) := by decide +kernel
theorem dX6_handleText_37 : decode cX6_handleText 37 = .ok (.aload_n 0, 1) := by decide +kernel
theorem dX6_handleText_38 : decode cX6_handleText 38 = .ok (.iload_n 1, 1) := by decide +kernel
theorem dX6_handleText_39 : decode cX6_handleText 39 = .ok (.iload_n 3, 1) := by decide +kernel
theorem dX6_handleText_40 : decode cX6_handleText 40 = .ok (.invokevirtual 114, 3) := by decide +kernel
theorem dX6_handleText_43 : decode cX6_handleText 43 = .ok (.ifCond .eq 8, 3) := by decide +kernel
theorem dX6_handleText_46 : decode cX6_handleText 46 = .ok (.bipush 11, 2) := by decide +kernel
theorem dX6_handleText_48 : decode cX6_handleText 48 = .ok (.goto 32, 3) := by decide +kernel
theorem dX6_handleText_51 : decode cX6_handleText 51 = .ok (.aload_n 0, 1) := by decide +kernel
theorem dX6_handleText_52 : decode cX6_handleText 52 = .ok (.getfield 32, 3) := by decide +kernel
theorem dX6_handleText_55 : decode cX6_handleText 55 = .ok (.iload_n 3, 1) := by decide +kernel
theorem dX6_handleText_56 : decode cX6_handleText 56 = .ok (.iaload, 1) := by decide +kernel
theorem dX6_handleText_57 : decode cX6_handleText 57 = .ok (.ifCond .eq 8, 3) := by decide +kernel
theorem dX6_handleText_60 : decode cX6_handleText 60 = .ok (.bipush 16, 2) := by decide +kernel
theorem dX6_handleText_62 : decode cX6_handleText 62 = .ok (.goto 18, 3) := by decide +kernel
theorem dX6_handleText_65 : decode cX6_handleText 65 = .ok (.aload_n 0, 1) := by decide +kernel
theorem dX6_handleText_66 : decode cX6_handleText 66 = .ok (.iload_n 1, 1) := by decide +kernel
theorem dX6_handleText_67 : decode cX6_handleText 67 = .ok (.invokevirtual 139, 3) := by decide +kernel
theorem dX6_handleText_70 : decode cX6_handleText 70 = .ok (.iconst 4, 1) := by decide +kernel
theorem dX6_handleText_71 : decode cX6_handleText 71 = .ok (.if_icmp .ne 8, 3) := by decide +kernel
theorem dX6_handleText_74 : decode cX6_handleText 74 = .ok (.bipush 17, 2) := by decide +kernel
theorem dX6_handleText_76 : decode cX6_handleText 76 = .ok (.goto 4, 3) := by decide +kernel
theorem dX6_handleText_79 : decode cX6_handleText 79 = .ok (.iconst 0, 1) := by decide +kernel
theorem dX6_handleText_80 : decode cX6_handleText 80 = .ok (.ireturn, 1) := by decide +kernel
theorem dX6_handleText_81 : decode cX6_handleText 81 = .ok (.iload_n 2, 1) := by decide +kernel
theorem dX6_handleText_82 : decode cX6_handleText 82 = .ok (.iconst 2, 1) := by decide +kernel
theorem dX6_handleText_83 : decode cX6_handleText 83 = .ok (.if_icmp .ne 48, 3) := by decide +kernel
theorem dX6_handleText_86 : decode cX6_handleText 86 = .ok (.aload_n 0, 1) := by decide +kernel
theorem dX6_handleText_87 : decode cX6_handleText 87 = .ok (.getfield 32, 3) := by decide +kernel
theorem dX6_handleText_90 : decode cX6_handleText 90 = .ok (.iload_n 3, 1) := by decide +kernel
theorem dX6_handleText_91 : decode cX6_handleText 91 = .ok (.iaload, 1) := by decide +kernel
theorem dX6_handleText_92 : decode cX6_handleText 92 = .ok (.iconst 2, 1) := by decide +kernel
theorem dX6_handleText_93 : decode cX6_handleText 93 = .ok (.if_icmp .ge 8, 3) := by decide +kernel
theorem dX6_handleText_96 : decode cX6_handleText 96 = .ok (.bipush 19, 2) := by decide +kernel
theorem dX6_handleText_98 : decode cX6_handleText 98 = .ok (.goto 32, 3) := by decide +kernel
theorem dX6_handleText_101 : decode cX6_handleText 101 = .ok (.aload_n 0, 1) := by decide +kernel
theorem dX6_handleText_102 : decode cX6_handleText 102 = .ok (.getfield 50, 3) := by decide +kernel
theorem dX6_handleText_105 : decode cX6_handleText 105 = .ok (.iload_n 1, 1) := by decide +kernel
theorem dX6_handleText_106 : decode cX6_handleText 106 = .ok (.iaload, 1) := by decide +kernel
theorem dX6_handleText_107 : decode cX6_handleText 107 = .ok (.ifCond .lt 8, 3) := by decide +kernel
theorem dX6_handleText_110 : decode cX6_handleText 110 = .ok (.bipush 20, 2) := by decide +kernel
theorem dX6_handleText_112 : decode cX6_handleText 112 = .ok (.goto 18, 3) := by decide +kernel
theorem dX6_handleText_115 : decode cX6_handleText 115 = .ok (.aload_n 0, 1) := by decide +kernel
theorem dX6_handleText_116 : decode cX6_handleText 116 = .ok (.getfield 44, 3) := by decide +kernel
theorem dX6_handleText_119 : decode cX6_handleText 119 = .ok (.iload_n 3, 1) := by decide +kernel
theorem dX6_handleText_120 : decode cX6_handleText 120 = .ok (.baload, 1) := by decide +kernel
theorem dX6_handleText_121 : decode cX6_handleText 121 = .ok (.ifCond .eq 8, 3) := by decide +kernel
theorem dX6_handleText_124 : decode cX6_handleText 124 = .ok (.bipush 21, 2) := by decide +kernel
theorem dX6_handleText_126 : decode cX6_handleText 126 = .ok (.goto 4, 3) := by decide +kernel
theorem dX6_handleText_129 : decode cX6_handleText 129 = .ok (.iconst 0, 1) := by decide +kernel
theorem dX6_handleText_130 : decode cX6_handleText 130 = .ok (.ireturn, 1) := by decide +kernel
theorem dX6_handleText_131 : decode cX6_handleText 131 = .ok (.aload_n 0, 1) := by decide +kernel
theorem dX6_handleText_132 : decode cX6_handleText 132 = .ok (.getfield 32, 3) := by decide +kernel
theorem dX6_handleText_135 : decode cX6_handleText 135 = .ok (.iload_n 3, 1) := by decide +kernel
theorem dX6_handleText_136 : decode cX6_handleText 136 = .ok (.iaload, 1) := by decide +kernel
theorem dX6_handleText_137 : decode cX6_handleText 137 = .ok (.iconst 3, 1) := by decide +kernel
theorem dX6_handleText_138 : decode cX6_handleText 138 = .ok (.if_icmp .eq 8, 3) := by decide +kernel
theorem dX6_handleText_141 : decode cX6_handleText 141 = .ok (.bipush 22, 2) := by decide +kernel
theorem dX6_handleText_143 : decode cX6_handleText 143 = .ok (.goto 28, 3) := by decide +kernel
theorem dX6_handleText_146 : decode cX6_handleText 146 = .ok (.aload_n 0, 1) := by decide +kernel
theorem dX6_handleText_147 : decode cX6_handleText 147 = .ok (.getfield 44, 3) := by decide +kernel
theorem dX6_handleText_150 : decode cX6_handleText 150 = .ok (.iload_n 3, 1) := by decide +kernel
theorem dX6_handleText_151 : decode cX6_handleText 151 = .ok (.baload, 1) := by decide +kernel
theorem dX6_handleText_152 : decode cX6_handleText 152 = .ok (.iload_n 2, 1) := by decide +kernel
theorem dX6_handleText_153 : decode cX6_handleText 153 = .ok (.iconst 4, 1) := by decide +kernel
theorem dX6_handleText_154 : decode cX6_handleText 154 = .ok (.if_icmp .ne 7, 3) := by decide +kernel
theorem dX6_handleText_157 : decode cX6_handleText 157 = .ok (.iconst 1, 1) := by decide +kernel
theorem dX6_handleText_158 : decode cX6_handleText 158 = .ok (.goto 4, 3) := by decide +kernel
theorem dX6_handleText_161 : decode cX6_handleText 161 = .ok (.iconst 0, 1) := by decide +kernel
theorem dX6_handleText_162 : decode cX6_handleText 162 = .ok (.if_icmp .ne 8, 3) := by decide +kernel
theorem dX6_handleText_165 : decode cX6_handleText 165 = .ok (.bipush 11, 2) := by decide +kernel
theorem dX6_handleText_167 : decode cX6_handleText 167 = .ok (.goto 4, 3) := by decide +kernel
theorem dX6_handleText_170 : decode cX6_handleText 170 = .ok (.iconst 0, 1) := by decide +kernel
theorem dX6_handleText_171 : decode cX6_handleText 171 = .ok (.ireturn, 1) := by decide +kernel
theorem dX6_handle_0 : decode cX6_handle 0 = .ok (.aload_n 0, 1) := by decide +kernel
theorem dX6_handle_1 : decode cX6_handle 1 = .ok (.iconst 0, 1) := by decide +kernel
theorem dX6_handle_2 : decode cX6_handle 2 = .ok (.putfield 77, 3) := by decide +kernel
theorem dX6_handle_5 : decode cX6_handle 5 = .ok (.aload_n 0, 1) := by decide +kernel
theorem dX6_handle_6 : decode cX6_handle 6 = .ok (.iload_n 1, 1) := by decide +kernel
theorem dX6_handle_7 : decode cX6_handle 7 = .ok (.invokevirtual 123, 3) := by decide +kernel
theorem dX6_handle_10 : decode cX6_handle 10 = .ok (.ifCond .eq 20, 3) := by decide +kernel
theorem dX6_handle_13 : decode cX6_handle 13 = .ok (.iload_n 2, 1) := by decide +kernel
theorem dX6_handle_14 : decode cX6_handle 14 = .ok (.iconst 0, 1) := by decide +kernel
theorem dX6_handle_15 : decode cX6_handle 15 = .ok (.iconst 4, 1) := by decide +kernel
theorem dX6_handle_16 : decode cX6_handle 16 = .ok (.invokestatic 84, 3) := by decide +kernel
theorem dX6_handle_19 : decode cX6_handle 19 = .ok (.ifCond .eq 11, 3) := by decide +kernel
theorem dX6_handle_22 : decode cX6_handle 22 = .ok (.aload_n 0, 1) := by decide +kernel
theorem dX6_handle_23 : decode cX6_handle 23 = .ok (.iload_n 3, 1) := by decide +kernel
theorem dX6_handle_24 : decode cX6_handle 24 = .ok (.invokevirtual 111, 3) := by decide +kernel
theorem dX6_handle_27 : decode cX6_handle 27 = .ok (.ifCond .ne 5, 3) := by decide +kernel
theorem dX6_handle_30 : decode cX6_handle 30 = .ok (.iconst (-1), 1) := by decide +kernel
theorem dX6_handle_31 : decode cX6_handle 31 = .ok (.ireturn, 1) := by decide +kernel
theorem dX6_handle_32 : decode cX6_handle 32 = .ok (.aload_n 0, 1) := by decide +kernel
theorem dX6_handle_33 : decode cX6_handle 33 = .ok (.iload_n 1, 1) := by decide +kernel
theorem dX6_handle_34 : decode cX6_handle 34 = .ok (.iload_n 2, 1) := by decide +kernel
theorem dX6_handle_35 : decode cX6_handle 35 = .ok (.iload_n 3, 1) := by decide +kernel
theorem dX6_handle_36 : decode cX6_handle 36 = .ok (.invokevirtual 143, 3) := by decide +kernel
theorem dX6_handle_39 : decode cX6_handle 39 = .ok (.istore 4, 2) := by decide +kernel
theorem dX6_handle_41 : decode cX6_handle 41 = .ok (.iload 4, 2) := by decide +kernel
theorem dX6_handle_43 : decode cX6_handle 43 = .ok (.ifCond .le 7, 3) := by decide +kernel
theorem dX6_handle_46 : decode cX6_handle 46 = .ok (.iload 4, 2) := by decide +kernel
theorem dX6_handle_48 : decode cX6_handle 48 = .ok (.ineg, 1) := by decide +kernel
theorem dX6_handle_49 : decode cX6_handle 49 = .ok (.ireturn, 1) := by decide +kernel
theorem dX6_handle_50 : decode cX6_handle 50 = .ok (.iload_n 2, 1) := by decide +kernel
theorem dX6_handle_51 : decode cX6_handle 51 = .ok (.iconst 2, 1) := by decide +kernel
theorem dX6_handle_52 : decode cX6_handle 52 = .ok (.if_icmp .ge 29, 3) := by decide +kernel
theorem dX6_handle_55 : decode cX6_handle 55 = .ok (.aload_n 0, 1) := by decide +kernel
theorem dX6_handle_56 : decode cX6_handle 56 = .ok (.getfield 38, 3) := by decide +kernel
theorem dX6_handle_59 : decode cX6_handle 59 = .ok (.iload_n 3, 1) := by decide +kernel
theorem dX6_handle_60 : decode cX6_handle 60 = .ok (.iload_n 2, 1) := by decide +kernel
theorem dX6_handle_61 : decode cX6_handle 61 = .ok (.ifCond .ne 10, 3) := by decide +kernel
theorem dX6_handle_64 : decode cX6_handle 64 = .ok (.bipush 100, 2) := by decide +kernel
theorem dX6_handle_66 : decode cX6_handle 66 = .ok (.iload_n 1, 1) := by decide +kernel
theorem dX6_handle_67 : decode cX6_handle 67 = .ok (.iadd, 1) := by decide +kernel
theorem dX6_handle_68 : decode cX6_handle 68 = .ok (.goto 9, 3) := by decide +kernel
theorem dX6_handle_71 : decode cX6_handle 71 = .ok (.aload_n 0, 1) := by decide +kernel
theorem dX6_handle_72 : decode cX6_handle 72 = .ok (.getfield 47, 3) := by decide +kernel
theorem dX6_handle_75 : decode cX6_handle 75 = .ok (.iload_n 1, 1) := by decide +kernel
theorem dX6_handle_76 : decode cX6_handle 76 = .ok (.iaload, 1) := by decide +kernel
theorem dX6_handle_77 : decode cX6_handle 77 = .ok (.iastore, 1) := by decide +kernel
theorem dX6_handle_78 : decode cX6_handle 78 = .ok (.goto 34, 3) := by decide +kernel
theorem dX6_handle_81 : decode cX6_handle 81 = .ok (.iload_n 2, 1) := by decide +kernel
theorem dX6_handle_82 : decode cX6_handle 82 = .ok (.iconst 2, 1) := by decide +kernel
theorem dX6_handle_83 : decode cX6_handle 83 = .ok (.if_icmp .ne 13, 3) := by decide +kernel
theorem dX6_handle_86 : decode cX6_handle 86 = .ok (.aload_n 0, 1) := by decide +kernel
theorem dX6_handle_87 : decode cX6_handle 87 = .ok (.getfield 50, 3) := by decide +kernel
theorem dX6_handle_90 : decode cX6_handle 90 = .ok (.iload_n 1, 1) := by decide +kernel
theorem dX6_handle_91 : decode cX6_handle 91 = .ok (.iload_n 3, 1) := by decide +kernel
theorem dX6_handle_92 : decode cX6_handle 92 = .ok (.iastore, 1) := by decide +kernel
theorem dX6_handle_93 : decode cX6_handle 93 = .ok (.goto 19, 3) := by decide +kernel
theorem dX6_handle_96 : decode cX6_handle 96 = .ok (.aload_n 0, 1) := by decide +kernel
theorem dX6_handle_97 : decode cX6_handle 97 = .ok (.getfield 44, 3) := by decide +kernel
theorem dX6_handle_100 : decode cX6_handle 100 = .ok (.iload_n 3, 1) := by decide +kernel
theorem dX6_handle_101 : decode cX6_handle 101 = .ok (.iload_n 2, 1) := by decide +kernel
theorem dX6_handle_102 : decode cX6_handle 102 = .ok (.iconst 4, 1) := by decide +kernel
theorem dX6_handle_103 : decode cX6_handle 103 = .ok (.if_icmp .ne 7, 3) := by decide +kernel
theorem dX6_handle_106 : decode cX6_handle 106 = .ok (.iconst 1, 1) := by decide +kernel
theorem dX6_handle_107 : decode cX6_handle 107 = .ok (.goto 4, 3) := by decide +kernel
theorem dX6_handle_110 : decode cX6_handle 110 = .ok (.iconst 0, 1) := by decide +kernel
theorem dX6_handle_111 : decode cX6_handle 111 = .ok (.bastore, 1) := by decide +kernel
theorem dX6_handle_112 : decode cX6_handle 112 = .ok (.iconst 1, 1) := by decide +kernel
theorem dX6_handle_113 : decode cX6_handle 113 = .ok (.ireturn, 1) := by decide +kernel
theorem dX6_leave_0 : decode cX6_leave 0 = .ok (.aload_n 0, 1) := by decide +kernel
theorem dX6_leave_1 : decode cX6_leave 1 = .ok (.iconst 0, 1) := by decide +kernel
theorem dX6_leave_2 : decode cX6_leave 2 = .ok (.putfield 77, 3) := by decide +kernel
theorem dX6_leave_5 : decode cX6_leave 5 = .ok (.aload_n 0, 1) := by decide +kernel
theorem dX6_leave_6 : decode cX6_leave 6 = .ok (.iload_n 1, 1) := by decide +kernel
theorem dX6_leave_7 : decode cX6_leave 7 = .ok (.invokevirtual 123, 3) := by decide +kernel
theorem dX6_leave_10 : decode cX6_leave 10 = .ok (.ifCond .ne 5, 3) := by decide +kernel
theorem dX6_leave_13 : decode cX6_leave 13 = .ok (.iconst (-1), 1) := by decide +kernel
theorem dX6_leave_14 : decode cX6_leave 14 = .ok (.ireturn, 1) := by decide +kernel
theorem dX6_leave_15 : decode cX6_leave 15 = .ok (.aload_n 0, 1) := by decide +kernel
theorem dX6_leave_16 : decode cX6_leave 16 = .ok (.getfield 50, 3) := by decide +kernel
theorem dX6_leave_19 : decode cX6_leave 19 = .ok (.iload_n 1, 1) := by decide +kernel
theorem dX6_leave_20 : decode cX6_leave 20 = .ok (.iaload, 1) := by decide +kernel
theorem dX6_leave_21 : decode cX6_leave 21 = .ok (.ifCond .ge 6, 3) := by decide +kernel
theorem dX6_leave_24 : decode cX6_leave 24 = .ok (.bipush (-23), 2) := by decide +kernel
theorem dX6_leave_26 : decode cX6_leave 26 = .ok (.ireturn, 1) := by decide +kernel
theorem dX6_leave_27 : decode cX6_leave 27 = .ok (.aload_n 0, 1) := by decide +kernel
theorem dX6_leave_28 : decode cX6_leave 28 = .ok (.getfield 44, 3) := by decide +kernel
theorem dX6_leave_31 : decode cX6_leave 31 = .ok (.aload_n 0, 1) := by decide +kernel
theorem dX6_leave_32 : decode cX6_leave 32 = .ok (.getfield 50, 3) := by decide +kernel
theorem dX6_leave_35 : decode cX6_leave 35 = .ok (.iload_n 1, 1) := by decide +kernel
theorem dX6_leave_36 : decode cX6_leave 36 = .ok (.iaload, 1) := by decide +kernel
theorem dX6_leave_37 : decode cX6_leave 37 = .ok (.baload, 1) := by decide +kernel
theorem dX6_leave_38 : decode cX6_leave 38 = .ok (.ifCond .eq 6, 3) := by decide +kernel
theorem dX6_leave_41 : decode cX6_leave 41 = .ok (.bipush (-21), 2) := by decide +kernel
theorem dX6_leave_43 : decode cX6_leave 43 = .ok (.ireturn, 1) := by decide +kernel
theorem dX6_leave_44 : decode cX6_leave 44 = .ok (.aload_n 0, 1) := by decide +kernel
theorem dX6_leave_45 : decode cX6_leave 45 = .ok (.getfield 50, 3) := by decide +kernel
theorem dX6_leave_48 : decode cX6_leave 48 = .ok (.iload_n 1, 1) := by decide +kernel
theorem dX6_leave_49 : decode cX6_leave 49 = .ok (.iconst (-1), 1) := by decide +kernel
theorem dX6_leave_50 : decode cX6_leave 50 = .ok (.iastore, 1) := by decide +kernel
theorem dX6_leave_51 : decode cX6_leave 51 = .ok (.iconst 1, 1) := by decide +kernel
theorem dX6_leave_52 : decode cX6_leave 52 = .ok (.ireturn, 1) := by decide +kernel
theorem dX6_otherSide_0 : decode cX6_otherSide 0 = .ok (.aload_n 0, 1) := by decide +kernel
theorem dX6_otherSide_1 : decode cX6_otherSide 1 = .ok (.getfield 16, 3) := by decide +kernel
theorem dX6_otherSide_4 : decode cX6_otherSide 4 = .ok (.iload_n 1, 1) := by decide +kernel
theorem dX6_otherSide_5 : decode cX6_otherSide 5 = .ok (.iaload, 1) := by decide +kernel
theorem dX6_otherSide_6 : decode cX6_otherSide 6 = .ok (.iload_n 2, 1) := by decide +kernel
theorem dX6_otherSide_7 : decode cX6_otherSide 7 = .ok (.if_icmp .ne 12, 3) := by decide +kernel
theorem dX6_otherSide_10 : decode cX6_otherSide 10 = .ok (.aload_n 0, 1) := by decide +kernel
theorem dX6_otherSide_11 : decode cX6_otherSide 11 = .ok (.getfield 19, 3) := by decide +kernel
theorem dX6_otherSide_14 : decode cX6_otherSide 14 = .ok (.iload_n 1, 1) := by decide +kernel
theorem dX6_otherSide_15 : decode cX6_otherSide 15 = .ok (.iaload, 1) := by decide +kernel
theorem dX6_otherSide_16 : decode cX6_otherSide 16 = .ok (.goto 9, 3) := by decide +kernel
theorem dX6_otherSide_19 : decode cX6_otherSide 19 = .ok (.aload_n 0, 1) := by decide +kernel
theorem dX6_otherSide_20 : decode cX6_otherSide 20 = .ok (.getfield 16, 3) := by decide +kernel
theorem dX6_otherSide_23 : decode cX6_otherSide 23 = .ok (.iload_n 1, 1) := by decide +kernel
theorem dX6_otherSide_24 : decode cX6_otherSide 24 = .ok (.iaload, 1) := by decide +kernel
theorem dX6_otherSide_25 : decode cX6_otherSide 25 = .ok (.ireturn, 1) := by decide +kernel
theorem dX6_leadsTo_0 : decode cX6_leadsTo 0 = .ok (.aload_n 0, 1) := by decide +kernel
theorem dX6_leadsTo_1 : decode cX6_leadsTo 1 = .ok (.getfield 7, 3) := by decide +kernel
theorem dX6_leadsTo_4 : decode cX6_leadsTo 4 = .ok (.bipush 8, 2) := by decide +kernel
theorem dX6_leadsTo_6 : decode cX6_leadsTo 6 = .ok (.iload_n 1, 1) := by decide +kernel
theorem dX6_leadsTo_7 : decode cX6_leadsTo 7 = .ok (.imul, 1) := by decide +kernel
theorem dX6_leadsTo_8 : decode cX6_leadsTo 8 = .ok (.iload_n 2, 1) := by decide +kernel
theorem dX6_leadsTo_9 : decode cX6_leadsTo 9 = .ok (.iadd, 1) := by decide +kernel
theorem dX6_leadsTo_10 : decode cX6_leadsTo 10 = .ok (.iaload, 1) := by decide +kernel
theorem dX6_leadsTo_11 : decode cX6_leadsTo 11 = .ok (.istore_n 3, 1) := by decide +kernel
theorem dX6_leadsTo_12 : decode cX6_leadsTo 12 = .ok (.iload_n 3, 1) := by decide +kernel
theorem dX6_leadsTo_13 : decode cX6_leadsTo 13 = .ok (.bipush 100, 2) := by decide +kernel
theorem dX6_leadsTo_15 : decode cX6_leadsTo 15 = .ok (.if_icmp .ge 5, 3) := by decide +kernel
theorem dX6_leadsTo_18 : decode cX6_leadsTo 18 = .ok (.iload_n 3, 1) := by decide +kernel
theorem dX6_leadsTo_19 : decode cX6_leadsTo 19 = .ok (.ireturn, 1) := by decide +kernel
theorem dX6_leadsTo_20 : decode cX6_leadsTo 20 = .ok (.iload_n 3, 1) := by decide +kernel
theorem dX6_leadsTo_21 : decode cX6_leadsTo 21 = .ok (.sipush 200, 3) := by decide +kernel
theorem dX6_leadsTo_24 : decode cX6_leadsTo 24 = .ok (.if_icmp .ge 29, 3) := by decide +kernel
theorem dX6_leadsTo_27 : decode cX6_leadsTo 27 = .ok (.aload_n 0, 1) := by decide +kernel
theorem dX6_leadsTo_28 : decode cX6_leadsTo 28 = .ok (.getfield 25, 3) := by decide +kernel
theorem dX6_leadsTo_31 : decode cX6_leadsTo 31 = .ok (.iload_n 3, 1) := by decide +kernel
theorem dX6_leadsTo_32 : decode cX6_leadsTo 32 = .ok (.bipush 100, 2) := by decide +kernel
theorem dX6_leadsTo_34 : decode cX6_leadsTo 34 = .ok (.isub, 1) := by decide +kernel
theorem dX6_leadsTo_35 : decode cX6_leadsTo 35 = .ok (.baload, 1) := by decide +kernel
theorem dX6_leadsTo_36 : decode cX6_leadsTo 36 = .ok (.ifCond .eq 15, 3) := by decide +kernel
theorem dX6_leadsTo_39 : decode cX6_leadsTo 39 = .ok (.aload_n 0, 1) := by decide +kernel
theorem dX6_leadsTo_40 : decode cX6_leadsTo 40 = .ok (.iload_n 3, 1) := by decide +kernel
theorem dX6_leadsTo_41 : decode cX6_leadsTo 41 = .ok (.bipush 100, 2) := by decide +kernel
theorem dX6_leadsTo_43 : decode cX6_leadsTo 43 = .ok (.isub, 1) := by decide +kernel
theorem dX6_leadsTo_44 : decode cX6_leadsTo 44 = .ok (.iload_n 1, 1) := by decide +kernel
theorem dX6_leadsTo_45 : decode cX6_leadsTo 45 = .ok (.invokevirtual 146, 3) := by decide +kernel
theorem dX6_leadsTo_48 : decode cX6_leadsTo 48 = .ok (.goto 4, 3) := by decide +kernel
theorem dX6_leadsTo_51 : decode cX6_leadsTo 51 = .ok (.iconst (-1), 1) := by decide +kernel
theorem dX6_leadsTo_52 : decode cX6_leadsTo 52 = .ok (.ireturn, 1) := by decide +kernel
theorem dX6_leadsTo_53 : decode cX6_leadsTo 53 = .ok (.iload_n 3, 1) := by decide +kernel
theorem dX6_leadsTo_54 : decode cX6_leadsTo 54 = .ok (.sipush 300, 3) := by decide +kernel
theorem dX6_leadsTo_57 : decode cX6_leadsTo 57 = .ok (.if_icmp .lt 16, 3) := by decide +kernel
theorem dX6_leadsTo_60 : decode cX6_leadsTo 60 = .ok (.aload_n 0, 1) := by decide +kernel
theorem dX6_leadsTo_61 : decode cX6_leadsTo 61 = .ok (.getfield 65, 3) := by decide +kernel
theorem dX6_leadsTo_64 : decode cX6_leadsTo 64 = .ok (.iload_n 3, 1) := by decide +kernel
theorem dX6_leadsTo_65 : decode cX6_leadsTo 65 = .ok (.sipush 300, 3) := by decide +kernel
theorem dX6_leadsTo_68 : decode cX6_leadsTo 68 = .ok (.isub, 1) := by decide +kernel
theorem dX6_leadsTo_69 : decode cX6_leadsTo 69 = .ok (.iaload, 1) := by decide +kernel
theorem dX6_leadsTo_70 : decode cX6_leadsTo 70 = .ok (.ifCond .ne 7, 3) := by decide +kernel
theorem dX6_leadsTo_73 : decode cX6_leadsTo 73 = .ok (.iconst (-1), 1) := by decide +kernel
theorem dX6_leadsTo_74 : decode cX6_leadsTo 74 = .ok (.goto 26, 3) := by decide +kernel
theorem dX6_leadsTo_77 : decode cX6_leadsTo 77 = .ok (.aload_n 0, 1) := by decide +kernel
theorem dX6_leadsTo_78 : decode cX6_leadsTo 78 = .ok (.getfield 62, 3) := by decide +kernel
theorem dX6_leadsTo_81 : decode cX6_leadsTo 81 = .ok (.iconst 4, 1) := by decide +kernel
theorem dX6_leadsTo_82 : decode cX6_leadsTo 82 = .ok (.iload_n 3, 1) := by decide +kernel
theorem dX6_leadsTo_83 : decode cX6_leadsTo 83 = .ok (.sipush 300, 3) := by decide +kernel
theorem dX6_leadsTo_86 : decode cX6_leadsTo 86 = .ok (.isub, 1) := by decide +kernel
theorem dX6_leadsTo_87 : decode cX6_leadsTo 87 = .ok (.imul, 1) := by decide +kernel
theorem dX6_leadsTo_88 : decode cX6_leadsTo 88 = .ok (.aload_n 0, 1) := by decide +kernel
theorem dX6_leadsTo_89 : decode cX6_leadsTo 89 = .ok (.getfield 68, 3) := by decide +kernel
theorem dX6_leadsTo_92 : decode cX6_leadsTo 92 = .ok (.iload_n 3, 1) := by decide +kernel
theorem dX6_leadsTo_93 : decode cX6_leadsTo 93 = .ok (.sipush 300, 3) := by decide +kernel
theorem dX6_leadsTo_96 : decode cX6_leadsTo 96 = .ok (.isub, 1) := by decide +kernel
theorem dX6_leadsTo_97 : decode cX6_leadsTo 97 = .ok (.iaload, 1) := by decide +kernel
theorem dX6_leadsTo_98 : decode cX6_leadsTo 98 = .ok (.iadd, 1) := by decide +kernel
theorem dX6_leadsTo_99 : decode cX6_leadsTo 99 = .ok (.iaload, 1) := by decide +kernel
theorem dX6_leadsTo_100 : decode cX6_leadsTo 100 = .ok (.ireturn, 1) := by decide +kernel
theorem dX6_wayText_0 : decode cX6_wayText 0 = .ok (.aload_n 0, 1) := by decide +kernel
theorem dX6_wayText_1 : decode cX6_wayText 1 = .ok (.getfield 7, 3) := by decide +kernel
theorem dX6_wayText_4 : decode cX6_wayText 4 = .ok (.bipush 8, 2) := by decide +kernel
theorem dX6_wayText_6 : decode cX6_wayText 6 = .ok (.iload_n 1, 1) := by decide +kernel
theorem dX6_wayText_7 : decode cX6_wayText 7 = .ok (.imul, 1) := by decide +kernel
theorem dX6_wayText_8 : decode cX6_wayText 8 = .ok (.iload_n 2, 1) := by decide +kernel
theorem dX6_wayText_9 : decode cX6_wayText 9 = .ok (.iadd, 1) := by decide +kernel
theorem dX6_wayText_10 : decode cX6_wayText 10 = .ok (.iaload, 1) := by decide +kernel
theorem dX6_wayText_11 : decode cX6_wayText 11 = .ok (.istore 4, 2) := by decide +kernel
theorem dX6_wayText_13 : decode cX6_wayText 13 = .ok (.iload 4, 2) := by decide +kernel
theorem dX6_wayText_15 : decode cX6_wayText 15 = .ok (.iconst (-1), 1) := by decide +kernel
theorem dX6_wayText_16 : decode cX6_wayText 16 = .ok (.if_icmp .ne 6, 3) := by decide +kernel
theorem dX6_wayText_19 : decode cX6_wayText 19 = .ok (.bipush 25, 2) := by decide +kernel
theorem dX6_wayText_21 : decode cX6_wayText 21 = .ok (.ireturn, 1) := by decide +kernel
theorem dX6_wayText_22 : decode cX6_wayText 22 = .ok (.iload 4, 2) := by decide +kernel
theorem dX6_wayText_24 : decode cX6_wayText 24 = .ok (.sipush 200, 3) := by decide +kernel
theorem dX6_wayText_27 : decode cX6_wayText 27 = .ok (.sipush 249, 3) := by decide +kernel
theorem dX6_wayText_30 : decode cX6_wayText 30 = .ok (.invokestatic 84, 3) := by decide +kernel
theorem dX6_wayText_33 : decode cX6_wayText 33 = .ok (.ifCond .eq 13, 3) := by decide +kernel
theorem dX6_wayText_36 : decode cX6_wayText 36 = .ok (.bipush 50, 2) := by decide +kernel
theorem dX6_wayText_38 : decode cX6_wayText 38 = .ok (.iload 4, 2) := by decide +kernel
theorem dX6_wayText_40 : decode cX6_wayText 40 = .ok (.iadd, 1) := by decide +kernel
theorem dX6_wayText_41 : decode cX6_wayText 41 = .ok (.sipush 200, 3) := by decide +kernel
theorem dX6_wayText_44 : decode cX6_wayText 44 = .ok (.isub, 1) := by decide +kernel
theorem dX6_wayText_45 : decode cX6_wayText 45 = .ok (.ireturn, 1) := by decide +kernel
theorem dX6_wayText_46 : decode cX6_wayText 46 = .ok (.iload 4, 2) := by decide +kernel
theorem dX6_wayText_48 : decode cX6_wayText 48 = .ok (.bipush 100, 2) := by decide +kernel
theorem dX6_wayText_50 : decode cX6_wayText 50 = .ok (.sipush 199, 3) := by decide +kernel
theorem dX6_wayText_53 : decode cX6_wayText 53 = .ok (.invokestatic 84, 3) := by decide +kernel
theorem dX6_wayText_56 : decode cX6_wayText 56 = .ok (.ifCond .eq 37, 3) := by decide +kernel
theorem dX6_wayText_59 : decode cX6_wayText 59 = .ok (.aload_n 0, 1) := by decide +kernel
theorem dX6_wayText_60 : decode cX6_wayText 60 = .ok (.getfield 25, 3) := by decide +kernel
theorem dX6_wayText_63 : decode cX6_wayText 63 = .ok (.iload 4, 2) := by decide +kernel
theorem dX6_wayText_65 : decode cX6_wayText 65 = .ok (.bipush 100, 2) := by decide +kernel
theorem dX6_wayText_67 : decode cX6_wayText 67 = .ok (.isub, 1) := by decide +kernel
theorem dX6_wayText_68 : decode cX6_wayText 68 = .ok (.baload, 1) := by decide +kernel
theorem dX6_wayText_69 : decode cX6_wayText 69 = .ok (.ifCond .ne 24, 3) := by decide +kernel
theorem dX6_wayText_72 : decode cX6_wayText 72 = .ok (.aload_n 0, 1) := by decide +kernel
theorem dX6_wayText_73 : decode cX6_wayText 73 = .ok (.getfield 29, 3) := by decide +kernel
theorem dX6_wayText_76 : decode cX6_wayText 76 = .ok (.iload 4, 2) := by decide +kernel
theorem dX6_wayText_78 : decode cX6_wayText 78 = .ok (.bipush 100, 2) := by decide +kernel
theorem dX6_wayText_80 : decode cX6_wayText 80 = .ok (.isub, 1) := by decide +kernel
theorem dX6_wayText_81 : decode cX6_wayText 81 = .ok (.baload, 1) := by decide +kernel
theorem dX6_wayText_82 : decode cX6_wayText 82 = .ok (.ifCond .eq 8, 3) := by decide +kernel
theorem dX6_wayText_85 : decode cX6_wayText 85 = .ok (.bipush 27, 2) := by decide +kernel
theorem dX6_wayText_87 : decode cX6_wayText 87 = .ok (.goto 5, 3) := by decide +kernel
theorem dX6_wayText_90 : decode cX6_wayText 90 = .ok (.bipush 26, 2) := by decide +kernel
theorem dX6_wayText_92 : decode cX6_wayText 92 = .ok (.ireturn, 1) := by decide +kernel
theorem dX6_wayText_93 : decode cX6_wayText 93 = .ok (.aload_n 0, 1) := by decide +kernel
theorem dX6_wayText_94 : decode cX6_wayText 94 = .ok (.iload_n 1, 1) := by decide +kernel
theorem dX6_wayText_95 : decode cX6_wayText 95 = .ok (.iload_n 2, 1) := by decide +kernel
theorem dX6_wayText_96 : decode cX6_wayText 96 = .ok (.invokevirtual 150, 3) := by decide +kernel
theorem dX6_wayText_99 : decode cX6_wayText 99 = .ok (.ifCond .ge 8, 3) := by decide +kernel
theorem dX6_wayText_102 : decode cX6_wayText 102 = .ok (.bipush 28, 2) := by decide +kernel
theorem dX6_wayText_104 : decode cX6_wayText 104 = .ok (.goto 24, 3) := by decide +kernel
theorem dX6_wayText_107 : decode cX6_wayText 107 = .ok (.iload_n 3, 1) := by decide +kernel
theorem dX6_wayText_108 : decode cX6_wayText 108 = .ok (.aload_n 0, 1) := by decide +kernel
theorem dX6_wayText_109 : decode cX6_wayText 109 = .ok (.getfield 13, 3) := by decide +kernel
theorem dX6_wayText_112 : decode cX6_wayText 112 = .ok (.bipush 8, 2) := by decide +kernel
theorem dX6_wayText_114 : decode cX6_wayText 114 = .ok (.iload_n 1, 1) := by decide +kernel
theorem dX6_wayText_115 : decode cX6_wayText 115 = .ok (.imul, 1) := by decide +kernel
theorem dX6_wayText_116 : decode cX6_wayText 116 = .ok (.iload_n 2, 1) := by decide +kernel
theorem dX6_wayText_117 : decode cX6_wayText 117 = .ok (.iadd, 1) := by decide +kernel
theorem dX6_wayText_118 : decode cX6_wayText 118 = .ok (.iaload, 1) := by decide +kernel
theorem dX6_wayText_119 : decode cX6_wayText 119 = .ok (.if_icmp .le 8, 3) := by decide +kernel
theorem dX6_wayText_122 : decode cX6_wayText 122 = .ok (.bipush 29, 2) := by decide +kernel
theorem dX6_wayText_124 : decode cX6_wayText 124 = .ok (.goto 4, 3) := by decide +kernel
theorem dX6_wayText_127 : decode cX6_wayText 127 = .ok (.iconst 0, 1) := by decide +kernel
theorem dX6_wayText_128 : decode cX6_wayText 128 = .ok (.ireturn, 1) := by decide +kernel
theorem dX6_tell_0 : decode cX6_tell 0 = .ok (.bipush 7, 2) := by decide +kernel
theorem dX6_tell_2 : decode cX6_tell 2 = .ok (.istore_n 3, 1) := by decide +kernel
theorem dX6_tell_3 : decode cX6_tell 3 = .ok (.iload_n 3, 1) := by decide +kernel
theorem dX6_tell_4 : decode cX6_tell 4 = .ok (.ifCond .le 33, 3) := by decide +kernel
theorem dX6_tell_7 : decode cX6_tell 7 = .ok (.aload_n 0, 1) := by decide +kernel
theorem dX6_tell_8 : decode cX6_tell 8 = .ok (.getfield 56, 3) := by decide +kernel
theorem dX6_tell_11 : decode cX6_tell 11 = .ok (.bipush 8, 2) := by decide +kernel
theorem dX6_tell_13 : decode cX6_tell 13 = .ok (.iload_n 1, 1) := by decide +kernel
theorem dX6_tell_14 : decode cX6_tell 14 = .ok (.imul, 1) := by decide +kernel
theorem dX6_tell_15 : decode cX6_tell 15 = .ok (.iload_n 3, 1) := by decide +kernel
theorem dX6_tell_16 : decode cX6_tell 16 = .ok (.iadd, 1) := by decide +kernel
theorem dX6_tell_17 : decode cX6_tell 17 = .ok (.aload_n 0, 1) := by decide +kernel
theorem dX6_tell_18 : decode cX6_tell 18 = .ok (.getfield 56, 3) := by decide +kernel
theorem dX6_tell_21 : decode cX6_tell 21 = .ok (.bipush 8, 2) := by decide +kernel
theorem dX6_tell_23 : decode cX6_tell 23 = .ok (.iload_n 1, 1) := by decide +kernel
theorem dX6_tell_24 : decode cX6_tell 24 = .ok (.imul, 1) := by decide +kernel
theorem dX6_tell_25 : decode cX6_tell 25 = .ok (.iload_n 3, 1) := by decide +kernel
theorem dX6_tell_26 : decode cX6_tell 26 = .ok (.iadd, 1) := by decide +kernel
theorem dX6_tell_27 : decode cX6_tell 27 = .ok (.iconst 1, 1) := by decide +kernel
theorem dX6_tell_28 : decode cX6_tell 28 = .ok (.isub, 1) := by decide +kernel
theorem dX6_tell_29 : decode cX6_tell 29 = .ok (.iaload, 1) := by decide +kernel
theorem dX6_tell_30 : decode cX6_tell 30 = .ok (.iastore, 1) := by decide +kernel
theorem dX6_tell_31 : decode cX6_tell 31 = .ok (.iinc 3 (-1), 3) := by decide +kernel
theorem dX6_tell_34 : decode cX6_tell 34 = .ok (.goto (-31), 3) := by decide +kernel
theorem dX6_tell_37 : decode cX6_tell 37 = .ok (.aload_n 0, 1) := by decide +kernel
theorem dX6_tell_38 : decode cX6_tell 38 = .ok (.getfield 56, 3) := by decide +kernel
theorem dX6_tell_41 : decode cX6_tell 41 = .ok (.bipush 8, 2) := by decide +kernel
theorem dX6_tell_43 : decode cX6_tell 43 = .ok (.iload_n 1, 1) := by decide +kernel
theorem dX6_tell_44 : decode cX6_tell 44 = .ok (.imul, 1) := by decide +kernel
theorem dX6_tell_45 : decode cX6_tell 45 = .ok (.iload_n 2, 1) := by decide +kernel
theorem dX6_tell_46 : decode cX6_tell 46 = .ok (.iastore, 1) := by decide +kernel
theorem dX6_tell_47 : decode cX6_tell 47 = .ok (.aload_n 0, 1) := by decide +kernel
theorem dX6_tell_48 : decode cX6_tell 48 = .ok (.getfield 59, 3) := by decide +kernel
theorem dX6_tell_51 : decode cX6_tell 51 = .ok (.iload_n 1, 1) := by decide +kernel
theorem dX6_tell_52 : decode cX6_tell 52 = .ok (.dup2, 1) := by decide +kernel
theorem dX6_tell_53 : decode cX6_tell 53 = .ok (.iaload, 1) := by decide +kernel
theorem dX6_tell_54 : decode cX6_tell 54 = .ok (.aload_n 0, 1) := by decide +kernel
theorem dX6_tell_55 : decode cX6_tell 55 = .ok (.getfield 59, 3) := by decide +kernel
theorem dX6_tell_58 : decode cX6_tell 58 = .ok (.iload_n 1, 1) := by decide +kernel
theorem dX6_tell_59 : decode cX6_tell 59 = .ok (.iaload, 1) := by decide +kernel
theorem dX6_tell_60 : decode cX6_tell 60 = .ok (.bipush 8, 2) := by decide +kernel
theorem dX6_tell_62 : decode cX6_tell 62 = .ok (.if_icmp .ge 7, 3) := by decide +kernel
theorem dX6_tell_65 : decode cX6_tell 65 = .ok (.iconst 1, 1) := by decide +kernel
theorem dX6_tell_66 : decode cX6_tell 66 = .ok (.goto 4, 3) := by decide +kernel
theorem dX6_tell_69 : decode cX6_tell 69 = .ok (.iconst 0, 1) := by decide +kernel
theorem dX6_tell_70 : decode cX6_tell 70 = .ok (.iadd, 1) := by decide +kernel
theorem dX6_tell_71 : decode cX6_tell 71 = .ok (.iastore, 1) := by decide +kernel
theorem dX6_tell_72 : decode cX6_tell 72 = .ok (.return_, 1) := by decide +kernel
theorem dX6_tellIn_0 : decode cX6_tellIn 0 = .ok (.iconst 0, 1) := by decide +kernel
theorem dX6_tellIn_1 : decode cX6_tellIn 1 = .ok (.istore 4, 2) := by decide +kernel
theorem dX6_tellIn_3 : decode cX6_tellIn 3 = .ok (.iload 4, 2) := by decide +kernel
theorem dX6_tellIn_5 : decode cX6_tellIn 5 = .ok (.aload_n 0, 1) := by decide +kernel
theorem dX6_tellIn_6 : decode cX6_tellIn 6 = .ok (.getfield 94, 3) := by decide +kernel
theorem dX6_tellIn_9 : decode cX6_tellIn 9 = .ok (.if_icmp .ge 36, 3) := by decide +kernel
theorem dX6_tellIn_12 : decode cX6_tellIn 12 = .ok (.aload_n 0, 1) := by decide +kernel
theorem dX6_tellIn_13 : decode cX6_tellIn 13 = .ok (.getfield 47, 3) := by decide +kernel
theorem dX6_tellIn_16 : decode cX6_tellIn 16 = .ok (.iload 4, 2) := by decide +kernel
theorem dX6_tellIn_18 : decode cX6_tellIn 18 = .ok (.iaload, 1) := by decide +kernel
theorem dX6_tellIn_19 : decode cX6_tellIn 19 = .ok (.iload_n 1, 1) := by decide +kernel
theorem dX6_tellIn_20 : decode cX6_tellIn 20 = .ok (.if_icmp .ne 19, 3) := by decide +kernel
theorem dX6_tellIn_23 : decode cX6_tellIn 23 = .ok (.iload_n 2, 1) := by decide +kernel
theorem dX6_tellIn_24 : decode cX6_tellIn 24 = .ok (.iload 4, 2) := by decide +kernel
theorem dX6_tellIn_26 : decode cX6_tellIn 26 = .ok (.ishr, 1) := by decide +kernel
theorem dX6_tellIn_27 : decode cX6_tellIn 27 = .ok (.iconst 1, 1) := by decide +kernel
theorem dX6_tellIn_28 : decode cX6_tellIn 28 = .ok (.iand, 1) := by decide +kernel
theorem dX6_tellIn_29 : decode cX6_tellIn 29 = .ok (.ifCond .ne 10, 3) := by decide +kernel
theorem dX6_tellIn_32 : decode cX6_tellIn 32 = .ok (.aload_n 0, 1) := by decide +kernel
theorem dX6_tellIn_33 : decode cX6_tellIn 33 = .ok (.iload 4, 2) := by decide +kernel
theorem dX6_tellIn_35 : decode cX6_tellIn 35 = .ok (.iload_n 3, 1) := by decide +kernel
theorem dX6_tellIn_36 : decode cX6_tellIn 36 = .ok (.invokevirtual 153, 3) := by decide +kernel
theorem dX6_tellIn_39 : decode cX6_tellIn 39 = .ok (.iinc 4 1, 3) := by decide +kernel
theorem dX6_tellIn_42 : decode cX6_tellIn 42 = .ok (.goto (-39), 3) := by decide +kernel
theorem dX6_tellIn_45 : decode cX6_tellIn 45 = .ok (.return_, 1) := by decide +kernel
theorem dX6_move_0 : decode cX6_move 0 = .ok (.aload_n 0, 1) := by decide +kernel
theorem dX6_move_1 : decode cX6_move 1 = .ok (.iload_n 3, 1) := by decide +kernel
theorem dX6_move_2 : decode cX6_move 2 = .ok (.iload 4, 2) := by decide +kernel
theorem dX6_move_4 : decode cX6_move 4 = .ok (.invokevirtual 150, 3) := by decide +kernel
theorem dX6_move_7 : decode cX6_move 7 = .ok (.istore 5, 2) := by decide +kernel
theorem dX6_move_9 : decode cX6_move 9 = .ok (.aload_n 0, 1) := by decide +kernel
theorem dX6_move_10 : decode cX6_move 10 = .ok (.getfield 7, 3) := by decide +kernel
theorem dX6_move_13 : decode cX6_move 13 = .ok (.bipush 8, 2) := by decide +kernel
theorem dX6_move_15 : decode cX6_move 15 = .ok (.iload_n 3, 1) := by decide +kernel
theorem dX6_move_16 : decode cX6_move 16 = .ok (.imul, 1) := by decide +kernel
theorem dX6_move_17 : decode cX6_move 17 = .ok (.iload 4, 2) := by decide +kernel
theorem dX6_move_19 : decode cX6_move 19 = .ok (.iadd, 1) := by decide +kernel
theorem dX6_move_20 : decode cX6_move 20 = .ok (.iaload, 1) := by decide +kernel
theorem dX6_move_21 : decode cX6_move 21 = .ok (.istore 6, 2) := by decide +kernel
theorem dX6_move_23 : decode cX6_move 23 = .ok (.iload 6, 2) := by decide +kernel
theorem dX6_move_25 : decode cX6_move 25 = .ok (.sipush 300, 3) := by decide +kernel
theorem dX6_move_28 : decode cX6_move 28 = .ok (.if_icmp .lt 39, 3) := by decide +kernel
theorem dX6_move_31 : decode cX6_move 31 = .ok (.aload_n 0, 1) := by decide +kernel
theorem dX6_move_32 : decode cX6_move 32 = .ok (.getfield 68, 3) := by decide +kernel
theorem dX6_move_35 : decode cX6_move 35 = .ok (.iload 6, 2) := by decide +kernel
theorem dX6_move_37 : decode cX6_move 37 = .ok (.sipush 300, 3) := by decide +kernel
theorem dX6_move_40 : decode cX6_move 40 = .ok (.isub, 1) := by decide +kernel
theorem dX6_move_41 : decode cX6_move 41 = .ok (.aload_n 0, 1) := by decide +kernel
theorem dX6_move_42 : decode cX6_move 42 = .ok (.getfield 68, 3) := by decide +kernel
theorem dX6_move_45 : decode cX6_move 45 = .ok (.iload 6, 2) := by decide +kernel
theorem dX6_move_47 : decode cX6_move 47 = .ok (.sipush 300, 3) := by decide +kernel
theorem dX6_move_50 : decode cX6_move 50 = .ok (.isub, 1) := by decide +kernel
theorem dX6_move_51 : decode cX6_move 51 = .ok (.iaload, 1) := by decide +kernel
theorem dX6_move_52 : decode cX6_move 52 = .ok (.iconst 1, 1) := by decide +kernel
theorem dX6_move_53 : decode cX6_move 53 = .ok (.iadd, 1) := by decide +kernel
theorem dX6_move_54 : decode cX6_move 54 = .ok (.aload_n 0, 1) := by decide +kernel
theorem dX6_move_55 : decode cX6_move 55 = .ok (.getfield 65, 3) := by decide +kernel
theorem dX6_move_58 : decode cX6_move 58 = .ok (.iload 6, 2) := by decide +kernel
theorem dX6_move_60 : decode cX6_move 60 = .ok (.sipush 300, 3) := by decide +kernel
theorem dX6_move_63 : decode cX6_move 63 = .ok (.isub, 1) := by decide +kernel
theorem dX6_move_64 : decode cX6_move 64 = .ok (.iaload, 1) := by decide +kernel
theorem dX6_move_65 : decode cX6_move 65 = .ok (.irem, 1) := by decide +kernel
theorem dX6_move_66 : decode cX6_move 66 = .ok (.iastore, 1) := by decide +kernel
theorem dX6_move_67 : decode cX6_move 67 = .ok (.iconst 0, 1) := by decide +kernel
theorem dX6_move_68 : decode cX6_move 68 = .ok (.istore 7, 2) := by decide +kernel
theorem dX6_move_70 : decode cX6_move 70 = .ok (.iload 7, 2) := by decide +kernel
theorem dX6_move_72 : decode cX6_move 72 = .ok (.aload_n 0, 1) := by decide +kernel
theorem dX6_move_73 : decode cX6_move 73 = .ok (.getfield 94, 3) := by decide +kernel
theorem dX6_move_76 : decode cX6_move 76 = .ok (.if_icmp .ge 58, 3) := by decide +kernel
theorem dX6_move_79 : decode cX6_move 79 = .ok (.iload_n 1, 1) := by decide +kernel
theorem dX6_move_80 : decode cX6_move 80 = .ok (.iload 7, 2) := by decide +kernel
theorem dX6_move_82 : decode cX6_move 82 = .ok (.ishr, 1) := by decide +kernel
theorem dX6_move_83 : decode cX6_move 83 = .ok (.iconst 1, 1) := by decide +kernel
theorem dX6_move_84 : decode cX6_move 84 = .ok (.iand, 1) := by decide +kernel
theorem dX6_move_85 : decode cX6_move 85 = .ok (.iconst 1, 1) := by decide +kernel
theorem dX6_move_86 : decode cX6_move 86 = .ok (.if_icmp .ne 42, 3) := by decide +kernel
theorem dX6_move_89 : decode cX6_move 89 = .ok (.aload_n 0, 1) := by decide +kernel
theorem dX6_move_90 : decode cX6_move 90 = .ok (.iload_n 3, 1) := by decide +kernel
theorem dX6_move_91 : decode cX6_move 91 = .ok (.iload_n 1, 1) := by decide +kernel
theorem dX6_move_92 : decode cX6_move 92 = .ok (.sipush 1000, 3) := by decide +kernel
theorem dX6_move_95 : decode cX6_move 95 = .ok (.iload 7, 2) := by decide +kernel
theorem dX6_move_97 : decode cX6_move 97 = .ok (.imul, 1) := by decide +kernel
theorem dX6_move_98 : decode cX6_move 98 = .ok (.bipush 10, 2) := by decide +kernel
theorem dX6_move_100 : decode cX6_move 100 = .ok (.iload 4, 2) := by decide +kernel
theorem dX6_move_102 : decode cX6_move 102 = .ok (.imul, 1) := by decide +kernel
theorem dX6_move_103 : decode cX6_move 103 = .ok (.iadd, 1) := by decide +kernel
theorem dX6_move_104 : decode cX6_move 104 = .ok (.invokevirtual 157, 3) := by decide +kernel
theorem dX6_move_107 : decode cX6_move 107 = .ok (.aload_n 0, 1) := by decide +kernel
theorem dX6_move_108 : decode cX6_move 108 = .ok (.iload 5, 2) := by decide +kernel
theorem dX6_move_110 : decode cX6_move 110 = .ok (.iload_n 1, 1) := by decide +kernel
theorem dX6_move_111 : decode cX6_move 111 = .ok (.sipush 1000, 3) := by decide +kernel
theorem dX6_move_114 : decode cX6_move 114 = .ok (.iload 7, 2) := by decide +kernel
theorem dX6_move_116 : decode cX6_move 116 = .ok (.imul, 1) := by decide +kernel
theorem dX6_move_117 : decode cX6_move 117 = .ok (.bipush 10, 2) := by decide +kernel
theorem dX6_move_119 : decode cX6_move 119 = .ok (.iload 4, 2) := by decide +kernel
theorem dX6_move_121 : decode cX6_move 121 = .ok (.imul, 1) := by decide +kernel
theorem dX6_move_122 : decode cX6_move 122 = .ok (.iadd, 1) := by decide +kernel
theorem dX6_move_123 : decode cX6_move 123 = .ok (.iconst 1, 1) := by decide +kernel
theorem dX6_move_124 : decode cX6_move 124 = .ok (.iadd, 1) := by decide +kernel
theorem dX6_move_125 : decode cX6_move 125 = .ok (.invokevirtual 157, 3) := by decide +kernel
theorem dX6_move_128 : decode cX6_move 128 = .ok (.iinc 7 1, 3) := by decide +kernel
theorem dX6_move_131 : decode cX6_move 131 = .ok (.goto (-61), 3) := by decide +kernel
theorem dX6_move_134 : decode cX6_move 134 = .ok (.iconst 0, 1) := by decide +kernel
theorem dX6_move_135 : decode cX6_move 135 = .ok (.istore 7, 2) := by decide +kernel
theorem dX6_move_137 : decode cX6_move 137 = .ok (.iload 7, 2) := by decide +kernel
theorem dX6_move_139 : decode cX6_move 139 = .ok (.aload_n 0, 1) := by decide +kernel
theorem dX6_move_140 : decode cX6_move 140 = .ok (.getfield 94, 3) := by decide +kernel
theorem dX6_move_143 : decode cX6_move 143 = .ok (.if_icmp .ge 36, 3) := by decide +kernel
theorem dX6_move_146 : decode cX6_move 146 = .ok (.iload_n 1, 1) := by decide +kernel
theorem dX6_move_147 : decode cX6_move 147 = .ok (.iload 7, 2) := by decide +kernel
theorem dX6_move_149 : decode cX6_move 149 = .ok (.ishr, 1) := by decide +kernel
theorem dX6_move_150 : decode cX6_move 150 = .ok (.iconst 1, 1) := by decide +kernel
theorem dX6_move_151 : decode cX6_move 151 = .ok (.iand, 1) := by decide +kernel
theorem dX6_move_152 : decode cX6_move 152 = .ok (.iconst 1, 1) := by decide +kernel
theorem dX6_move_153 : decode cX6_move 153 = .ok (.if_icmp .ne 20, 3) := by decide +kernel
theorem dX6_move_156 : decode cX6_move 156 = .ok (.aload_n 0, 1) := by decide +kernel
theorem dX6_move_157 : decode cX6_move 157 = .ok (.getfield 53, 3) := by decide +kernel
end
section
theorem dX6_move_160 : decode cX6_move 160 = .ok (.iload 7, 2) := by decide +kernel
theorem dX6_move_162 : decode cX6_move 162 = .ok (.iload_n 3, 1) := by decide +kernel
theorem dX6_move_163 : decode cX6_move 163 = .ok (.iastore, 1) := by decide +kernel
theorem dX6_move_164 : decode cX6_move 164 = .ok (.aload_n 0, 1) := by decide +kernel
theorem dX6_move_165 : decode cX6_move 165 = .ok (.getfield 47, 3) := by decide +kernel
theorem dX6_move_168 : decode cX6_move 168 = .ok (.iload 7, 2) := by decide +kernel
theorem dX6_move_170 : decode cX6_move 170 = .ok (.iload 5, 2) := by decide +kernel
theorem dX6_move_172 : decode cX6_move 172 = .ok (.iastore, 1) := by decide +kernel
theorem dX6_move_173 : decode cX6_move 173 = .ok (.iinc 7 1, 3) := by decide +kernel
theorem dX6_move_176 : decode cX6_move 176 = .ok (.goto (-39), 3) := by decide +kernel
theorem dX6_move_179 : decode cX6_move 179 = .ok (.iload_n 2, 1) := by decide +kernel
theorem dX6_move_180 : decode cX6_move 180 = .ok (.ifCond .lt 11, 3) := by decide +kernel
theorem dX6_move_183 : decode cX6_move 183 = .ok (.aload_n 0, 1) := by decide +kernel
theorem dX6_move_184 : decode cX6_move 184 = .ok (.getfield 38, 3) := by decide +kernel
theorem dX6_move_187 : decode cX6_move 187 = .ok (.iload_n 2, 1) := by decide +kernel
theorem dX6_move_188 : decode cX6_move 188 = .ok (.iload 5, 2) := by decide +kernel
theorem dX6_move_190 : decode cX6_move 190 = .ok (.iastore, 1) := by decide +kernel
theorem dX6_move_191 : decode cX6_move 191 = .ok (.iload 5, 2) := by decide +kernel
theorem dX6_move_193 : decode cX6_move 193 = .ok (.ireturn, 1) := by decide +kernel
theorem dX6_insideOf_0 : decode cX6_insideOf 0 = .ok (.iconst 0, 1) := by decide +kernel
theorem dX6_insideOf_1 : decode cX6_insideOf 1 = .ok (.istore_n 2, 1) := by decide +kernel
theorem dX6_insideOf_2 : decode cX6_insideOf 2 = .ok (.iconst 0, 1) := by decide +kernel
theorem dX6_insideOf_3 : decode cX6_insideOf 3 = .ok (.istore_n 3, 1) := by decide +kernel
theorem dX6_insideOf_4 : decode cX6_insideOf 4 = .ok (.iload_n 3, 1) := by decide +kernel
theorem dX6_insideOf_5 : decode cX6_insideOf 5 = .ok (.aload_n 0, 1) := by decide +kernel
theorem dX6_insideOf_6 : decode cX6_insideOf 6 = .ok (.getfield 94, 3) := by decide +kernel
theorem dX6_insideOf_9 : decode cX6_insideOf 9 = .ok (.if_icmp .ge 29, 3) := by decide +kernel
theorem dX6_insideOf_12 : decode cX6_insideOf 12 = .ok (.iload_n 2, 1) := by decide +kernel
theorem dX6_insideOf_13 : decode cX6_insideOf 13 = .ok (.aload_n 0, 1) := by decide +kernel
theorem dX6_insideOf_14 : decode cX6_insideOf 14 = .ok (.getfield 50, 3) := by decide +kernel
theorem dX6_insideOf_17 : decode cX6_insideOf 17 = .ok (.iload_n 3, 1) := by decide +kernel
theorem dX6_insideOf_18 : decode cX6_insideOf 18 = .ok (.iaload, 1) := by decide +kernel
theorem dX6_insideOf_19 : decode cX6_insideOf 19 = .ok (.iload_n 1, 1) := by decide +kernel
theorem dX6_insideOf_20 : decode cX6_insideOf 20 = .ok (.if_icmp .ne 9, 3) := by decide +kernel
theorem dX6_insideOf_23 : decode cX6_insideOf 23 = .ok (.iconst 1, 1) := by decide +kernel
theorem dX6_insideOf_24 : decode cX6_insideOf 24 = .ok (.iload_n 3, 1) := by decide +kernel
theorem dX6_insideOf_25 : decode cX6_insideOf 25 = .ok (.ishl, 1) := by decide +kernel
theorem dX6_insideOf_26 : decode cX6_insideOf 26 = .ok (.goto 4, 3) := by decide +kernel
theorem dX6_insideOf_29 : decode cX6_insideOf 29 = .ok (.iconst 0, 1) := by decide +kernel
theorem dX6_insideOf_30 : decode cX6_insideOf 30 = .ok (.ior, 1) := by decide +kernel
theorem dX6_insideOf_31 : decode cX6_insideOf 31 = .ok (.istore_n 2, 1) := by decide +kernel
theorem dX6_insideOf_32 : decode cX6_insideOf 32 = .ok (.iinc 3 1, 3) := by decide +kernel
theorem dX6_insideOf_35 : decode cX6_insideOf 35 = .ok (.goto (-31), 3) := by decide +kernel
theorem dX6_insideOf_38 : decode cX6_insideOf 38 = .ok (.iload_n 2, 1) := by decide +kernel
theorem dX6_insideOf_39 : decode cX6_insideOf 39 = .ok (.ireturn, 1) := by decide +kernel
theorem dX6_goBy_0 : decode cX6_goBy 0 = .ok (.aload_n 0, 1) := by decide +kernel
theorem dX6_goBy_1 : decode cX6_goBy 1 = .ok (.getfield 50, 3) := by decide +kernel
theorem dX6_goBy_4 : decode cX6_goBy 4 = .ok (.iload_n 1, 1) := by decide +kernel
theorem dX6_goBy_5 : decode cX6_goBy 5 = .ok (.iaload, 1) := by decide +kernel
theorem dX6_goBy_6 : decode cX6_goBy 6 = .ok (.istore_n 3, 1) := by decide +kernel
theorem dX6_goBy_7 : decode cX6_goBy 7 = .ok (.iload_n 3, 1) := by decide +kernel
theorem dX6_goBy_8 : decode cX6_goBy 8 = .ok (.ifCond .lt 30, 3) := by decide +kernel
theorem dX6_goBy_11 : decode cX6_goBy 11 = .ok (.aload_n 0, 1) := by decide +kernel
theorem dX6_goBy_12 : decode cX6_goBy 12 = .ok (.getfield 32, 3) := by decide +kernel
theorem dX6_goBy_15 : decode cX6_goBy 15 = .ok (.iload_n 3, 1) := by decide +kernel
theorem dX6_goBy_16 : decode cX6_goBy 16 = .ok (.iaload, 1) := by decide +kernel
theorem dX6_goBy_17 : decode cX6_goBy 17 = .ok (.iconst 3, 1) := by decide +kernel
theorem dX6_goBy_18 : decode cX6_goBy 18 = .ok (.if_icmp .ne 20, 3) := by decide +kernel
theorem dX6_goBy_21 : decode cX6_goBy 21 = .ok (.aload_n 0, 1) := by decide +kernel
theorem dX6_goBy_22 : decode cX6_goBy 22 = .ok (.getfield 44, 3) := by decide +kernel
theorem dX6_goBy_25 : decode cX6_goBy 25 = .ok (.iload_n 3, 1) := by decide +kernel
theorem dX6_goBy_26 : decode cX6_goBy 26 = .ok (.baload, 1) := by decide +kernel
theorem dX6_goBy_27 : decode cX6_goBy 27 = .ok (.ifCond .eq 8, 3) := by decide +kernel
theorem dX6_goBy_30 : decode cX6_goBy 30 = .ok (.bipush (-21), 2) := by decide +kernel
theorem dX6_goBy_32 : decode cX6_goBy 32 = .ok (.goto 5, 3) := by decide +kernel
theorem dX6_goBy_35 : decode cX6_goBy 35 = .ok (.bipush (-24), 2) := by decide +kernel
theorem dX6_goBy_37 : decode cX6_goBy 37 = .ok (.ireturn, 1) := by decide +kernel
theorem dX6_goBy_38 : decode cX6_goBy 38 = .ok (.aload_n 0, 1) := by decide +kernel
theorem dX6_goBy_39 : decode cX6_goBy 39 = .ok (.aload_n 0, 1) := by decide +kernel
theorem dX6_goBy_40 : decode cX6_goBy 40 = .ok (.getfield 47, 3) := by decide +kernel
theorem dX6_goBy_43 : decode cX6_goBy 43 = .ok (.iload_n 1, 1) := by decide +kernel
theorem dX6_goBy_44 : decode cX6_goBy 44 = .ok (.iaload, 1) := by decide +kernel
theorem dX6_goBy_45 : decode cX6_goBy 45 = .ok (.iload_n 2, 1) := by decide +kernel
theorem dX6_goBy_46 : decode cX6_goBy 46 = .ok (.iload_n 3, 1) := by decide +kernel
theorem dX6_goBy_47 : decode cX6_goBy 47 = .ok (.ifCond .ge 7, 3) := by decide +kernel
theorem dX6_goBy_50 : decode cX6_goBy 50 = .ok (.iconst 0, 1) := by decide +kernel
theorem dX6_goBy_51 : decode cX6_goBy 51 = .ok (.goto 9, 3) := by decide +kernel
theorem dX6_goBy_54 : decode cX6_goBy 54 = .ok (.aload_n 0, 1) := by decide +kernel
theorem dX6_goBy_55 : decode cX6_goBy 55 = .ok (.getfield 35, 3) := by decide +kernel
theorem dX6_goBy_58 : decode cX6_goBy 58 = .ok (.iload_n 3, 1) := by decide +kernel
theorem dX6_goBy_59 : decode cX6_goBy 59 = .ok (.iaload, 1) := by decide +kernel
theorem dX6_goBy_60 : decode cX6_goBy 60 = .ok (.invokevirtual 161, 3) := by decide +kernel
theorem dX6_goBy_63 : decode cX6_goBy 63 = .ok (.istore 4, 2) := by decide +kernel
theorem dX6_goBy_65 : decode cX6_goBy 65 = .ok (.iload 4, 2) := by decide +kernel
theorem dX6_goBy_67 : decode cX6_goBy 67 = .ok (.ifCond .le 7, 3) := by decide +kernel
theorem dX6_goBy_70 : decode cX6_goBy 70 = .ok (.iload 4, 2) := by decide +kernel
theorem dX6_goBy_72 : decode cX6_goBy 72 = .ok (.ineg, 1) := by decide +kernel
theorem dX6_goBy_73 : decode cX6_goBy 73 = .ok (.ireturn, 1) := by decide +kernel
theorem dX6_goBy_74 : decode cX6_goBy 74 = .ok (.aload_n 0, 1) := by decide +kernel
theorem dX6_goBy_75 : decode cX6_goBy 75 = .ok (.iload_n 3, 1) := by decide +kernel
theorem dX6_goBy_76 : decode cX6_goBy 76 = .ok (.ifCond .ge 9, 3) := by decide +kernel
theorem dX6_goBy_79 : decode cX6_goBy 79 = .ok (.iconst 1, 1) := by decide +kernel
theorem dX6_goBy_80 : decode cX6_goBy 80 = .ok (.iload_n 1, 1) := by decide +kernel
theorem dX6_goBy_81 : decode cX6_goBy 81 = .ok (.ishl, 1) := by decide +kernel
theorem dX6_goBy_82 : decode cX6_goBy 82 = .ok (.goto 8, 3) := by decide +kernel
theorem dX6_goBy_85 : decode cX6_goBy 85 = .ok (.aload_n 0, 1) := by decide +kernel
theorem dX6_goBy_86 : decode cX6_goBy 86 = .ok (.iload_n 3, 1) := by decide +kernel
theorem dX6_goBy_87 : decode cX6_goBy 87 = .ok (.invokevirtual 164, 3) := by decide +kernel
theorem dX6_goBy_90 : decode cX6_goBy 90 = .ok (.iload_n 3, 1) := by decide +kernel
theorem dX6_goBy_91 : decode cX6_goBy 91 = .ok (.aload_n 0, 1) := by decide +kernel
theorem dX6_goBy_92 : decode cX6_goBy 92 = .ok (.getfield 47, 3) := by decide +kernel
theorem dX6_goBy_95 : decode cX6_goBy 95 = .ok (.iload_n 1, 1) := by decide +kernel
theorem dX6_goBy_96 : decode cX6_goBy 96 = .ok (.iaload, 1) := by decide +kernel
theorem dX6_goBy_97 : decode cX6_goBy 97 = .ok (.iload_n 2, 1) := by decide +kernel
theorem dX6_goBy_98 : decode cX6_goBy 98 = .ok (.invokevirtual 167, 3) := by decide +kernel
theorem dX6_goBy_101 : decode cX6_goBy 101 = .ok (.ireturn, 1) := by decide +kernel
theorem dX6_go_0 : decode cX6_go 0 = .ok (.aload_n 0, 1) := by decide +kernel
theorem dX6_go_1 : decode cX6_go 1 = .ok (.iconst 0, 1) := by decide +kernel
theorem dX6_go_2 : decode cX6_go 2 = .ok (.putfield 77, 3) := by decide +kernel
theorem dX6_go_5 : decode cX6_go 5 = .ok (.aload_n 0, 1) := by decide +kernel
theorem dX6_go_6 : decode cX6_go 6 = .ok (.iload_n 1, 1) := by decide +kernel
theorem dX6_go_7 : decode cX6_go 7 = .ok (.invokevirtual 123, 3) := by decide +kernel
theorem dX6_go_10 : decode cX6_go 10 = .ok (.ifCond .eq 22, 3) := by decide +kernel
theorem dX6_go_13 : decode cX6_go 13 = .ok (.iload_n 2, 1) := by decide +kernel
theorem dX6_go_14 : decode cX6_go 14 = .ok (.iconst 0, 1) := by decide +kernel
theorem dX6_go_15 : decode cX6_go 15 = .ok (.bipush 7, 2) := by decide +kernel
theorem dX6_go_17 : decode cX6_go 17 = .ok (.invokestatic 84, 3) := by decide +kernel
theorem dX6_go_20 : decode cX6_go 20 = .ok (.ifCond .eq 12, 3) := by decide +kernel
theorem dX6_go_23 : decode cX6_go 23 = .ok (.aload_n 0, 1) := by decide +kernel
theorem dX6_go_24 : decode cX6_go 24 = .ok (.iload_n 1, 1) := by decide +kernel
theorem dX6_go_25 : decode cX6_go 25 = .ok (.iload_n 2, 1) := by decide +kernel
theorem dX6_go_26 : decode cX6_go 26 = .ok (.invokevirtual 171, 3) := by decide +kernel
theorem dX6_go_29 : decode cX6_go 29 = .ok (.goto 4, 3) := by decide +kernel
theorem dX6_go_32 : decode cX6_go 32 = .ok (.iconst (-1), 1) := by decide +kernel
theorem dX6_go_33 : decode cX6_go 33 = .ok (.ireturn, 1) := by decide +kernel
theorem dX6_push_0 : decode cX6_push 0 = .ok (.aload_n 0, 1) := by decide +kernel
theorem dX6_push_1 : decode cX6_push 1 = .ok (.iconst 0, 1) := by decide +kernel
theorem dX6_push_2 : decode cX6_push 2 = .ok (.putfield 77, 3) := by decide +kernel
theorem dX6_push_5 : decode cX6_push 5 = .ok (.aload_n 0, 1) := by decide +kernel
theorem dX6_push_6 : decode cX6_push 6 = .ok (.iload_n 1, 1) := by decide +kernel
theorem dX6_push_7 : decode cX6_push 7 = .ok (.invokevirtual 123, 3) := by decide +kernel
theorem dX6_push_10 : decode cX6_push 10 = .ok (.ifCond .eq 21, 3) := by decide +kernel
theorem dX6_push_13 : decode cX6_push 13 = .ok (.aload_n 0, 1) := by decide +kernel
theorem dX6_push_14 : decode cX6_push 14 = .ok (.iload_n 2, 1) := by decide +kernel
theorem dX6_push_15 : decode cX6_push 15 = .ok (.invokevirtual 111, 3) := by decide +kernel
theorem dX6_push_18 : decode cX6_push 18 = .ok (.ifCond .eq 13, 3) := by decide +kernel
theorem dX6_push_21 : decode cX6_push 21 = .ok (.iload_n 3, 1) := by decide +kernel
theorem dX6_push_22 : decode cX6_push 22 = .ok (.iconst 0, 1) := by decide +kernel
theorem dX6_push_23 : decode cX6_push 23 = .ok (.bipush 7, 2) := by decide +kernel
theorem dX6_push_25 : decode cX6_push 25 = .ok (.invokestatic 84, 3) := by decide +kernel
theorem dX6_push_28 : decode cX6_push 28 = .ok (.ifCond .ne 5, 3) := by decide +kernel
theorem dX6_push_31 : decode cX6_push 31 = .ok (.iconst (-1), 1) := by decide +kernel
theorem dX6_push_32 : decode cX6_push 32 = .ok (.ireturn, 1) := by decide +kernel
theorem dX6_push_33 : decode cX6_push 33 = .ok (.aload_n 0, 1) := by decide +kernel
theorem dX6_push_34 : decode cX6_push 34 = .ok (.iload_n 1, 1) := by decide +kernel
theorem dX6_push_35 : decode cX6_push 35 = .ok (.iload_n 2, 1) := by decide +kernel
theorem dX6_push_36 : decode cX6_push 36 = .ok (.invokevirtual 129, 3) := by decide +kernel
theorem dX6_push_39 : decode cX6_push 39 = .ok (.ifCond .ne 6, 3) := by decide +kernel
theorem dX6_push_42 : decode cX6_push 42 = .ok (.bipush (-10), 2) := by decide +kernel
theorem dX6_push_44 : decode cX6_push 44 = .ok (.ireturn, 1) := by decide +kernel
theorem dX6_push_45 : decode cX6_push 45 = .ok (.aload_n 0, 1) := by decide +kernel
theorem dX6_push_46 : decode cX6_push 46 = .ok (.getfield 32, 3) := by decide +kernel
theorem dX6_push_49 : decode cX6_push 49 = .ok (.iload_n 2, 1) := by decide +kernel
theorem dX6_push_50 : decode cX6_push 50 = .ok (.iaload, 1) := by decide +kernel
theorem dX6_push_51 : decode cX6_push 51 = .ok (.ifCond .eq 12, 3) := by decide +kernel
theorem dX6_push_54 : decode cX6_push 54 = .ok (.aload_n 0, 1) := by decide +kernel
theorem dX6_push_55 : decode cX6_push 55 = .ok (.getfield 41, 3) := by decide +kernel
theorem dX6_push_58 : decode cX6_push 58 = .ok (.iload_n 2, 1) := by decide +kernel
theorem dX6_push_59 : decode cX6_push 59 = .ok (.iaload, 1) := by decide +kernel
theorem dX6_push_60 : decode cX6_push 60 = .ok (.ifCond .lt 6, 3) := by decide +kernel
theorem dX6_push_63 : decode cX6_push 63 = .ok (.bipush (-30), 2) := by decide +kernel
theorem dX6_push_65 : decode cX6_push 65 = .ok (.ireturn, 1) := by decide +kernel
theorem dX6_push_66 : decode cX6_push 66 = .ok (.aload_n 0, 1) := by decide +kernel
theorem dX6_push_67 : decode cX6_push 67 = .ok (.getfield 50, 3) := by decide +kernel
theorem dX6_push_70 : decode cX6_push 70 = .ok (.iload_n 1, 1) := by decide +kernel
theorem dX6_push_71 : decode cX6_push 71 = .ok (.iaload, 1) := by decide +kernel
theorem dX6_push_72 : decode cX6_push 72 = .ok (.ifCond .lt 6, 3) := by decide +kernel
theorem dX6_push_75 : decode cX6_push 75 = .ok (.bipush (-20), 2) := by decide +kernel
theorem dX6_push_77 : decode cX6_push 77 = .ok (.ireturn, 1) := by decide +kernel
theorem dX6_push_78 : decode cX6_push 78 = .ok (.aload_n 0, 1) := by decide +kernel
theorem dX6_push_79 : decode cX6_push 79 = .ok (.aload_n 0, 1) := by decide +kernel
theorem dX6_push_80 : decode cX6_push 80 = .ok (.getfield 47, 3) := by decide +kernel
theorem dX6_push_83 : decode cX6_push 83 = .ok (.iload_n 1, 1) := by decide +kernel
theorem dX6_push_84 : decode cX6_push 84 = .ok (.iaload, 1) := by decide +kernel
theorem dX6_push_85 : decode cX6_push 85 = .ok (.iload_n 3, 1) := by decide +kernel
theorem dX6_push_86 : decode cX6_push 86 = .ok (.aload_n 0, 1) := by decide +kernel
theorem dX6_push_87 : decode cX6_push 87 = .ok (.getfield 35, 3) := by decide +kernel
theorem dX6_push_90 : decode cX6_push 90 = .ok (.iload_n 2, 1) := by decide +kernel
theorem dX6_push_91 : decode cX6_push 91 = .ok (.iaload, 1) := by decide +kernel
theorem dX6_push_92 : decode cX6_push 92 = .ok (.invokevirtual 161, 3) := by decide +kernel
theorem dX6_push_95 : decode cX6_push 95 = .ok (.istore 4, 2) := by decide +kernel
theorem dX6_push_97 : decode cX6_push 97 = .ok (.iload 4, 2) := by decide +kernel
theorem dX6_push_99 : decode cX6_push 99 = .ok (.ifCond .le 9, 3) := by decide +kernel
theorem dX6_push_102 : decode cX6_push 102 = .ok (.iload 4, 2) := by decide +kernel
theorem dX6_push_104 : decode cX6_push 104 = .ok (.ineg, 1) := by decide +kernel
theorem dX6_push_105 : decode cX6_push 105 = .ok (.goto 24, 3) := by decide +kernel
theorem dX6_push_108 : decode cX6_push 108 = .ok (.aload_n 0, 1) := by decide +kernel
theorem dX6_push_109 : decode cX6_push 109 = .ok (.aload_n 0, 1) := by decide +kernel
theorem dX6_push_110 : decode cX6_push 110 = .ok (.iload_n 2, 1) := by decide +kernel
theorem dX6_push_111 : decode cX6_push 111 = .ok (.invokevirtual 164, 3) := by decide +kernel
theorem dX6_push_114 : decode cX6_push 114 = .ok (.iconst 1, 1) := by decide +kernel
theorem dX6_push_115 : decode cX6_push 115 = .ok (.iload_n 1, 1) := by decide +kernel
theorem dX6_push_116 : decode cX6_push 116 = .ok (.ishl, 1) := by decide +kernel
theorem dX6_push_117 : decode cX6_push 117 = .ok (.ior, 1) := by decide +kernel
theorem dX6_push_118 : decode cX6_push 118 = .ok (.iload_n 2, 1) := by decide +kernel
theorem dX6_push_119 : decode cX6_push 119 = .ok (.aload_n 0, 1) := by decide +kernel
theorem dX6_push_120 : decode cX6_push 120 = .ok (.getfield 47, 3) := by decide +kernel
theorem dX6_push_123 : decode cX6_push 123 = .ok (.iload_n 1, 1) := by decide +kernel
theorem dX6_push_124 : decode cX6_push 124 = .ok (.iaload, 1) := by decide +kernel
theorem dX6_push_125 : decode cX6_push 125 = .ok (.iload_n 3, 1) := by decide +kernel
theorem dX6_push_126 : decode cX6_push 126 = .ok (.invokevirtual 167, 3) := by decide +kernel
theorem dX6_push_129 : decode cX6_push 129 = .ok (.ireturn, 1) := by decide +kernel
theorem dX6_back_0 : decode cX6_back 0 = .ok (.aload_n 0, 1) := by decide +kernel
theorem dX6_back_1 : decode cX6_back 1 = .ok (.iconst 0, 1) := by decide +kernel
theorem dX6_back_2 : decode cX6_back 2 = .ok (.putfield 77, 3) := by decide +kernel
theorem dX6_back_5 : decode cX6_back 5 = .ok (.aload_n 0, 1) := by decide +kernel
theorem dX6_back_6 : decode cX6_back 6 = .ok (.iload_n 1, 1) := by decide +kernel
theorem dX6_back_7 : decode cX6_back 7 = .ok (.invokevirtual 123, 3) := by decide +kernel
theorem dX6_back_10 : decode cX6_back 10 = .ok (.ifCond .ne 5, 3) := by decide +kernel
theorem dX6_back_13 : decode cX6_back 13 = .ok (.iconst (-1), 1) := by decide +kernel
theorem dX6_back_14 : decode cX6_back 14 = .ok (.ireturn, 1) := by decide +kernel
theorem dX6_back_15 : decode cX6_back 15 = .ok (.iconst 0, 1) := by decide +kernel
theorem dX6_back_16 : decode cX6_back 16 = .ok (.istore_n 2, 1) := by decide +kernel
theorem dX6_back_17 : decode cX6_back 17 = .ok (.iload_n 2, 1) := by decide +kernel
theorem dX6_back_18 : decode cX6_back 18 = .ok (.bipush 8, 2) := by decide +kernel
theorem dX6_back_20 : decode cX6_back 20 = .ok (.if_icmp .ge 45, 3) := by decide +kernel
theorem dX6_back_23 : decode cX6_back 23 = .ok (.aload_n 0, 1) := by decide +kernel
theorem dX6_back_24 : decode cX6_back 24 = .ok (.getfield 53, 3) := by decide +kernel
theorem dX6_back_27 : decode cX6_back 27 = .ok (.iload_n 1, 1) := by decide +kernel
theorem dX6_back_28 : decode cX6_back 28 = .ok (.iaload, 1) := by decide +kernel
theorem dX6_back_29 : decode cX6_back 29 = .ok (.ifCond .lt 36, 3) := by decide +kernel
theorem dX6_back_32 : decode cX6_back 32 = .ok (.aload_n 0, 1) := by decide +kernel
theorem dX6_back_33 : decode cX6_back 33 = .ok (.aload_n 0, 1) := by decide +kernel
theorem dX6_back_34 : decode cX6_back 34 = .ok (.getfield 47, 3) := by decide +kernel
theorem dX6_back_37 : decode cX6_back 37 = .ok (.iload_n 1, 1) := by decide +kernel
theorem dX6_back_38 : decode cX6_back 38 = .ok (.iaload, 1) := by decide +kernel
theorem dX6_back_39 : decode cX6_back 39 = .ok (.iload_n 2, 1) := by decide +kernel
theorem dX6_back_40 : decode cX6_back 40 = .ok (.invokevirtual 150, 3) := by decide +kernel
theorem dX6_back_43 : decode cX6_back 43 = .ok (.aload_n 0, 1) := by decide +kernel
theorem dX6_back_44 : decode cX6_back 44 = .ok (.getfield 53, 3) := by decide +kernel
theorem dX6_back_47 : decode cX6_back 47 = .ok (.iload_n 1, 1) := by decide +kernel
theorem dX6_back_48 : decode cX6_back 48 = .ok (.iaload, 1) := by decide +kernel
theorem dX6_back_49 : decode cX6_back 49 = .ok (.if_icmp .ne 10, 3) := by decide +kernel
theorem dX6_back_52 : decode cX6_back 52 = .ok (.aload_n 0, 1) := by decide +kernel
theorem dX6_back_53 : decode cX6_back 53 = .ok (.iload_n 1, 1) := by decide +kernel
theorem dX6_back_54 : decode cX6_back 54 = .ok (.iload_n 2, 1) := by decide +kernel
theorem dX6_back_55 : decode cX6_back 55 = .ok (.invokevirtual 171, 3) := by decide +kernel
theorem dX6_back_58 : decode cX6_back 58 = .ok (.ireturn, 1) := by decide +kernel
theorem dX6_back_59 : decode cX6_back 59 = .ok (.iinc 2 1, 3) := by decide +kernel
theorem dX6_back_62 : decode cX6_back 62 = .ok (.goto (-45), 3) := by decide +kernel
theorem dX6_back_65 : decode cX6_back 65 = .ok (.iconst 0, 1) := by decide +kernel
theorem dX6_back_66 : decode cX6_back 66 = .ok (.ireturn, 1) := by decide +kernel
theorem dX6_measure_0 : decode cX6_measure 0 = .ok (.iconst 0, 1) := by decide +kernel
theorem dX6_measure_1 : decode cX6_measure 1 = .ok (.istore_n 2, 1) := by decide +kernel
theorem dX6_measure_2 : decode cX6_measure 2 = .ok (.iload_n 2, 1) := by decide +kernel
theorem dX6_measure_3 : decode cX6_measure 3 = .ok (.bipush 20, 2) := by decide +kernel
theorem dX6_measure_5 : decode cX6_measure 5 = .ok (.if_icmp .ge 26, 3) := by decide +kernel
theorem dX6_measure_8 : decode cX6_measure 8 = .ok (.aload_n 0, 1) := by decide +kernel
theorem dX6_measure_9 : decode cX6_measure 9 = .ok (.getfield 74, 3) := by decide +kernel
theorem dX6_measure_12 : decode cX6_measure 12 = .ok (.iload_n 2, 1) := by decide +kernel
theorem dX6_measure_13 : decode cX6_measure 13 = .ok (.iload_n 2, 1) := by decide +kernel
theorem dX6_measure_14 : decode cX6_measure 14 = .ok (.iload_n 1, 1) := by decide +kernel
theorem dX6_measure_15 : decode cX6_measure 15 = .ok (.if_icmp .ne 7, 3) := by decide +kernel
theorem dX6_measure_18 : decode cX6_measure 18 = .ok (.iconst 0, 1) := by decide +kernel
theorem dX6_measure_19 : decode cX6_measure 19 = .ok (.goto 5, 3) := by decide +kernel
theorem dX6_measure_22 : decode cX6_measure 22 = .ok (.bipush 99, 2) := by decide +kernel
theorem dX6_measure_24 : decode cX6_measure 24 = .ok (.iastore, 1) := by decide +kernel
theorem dX6_measure_25 : decode cX6_measure 25 = .ok (.iinc 2 1, 3) := by decide +kernel
theorem dX6_measure_28 : decode cX6_measure 28 = .ok (.goto (-26), 3) := by decide +kernel
theorem dX6_measure_31 : decode cX6_measure 31 = .ok (.iconst 0, 1) := by decide +kernel
theorem dX6_measure_32 : decode cX6_measure 32 = .ok (.istore_n 2, 1) := by decide +kernel
theorem dX6_measure_33 : decode cX6_measure 33 = .ok (.iload_n 2, 1) := by decide +kernel
theorem dX6_measure_34 : decode cX6_measure 34 = .ok (.aload_n 0, 1) := by decide +kernel
theorem dX6_measure_35 : decode cX6_measure 35 = .ok (.getfield 81, 3) := by decide +kernel
theorem dX6_measure_38 : decode cX6_measure 38 = .ok (.if_icmp .ge 86, 3) := by decide +kernel
theorem dX6_measure_41 : decode cX6_measure 41 = .ok (.iconst 0, 1) := by decide +kernel
theorem dX6_measure_42 : decode cX6_measure 42 = .ok (.istore_n 3, 1) := by decide +kernel
theorem dX6_measure_43 : decode cX6_measure 43 = .ok (.iload_n 3, 1) := by decide +kernel
theorem dX6_measure_44 : decode cX6_measure 44 = .ok (.bipush 8, 2) := by decide +kernel
theorem dX6_measure_46 : decode cX6_measure 46 = .ok (.aload_n 0, 1) := by decide +kernel
theorem dX6_measure_47 : decode cX6_measure 47 = .ok (.getfield 81, 3) := by decide +kernel
theorem dX6_measure_50 : decode cX6_measure 50 = .ok (.imul, 1) := by decide +kernel
theorem dX6_measure_51 : decode cX6_measure 51 = .ok (.if_icmp .ge 67, 3) := by decide +kernel
theorem dX6_measure_54 : decode cX6_measure 54 = .ok (.aload_n 0, 1) := by decide +kernel
theorem dX6_measure_55 : decode cX6_measure 55 = .ok (.iload_n 3, 1) := by decide +kernel
theorem dX6_measure_56 : decode cX6_measure 56 = .ok (.bipush 8, 2) := by decide +kernel
theorem dX6_measure_58 : decode cX6_measure 58 = .ok (.idiv, 1) := by decide +kernel
theorem dX6_measure_59 : decode cX6_measure 59 = .ok (.iload_n 3, 1) := by decide +kernel
theorem dX6_measure_60 : decode cX6_measure 60 = .ok (.bipush 8, 2) := by decide +kernel
theorem dX6_measure_62 : decode cX6_measure 62 = .ok (.irem, 1) := by decide +kernel
theorem dX6_measure_63 : decode cX6_measure 63 = .ok (.invokevirtual 150, 3) := by decide +kernel
theorem dX6_measure_66 : decode cX6_measure 66 = .ok (.istore 4, 2) := by decide +kernel
theorem dX6_measure_68 : decode cX6_measure 68 = .ok (.iload 4, 2) := by decide +kernel
theorem dX6_measure_70 : decode cX6_measure 70 = .ok (.ifCond .lt 42, 3) := by decide +kernel
theorem dX6_measure_73 : decode cX6_measure 73 = .ok (.aload_n 0, 1) := by decide +kernel
theorem dX6_measure_74 : decode cX6_measure 74 = .ok (.getfield 74, 3) := by decide +kernel
theorem dX6_measure_77 : decode cX6_measure 77 = .ok (.iload 4, 2) := by decide +kernel
theorem dX6_measure_79 : decode cX6_measure 79 = .ok (.iaload, 1) := by decide +kernel
theorem dX6_measure_80 : decode cX6_measure 80 = .ok (.iconst 1, 1) := by decide +kernel
theorem dX6_measure_81 : decode cX6_measure 81 = .ok (.iadd, 1) := by decide +kernel
theorem dX6_measure_82 : decode cX6_measure 82 = .ok (.aload_n 0, 1) := by decide +kernel
theorem dX6_measure_83 : decode cX6_measure 83 = .ok (.getfield 74, 3) := by decide +kernel
theorem dX6_measure_86 : decode cX6_measure 86 = .ok (.iload_n 3, 1) := by decide +kernel
theorem dX6_measure_87 : decode cX6_measure 87 = .ok (.bipush 8, 2) := by decide +kernel
theorem dX6_measure_89 : decode cX6_measure 89 = .ok (.idiv, 1) := by decide +kernel
theorem dX6_measure_90 : decode cX6_measure 90 = .ok (.iaload, 1) := by decide +kernel
theorem dX6_measure_91 : decode cX6_measure 91 = .ok (.if_icmp .ge 21, 3) := by decide +kernel
theorem dX6_measure_94 : decode cX6_measure 94 = .ok (.aload_n 0, 1) := by decide +kernel
theorem dX6_measure_95 : decode cX6_measure 95 = .ok (.getfield 74, 3) := by decide +kernel
theorem dX6_measure_98 : decode cX6_measure 98 = .ok (.iload_n 3, 1) := by decide +kernel
theorem dX6_measure_99 : decode cX6_measure 99 = .ok (.bipush 8, 2) := by decide +kernel
theorem dX6_measure_101 : decode cX6_measure 101 = .ok (.idiv, 1) := by decide +kernel
theorem dX6_measure_102 : decode cX6_measure 102 = .ok (.aload_n 0, 1) := by decide +kernel
theorem dX6_measure_103 : decode cX6_measure 103 = .ok (.getfield 74, 3) := by decide +kernel
theorem dX6_measure_106 : decode cX6_measure 106 = .ok (.iload 4, 2) := by decide +kernel
theorem dX6_measure_108 : decode cX6_measure 108 = .ok (.iaload, 1) := by decide +kernel
theorem dX6_measure_109 : decode cX6_measure 109 = .ok (.iconst 1, 1) := by decide +kernel
theorem dX6_measure_110 : decode cX6_measure 110 = .ok (.iadd, 1) := by decide +kernel
theorem dX6_measure_111 : decode cX6_measure 111 = .ok (.iastore, 1) := by decide +kernel
theorem dX6_measure_112 : decode cX6_measure 112 = .ok (.iinc 3 1, 3) := by decide +kernel
theorem dX6_measure_115 : decode cX6_measure 115 = .ok (.goto (-72), 3) := by decide +kernel
theorem dX6_measure_118 : decode cX6_measure 118 = .ok (.iinc 2 1, 3) := by decide +kernel
theorem dX6_measure_121 : decode cX6_measure 121 = .ok (.goto (-88), 3) := by decide +kernel
theorem dX6_measure_124 : decode cX6_measure 124 = .ok (.return_, 1) := by decide +kernel
theorem dX6_step_0 : decode cX6_step 0 = .ok (.iconst 0, 1) := by decide +kernel
theorem dX6_step_1 : decode cX6_step 1 = .ok (.istore_n 2, 1) := by decide +kernel
theorem dX6_step_2 : decode cX6_step 2 = .ok (.iload_n 2, 1) := by decide +kernel
theorem dX6_step_3 : decode cX6_step 3 = .ok (.bipush 8, 2) := by decide +kernel
theorem dX6_step_5 : decode cX6_step 5 = .ok (.if_icmp .ge 39, 3) := by decide +kernel
theorem dX6_step_8 : decode cX6_step 8 = .ok (.aload_n 0, 1) := by decide +kernel
theorem dX6_step_9 : decode cX6_step 9 = .ok (.iload_n 1, 1) := by decide +kernel
theorem dX6_step_10 : decode cX6_step 10 = .ok (.iload_n 2, 1) := by decide +kernel
theorem dX6_step_11 : decode cX6_step 11 = .ok (.invokevirtual 150, 3) := by decide +kernel
theorem dX6_step_14 : decode cX6_step 14 = .ok (.istore_n 3, 1) := by decide +kernel
theorem dX6_step_15 : decode cX6_step 15 = .ok (.iload_n 3, 1) := by decide +kernel
theorem dX6_step_16 : decode cX6_step 16 = .ok (.ifCond .lt 22, 3) := by decide +kernel
theorem dX6_step_19 : decode cX6_step 19 = .ok (.aload_n 0, 1) := by decide +kernel
theorem dX6_step_20 : decode cX6_step 20 = .ok (.getfield 74, 3) := by decide +kernel
theorem dX6_step_23 : decode cX6_step 23 = .ok (.iload_n 3, 1) := by decide +kernel
theorem dX6_step_24 : decode cX6_step 24 = .ok (.iaload, 1) := by decide +kernel
theorem dX6_step_25 : decode cX6_step 25 = .ok (.iconst 1, 1) := by decide +kernel
theorem dX6_step_26 : decode cX6_step 26 = .ok (.iadd, 1) := by decide +kernel
theorem dX6_step_27 : decode cX6_step 27 = .ok (.aload_n 0, 1) := by decide +kernel
theorem dX6_step_28 : decode cX6_step 28 = .ok (.getfield 74, 3) := by decide +kernel
theorem dX6_step_31 : decode cX6_step 31 = .ok (.iload_n 1, 1) := by decide +kernel
theorem dX6_step_32 : decode cX6_step 32 = .ok (.iaload, 1) := by decide +kernel
theorem dX6_step_33 : decode cX6_step 33 = .ok (.if_icmp .ne 5, 3) := by decide +kernel
theorem dX6_step_36 : decode cX6_step 36 = .ok (.iload_n 2, 1) := by decide +kernel
theorem dX6_step_37 : decode cX6_step 37 = .ok (.ireturn, 1) := by decide +kernel
theorem dX6_step_38 : decode cX6_step 38 = .ok (.iinc 2 1, 3) := by decide +kernel
theorem dX6_step_41 : decode cX6_step 41 = .ok (.goto (-39), 3) := by decide +kernel
theorem dX6_step_44 : decode cX6_step 44 = .ok (.iconst (-1), 1) := by decide +kernel
theorem dX6_step_45 : decode cX6_step 45 = .ok (.ireturn, 1) := by decide +kernel
theorem dX6_follow_0 : decode cX6_follow 0 = .ok (.aload_n 0, 1) := by decide +kernel
theorem dX6_follow_1 : decode cX6_follow 1 = .ok (.iconst 0, 1) := by decide +kernel
theorem dX6_follow_2 : decode cX6_follow 2 = .ok (.putfield 77, 3) := by decide +kernel
theorem dX6_follow_5 : decode cX6_follow 5 = .ok (.aload_n 0, 1) := by decide +kernel
theorem dX6_follow_6 : decode cX6_follow 6 = .ok (.iload_n 1, 1) := by decide +kernel
theorem dX6_follow_7 : decode cX6_follow 7 = .ok (.invokevirtual 123, 3) := by decide +kernel
theorem dX6_follow_10 : decode cX6_follow 10 = .ok (.ifCond .eq 11, 3) := by decide +kernel
theorem dX6_follow_13 : decode cX6_follow 13 = .ok (.aload_n 0, 1) := by decide +kernel
theorem dX6_follow_14 : decode cX6_follow 14 = .ok (.iload_n 2, 1) := by decide +kernel
theorem dX6_follow_15 : decode cX6_follow 15 = .ok (.invokevirtual 123, 3) := by decide +kernel
theorem dX6_follow_18 : decode cX6_follow 18 = .ok (.ifCond .ne 5, 3) := by decide +kernel
theorem dX6_follow_21 : decode cX6_follow 21 = .ok (.iconst (-1), 1) := by decide +kernel
theorem dX6_follow_22 : decode cX6_follow 22 = .ok (.ireturn, 1) := by decide +kernel
theorem dX6_follow_23 : decode cX6_follow 23 = .ok (.aload_n 0, 1) := by decide +kernel
theorem dX6_follow_24 : decode cX6_follow 24 = .ok (.getfield 47, 3) := by decide +kernel
theorem dX6_follow_27 : decode cX6_follow 27 = .ok (.iload_n 1, 1) := by decide +kernel
theorem dX6_follow_28 : decode cX6_follow 28 = .ok (.iaload, 1) := by decide +kernel
theorem dX6_follow_29 : decode cX6_follow 29 = .ok (.aload_n 0, 1) := by decide +kernel
theorem dX6_follow_30 : decode cX6_follow 30 = .ok (.getfield 47, 3) := by decide +kernel
theorem dX6_follow_33 : decode cX6_follow 33 = .ok (.iload_n 2, 1) := by decide +kernel
theorem dX6_follow_34 : decode cX6_follow 34 = .ok (.iaload, 1) := by decide +kernel
theorem dX6_follow_35 : decode cX6_follow 35 = .ok (.if_icmp .ne 10, 3) := by decide +kernel
theorem dX6_follow_38 : decode cX6_follow 38 = .ok (.aload_n 0, 1) := by decide +kernel
theorem dX6_follow_39 : decode cX6_follow 39 = .ok (.getfield 47, 3) := by decide +kernel
theorem dX6_follow_42 : decode cX6_follow 42 = .ok (.iload_n 1, 1) := by decide +kernel
theorem dX6_follow_43 : decode cX6_follow 43 = .ok (.iaload, 1) := by decide +kernel
theorem dX6_follow_44 : decode cX6_follow 44 = .ok (.ireturn, 1) := by decide +kernel
theorem dX6_follow_45 : decode cX6_follow 45 = .ok (.aload_n 0, 1) := by decide +kernel
theorem dX6_follow_46 : decode cX6_follow 46 = .ok (.aload_n 0, 1) := by decide +kernel
theorem dX6_follow_47 : decode cX6_follow 47 = .ok (.getfield 47, 3) := by decide +kernel
theorem dX6_follow_50 : decode cX6_follow 50 = .ok (.iload_n 2, 1) := by decide +kernel
theorem dX6_follow_51 : decode cX6_follow 51 = .ok (.iaload, 1) := by decide +kernel
theorem dX6_follow_52 : decode cX6_follow 52 = .ok (.invokevirtual 174, 3) := by decide +kernel
theorem dX6_follow_55 : decode cX6_follow 55 = .ok (.aload_n 0, 1) := by decide +kernel
theorem dX6_follow_56 : decode cX6_follow 56 = .ok (.getfield 74, 3) := by decide +kernel
theorem dX6_follow_59 : decode cX6_follow 59 = .ok (.aload_n 0, 1) := by decide +kernel
theorem dX6_follow_60 : decode cX6_follow 60 = .ok (.getfield 47, 3) := by decide +kernel
theorem dX6_follow_63 : decode cX6_follow 63 = .ok (.iload_n 1, 1) := by decide +kernel
theorem dX6_follow_64 : decode cX6_follow 64 = .ok (.iaload, 1) := by decide +kernel
theorem dX6_follow_65 : decode cX6_follow 65 = .ok (.iaload, 1) := by decide +kernel
theorem dX6_follow_66 : decode cX6_follow 66 = .ok (.bipush 99, 2) := by decide +kernel
theorem dX6_follow_68 : decode cX6_follow 68 = .ok (.if_icmp .ne 8, 3) := by decide +kernel
theorem dX6_follow_71 : decode cX6_follow 71 = .ok (.bipush (-31), 2) := by decide +kernel
theorem dX6_follow_73 : decode cX6_follow 73 = .ok (.goto 18, 3) := by decide +kernel
theorem dX6_follow_76 : decode cX6_follow 76 = .ok (.aload_n 0, 1) := by decide +kernel
theorem dX6_follow_77 : decode cX6_follow 77 = .ok (.iload_n 1, 1) := by decide +kernel
theorem dX6_follow_78 : decode cX6_follow 78 = .ok (.aload_n 0, 1) := by decide +kernel
theorem dX6_follow_79 : decode cX6_follow 79 = .ok (.aload_n 0, 1) := by decide +kernel
theorem dX6_follow_80 : decode cX6_follow 80 = .ok (.getfield 47, 3) := by decide +kernel
theorem dX6_follow_83 : decode cX6_follow 83 = .ok (.iload_n 1, 1) := by decide +kernel
theorem dX6_follow_84 : decode cX6_follow 84 = .ok (.iaload, 1) := by decide +kernel
theorem dX6_follow_85 : decode cX6_follow 85 = .ok (.invokevirtual 178, 3) := by decide +kernel
theorem dX6_follow_88 : decode cX6_follow 88 = .ok (.invokevirtual 171, 3) := by decide +kernel
theorem dX6_follow_91 : decode cX6_follow 91 = .ok (.ireturn, 1) := by decide +kernel
theorem dX6_route_0 : decode cX6_route 0 = .ok (.aload_n 0, 1) := by decide +kernel
theorem dX6_route_1 : decode cX6_route 1 = .ok (.iconst 0, 1) := by decide +kernel
theorem dX6_route_2 : decode cX6_route 2 = .ok (.putfield 77, 3) := by decide +kernel
theorem dX6_route_5 : decode cX6_route 5 = .ok (.aload_n 0, 1) := by decide +kernel
theorem dX6_route_6 : decode cX6_route 6 = .ok (.iload_n 1, 1) := by decide +kernel
theorem dX6_route_7 : decode cX6_route 7 = .ok (.invokevirtual 97, 3) := by decide +kernel
theorem dX6_route_10 : decode cX6_route 10 = .ok (.ifCond .eq 16, 3) := by decide +kernel
theorem dX6_route_13 : decode cX6_route 13 = .ok (.aload_n 0, 1) := by decide +kernel
theorem dX6_route_14 : decode cX6_route 14 = .ok (.iload_n 2, 1) := by decide +kernel
theorem dX6_route_15 : decode cX6_route 15 = .ok (.invokevirtual 97, 3) := by decide +kernel
theorem dX6_route_18 : decode cX6_route 18 = .ok (.ifCond .eq 8, 3) := by decide +kernel
theorem dX6_route_21 : decode cX6_route 21 = .ok (.iload_n 3, 1) := by decide +kernel
theorem dX6_route_22 : decode cX6_route 22 = .ok (.iconst (-1), 1) := by decide +kernel
theorem dX6_route_23 : decode cX6_route 23 = .ok (.if_icmp .ge 5, 3) := by decide +kernel
theorem dX6_route_26 : decode cX6_route 26 = .ok (.iconst (-1), 1) := by decide +kernel
theorem dX6_route_27 : decode cX6_route 27 = .ok (.ireturn, 1) := by decide +kernel
theorem dX6_route_28 : decode cX6_route 28 = .ok (.aload_n 0, 1) := by decide +kernel
theorem dX6_route_29 : decode cX6_route 29 = .ok (.iload_n 2, 1) := by decide +kernel
theorem dX6_route_30 : decode cX6_route 30 = .ok (.invokevirtual 174, 3) := by decide +kernel
theorem dX6_route_33 : decode cX6_route 33 = .ok (.aload_n 0, 1) := by decide +kernel
theorem dX6_route_34 : decode cX6_route 34 = .ok (.getfield 74, 3) := by decide +kernel
theorem dX6_route_37 : decode cX6_route 37 = .ok (.iload_n 1, 1) := by decide +kernel
theorem dX6_route_38 : decode cX6_route 38 = .ok (.iaload, 1) := by decide +kernel
theorem dX6_route_39 : decode cX6_route 39 = .ok (.bipush 99, 2) := by decide +kernel
theorem dX6_route_41 : decode cX6_route 41 = .ok (.if_icmp .eq 13, 3) := by decide +kernel
theorem dX6_route_44 : decode cX6_route 44 = .ok (.iload_n 3, 1) := by decide +kernel
theorem dX6_route_45 : decode cX6_route 45 = .ok (.aload_n 0, 1) := by decide +kernel
theorem dX6_route_46 : decode cX6_route 46 = .ok (.getfield 74, 3) := by decide +kernel
theorem dX6_route_49 : decode cX6_route 49 = .ok (.iload_n 1, 1) := by decide +kernel
theorem dX6_route_50 : decode cX6_route 50 = .ok (.iaload, 1) := by decide +kernel
theorem dX6_route_51 : decode cX6_route 51 = .ok (.if_icmp .lt 5, 3) := by decide +kernel
theorem dX6_route_54 : decode cX6_route 54 = .ok (.iconst (-1), 1) := by decide +kernel
theorem dX6_route_55 : decode cX6_route 55 = .ok (.ireturn, 1) := by decide +kernel
theorem dX6_route_56 : decode cX6_route 56 = .ok (.iload_n 3, 1) := by decide +kernel
theorem dX6_route_57 : decode cX6_route 57 = .ok (.iconst (-1), 1) := by decide +kernel
theorem dX6_route_58 : decode cX6_route 58 = .ok (.if_icmp .ne 10, 3) := by decide +kernel
theorem dX6_route_61 : decode cX6_route 61 = .ok (.aload_n 0, 1) := by decide +kernel
theorem dX6_route_62 : decode cX6_route 62 = .ok (.getfield 74, 3) := by decide +kernel
theorem dX6_route_65 : decode cX6_route 65 = .ok (.iload_n 1, 1) := by decide +kernel
theorem dX6_route_66 : decode cX6_route 66 = .ok (.iaload, 1) := by decide +kernel
theorem dX6_route_67 : decode cX6_route 67 = .ok (.ireturn, 1) := by decide +kernel
theorem dX6_route_68 : decode cX6_route 68 = .ok (.iload_n 1, 1) := by decide +kernel
theorem dX6_route_69 : decode cX6_route 69 = .ok (.istore 4, 2) := by decide +kernel
theorem dX6_route_71 : decode cX6_route 71 = .ok (.iconst 0, 1) := by decide +kernel
theorem dX6_route_72 : decode cX6_route 72 = .ok (.istore 5, 2) := by decide +kernel
theorem dX6_route_74 : decode cX6_route 74 = .ok (.iload 5, 2) := by decide +kernel
theorem dX6_route_76 : decode cX6_route 76 = .ok (.iload_n 3, 1) := by decide +kernel
theorem dX6_route_77 : decode cX6_route 77 = .ok (.if_icmp .ge 23, 3) := by decide +kernel
theorem dX6_route_80 : decode cX6_route 80 = .ok (.aload_n 0, 1) := by decide +kernel
theorem dX6_route_81 : decode cX6_route 81 = .ok (.iload 4, 2) := by decide +kernel
theorem dX6_route_83 : decode cX6_route 83 = .ok (.aload_n 0, 1) := by decide +kernel
theorem dX6_route_84 : decode cX6_route 84 = .ok (.iload 4, 2) := by decide +kernel
theorem dX6_route_86 : decode cX6_route 86 = .ok (.invokevirtual 178, 3) := by decide +kernel
theorem dX6_route_89 : decode cX6_route 89 = .ok (.invokevirtual 150, 3) := by decide +kernel
theorem dX6_route_92 : decode cX6_route 92 = .ok (.istore 4, 2) := by decide +kernel
theorem dX6_route_94 : decode cX6_route 94 = .ok (.iinc 5 1, 3) := by decide +kernel
theorem dX6_route_97 : decode cX6_route 97 = .ok (.goto (-23), 3) := by decide +kernel
theorem dX6_route_100 : decode cX6_route 100 = .ok (.aload_n 0, 1) := by decide +kernel
theorem dX6_route_101 : decode cX6_route 101 = .ok (.iload 4, 2) := by decide +kernel
theorem dX6_route_103 : decode cX6_route 103 = .ok (.invokevirtual 178, 3) := by decide +kernel
theorem dX6_route_106 : decode cX6_route 106 = .ok (.ireturn, 1) := by decide +kernel
theorem dX6_way_0 : decode cX6_way 0 = .ok (.aload_n 0, 1) := by decide +kernel
theorem dX6_way_1 : decode cX6_way 1 = .ok (.iconst 0, 1) := by decide +kernel
theorem dX6_way_2 : decode cX6_way 2 = .ok (.putfield 77, 3) := by decide +kernel
theorem dX6_way_5 : decode cX6_way 5 = .ok (.aload_n 0, 1) := by decide +kernel
theorem dX6_way_6 : decode cX6_way 6 = .ok (.iload_n 1, 1) := by decide +kernel
theorem dX6_way_7 : decode cX6_way 7 = .ok (.invokevirtual 97, 3) := by decide +kernel
theorem dX6_way_10 : decode cX6_way 10 = .ok (.ifCond .eq 27, 3) := by decide +kernel
theorem dX6_way_13 : decode cX6_way 13 = .ok (.iload_n 2, 1) := by decide +kernel
theorem dX6_way_14 : decode cX6_way 14 = .ok (.iconst 0, 1) := by decide +kernel
theorem dX6_way_15 : decode cX6_way 15 = .ok (.bipush 7, 2) := by decide +kernel
theorem dX6_way_17 : decode cX6_way 17 = .ok (.invokestatic 84, 3) := by decide +kernel
theorem dX6_way_20 : decode cX6_way 20 = .ok (.ifCond .eq 17, 3) := by decide +kernel
theorem dX6_way_23 : decode cX6_way 23 = .ok (.aload_n 0, 1) := by decide +kernel
theorem dX6_way_24 : decode cX6_way 24 = .ok (.getfield 7, 3) := by decide +kernel
theorem dX6_way_27 : decode cX6_way 27 = .ok (.bipush 8, 2) := by decide +kernel
theorem dX6_way_29 : decode cX6_way 29 = .ok (.iload_n 1, 1) := by decide +kernel
theorem dX6_way_30 : decode cX6_way 30 = .ok (.imul, 1) := by decide +kernel
theorem dX6_way_31 : decode cX6_way 31 = .ok (.iload_n 2, 1) := by decide +kernel
theorem dX6_way_32 : decode cX6_way 32 = .ok (.iadd, 1) := by decide +kernel
theorem dX6_way_33 : decode cX6_way 33 = .ok (.iaload, 1) := by decide +kernel
theorem dX6_way_34 : decode cX6_way 34 = .ok (.goto 4, 3) := by decide +kernel
theorem dX6_way_37 : decode cX6_way 37 = .ok (.iconst (-1), 1) := by decide +kernel
theorem dX6_way_38 : decode cX6_way 38 = .ok (.ireturn, 1) := by decide +kernel
theorem dX6_leads_0 : decode cX6_leads 0 = .ok (.aload_n 0, 1) := by decide +kernel
theorem dX6_leads_1 : decode cX6_leads 1 = .ok (.iconst 0, 1) := by decide +kernel
theorem dX6_leads_2 : decode cX6_leads 2 = .ok (.putfield 77, 3) := by decide +kernel
theorem dX6_leads_5 : decode cX6_leads 5 = .ok (.aload_n 0, 1) := by decide +kernel
theorem dX6_leads_6 : decode cX6_leads 6 = .ok (.iload_n 1, 1) := by decide +kernel
theorem dX6_leads_7 : decode cX6_leads 7 = .ok (.invokevirtual 97, 3) := by decide +kernel
theorem dX6_leads_10 : decode cX6_leads 10 = .ok (.ifCond .eq 22, 3) := by decide +kernel
theorem dX6_leads_13 : decode cX6_leads 13 = .ok (.iload_n 2, 1) := by decide +kernel
theorem dX6_leads_14 : decode cX6_leads 14 = .ok (.iconst 0, 1) := by decide +kernel
theorem dX6_leads_15 : decode cX6_leads 15 = .ok (.bipush 7, 2) := by decide +kernel
theorem dX6_leads_17 : decode cX6_leads 17 = .ok (.invokestatic 84, 3) := by decide +kernel
theorem dX6_leads_20 : decode cX6_leads 20 = .ok (.ifCond .eq 12, 3) := by decide +kernel
theorem dX6_leads_23 : decode cX6_leads 23 = .ok (.aload_n 0, 1) := by decide +kernel
theorem dX6_leads_24 : decode cX6_leads 24 = .ok (.iload_n 1, 1) := by decide +kernel
theorem dX6_leads_25 : decode cX6_leads 25 = .ok (.iload_n 2, 1) := by decide +kernel
theorem dX6_leads_26 : decode cX6_leads 26 = .ok (.invokevirtual 150, 3) := by decide +kernel
theorem dX6_leads_29 : decode cX6_leads 29 = .ok (.goto 4, 3) := by decide +kernel
theorem dX6_leads_32 : decode cX6_leads 32 = .ok (.iconst (-1), 1) := by decide +kernel
theorem dX6_leads_33 : decode cX6_leads 33 = .ok (.ireturn, 1) := by decide +kernel
theorem dX6_state_0 : decode cX6_state 0 = .ok (.aload_n 0, 1) := by decide +kernel
theorem dX6_state_1 : decode cX6_state 1 = .ok (.iconst 0, 1) := by decide +kernel
theorem dX6_state_2 : decode cX6_state 2 = .ok (.putfield 77, 3) := by decide +kernel
theorem dX6_state_5 : decode cX6_state 5 = .ok (.aload_n 0, 1) := by decide +kernel
theorem dX6_state_6 : decode cX6_state 6 = .ok (.iload_n 1, 1) := by decide +kernel
theorem dX6_state_7 : decode cX6_state 7 = .ok (.invokevirtual 101, 3) := by decide +kernel
theorem dX6_state_10 : decode cX6_state 10 = .ok (.ifCond .ne 5, 3) := by decide +kernel
theorem dX6_state_13 : decode cX6_state 13 = .ok (.iconst (-1), 1) := by decide +kernel
theorem dX6_state_14 : decode cX6_state 14 = .ok (.ireturn, 1) := by decide +kernel
theorem dX6_state_15 : decode cX6_state 15 = .ok (.aload_n 0, 1) := by decide +kernel
theorem dX6_state_16 : decode cX6_state 16 = .ok (.getfield 25, 3) := by decide +kernel
theorem dX6_state_19 : decode cX6_state 19 = .ok (.iload_n 1, 1) := by decide +kernel
theorem dX6_state_20 : decode cX6_state 20 = .ok (.baload, 1) := by decide +kernel
theorem dX6_state_21 : decode cX6_state 21 = .ok (.ifCond .eq 7, 3) := by decide +kernel
theorem dX6_state_24 : decode cX6_state 24 = .ok (.iconst 1, 1) := by decide +kernel
theorem dX6_state_25 : decode cX6_state 25 = .ok (.goto 4, 3) := by decide +kernel
theorem dX6_state_28 : decode cX6_state 28 = .ok (.iconst 0, 1) := by decide +kernel
theorem dX6_state_29 : decode cX6_state 29 = .ok (.aload_n 0, 1) := by decide +kernel
theorem dX6_state_30 : decode cX6_state 30 = .ok (.getfield 29, 3) := by decide +kernel
theorem dX6_state_33 : decode cX6_state 33 = .ok (.iload_n 1, 1) := by decide +kernel
theorem dX6_state_34 : decode cX6_state 34 = .ok (.baload, 1) := by decide +kernel
theorem dX6_state_35 : decode cX6_state 35 = .ok (.ifCond .eq 7, 3) := by decide +kernel
theorem dX6_state_38 : decode cX6_state 38 = .ok (.iconst 2, 1) := by decide +kernel
theorem dX6_state_39 : decode cX6_state 39 = .ok (.goto 4, 3) := by decide +kernel
theorem dX6_state_42 : decode cX6_state 42 = .ok (.iconst 0, 1) := by decide +kernel
theorem dX6_state_43 : decode cX6_state 43 = .ok (.iadd, 1) := by decide +kernel
theorem dX6_state_44 : decode cX6_state 44 = .ok (.aload_n 0, 1) := by decide +kernel
theorem dX6_state_45 : decode cX6_state 45 = .ok (.getfield 22, 3) := by decide +kernel
theorem dX6_state_48 : decode cX6_state 48 = .ok (.iload_n 1, 1) := by decide +kernel
theorem dX6_state_49 : decode cX6_state 49 = .ok (.iaload, 1) := by decide +kernel
theorem dX6_state_50 : decode cX6_state 50 = .ok (.ifCond .lt 7, 3) := by decide +kernel
theorem dX6_state_53 : decode cX6_state 53 = .ok (.iconst 4, 1) := by decide +kernel
theorem dX6_state_54 : decode cX6_state 54 = .ok (.goto 4, 3) := by decide +kernel
theorem dX6_state_57 : decode cX6_state 57 = .ok (.iconst 0, 1) := by decide +kernel
theorem dX6_state_58 : decode cX6_state 58 = .ok (.iadd, 1) := by decide +kernel
theorem dX6_state_59 : decode cX6_state 59 = .ok (.aload_n 0, 1) := by decide +kernel
theorem dX6_state_60 : decode cX6_state 60 = .ok (.getfield 19, 3) := by decide +kernel
theorem dX6_state_63 : decode cX6_state 63 = .ok (.iload_n 1, 1) := by decide +kernel
theorem dX6_state_64 : decode cX6_state 64 = .ok (.iaload, 1) := by decide +kernel
theorem dX6_state_65 : decode cX6_state 65 = .ok (.ifCond .lt 8, 3) := by decide +kernel
theorem dX6_state_68 : decode cX6_state 68 = .ok (.bipush 8, 2) := by decide +kernel
theorem dX6_state_70 : decode cX6_state 70 = .ok (.goto 4, 3) := by decide +kernel
theorem dX6_state_73 : decode cX6_state 73 = .ok (.iconst 0, 1) := by decide +kernel
theorem dX6_state_74 : decode cX6_state 74 = .ok (.iadd, 1) := by decide +kernel
theorem dX6_state_75 : decode cX6_state 75 = .ok (.ireturn, 1) := by decide +kernel
theorem dX6_leastOf_0 : decode cX6_leastOf 0 = .ok (.iconst 0, 1) := by decide +kernel
theorem dX6_leastOf_1 : decode cX6_leastOf 1 = .ok (.istore_n 2, 1) := by decide +kernel
theorem dX6_leastOf_2 : decode cX6_leastOf 2 = .ok (.iload_n 2, 1) := by decide +kernel
theorem dX6_leastOf_3 : decode cX6_leastOf 3 = .ok (.bipush 20, 2) := by decide +kernel
theorem dX6_leastOf_5 : decode cX6_leastOf 5 = .ok (.if_icmp .ge 25, 3) := by decide +kernel
theorem dX6_leastOf_8 : decode cX6_leastOf 8 = .ok (.aload_n 0, 1) := by decide +kernel
theorem dX6_leastOf_9 : decode cX6_leastOf 9 = .ok (.getfield 71, 3) := by decide +kernel
theorem dX6_leastOf_12 : decode cX6_leastOf 12 = .ok (.bipush 20, 2) := by decide +kernel
theorem dX6_leastOf_14 : decode cX6_leastOf 14 = .ok (.iload_n 1, 1) := by decide +kernel
theorem dX6_leastOf_15 : decode cX6_leastOf 15 = .ok (.imul, 1) := by decide +kernel
theorem dX6_leastOf_16 : decode cX6_leastOf 16 = .ok (.iload_n 2, 1) := by decide +kernel
theorem dX6_leastOf_17 : decode cX6_leastOf 17 = .ok (.iadd, 1) := by decide +kernel
theorem dX6_leastOf_18 : decode cX6_leastOf 18 = .ok (.baload, 1) := by decide +kernel
theorem dX6_leastOf_19 : decode cX6_leastOf 19 = .ok (.ifCond .eq 5, 3) := by decide +kernel
theorem dX6_leastOf_22 : decode cX6_leastOf 22 = .ok (.iload_n 2, 1) := by decide +kernel
theorem dX6_leastOf_23 : decode cX6_leastOf 23 = .ok (.ireturn, 1) := by decide +kernel
theorem dX6_leastOf_24 : decode cX6_leastOf 24 = .ok (.iinc 2 1, 3) := by decide +kernel
theorem dX6_leastOf_27 : decode cX6_leastOf 27 = .ok (.goto (-25), 3) := by decide +kernel
theorem dX6_leastOf_30 : decode cX6_leastOf 30 = .ok (.bipush (-3), 2) := by decide +kernel
theorem dX6_leastOf_32 : decode cX6_leastOf 32 = .ok (.ireturn, 1) := by decide +kernel
theorem dX6_thingIs_0 : decode cX6_thingIs 0 = .ok (.aload_n 0, 1) := by decide +kernel
theorem dX6_thingIs_1 : decode cX6_thingIs 1 = .ok (.iconst 0, 1) := by decide +kernel
theorem dX6_thingIs_2 : decode cX6_thingIs 2 = .ok (.putfield 77, 3) := by decide +kernel
theorem dX6_thingIs_5 : decode cX6_thingIs 5 = .ok (.aload_n 0, 1) := by decide +kernel
theorem dX6_thingIs_6 : decode cX6_thingIs 6 = .ok (.iload_n 1, 1) := by decide +kernel
theorem dX6_thingIs_7 : decode cX6_thingIs 7 = .ok (.invokevirtual 111, 3) := by decide +kernel
theorem dX6_thingIs_10 : decode cX6_thingIs 10 = .ok (.ifCond .eq 12, 3) := by decide +kernel
theorem dX6_thingIs_13 : decode cX6_thingIs 13 = .ok (.iload_n 2, 1) := by decide +kernel
theorem dX6_thingIs_14 : decode cX6_thingIs 14 = .ok (.iconst 0, 1) := by decide +kernel
theorem dX6_thingIs_15 : decode cX6_thingIs 15 = .ok (.iconst 4, 1) := by decide +kernel
theorem dX6_thingIs_16 : decode cX6_thingIs 16 = .ok (.invokestatic 84, 3) := by decide +kernel
theorem dX6_thingIs_19 : decode cX6_thingIs 19 = .ok (.ifCond .ne 5, 3) := by decide +kernel
theorem dX6_thingIs_22 : decode cX6_thingIs 22 = .ok (.iconst (-1), 1) := by decide +kernel
theorem dX6_thingIs_23 : decode cX6_thingIs 23 = .ok (.ireturn, 1) := by decide +kernel
theorem dX6_thingIs_24 : decode cX6_thingIs 24 = .ok (.aload_n 0, 1) := by decide +kernel
theorem dX6_thingIs_25 : decode cX6_thingIs 25 = .ok (.getfield 41, 3) := by decide +kernel
theorem dX6_thingIs_28 : decode cX6_thingIs 28 = .ok (.iload_n 1, 1) := by decide +kernel
theorem dX6_thingIs_29 : decode cX6_thingIs 29 = .ok (.iaload, 1) := by decide +kernel
theorem dX6_thingIs_30 : decode cX6_thingIs 30 = .ok (.ifCond .lt 7, 3) := by decide +kernel
theorem dX6_thingIs_33 : decode cX6_thingIs 33 = .ok (.iconst 1, 1) := by decide +kernel
theorem dX6_thingIs_34 : decode cX6_thingIs 34 = .ok (.goto 4, 3) := by decide +kernel
theorem dX6_thingIs_37 : decode cX6_thingIs 37 = .ok (.iconst 0, 1) := by decide +kernel
theorem dX6_thingIs_38 : decode cX6_thingIs 38 = .ok (.istore_n 3, 1) := by decide +kernel
theorem dX6_thingIs_39 : decode cX6_thingIs 39 = .ok (.iload_n 2, 1) := by decide +kernel
theorem dX6_thingIs_40 : decode cX6_thingIs 40 = .ok (.ifCond .ne 29, 3) := by decide +kernel
theorem dX6_thingIs_43 : decode cX6_thingIs 43 = .ok (.iload_n 3, 1) := by decide +kernel
theorem dX6_thingIs_44 : decode cX6_thingIs 44 = .ok (.ifCond .eq 16, 3) := by decide +kernel
theorem dX6_thingIs_47 : decode cX6_thingIs 47 = .ok (.aload_n 0, 1) := by decide +kernel
theorem dX6_thingIs_48 : decode cX6_thingIs 48 = .ok (.aload_n 0, 1) := by decide +kernel
theorem dX6_thingIs_49 : decode cX6_thingIs 49 = .ok (.getfield 41, 3) := by decide +kernel
theorem dX6_thingIs_52 : decode cX6_thingIs 52 = .ok (.iload_n 1, 1) := by decide +kernel
theorem dX6_thingIs_53 : decode cX6_thingIs 53 = .ok (.iaload, 1) := by decide +kernel
theorem dX6_thingIs_54 : decode cX6_thingIs 54 = .ok (.invokevirtual 181, 3) := by decide +kernel
theorem dX6_thingIs_57 : decode cX6_thingIs 57 = .ok (.goto 77, 3) := by decide +kernel
theorem dX6_thingIs_60 : decode cX6_thingIs 60 = .ok (.aload_n 0, 1) := by decide +kernel
theorem dX6_thingIs_61 : decode cX6_thingIs 61 = .ok (.getfield 38, 3) := by decide +kernel
theorem dX6_thingIs_64 : decode cX6_thingIs 64 = .ok (.iload_n 1, 1) := by decide +kernel
theorem dX6_thingIs_65 : decode cX6_thingIs 65 = .ok (.iaload, 1) := by decide +kernel
theorem dX6_thingIs_66 : decode cX6_thingIs 66 = .ok (.goto 68, 3) := by decide +kernel
theorem dX6_thingIs_69 : decode cX6_thingIs 69 = .ok (.iload_n 2, 1) := by decide +kernel
theorem dX6_thingIs_70 : decode cX6_thingIs 70 = .ok (.iconst 1, 1) := by decide +kernel
theorem dX6_thingIs_71 : decode cX6_thingIs 71 = .ok (.if_icmp .ne 12, 3) := by decide +kernel
theorem dX6_thingIs_74 : decode cX6_thingIs 74 = .ok (.aload_n 0, 1) := by decide +kernel
theorem dX6_thingIs_75 : decode cX6_thingIs 75 = .ok (.getfield 32, 3) := by decide +kernel
theorem dX6_thingIs_78 : decode cX6_thingIs 78 = .ok (.iload_n 1, 1) := by decide +kernel
theorem dX6_thingIs_79 : decode cX6_thingIs 79 = .ok (.iaload, 1) := by decide +kernel
theorem dX6_thingIs_80 : decode cX6_thingIs 80 = .ok (.goto 54, 3) := by decide +kernel
theorem dX6_thingIs_83 : decode cX6_thingIs 83 = .ok (.iload_n 2, 1) := by decide +kernel
theorem dX6_thingIs_84 : decode cX6_thingIs 84 = .ok (.iconst 2, 1) := by decide +kernel
theorem dX6_thingIs_85 : decode cX6_thingIs 85 = .ok (.if_icmp .ne 12, 3) := by decide +kernel
theorem dX6_thingIs_88 : decode cX6_thingIs 88 = .ok (.aload_n 0, 1) := by decide +kernel
theorem dX6_thingIs_89 : decode cX6_thingIs 89 = .ok (.getfield 35, 3) := by decide +kernel
theorem dX6_thingIs_92 : decode cX6_thingIs 92 = .ok (.iload_n 1, 1) := by decide +kernel
theorem dX6_thingIs_93 : decode cX6_thingIs 93 = .ok (.iaload, 1) := by decide +kernel
theorem dX6_thingIs_94 : decode cX6_thingIs 94 = .ok (.goto 40, 3) := by decide +kernel
theorem dX6_thingIs_97 : decode cX6_thingIs 97 = .ok (.iload_n 2, 1) := by decide +kernel
theorem dX6_thingIs_98 : decode cX6_thingIs 98 = .ok (.iconst 3, 1) := by decide +kernel
theorem dX6_thingIs_99 : decode cX6_thingIs 99 = .ok (.if_icmp .ne 20, 3) := by decide +kernel
theorem dX6_thingIs_102 : decode cX6_thingIs 102 = .ok (.aload_n 0, 1) := by decide +kernel
theorem dX6_thingIs_103 : decode cX6_thingIs 103 = .ok (.getfield 44, 3) := by decide +kernel
theorem dX6_thingIs_106 : decode cX6_thingIs 106 = .ok (.iload_n 1, 1) := by decide +kernel
theorem dX6_thingIs_107 : decode cX6_thingIs 107 = .ok (.baload, 1) := by decide +kernel
theorem dX6_thingIs_108 : decode cX6_thingIs 108 = .ok (.ifCond .eq 7, 3) := by decide +kernel
theorem dX6_thingIs_111 : decode cX6_thingIs 111 = .ok (.iconst 1, 1) := by decide +kernel
theorem dX6_thingIs_112 : decode cX6_thingIs 112 = .ok (.goto 22, 3) := by decide +kernel
theorem dX6_thingIs_115 : decode cX6_thingIs 115 = .ok (.iconst 0, 1) := by decide +kernel
theorem dX6_thingIs_116 : decode cX6_thingIs 116 = .ok (.goto 18, 3) := by decide +kernel
theorem dX6_thingIs_119 : decode cX6_thingIs 119 = .ok (.iload_n 3, 1) := by decide +kernel
theorem dX6_thingIs_120 : decode cX6_thingIs 120 = .ok (.ifCond .eq 12, 3) := by decide +kernel
theorem dX6_thingIs_123 : decode cX6_thingIs 123 = .ok (.aload_n 0, 1) := by decide +kernel
theorem dX6_thingIs_124 : decode cX6_thingIs 124 = .ok (.getfield 41, 3) := by decide +kernel
theorem dX6_thingIs_127 : decode cX6_thingIs 127 = .ok (.iload_n 1, 1) := by decide +kernel
theorem dX6_thingIs_128 : decode cX6_thingIs 128 = .ok (.iaload, 1) := by decide +kernel
theorem dX6_thingIs_129 : decode cX6_thingIs 129 = .ok (.goto 5, 3) := by decide +kernel
theorem dX6_thingIs_132 : decode cX6_thingIs 132 = .ok (.bipush (-3), 2) := by decide +kernel
theorem dX6_thingIs_134 : decode cX6_thingIs 134 = .ok (.ireturn, 1) := by decide +kernel
theorem dX6_beingIs_0 : decode cX6_beingIs 0 = .ok (.aload_n 0, 1) := by decide +kernel
theorem dX6_beingIs_1 : decode cX6_beingIs 1 = .ok (.iconst 0, 1) := by decide +kernel
theorem dX6_beingIs_2 : decode cX6_beingIs 2 = .ok (.putfield 77, 3) := by decide +kernel
theorem dX6_beingIs_5 : decode cX6_beingIs 5 = .ok (.aload_n 0, 1) := by decide +kernel
theorem dX6_beingIs_6 : decode cX6_beingIs 6 = .ok (.iload_n 1, 1) := by decide +kernel
theorem dX6_beingIs_7 : decode cX6_beingIs 7 = .ok (.invokevirtual 123, 3) := by decide +kernel
theorem dX6_beingIs_10 : decode cX6_beingIs 10 = .ok (.ifCond .eq 12, 3) := by decide +kernel
theorem dX6_beingIs_13 : decode cX6_beingIs 13 = .ok (.iload_n 2, 1) := by decide +kernel
theorem dX6_beingIs_14 : decode cX6_beingIs 14 = .ok (.iconst 0, 1) := by decide +kernel
theorem dX6_beingIs_15 : decode cX6_beingIs 15 = .ok (.iconst 4, 1) := by decide +kernel
theorem dX6_beingIs_16 : decode cX6_beingIs 16 = .ok (.invokestatic 84, 3) := by decide +kernel
theorem dX6_beingIs_19 : decode cX6_beingIs 19 = .ok (.ifCond .ne 5, 3) := by decide +kernel
theorem dX6_beingIs_22 : decode cX6_beingIs 22 = .ok (.iconst (-1), 1) := by decide +kernel
theorem dX6_beingIs_23 : decode cX6_beingIs 23 = .ok (.ireturn, 1) := by decide +kernel
theorem dX6_beingIs_24 : decode cX6_beingIs 24 = .ok (.iload_n 2, 1) := by decide +kernel
theorem dX6_beingIs_25 : decode cX6_beingIs 25 = .ok (.ifCond .ne 12, 3) := by decide +kernel
theorem dX6_beingIs_28 : decode cX6_beingIs 28 = .ok (.aload_n 0, 1) := by decide +kernel
theorem dX6_beingIs_29 : decode cX6_beingIs 29 = .ok (.getfield 47, 3) := by decide +kernel
theorem dX6_beingIs_32 : decode cX6_beingIs 32 = .ok (.iload_n 1, 1) := by decide +kernel
theorem dX6_beingIs_33 : decode cX6_beingIs 33 = .ok (.iaload, 1) := by decide +kernel
theorem dX6_beingIs_34 : decode cX6_beingIs 34 = .ok (.goto 78, 3) := by decide +kernel
theorem dX6_beingIs_37 : decode cX6_beingIs 37 = .ok (.iload_n 2, 1) := by decide +kernel
theorem dX6_beingIs_38 : decode cX6_beingIs 38 = .ok (.iconst 1, 1) := by decide +kernel
theorem dX6_beingIs_39 : decode cX6_beingIs 39 = .ok (.if_icmp .ne 26, 3) := by decide +kernel
theorem dX6_beingIs_42 : decode cX6_beingIs 42 = .ok (.aload_n 0, 1) := by decide +kernel
theorem dX6_beingIs_43 : decode cX6_beingIs 43 = .ok (.getfield 50, 3) := by decide +kernel
theorem dX6_beingIs_46 : decode cX6_beingIs 46 = .ok (.iload_n 1, 1) := by decide +kernel
theorem dX6_beingIs_47 : decode cX6_beingIs 47 = .ok (.iaload, 1) := by decide +kernel
theorem dX6_beingIs_48 : decode cX6_beingIs 48 = .ok (.ifCond .ge 8, 3) := by decide +kernel
theorem dX6_beingIs_51 : decode cX6_beingIs 51 = .ok (.bipush (-3), 2) := by decide +kernel
theorem dX6_beingIs_53 : decode cX6_beingIs 53 = .ok (.goto 59, 3) := by decide +kernel
theorem dX6_beingIs_56 : decode cX6_beingIs 56 = .ok (.aload_n 0, 1) := by decide +kernel
theorem dX6_beingIs_57 : decode cX6_beingIs 57 = .ok (.getfield 50, 3) := by decide +kernel
theorem dX6_beingIs_60 : decode cX6_beingIs 60 = .ok (.iload_n 1, 1) := by decide +kernel
theorem dX6_beingIs_61 : decode cX6_beingIs 61 = .ok (.iaload, 1) := by decide +kernel
theorem dX6_beingIs_62 : decode cX6_beingIs 62 = .ok (.goto 50, 3) := by decide +kernel
theorem dX6_beingIs_65 : decode cX6_beingIs 65 = .ok (.iload_n 2, 1) := by decide +kernel
theorem dX6_beingIs_66 : decode cX6_beingIs 66 = .ok (.iconst 2, 1) := by decide +kernel
theorem dX6_beingIs_67 : decode cX6_beingIs 67 = .ok (.if_icmp .ne 26, 3) := by decide +kernel
theorem dX6_beingIs_70 : decode cX6_beingIs 70 = .ok (.aload_n 0, 1) := by decide +kernel
theorem dX6_beingIs_71 : decode cX6_beingIs 71 = .ok (.getfield 53, 3) := by decide +kernel
theorem dX6_beingIs_74 : decode cX6_beingIs 74 = .ok (.iload_n 1, 1) := by decide +kernel
theorem dX6_beingIs_75 : decode cX6_beingIs 75 = .ok (.iaload, 1) := by decide +kernel
theorem dX6_beingIs_76 : decode cX6_beingIs 76 = .ok (.ifCond .ge 8, 3) := by decide +kernel
theorem dX6_beingIs_79 : decode cX6_beingIs 79 = .ok (.bipush (-3), 2) := by decide +kernel
theorem dX6_beingIs_81 : decode cX6_beingIs 81 = .ok (.goto 31, 3) := by decide +kernel
theorem dX6_beingIs_84 : decode cX6_beingIs 84 = .ok (.aload_n 0, 1) := by decide +kernel
theorem dX6_beingIs_85 : decode cX6_beingIs 85 = .ok (.getfield 53, 3) := by decide +kernel
theorem dX6_beingIs_88 : decode cX6_beingIs 88 = .ok (.iload_n 1, 1) := by decide +kernel
theorem dX6_beingIs_89 : decode cX6_beingIs 89 = .ok (.iaload, 1) := by decide +kernel
theorem dX6_beingIs_90 : decode cX6_beingIs 90 = .ok (.goto 22, 3) := by decide +kernel
theorem dX6_beingIs_93 : decode cX6_beingIs 93 = .ok (.iload_n 2, 1) := by decide +kernel
theorem dX6_beingIs_94 : decode cX6_beingIs 94 = .ok (.iconst 3, 1) := by decide +kernel
theorem dX6_beingIs_95 : decode cX6_beingIs 95 = .ok (.if_icmp .ne 11, 3) := by decide +kernel
theorem dX6_beingIs_98 : decode cX6_beingIs 98 = .ok (.aload_n 0, 1) := by decide +kernel
theorem dX6_beingIs_99 : decode cX6_beingIs 99 = .ok (.iload_n 1, 1) := by decide +kernel
theorem dX6_beingIs_100 : decode cX6_beingIs 100 = .ok (.invokevirtual 139, 3) := by decide +kernel
theorem dX6_beingIs_103 : decode cX6_beingIs 103 = .ok (.goto 9, 3) := by decide +kernel
theorem dX6_beingIs_106 : decode cX6_beingIs 106 = .ok (.aload_n 0, 1) := by decide +kernel
theorem dX6_beingIs_107 : decode cX6_beingIs 107 = .ok (.getfield 59, 3) := by decide +kernel
theorem dX6_beingIs_110 : decode cX6_beingIs 110 = .ok (.iload_n 1, 1) := by decide +kernel
theorem dX6_beingIs_111 : decode cX6_beingIs 111 = .ok (.iaload, 1) := by decide +kernel
theorem dX6_beingIs_112 : decode cX6_beingIs 112 = .ok (.ireturn, 1) := by decide +kernel
theorem dX6_news_0 : decode cX6_news 0 = .ok (.aload_n 0, 1) := by decide +kernel
theorem dX6_news_1 : decode cX6_news 1 = .ok (.iconst 0, 1) := by decide +kernel
theorem dX6_news_2 : decode cX6_news 2 = .ok (.putfield 77, 3) := by decide +kernel
theorem dX6_news_5 : decode cX6_news 5 = .ok (.aload_n 0, 1) := by decide +kernel
theorem dX6_news_6 : decode cX6_news 6 = .ok (.iload_n 1, 1) := by decide +kernel
theorem dX6_news_7 : decode cX6_news 7 = .ok (.invokevirtual 123, 3) := by decide +kernel
theorem dX6_news_10 : decode cX6_news 10 = .ok (.ifCond .eq 33, 3) := by decide +kernel
theorem dX6_news_13 : decode cX6_news 13 = .ok (.iload_n 2, 1) := by decide +kernel
theorem dX6_news_14 : decode cX6_news 14 = .ok (.iconst 0, 1) := by decide +kernel
theorem dX6_news_15 : decode cX6_news 15 = .ok (.aload_n 0, 1) := by decide +kernel
theorem dX6_news_16 : decode cX6_news 16 = .ok (.getfield 59, 3) := by decide +kernel
theorem dX6_news_19 : decode cX6_news 19 = .ok (.iload_n 1, 1) := by decide +kernel
theorem dX6_news_20 : decode cX6_news 20 = .ok (.iaload, 1) := by decide +kernel
theorem dX6_news_21 : decode cX6_news 21 = .ok (.iconst 1, 1) := by decide +kernel
theorem dX6_news_22 : decode cX6_news 22 = .ok (.isub, 1) := by decide +kernel
theorem dX6_news_23 : decode cX6_news 23 = .ok (.invokestatic 84, 3) := by decide +kernel
theorem dX6_news_26 : decode cX6_news 26 = .ok (.ifCond .eq 17, 3) := by decide +kernel
theorem dX6_news_29 : decode cX6_news 29 = .ok (.aload_n 0, 1) := by decide +kernel
theorem dX6_news_30 : decode cX6_news 30 = .ok (.getfield 56, 3) := by decide +kernel
theorem dX6_news_33 : decode cX6_news 33 = .ok (.bipush 8, 2) := by decide +kernel
theorem dX6_news_35 : decode cX6_news 35 = .ok (.iload_n 1, 1) := by decide +kernel
theorem dX6_news_36 : decode cX6_news 36 = .ok (.imul, 1) := by decide +kernel
theorem dX6_news_37 : decode cX6_news 37 = .ok (.iload_n 2, 1) := by decide +kernel
theorem dX6_news_38 : decode cX6_news 38 = .ok (.iadd, 1) := by decide +kernel
theorem dX6_news_39 : decode cX6_news 39 = .ok (.iaload, 1) := by decide +kernel
theorem dX6_news_40 : decode cX6_news 40 = .ok (.goto 4, 3) := by decide +kernel
theorem dX6_news_43 : decode cX6_news 43 = .ok (.iconst (-1), 1) := by decide +kernel
theorem dX6_news_44 : decode cX6_news 44 = .ok (.ireturn, 1) := by decide +kernel
theorem dX6_count_0 : decode cX6_count 0 = .ok (.aload_n 0, 1) := by decide +kernel
theorem dX6_count_1 : decode cX6_count 1 = .ok (.iconst 0, 1) := by decide +kernel
theorem dX6_count_2 : decode cX6_count 2 = .ok (.putfield 77, 3) := by decide +kernel
theorem dX6_count_5 : decode cX6_count 5 = .ok (.iload_n 1, 1) := by decide +kernel
theorem dX6_count_6 : decode cX6_count 6 = .ok (.iconst 0, 1) := by decide +kernel
theorem dX6_count_7 : decode cX6_count 7 = .ok (.iconst 5, 1) := by decide +kernel
theorem dX6_count_8 : decode cX6_count 8 = .ok (.invokestatic 84, 3) := by decide +kernel
theorem dX6_count_11 : decode cX6_count 11 = .ok (.ifCond .ne 5, 3) := by decide +kernel
theorem dX6_count_14 : decode cX6_count 14 = .ok (.iconst (-1), 1) := by decide +kernel
theorem dX6_count_15 : decode cX6_count 15 = .ok (.ireturn, 1) := by decide +kernel
theorem dX6_count_16 : decode cX6_count 16 = .ok (.iconst 0, 1) := by decide +kernel
theorem dX6_count_17 : decode cX6_count 17 = .ok (.istore_n 2, 1) := by decide +kernel
theorem dX6_count_18 : decode cX6_count 18 = .ok (.iconst 0, 1) := by decide +kernel
theorem dX6_count_19 : decode cX6_count 19 = .ok (.istore_n 3, 1) := by decide +kernel
theorem dX6_count_20 : decode cX6_count 20 = .ok (.iload_n 3, 1) := by decide +kernel
theorem dX6_count_21 : decode cX6_count 21 = .ok (.bipush 8, 2) := by decide +kernel
theorem dX6_count_23 : decode cX6_count 23 = .ok (.aload_n 0, 1) := by decide +kernel
theorem dX6_count_24 : decode cX6_count 24 = .ok (.getfield 81, 3) := by decide +kernel
theorem dX6_count_27 : decode cX6_count 27 = .ok (.imul, 1) := by decide +kernel
theorem dX6_count_28 : decode cX6_count 28 = .ok (.if_icmp .ge 55, 3) := by decide +kernel
theorem dX6_count_31 : decode cX6_count 31 = .ok (.iload_n 1, 1) := by decide +kernel
theorem dX6_count_32 : decode cX6_count 32 = .ok (.iconst 3, 1) := by decide +kernel
theorem dX6_count_33 : decode cX6_count 33 = .ok (.if_icmp .le 50, 3) := by decide +kernel
theorem dX6_count_36 : decode cX6_count 36 = .ok (.iload_n 2, 1) := by decide +kernel
theorem dX6_count_37 : decode cX6_count 37 = .ok (.iload_n 1, 1) := by decide +kernel
theorem dX6_count_38 : decode cX6_count 38 = .ok (.iconst 4, 1) := by decide +kernel
theorem dX6_count_39 : decode cX6_count 39 = .ok (.if_icmp .ne 16, 3) := by decide +kernel
theorem dX6_count_42 : decode cX6_count 42 = .ok (.aload_n 0, 1) := by decide +kernel
theorem dX6_count_43 : decode cX6_count 43 = .ok (.getfield 7, 3) := by decide +kernel
theorem dX6_count_46 : decode cX6_count 46 = .ok (.iload_n 3, 1) := by decide +kernel
theorem dX6_count_47 : decode cX6_count 47 = .ok (.iaload, 1) := by decide +kernel
theorem dX6_count_48 : decode cX6_count 48 = .ok (.iconst (-1), 1) := by decide +kernel
theorem dX6_count_49 : decode cX6_count 49 = .ok (.if_icmp .eq 25, 3) := by decide +kernel
theorem dX6_count_52 : decode cX6_count 52 = .ok (.goto 18, 3) := by decide +kernel
theorem dX6_count_55 : decode cX6_count 55 = .ok (.aload_n 0, 1) := by decide +kernel
theorem dX6_count_56 : decode cX6_count 56 = .ok (.iload_n 3, 1) := by decide +kernel
theorem dX6_count_57 : decode cX6_count 57 = .ok (.bipush 8, 2) := by decide +kernel
theorem dX6_count_59 : decode cX6_count 59 = .ok (.idiv, 1) := by decide +kernel
theorem dX6_count_60 : decode cX6_count 60 = .ok (.iload_n 3, 1) := by decide +kernel
theorem dX6_count_61 : decode cX6_count 61 = .ok (.bipush 8, 2) := by decide +kernel
theorem dX6_count_63 : decode cX6_count 63 = .ok (.irem, 1) := by decide +kernel
theorem dX6_count_64 : decode cX6_count 64 = .ok (.invokevirtual 150, 3) := by decide +kernel
theorem dX6_count_67 : decode cX6_count 67 = .ok (.ifCond .lt 7, 3) := by decide +kernel
theorem dX6_count_70 : decode cX6_count 70 = .ok (.iconst 1, 1) := by decide +kernel
theorem dX6_count_71 : decode cX6_count 71 = .ok (.goto 4, 3) := by decide +kernel
theorem dX6_count_74 : decode cX6_count 74 = .ok (.iconst 0, 1) := by decide +kernel
theorem dX6_count_75 : decode cX6_count 75 = .ok (.iadd, 1) := by decide +kernel
theorem dX6_count_76 : decode cX6_count 76 = .ok (.istore_n 2, 1) := by decide +kernel
theorem dX6_count_77 : decode cX6_count 77 = .ok (.iinc 3 1, 3) := by decide +kernel
theorem dX6_count_80 : decode cX6_count 80 = .ok (.goto (-60), 3) := by decide +kernel
theorem dX6_count_83 : decode cX6_count 83 = .ok (.iload_n 1, 1) := by decide +kernel
theorem dX6_count_84 : decode cX6_count 84 = .ok (.ifCond .ne 10, 3) := by decide +kernel
theorem dX6_count_87 : decode cX6_count 87 = .ok (.aload_n 0, 1) := by decide +kernel
theorem dX6_count_88 : decode cX6_count 88 = .ok (.getfield 81, 3) := by decide +kernel
theorem dX6_count_91 : decode cX6_count 91 = .ok (.goto 40, 3) := by decide +kernel
theorem dX6_count_94 : decode cX6_count 94 = .ok (.iload_n 1, 1) := by decide +kernel
theorem dX6_count_95 : decode cX6_count 95 = .ok (.iconst 1, 1) := by decide +kernel
theorem dX6_count_96 : decode cX6_count 96 = .ok (.if_icmp .ne 10, 3) := by decide +kernel
theorem dX6_count_99 : decode cX6_count 99 = .ok (.aload_n 0, 1) := by decide +kernel
theorem dX6_count_100 : decode cX6_count 100 = .ok (.getfield 88, 3) := by decide +kernel
theorem dX6_count_103 : decode cX6_count 103 = .ok (.goto 28, 3) := by decide +kernel
theorem dX6_count_106 : decode cX6_count 106 = .ok (.iload_n 1, 1) := by decide +kernel
theorem dX6_count_107 : decode cX6_count 107 = .ok (.iconst 2, 1) := by decide +kernel
theorem dX6_count_108 : decode cX6_count 108 = .ok (.if_icmp .ne 10, 3) := by decide +kernel
theorem dX6_count_111 : decode cX6_count 111 = .ok (.aload_n 0, 1) := by decide +kernel
theorem dX6_count_112 : decode cX6_count 112 = .ok (.getfield 91, 3) := by decide +kernel
theorem dX6_count_115 : decode cX6_count 115 = .ok (.goto 16, 3) := by decide +kernel
theorem dX6_count_118 : decode cX6_count 118 = .ok (.iload_n 1, 1) := by decide +kernel
theorem dX6_count_119 : decode cX6_count 119 = .ok (.iconst 3, 1) := by decide +kernel
theorem dX6_count_120 : decode cX6_count 120 = .ok (.if_icmp .ne 10, 3) := by decide +kernel
theorem dX6_count_123 : decode cX6_count 123 = .ok (.aload_n 0, 1) := by decide +kernel
theorem dX6_count_124 : decode cX6_count 124 = .ok (.getfield 94, 3) := by decide +kernel
theorem dX6_count_127 : decode cX6_count 127 = .ok (.goto 4, 3) := by decide +kernel
theorem dX6_count_130 : decode cX6_count 130 = .ok (.iload_n 2, 1) := by decide +kernel
theorem dX6_count_131 : decode cX6_count 131 = .ok (.ireturn, 1) := by decide +kernel
theorem dJ6_bitCount_0f7a4_0 : decode cJ6_bitCount_0f7a4 0 = .ok (.iload_n 0, 1) := by decide +kernel
theorem dJ6_bitCount_0f7a4_1 : decode cJ6_bitCount_0f7a4 1 = .ok (.iload_n 0, 1) := by decide +kernel
theorem dJ6_bitCount_0f7a4_2 : decode cJ6_bitCount_0f7a4 2 = .ok (.iconst 1, 1) := by decide +kernel
theorem dJ6_bitCount_0f7a4_3 : decode cJ6_bitCount_0f7a4 3 = .ok (.iushr, 1) := by decide +kernel
theorem dJ6_bitCount_0f7a4_4 : decode cJ6_bitCount_0f7a4 4 = .ok (.ldc_w 265, 3) := by decide +kernel
theorem dJ6_bitCount_0f7a4_7 : decode cJ6_bitCount_0f7a4 7 = .ok (.iand, 1) := by decide +kernel
theorem dJ6_bitCount_0f7a4_8 : decode cJ6_bitCount_0f7a4 8 = .ok (.isub, 1) := by decide +kernel
theorem dJ6_bitCount_0f7a4_9 : decode cJ6_bitCount_0f7a4 9 = .ok (.istore_n 0, 1) := by decide +kernel
theorem dJ6_bitCount_0f7a4_10 : decode cJ6_bitCount_0f7a4 10 = .ok (.iload_n 0, 1) := by decide +kernel
theorem dJ6_bitCount_0f7a4_11 : decode cJ6_bitCount_0f7a4 11 = .ok (.ldc_w 266, 3) := by decide +kernel
theorem dJ6_bitCount_0f7a4_14 : decode cJ6_bitCount_0f7a4 14 = .ok (.iand, 1) := by decide +kernel
theorem dJ6_bitCount_0f7a4_15 : decode cJ6_bitCount_0f7a4 15 = .ok (.iload_n 0, 1) := by decide +kernel
theorem dJ6_bitCount_0f7a4_16 : decode cJ6_bitCount_0f7a4 16 = .ok (.iconst 2, 1) := by decide +kernel
theorem dJ6_bitCount_0f7a4_17 : decode cJ6_bitCount_0f7a4 17 = .ok (.iushr, 1) := by decide +kernel
theorem dJ6_bitCount_0f7a4_18 : decode cJ6_bitCount_0f7a4 18 = .ok (.ldc_w 266, 3) := by decide +kernel
theorem dJ6_bitCount_0f7a4_21 : decode cJ6_bitCount_0f7a4 21 = .ok (.iand, 1) := by decide +kernel
theorem dJ6_bitCount_0f7a4_22 : decode cJ6_bitCount_0f7a4 22 = .ok (.iadd, 1) := by decide +kernel
theorem dJ6_bitCount_0f7a4_23 : decode cJ6_bitCount_0f7a4 23 = .ok (.istore_n 0, 1) := by decide +kernel
theorem dJ6_bitCount_0f7a4_24 : decode cJ6_bitCount_0f7a4 24 = .ok (.iload_n 0, 1) := by decide +kernel
theorem dJ6_bitCount_0f7a4_25 : decode cJ6_bitCount_0f7a4 25 = .ok (.iload_n 0, 1) := by decide +kernel
theorem dJ6_bitCount_0f7a4_26 : decode cJ6_bitCount_0f7a4 26 = .ok (.iconst 4, 1) := by decide +kernel
theorem dJ6_bitCount_0f7a4_27 : decode cJ6_bitCount_0f7a4 27 = .ok (.iushr, 1) := by decide +kernel
theorem dJ6_bitCount_0f7a4_28 : decode cJ6_bitCount_0f7a4 28 = .ok (.iadd, 1) := by decide +kernel
theorem dJ6_bitCount_0f7a4_29 : decode cJ6_bitCount_0f7a4 29 = .ok (.ldc_w 267, 3) := by decide +kernel
theorem dJ6_bitCount_0f7a4_32 : decode cJ6_bitCount_0f7a4 32 = .ok (.iand, 1) := by decide +kernel
theorem dJ6_bitCount_0f7a4_33 : decode cJ6_bitCount_0f7a4 33 = .ok (.istore_n 0, 1) := by decide +kernel
theorem dJ6_bitCount_0f7a4_34 : decode cJ6_bitCount_0f7a4 34 = .ok (.iload_n 0, 1) := by decide +kernel
theorem dJ6_bitCount_0f7a4_35 : decode cJ6_bitCount_0f7a4 35 = .ok (.iload_n 0, 1) := by decide +kernel
theorem dJ6_bitCount_0f7a4_36 : decode cJ6_bitCount_0f7a4 36 = .ok (.bipush 8, 2) := by decide +kernel
theorem dJ6_bitCount_0f7a4_38 : decode cJ6_bitCount_0f7a4 38 = .ok (.iushr, 1) := by decide +kernel
theorem dJ6_bitCount_0f7a4_39 : decode cJ6_bitCount_0f7a4 39 = .ok (.iadd, 1) := by decide +kernel
theorem dJ6_bitCount_0f7a4_40 : decode cJ6_bitCount_0f7a4 40 = .ok (.istore_n 0, 1) := by decide +kernel
theorem dJ6_bitCount_0f7a4_41 : decode cJ6_bitCount_0f7a4 41 = .ok (.iload_n 0, 1) := by decide +kernel
theorem dJ6_bitCount_0f7a4_42 : decode cJ6_bitCount_0f7a4 42 = .ok (.iload_n 0, 1) := by decide +kernel
theorem dJ6_bitCount_0f7a4_43 : decode cJ6_bitCount_0f7a4 43 = .ok (.bipush 16, 2) := by decide +kernel
theorem dJ6_bitCount_0f7a4_45 : decode cJ6_bitCount_0f7a4 45 = .ok (.iushr, 1) := by decide +kernel
theorem dJ6_bitCount_0f7a4_46 : decode cJ6_bitCount_0f7a4 46 = .ok (.iadd, 1) := by decide +kernel
theorem dJ6_bitCount_0f7a4_47 : decode cJ6_bitCount_0f7a4 47 = .ok (.istore_n 0, 1) := by decide +kernel
theorem dJ6_bitCount_0f7a4_48 : decode cJ6_bitCount_0f7a4 48 = .ok (.iload_n 0, 1) := by decide +kernel
theorem dJ6_bitCount_0f7a4_49 : decode cJ6_bitCount_0f7a4 49 = .ok (.bipush 63, 2) := by decide +kernel
theorem dJ6_bitCount_0f7a4_51 : decode cJ6_bitCount_0f7a4 51 = .ok (.iand, 1) := by decide +kernel
theorem dJ6_bitCount_0f7a4_52 : decode cJ6_bitCount_0f7a4 52 = .ok (.ireturn, 1) := by decide +kernel
theorem dJ7_fill_53178_0 : decode cJ7_fill_53178 0 = .ok (.iconst 0, 1) := by decide +kernel
theorem dJ7_fill_53178_1 : decode cJ7_fill_53178 1 = .ok (.istore_n 2, 1) := by decide +kernel
theorem dJ7_fill_53178_2 : decode cJ7_fill_53178 2 = .ok (.aload_n 0, 1) := by decide +kernel
theorem dJ7_fill_53178_3 : decode cJ7_fill_53178 3 = .ok (.arraylength, 1) := by decide +kernel
theorem dJ7_fill_53178_4 : decode cJ7_fill_53178 4 = .ok (.istore_n 3, 1) := by decide +kernel
theorem dJ7_fill_53178_5 : decode cJ7_fill_53178 5 = .ok (.iload_n 2, 1) := by decide +kernel
theorem dJ7_fill_53178_6 : decode cJ7_fill_53178 6 = .ok (.iload_n 3, 1) := by decide +kernel
theorem dJ7_fill_53178_7 : decode cJ7_fill_53178 7 = .ok (.if_icmp .ge 13, 3) := by decide +kernel
theorem dJ7_fill_53178_10 : decode cJ7_fill_53178 10 = .ok (.aload_n 0, 1) := by decide +kernel
theorem dJ7_fill_53178_11 : decode cJ7_fill_53178 11 = .ok (.iload_n 2, 1) := by decide +kernel
theorem dJ7_fill_53178_12 : decode cJ7_fill_53178 12 = .ok (.iload_n 1, 1) := by decide +kernel
theorem dJ7_fill_53178_13 : decode cJ7_fill_53178 13 = .ok (.iastore, 1) := by decide +kernel
theorem dJ7_fill_53178_14 : decode cJ7_fill_53178 14 = .ok (.iinc 2 1, 3) := by decide +kernel
theorem dJ7_fill_53178_17 : decode cJ7_fill_53178 17 = .ok (.goto (-12), 3) := by decide +kernel
theorem dJ7_fill_53178_20 : decode cJ7_fill_53178 20 = .ok (.return_, 1) := by decide +kernel
theorem dL_law_0 : decode cL_law 0 = .ok (.new 7, 3) := by decide +kernel
theorem dL_law_3 : decode cL_law 3 = .ok (.dup, 1) := by decide +kernel
theorem dL_law_4 : decode cL_law 4 = .ok (.invokespecial 9, 3) := by decide +kernel
theorem dL_law_7 : decode cL_law 7 = .ok (.astore_n 1, 1) := by decide +kernel
theorem dL_law_8 : decode cL_law 8 = .ok (.new 10, 3) := by decide +kernel
theorem dL_law_11 : decode cL_law 11 = .ok (.dup, 1) := by decide +kernel
theorem dL_law_12 : decode cL_law 12 = .ok (.invokespecial 12, 3) := by decide +kernel
theorem dL_law_15 : decode cL_law 15 = .ok (.astore_n 2, 1) := by decide +kernel
theorem dL_law_16 : decode cL_law 16 = .ok (.iconst 0, 1) := by decide +kernel
theorem dL_law_17 : decode cL_law 17 = .ok (.istore_n 3, 1) := by decide +kernel
theorem dL_law_18 : decode cL_law 18 = .ok (.iload_n 3, 1) := by decide +kernel
theorem dL_law_19 : decode cL_law 19 = .ok (.aload_n 0, 1) := by decide +kernel
theorem dL_law_20 : decode cL_law 20 = .ok (.arraylength, 1) := by decide +kernel
theorem dL_law_21 : decode cL_law 21 = .ok (.iconst 4, 1) := by decide +kernel
theorem dL_law_22 : decode cL_law 22 = .ok (.isub, 1) := by decide +kernel
theorem dL_law_23 : decode cL_law 23 = .ok (.if_icmp .gt 1055, 3) := by decide +kernel
theorem dL_law_26 : decode cL_law 26 = .ok (.aload_n 0, 1) := by decide +kernel
theorem dL_law_27 : decode cL_law 27 = .ok (.iload_n 3, 1) := by decide +kernel
theorem dL_law_28 : decode cL_law 28 = .ok (.iaload, 1) := by decide +kernel
theorem dL_law_29 : decode cL_law 29 = .ok (.bipush 31, 2) := by decide +kernel
theorem dL_law_31 : decode cL_law 31 = .ok (.iand, 1) := by decide +kernel
theorem dL_law_32 : decode cL_law 32 = .ok (.tableswitch 1040 0 25 #[120, 133, 166, 209, 252, 285, 344, 403, 446, 479, 502, 545, 588, 611, 644, 687, 710, 743, 786, 819, 852, 875, 908, 941, 974, 1017], 120) := by decide +kernel
theorem dL_law_152 : decode cL_law 152 = .ok (.aload_n 1, 1) := by decide +kernel
theorem dL_law_153 : decode cL_law 153 = .ok (.invokevirtual 13, 3) := by decide +kernel
theorem dL_law_156 : decode cL_law 156 = .ok (.aload_n 2, 1) := by decide +kernel
theorem dL_law_157 : decode cL_law 157 = .ok (.invokevirtual 17, 3) := by decide +kernel
theorem dL_law_160 : decode cL_law 160 = .ok (.if_icmp .eq 912, 3) := by decide +kernel
theorem dL_law_163 : decode cL_law 163 = .ok (.iconst 0, 1) := by decide +kernel
theorem dL_law_164 : decode cL_law 164 = .ok (.ireturn, 1) := by decide +kernel
theorem dL_law_165 : decode cL_law 165 = .ok (.aload_n 1, 1) := by decide +kernel
theorem dL_law_166 : decode cL_law 166 = .ok (.aload_n 0, 1) := by decide +kernel
theorem dL_law_167 : decode cL_law 167 = .ok (.iload_n 3, 1) := by decide +kernel
theorem dL_law_168 : decode cL_law 168 = .ok (.iconst 1, 1) := by decide +kernel
theorem dL_law_169 : decode cL_law 169 = .ok (.iadd, 1) := by decide +kernel
theorem dL_law_170 : decode cL_law 170 = .ok (.iaload, 1) := by decide +kernel
theorem dL_law_171 : decode cL_law 171 = .ok (.aload_n 0, 1) := by decide +kernel
end
section
theorem dL_law_172 : decode cL_law 172 = .ok (.iload_n 3, 1) := by decide +kernel
theorem dL_law_173 : decode cL_law 173 = .ok (.iconst 2, 1) := by decide +kernel
theorem dL_law_174 : decode cL_law 174 = .ok (.iadd, 1) := by decide +kernel
theorem dL_law_175 : decode cL_law 175 = .ok (.iaload, 1) := by decide +kernel
theorem dL_law_176 : decode cL_law 176 = .ok (.invokevirtual 18, 3) := by decide +kernel
theorem dL_law_179 : decode cL_law 179 = .ok (.aload_n 2, 1) := by decide +kernel
theorem dL_law_180 : decode cL_law 180 = .ok (.aload_n 0, 1) := by decide +kernel
theorem dL_law_181 : decode cL_law 181 = .ok (.iload_n 3, 1) := by decide +kernel
theorem dL_law_182 : decode cL_law 182 = .ok (.iconst 1, 1) := by decide +kernel
theorem dL_law_183 : decode cL_law 183 = .ok (.iadd, 1) := by decide +kernel
theorem dL_law_184 : decode cL_law 184 = .ok (.iaload, 1) := by decide +kernel
theorem dL_law_185 : decode cL_law 185 = .ok (.aload_n 0, 1) := by decide +kernel
theorem dL_law_186 : decode cL_law 186 = .ok (.iload_n 3, 1) := by decide +kernel
theorem dL_law_187 : decode cL_law 187 = .ok (.iconst 2, 1) := by decide +kernel
theorem dL_law_188 : decode cL_law 188 = .ok (.iadd, 1) := by decide +kernel
theorem dL_law_189 : decode cL_law 189 = .ok (.iaload, 1) := by decide +kernel
theorem dL_law_190 : decode cL_law 190 = .ok (.invokevirtual 22, 3) := by decide +kernel
theorem dL_law_193 : decode cL_law 193 = .ok (.if_icmp .eq 879, 3) := by decide +kernel
theorem dL_law_196 : decode cL_law 196 = .ok (.iconst 0, 1) := by decide +kernel
theorem dL_law_197 : decode cL_law 197 = .ok (.ireturn, 1) := by decide +kernel
theorem dL_law_198 : decode cL_law 198 = .ok (.aload_n 1, 1) := by decide +kernel
theorem dL_law_199 : decode cL_law 199 = .ok (.aload_n 0, 1) := by decide +kernel
theorem dL_law_200 : decode cL_law 200 = .ok (.iload_n 3, 1) := by decide +kernel
theorem dL_law_201 : decode cL_law 201 = .ok (.iconst 1, 1) := by decide +kernel
theorem dL_law_202 : decode cL_law 202 = .ok (.iadd, 1) := by decide +kernel
theorem dL_law_203 : decode cL_law 203 = .ok (.iaload, 1) := by decide +kernel
theorem dL_law_204 : decode cL_law 204 = .ok (.aload_n 0, 1) := by decide +kernel
theorem dL_law_205 : decode cL_law 205 = .ok (.iload_n 3, 1) := by decide +kernel
theorem dL_law_206 : decode cL_law 206 = .ok (.iconst 2, 1) := by decide +kernel
theorem dL_law_207 : decode cL_law 207 = .ok (.iadd, 1) := by decide +kernel
theorem dL_law_208 : decode cL_law 208 = .ok (.iaload, 1) := by decide +kernel
theorem dL_law_209 : decode cL_law 209 = .ok (.aload_n 0, 1) := by decide +kernel
theorem dL_law_210 : decode cL_law 210 = .ok (.iload_n 3, 1) := by decide +kernel
theorem dL_law_211 : decode cL_law 211 = .ok (.iconst 3, 1) := by decide +kernel
theorem dL_law_212 : decode cL_law 212 = .ok (.iadd, 1) := by decide +kernel
theorem dL_law_213 : decode cL_law 213 = .ok (.iaload, 1) := by decide +kernel
theorem dL_law_214 : decode cL_law 214 = .ok (.invokevirtual 23, 3) := by decide +kernel
theorem dL_law_217 : decode cL_law 217 = .ok (.aload_n 2, 1) := by decide +kernel
theorem dL_law_218 : decode cL_law 218 = .ok (.aload_n 0, 1) := by decide +kernel
theorem dL_law_219 : decode cL_law 219 = .ok (.iload_n 3, 1) := by decide +kernel
theorem dL_law_220 : decode cL_law 220 = .ok (.iconst 1, 1) := by decide +kernel
theorem dL_law_221 : decode cL_law 221 = .ok (.iadd, 1) := by decide +kernel
theorem dL_law_222 : decode cL_law 222 = .ok (.iaload, 1) := by decide +kernel
theorem dL_law_223 : decode cL_law 223 = .ok (.aload_n 0, 1) := by decide +kernel
theorem dL_law_224 : decode cL_law 224 = .ok (.iload_n 3, 1) := by decide +kernel
theorem dL_law_225 : decode cL_law 225 = .ok (.iconst 2, 1) := by decide +kernel
theorem dL_law_226 : decode cL_law 226 = .ok (.iadd, 1) := by decide +kernel
theorem dL_law_227 : decode cL_law 227 = .ok (.iaload, 1) := by decide +kernel
theorem dL_law_228 : decode cL_law 228 = .ok (.aload_n 0, 1) := by decide +kernel
theorem dL_law_229 : decode cL_law 229 = .ok (.iload_n 3, 1) := by decide +kernel
theorem dL_law_230 : decode cL_law 230 = .ok (.iconst 3, 1) := by decide +kernel
theorem dL_law_231 : decode cL_law 231 = .ok (.iadd, 1) := by decide +kernel
theorem dL_law_232 : decode cL_law 232 = .ok (.iaload, 1) := by decide +kernel
theorem dL_law_233 : decode cL_law 233 = .ok (.invokevirtual 27, 3) := by decide +kernel
theorem dL_law_236 : decode cL_law 236 = .ok (.if_icmp .eq 836, 3) := by decide +kernel
theorem dL_law_239 : decode cL_law 239 = .ok (.iconst 0, 1) := by decide +kernel
theorem dL_law_240 : decode cL_law 240 = .ok (.ireturn, 1) := by decide +kernel
theorem dL_law_241 : decode cL_law 241 = .ok (.aload_n 1, 1) := by decide +kernel
theorem dL_law_242 : decode cL_law 242 = .ok (.aload_n 0, 1) := by decide +kernel
theorem dL_law_243 : decode cL_law 243 = .ok (.iload_n 3, 1) := by decide +kernel
theorem dL_law_244 : decode cL_law 244 = .ok (.iconst 1, 1) := by decide +kernel
theorem dL_law_245 : decode cL_law 245 = .ok (.iadd, 1) := by decide +kernel
theorem dL_law_246 : decode cL_law 246 = .ok (.iaload, 1) := by decide +kernel
theorem dL_law_247 : decode cL_law 247 = .ok (.aload_n 0, 1) := by decide +kernel
theorem dL_law_248 : decode cL_law 248 = .ok (.iload_n 3, 1) := by decide +kernel
theorem dL_law_249 : decode cL_law 249 = .ok (.iconst 2, 1) := by decide +kernel
theorem dL_law_250 : decode cL_law 250 = .ok (.iadd, 1) := by decide +kernel
theorem dL_law_251 : decode cL_law 251 = .ok (.iaload, 1) := by decide +kernel
theorem dL_law_252 : decode cL_law 252 = .ok (.aload_n 0, 1) := by decide +kernel
theorem dL_law_253 : decode cL_law 253 = .ok (.iload_n 3, 1) := by decide +kernel
theorem dL_law_254 : decode cL_law 254 = .ok (.iconst 3, 1) := by decide +kernel
theorem dL_law_255 : decode cL_law 255 = .ok (.iadd, 1) := by decide +kernel
theorem dL_law_256 : decode cL_law 256 = .ok (.iaload, 1) := by decide +kernel
theorem dL_law_257 : decode cL_law 257 = .ok (.invokevirtual 28, 3) := by decide +kernel
theorem dL_law_260 : decode cL_law 260 = .ok (.aload_n 2, 1) := by decide +kernel
theorem dL_law_261 : decode cL_law 261 = .ok (.aload_n 0, 1) := by decide +kernel
theorem dL_law_262 : decode cL_law 262 = .ok (.iload_n 3, 1) := by decide +kernel
theorem dL_law_263 : decode cL_law 263 = .ok (.iconst 1, 1) := by decide +kernel
theorem dL_law_264 : decode cL_law 264 = .ok (.iadd, 1) := by decide +kernel
theorem dL_law_265 : decode cL_law 265 = .ok (.iaload, 1) := by decide +kernel
theorem dL_law_266 : decode cL_law 266 = .ok (.aload_n 0, 1) := by decide +kernel
theorem dL_law_267 : decode cL_law 267 = .ok (.iload_n 3, 1) := by decide +kernel
theorem dL_law_268 : decode cL_law 268 = .ok (.iconst 2, 1) := by decide +kernel
theorem dL_law_269 : decode cL_law 269 = .ok (.iadd, 1) := by decide +kernel
theorem dL_law_270 : decode cL_law 270 = .ok (.iaload, 1) := by decide +kernel
theorem dL_law_271 : decode cL_law 271 = .ok (.aload_n 0, 1) := by decide +kernel
theorem dL_law_272 : decode cL_law 272 = .ok (.iload_n 3, 1) := by decide +kernel
theorem dL_law_273 : decode cL_law 273 = .ok (.iconst 3, 1) := by decide +kernel
theorem dL_law_274 : decode cL_law 274 = .ok (.iadd, 1) := by decide +kernel
theorem dL_law_275 : decode cL_law 275 = .ok (.iaload, 1) := by decide +kernel
theorem dL_law_276 : decode cL_law 276 = .ok (.invokevirtual 31, 3) := by decide +kernel
theorem dL_law_279 : decode cL_law 279 = .ok (.if_icmp .eq 793, 3) := by decide +kernel
theorem dL_law_282 : decode cL_law 282 = .ok (.iconst 0, 1) := by decide +kernel
theorem dL_law_283 : decode cL_law 283 = .ok (.ireturn, 1) := by decide +kernel
theorem dL_law_284 : decode cL_law 284 = .ok (.aload_n 1, 1) := by decide +kernel
theorem dL_law_285 : decode cL_law 285 = .ok (.aload_n 0, 1) := by decide +kernel
theorem dL_law_286 : decode cL_law 286 = .ok (.iload_n 3, 1) := by decide +kernel
theorem dL_law_287 : decode cL_law 287 = .ok (.iconst 1, 1) := by decide +kernel
theorem dL_law_288 : decode cL_law 288 = .ok (.iadd, 1) := by decide +kernel
theorem dL_law_289 : decode cL_law 289 = .ok (.iaload, 1) := by decide +kernel
theorem dL_law_290 : decode cL_law 290 = .ok (.aload_n 0, 1) := by decide +kernel
theorem dL_law_291 : decode cL_law 291 = .ok (.iload_n 3, 1) := by decide +kernel
theorem dL_law_292 : decode cL_law 292 = .ok (.iconst 2, 1) := by decide +kernel
theorem dL_law_293 : decode cL_law 293 = .ok (.iadd, 1) := by decide +kernel
theorem dL_law_294 : decode cL_law 294 = .ok (.iaload, 1) := by decide +kernel
theorem dL_law_295 : decode cL_law 295 = .ok (.invokevirtual 32, 3) := by decide +kernel
theorem dL_law_298 : decode cL_law 298 = .ok (.aload_n 2, 1) := by decide +kernel
theorem dL_law_299 : decode cL_law 299 = .ok (.aload_n 0, 1) := by decide +kernel
theorem dL_law_300 : decode cL_law 300 = .ok (.iload_n 3, 1) := by decide +kernel
theorem dL_law_301 : decode cL_law 301 = .ok (.iconst 1, 1) := by decide +kernel
theorem dL_law_302 : decode cL_law 302 = .ok (.iadd, 1) := by decide +kernel
theorem dL_law_303 : decode cL_law 303 = .ok (.iaload, 1) := by decide +kernel
theorem dL_law_304 : decode cL_law 304 = .ok (.aload_n 0, 1) := by decide +kernel
theorem dL_law_305 : decode cL_law 305 = .ok (.iload_n 3, 1) := by decide +kernel
theorem dL_law_306 : decode cL_law 306 = .ok (.iconst 2, 1) := by decide +kernel
theorem dL_law_307 : decode cL_law 307 = .ok (.iadd, 1) := by decide +kernel
theorem dL_law_308 : decode cL_law 308 = .ok (.iaload, 1) := by decide +kernel
theorem dL_law_309 : decode cL_law 309 = .ok (.invokevirtual 35, 3) := by decide +kernel
theorem dL_law_312 : decode cL_law 312 = .ok (.if_icmp .eq 760, 3) := by decide +kernel
theorem dL_law_315 : decode cL_law 315 = .ok (.iconst 0, 1) := by decide +kernel
theorem dL_law_316 : decode cL_law 316 = .ok (.ireturn, 1) := by decide +kernel
theorem dL_law_317 : decode cL_law 317 = .ok (.aload_n 1, 1) := by decide +kernel
theorem dL_law_318 : decode cL_law 318 = .ok (.aload_n 0, 1) := by decide +kernel
theorem dL_law_319 : decode cL_law 319 = .ok (.iload_n 3, 1) := by decide +kernel
theorem dL_law_320 : decode cL_law 320 = .ok (.iconst 1, 1) := by decide +kernel
theorem dL_law_321 : decode cL_law 321 = .ok (.iadd, 1) := by decide +kernel
theorem dL_law_322 : decode cL_law 322 = .ok (.iaload, 1) := by decide +kernel
theorem dL_law_323 : decode cL_law 323 = .ok (.aload_n 0, 1) := by decide +kernel
theorem dL_law_324 : decode cL_law 324 = .ok (.iload_n 3, 1) := by decide +kernel
theorem dL_law_325 : decode cL_law 325 = .ok (.iconst 2, 1) := by decide +kernel
theorem dL_law_326 : decode cL_law 326 = .ok (.iadd, 1) := by decide +kernel
theorem dL_law_327 : decode cL_law 327 = .ok (.iaload, 1) := by decide +kernel
theorem dL_law_328 : decode cL_law 328 = .ok (.aload_n 0, 1) := by decide +kernel
theorem dL_law_329 : decode cL_law 329 = .ok (.iload_n 3, 1) := by decide +kernel
theorem dL_law_330 : decode cL_law 330 = .ok (.iconst 3, 1) := by decide +kernel
theorem dL_law_331 : decode cL_law 331 = .ok (.iadd, 1) := by decide +kernel
theorem dL_law_332 : decode cL_law 332 = .ok (.iaload, 1) := by decide +kernel
theorem dL_law_333 : decode cL_law 333 = .ok (.ifCond .eq 7, 3) := by decide +kernel
theorem dL_law_336 : decode cL_law 336 = .ok (.iconst 1, 1) := by decide +kernel
theorem dL_law_337 : decode cL_law 337 = .ok (.goto 4, 3) := by decide +kernel
theorem dL_law_340 : decode cL_law 340 = .ok (.iconst 0, 1) := by decide +kernel
theorem dL_law_341 : decode cL_law 341 = .ok (.invokevirtual 36, 3) := by decide +kernel
theorem dL_law_344 : decode cL_law 344 = .ok (.aload_n 2, 1) := by decide +kernel
theorem dL_law_345 : decode cL_law 345 = .ok (.aload_n 0, 1) := by decide +kernel
theorem dL_law_346 : decode cL_law 346 = .ok (.iload_n 3, 1) := by decide +kernel
theorem dL_law_347 : decode cL_law 347 = .ok (.iconst 1, 1) := by decide +kernel
theorem dL_law_348 : decode cL_law 348 = .ok (.iadd, 1) := by decide +kernel
theorem dL_law_349 : decode cL_law 349 = .ok (.iaload, 1) := by decide +kernel
theorem dL_law_350 : decode cL_law 350 = .ok (.aload_n 0, 1) := by decide +kernel
theorem dL_law_351 : decode cL_law 351 = .ok (.iload_n 3, 1) := by decide +kernel
theorem dL_law_352 : decode cL_law 352 = .ok (.iconst 2, 1) := by decide +kernel
theorem dL_law_353 : decode cL_law 353 = .ok (.iadd, 1) := by decide +kernel
theorem dL_law_354 : decode cL_law 354 = .ok (.iaload, 1) := by decide +kernel
theorem dL_law_355 : decode cL_law 355 = .ok (.aload_n 0, 1) := by decide +kernel
theorem dL_law_356 : decode cL_law 356 = .ok (.iload_n 3, 1) := by decide +kernel
theorem dL_law_357 : decode cL_law 357 = .ok (.iconst 3, 1) := by decide +kernel
theorem dL_law_358 : decode cL_law 358 = .ok (.iadd, 1) := by decide +kernel
theorem dL_law_359 : decode cL_law 359 = .ok (.iaload, 1) := by decide +kernel
theorem dL_law_360 : decode cL_law 360 = .ok (.ifCond .eq 7, 3) := by decide +kernel
theorem dL_law_363 : decode cL_law 363 = .ok (.iconst 1, 1) := by decide +kernel
theorem dL_law_364 : decode cL_law 364 = .ok (.goto 4, 3) := by decide +kernel
theorem dL_law_367 : decode cL_law 367 = .ok (.iconst 0, 1) := by decide +kernel
theorem dL_law_368 : decode cL_law 368 = .ok (.invokevirtual 40, 3) := by decide +kernel
theorem dL_law_371 : decode cL_law 371 = .ok (.if_icmp .eq 701, 3) := by decide +kernel
theorem dL_law_374 : decode cL_law 374 = .ok (.iconst 0, 1) := by decide +kernel
theorem dL_law_375 : decode cL_law 375 = .ok (.ireturn, 1) := by decide +kernel
theorem dL_law_376 : decode cL_law 376 = .ok (.aload_n 1, 1) := by decide +kernel
theorem dL_law_377 : decode cL_law 377 = .ok (.aload_n 0, 1) := by decide +kernel
theorem dL_law_378 : decode cL_law 378 = .ok (.iload_n 3, 1) := by decide +kernel
theorem dL_law_379 : decode cL_law 379 = .ok (.iconst 1, 1) := by decide +kernel
theorem dL_law_380 : decode cL_law 380 = .ok (.iadd, 1) := by decide +kernel
theorem dL_law_381 : decode cL_law 381 = .ok (.iaload, 1) := by decide +kernel
theorem dL_law_382 : decode cL_law 382 = .ok (.aload_n 0, 1) := by decide +kernel
theorem dL_law_383 : decode cL_law 383 = .ok (.iload_n 3, 1) := by decide +kernel
theorem dL_law_384 : decode cL_law 384 = .ok (.iconst 2, 1) := by decide +kernel
theorem dL_law_385 : decode cL_law 385 = .ok (.iadd, 1) := by decide +kernel
theorem dL_law_386 : decode cL_law 386 = .ok (.iaload, 1) := by decide +kernel
theorem dL_law_387 : decode cL_law 387 = .ok (.aload_n 0, 1) := by decide +kernel
theorem dL_law_388 : decode cL_law 388 = .ok (.iload_n 3, 1) := by decide +kernel
theorem dL_law_389 : decode cL_law 389 = .ok (.iconst 3, 1) := by decide +kernel
theorem dL_law_390 : decode cL_law 390 = .ok (.iadd, 1) := by decide +kernel
theorem dL_law_391 : decode cL_law 391 = .ok (.iaload, 1) := by decide +kernel
theorem dL_law_392 : decode cL_law 392 = .ok (.ifCond .eq 7, 3) := by decide +kernel
theorem dL_law_395 : decode cL_law 395 = .ok (.iconst 1, 1) := by decide +kernel
theorem dL_law_396 : decode cL_law 396 = .ok (.goto 4, 3) := by decide +kernel
theorem dL_law_399 : decode cL_law 399 = .ok (.iconst 0, 1) := by decide +kernel
theorem dL_law_400 : decode cL_law 400 = .ok (.invokevirtual 41, 3) := by decide +kernel
theorem dL_law_403 : decode cL_law 403 = .ok (.aload_n 2, 1) := by decide +kernel
theorem dL_law_404 : decode cL_law 404 = .ok (.aload_n 0, 1) := by decide +kernel
theorem dL_law_405 : decode cL_law 405 = .ok (.iload_n 3, 1) := by decide +kernel
theorem dL_law_406 : decode cL_law 406 = .ok (.iconst 1, 1) := by decide +kernel
theorem dL_law_407 : decode cL_law 407 = .ok (.iadd, 1) := by decide +kernel
theorem dL_law_408 : decode cL_law 408 = .ok (.iaload, 1) := by decide +kernel
theorem dL_law_409 : decode cL_law 409 = .ok (.aload_n 0, 1) := by decide +kernel
theorem dL_law_410 : decode cL_law 410 = .ok (.iload_n 3, 1) := by decide +kernel
theorem dL_law_411 : decode cL_law 411 = .ok (.iconst 2, 1) := by decide +kernel
theorem dL_law_412 : decode cL_law 412 = .ok (.iadd, 1) := by decide +kernel
theorem dL_law_413 : decode cL_law 413 = .ok (.iaload, 1) := by decide +kernel
theorem dL_law_414 : decode cL_law 414 = .ok (.aload_n 0, 1) := by decide +kernel
theorem dL_law_415 : decode cL_law 415 = .ok (.iload_n 3, 1) := by decide +kernel
theorem dL_law_416 : decode cL_law 416 = .ok (.iconst 3, 1) := by decide +kernel
theorem dL_law_417 : decode cL_law 417 = .ok (.iadd, 1) := by decide +kernel
theorem dL_law_418 : decode cL_law 418 = .ok (.iaload, 1) := by decide +kernel
theorem dL_law_419 : decode cL_law 419 = .ok (.ifCond .eq 7, 3) := by decide +kernel
theorem dL_law_422 : decode cL_law 422 = .ok (.iconst 1, 1) := by decide +kernel
theorem dL_law_423 : decode cL_law 423 = .ok (.goto 4, 3) := by decide +kernel
theorem dL_law_426 : decode cL_law 426 = .ok (.iconst 0, 1) := by decide +kernel
theorem dL_law_427 : decode cL_law 427 = .ok (.invokevirtual 44, 3) := by decide +kernel
theorem dL_law_430 : decode cL_law 430 = .ok (.if_icmp .eq 642, 3) := by decide +kernel
theorem dL_law_433 : decode cL_law 433 = .ok (.iconst 0, 1) := by decide +kernel
theorem dL_law_434 : decode cL_law 434 = .ok (.ireturn, 1) := by decide +kernel
theorem dL_law_435 : decode cL_law 435 = .ok (.aload_n 1, 1) := by decide +kernel
theorem dL_law_436 : decode cL_law 436 = .ok (.aload_n 0, 1) := by decide +kernel
theorem dL_law_437 : decode cL_law 437 = .ok (.iload_n 3, 1) := by decide +kernel
theorem dL_law_438 : decode cL_law 438 = .ok (.iconst 1, 1) := by decide +kernel
theorem dL_law_439 : decode cL_law 439 = .ok (.iadd, 1) := by decide +kernel
theorem dL_law_440 : decode cL_law 440 = .ok (.iaload, 1) := by decide +kernel
theorem dL_law_441 : decode cL_law 441 = .ok (.aload_n 0, 1) := by decide +kernel
theorem dL_law_442 : decode cL_law 442 = .ok (.iload_n 3, 1) := by decide +kernel
theorem dL_law_443 : decode cL_law 443 = .ok (.iconst 2, 1) := by decide +kernel
theorem dL_law_444 : decode cL_law 444 = .ok (.iadd, 1) := by decide +kernel
theorem dL_law_445 : decode cL_law 445 = .ok (.iaload, 1) := by decide +kernel
theorem dL_law_446 : decode cL_law 446 = .ok (.aload_n 0, 1) := by decide +kernel
theorem dL_law_447 : decode cL_law 447 = .ok (.iload_n 3, 1) := by decide +kernel
theorem dL_law_448 : decode cL_law 448 = .ok (.iconst 3, 1) := by decide +kernel
theorem dL_law_449 : decode cL_law 449 = .ok (.iadd, 1) := by decide +kernel
theorem dL_law_450 : decode cL_law 450 = .ok (.iaload, 1) := by decide +kernel
theorem dL_law_451 : decode cL_law 451 = .ok (.invokevirtual 45, 3) := by decide +kernel
theorem dL_law_454 : decode cL_law 454 = .ok (.aload_n 2, 1) := by decide +kernel
theorem dL_law_455 : decode cL_law 455 = .ok (.aload_n 0, 1) := by decide +kernel
theorem dL_law_456 : decode cL_law 456 = .ok (.iload_n 3, 1) := by decide +kernel
theorem dL_law_457 : decode cL_law 457 = .ok (.iconst 1, 1) := by decide +kernel
theorem dL_law_458 : decode cL_law 458 = .ok (.iadd, 1) := by decide +kernel
theorem dL_law_459 : decode cL_law 459 = .ok (.iaload, 1) := by decide +kernel
theorem dL_law_460 : decode cL_law 460 = .ok (.aload_n 0, 1) := by decide +kernel
theorem dL_law_461 : decode cL_law 461 = .ok (.iload_n 3, 1) := by decide +kernel
theorem dL_law_462 : decode cL_law 462 = .ok (.iconst 2, 1) := by decide +kernel
theorem dL_law_463 : decode cL_law 463 = .ok (.iadd, 1) := by decide +kernel
theorem dL_law_464 : decode cL_law 464 = .ok (.iaload, 1) := by decide +kernel
theorem dL_law_465 : decode cL_law 465 = .ok (.aload_n 0, 1) := by decide +kernel
theorem dL_law_466 : decode cL_law 466 = .ok (.iload_n 3, 1) := by decide +kernel
theorem dL_law_467 : decode cL_law 467 = .ok (.iconst 3, 1) := by decide +kernel
theorem dL_law_468 : decode cL_law 468 = .ok (.iadd, 1) := by decide +kernel
theorem dL_law_469 : decode cL_law 469 = .ok (.iaload, 1) := by decide +kernel
theorem dL_law_470 : decode cL_law 470 = .ok (.invokevirtual 48, 3) := by decide +kernel
theorem dL_law_473 : decode cL_law 473 = .ok (.if_icmp .eq 599, 3) := by decide +kernel
theorem dL_law_476 : decode cL_law 476 = .ok (.iconst 0, 1) := by decide +kernel
theorem dL_law_477 : decode cL_law 477 = .ok (.ireturn, 1) := by decide +kernel
theorem dL_law_478 : decode cL_law 478 = .ok (.aload_n 1, 1) := by decide +kernel
theorem dL_law_479 : decode cL_law 479 = .ok (.aload_n 0, 1) := by decide +kernel
theorem dL_law_480 : decode cL_law 480 = .ok (.iload_n 3, 1) := by decide +kernel
theorem dL_law_481 : decode cL_law 481 = .ok (.iconst 1, 1) := by decide +kernel
theorem dL_law_482 : decode cL_law 482 = .ok (.iadd, 1) := by decide +kernel
theorem dL_law_483 : decode cL_law 483 = .ok (.iaload, 1) := by decide +kernel
theorem dL_law_484 : decode cL_law 484 = .ok (.aload_n 0, 1) := by decide +kernel
theorem dL_law_485 : decode cL_law 485 = .ok (.iload_n 3, 1) := by decide +kernel
theorem dL_law_486 : decode cL_law 486 = .ok (.iconst 2, 1) := by decide +kernel
theorem dL_law_487 : decode cL_law 487 = .ok (.iadd, 1) := by decide +kernel
theorem dL_law_488 : decode cL_law 488 = .ok (.iaload, 1) := by decide +kernel
theorem dL_law_489 : decode cL_law 489 = .ok (.invokevirtual 49, 3) := by decide +kernel
theorem dL_law_492 : decode cL_law 492 = .ok (.aload_n 2, 1) := by decide +kernel
theorem dL_law_493 : decode cL_law 493 = .ok (.aload_n 0, 1) := by decide +kernel
theorem dL_law_494 : decode cL_law 494 = .ok (.iload_n 3, 1) := by decide +kernel
theorem dL_law_495 : decode cL_law 495 = .ok (.iconst 1, 1) := by decide +kernel
theorem dL_law_496 : decode cL_law 496 = .ok (.iadd, 1) := by decide +kernel
theorem dL_law_497 : decode cL_law 497 = .ok (.iaload, 1) := by decide +kernel
theorem dL_law_498 : decode cL_law 498 = .ok (.aload_n 0, 1) := by decide +kernel
theorem dL_law_499 : decode cL_law 499 = .ok (.iload_n 3, 1) := by decide +kernel
theorem dL_law_500 : decode cL_law 500 = .ok (.iconst 2, 1) := by decide +kernel
theorem dL_law_501 : decode cL_law 501 = .ok (.iadd, 1) := by decide +kernel
theorem dL_law_502 : decode cL_law 502 = .ok (.iaload, 1) := by decide +kernel
theorem dL_law_503 : decode cL_law 503 = .ok (.invokevirtual 52, 3) := by decide +kernel
theorem dL_law_506 : decode cL_law 506 = .ok (.if_icmp .eq 566, 3) := by decide +kernel
theorem dL_law_509 : decode cL_law 509 = .ok (.iconst 0, 1) := by decide +kernel
theorem dL_law_510 : decode cL_law 510 = .ok (.ireturn, 1) := by decide +kernel
theorem dL_law_511 : decode cL_law 511 = .ok (.aload_n 1, 1) := by decide +kernel
theorem dL_law_512 : decode cL_law 512 = .ok (.aload_n 0, 1) := by decide +kernel
theorem dL_law_513 : decode cL_law 513 = .ok (.iload_n 3, 1) := by decide +kernel
theorem dL_law_514 : decode cL_law 514 = .ok (.iconst 1, 1) := by decide +kernel
theorem dL_law_515 : decode cL_law 515 = .ok (.iadd, 1) := by decide +kernel
theorem dL_law_516 : decode cL_law 516 = .ok (.iaload, 1) := by decide +kernel
theorem dL_law_517 : decode cL_law 517 = .ok (.invokevirtual 53, 3) := by decide +kernel
theorem dL_law_520 : decode cL_law 520 = .ok (.aload_n 2, 1) := by decide +kernel
theorem dL_law_521 : decode cL_law 521 = .ok (.aload_n 0, 1) := by decide +kernel
theorem dL_law_522 : decode cL_law 522 = .ok (.iload_n 3, 1) := by decide +kernel
theorem dL_law_523 : decode cL_law 523 = .ok (.iconst 1, 1) := by decide +kernel
theorem dL_law_524 : decode cL_law 524 = .ok (.iadd, 1) := by decide +kernel
theorem dL_law_525 : decode cL_law 525 = .ok (.iaload, 1) := by decide +kernel
theorem dL_law_526 : decode cL_law 526 = .ok (.invokevirtual 57, 3) := by decide +kernel
theorem dL_law_529 : decode cL_law 529 = .ok (.if_icmp .eq 543, 3) := by decide +kernel
theorem dL_law_532 : decode cL_law 532 = .ok (.iconst 0, 1) := by decide +kernel
theorem dL_law_533 : decode cL_law 533 = .ok (.ireturn, 1) := by decide +kernel
theorem dL_law_534 : decode cL_law 534 = .ok (.aload_n 1, 1) := by decide +kernel
theorem dL_law_535 : decode cL_law 535 = .ok (.aload_n 0, 1) := by decide +kernel
theorem dL_law_536 : decode cL_law 536 = .ok (.iload_n 3, 1) := by decide +kernel
theorem dL_law_537 : decode cL_law 537 = .ok (.iconst 1, 1) := by decide +kernel
theorem dL_law_538 : decode cL_law 538 = .ok (.iadd, 1) := by decide +kernel
theorem dL_law_539 : decode cL_law 539 = .ok (.iaload, 1) := by decide +kernel
theorem dL_law_540 : decode cL_law 540 = .ok (.aload_n 0, 1) := by decide +kernel
theorem dL_law_541 : decode cL_law 541 = .ok (.iload_n 3, 1) := by decide +kernel
theorem dL_law_542 : decode cL_law 542 = .ok (.iconst 2, 1) := by decide +kernel
theorem dL_law_543 : decode cL_law 543 = .ok (.iadd, 1) := by decide +kernel
theorem dL_law_544 : decode cL_law 544 = .ok (.iaload, 1) := by decide +kernel
theorem dL_law_545 : decode cL_law 545 = .ok (.aload_n 0, 1) := by decide +kernel
theorem dL_law_546 : decode cL_law 546 = .ok (.iload_n 3, 1) := by decide +kernel
theorem dL_law_547 : decode cL_law 547 = .ok (.iconst 3, 1) := by decide +kernel
theorem dL_law_548 : decode cL_law 548 = .ok (.iadd, 1) := by decide +kernel
theorem dL_law_549 : decode cL_law 549 = .ok (.iaload, 1) := by decide +kernel
theorem dL_law_550 : decode cL_law 550 = .ok (.invokevirtual 58, 3) := by decide +kernel
theorem dL_law_553 : decode cL_law 553 = .ok (.aload_n 2, 1) := by decide +kernel
theorem dL_law_554 : decode cL_law 554 = .ok (.aload_n 0, 1) := by decide +kernel
theorem dL_law_555 : decode cL_law 555 = .ok (.iload_n 3, 1) := by decide +kernel
theorem dL_law_556 : decode cL_law 556 = .ok (.iconst 1, 1) := by decide +kernel
theorem dL_law_557 : decode cL_law 557 = .ok (.iadd, 1) := by decide +kernel
theorem dL_law_558 : decode cL_law 558 = .ok (.iaload, 1) := by decide +kernel
theorem dL_law_559 : decode cL_law 559 = .ok (.aload_n 0, 1) := by decide +kernel
theorem dL_law_560 : decode cL_law 560 = .ok (.iload_n 3, 1) := by decide +kernel
theorem dL_law_561 : decode cL_law 561 = .ok (.iconst 2, 1) := by decide +kernel
theorem dL_law_562 : decode cL_law 562 = .ok (.iadd, 1) := by decide +kernel
theorem dL_law_563 : decode cL_law 563 = .ok (.iaload, 1) := by decide +kernel
theorem dL_law_564 : decode cL_law 564 = .ok (.aload_n 0, 1) := by decide +kernel
theorem dL_law_565 : decode cL_law 565 = .ok (.iload_n 3, 1) := by decide +kernel
theorem dL_law_566 : decode cL_law 566 = .ok (.iconst 3, 1) := by decide +kernel
theorem dL_law_567 : decode cL_law 567 = .ok (.iadd, 1) := by decide +kernel
theorem dL_law_568 : decode cL_law 568 = .ok (.iaload, 1) := by decide +kernel
theorem dL_law_569 : decode cL_law 569 = .ok (.invokevirtual 61, 3) := by decide +kernel
theorem dL_law_572 : decode cL_law 572 = .ok (.if_icmp .eq 500, 3) := by decide +kernel
theorem dL_law_575 : decode cL_law 575 = .ok (.iconst 0, 1) := by decide +kernel
theorem dL_law_576 : decode cL_law 576 = .ok (.ireturn, 1) := by decide +kernel
theorem dL_law_577 : decode cL_law 577 = .ok (.aload_n 1, 1) := by decide +kernel
theorem dL_law_578 : decode cL_law 578 = .ok (.aload_n 0, 1) := by decide +kernel
theorem dL_law_579 : decode cL_law 579 = .ok (.iload_n 3, 1) := by decide +kernel
theorem dL_law_580 : decode cL_law 580 = .ok (.iconst 1, 1) := by decide +kernel
theorem dL_law_581 : decode cL_law 581 = .ok (.iadd, 1) := by decide +kernel
theorem dL_law_582 : decode cL_law 582 = .ok (.iaload, 1) := by decide +kernel
theorem dL_law_583 : decode cL_law 583 = .ok (.aload_n 0, 1) := by decide +kernel
theorem dL_law_584 : decode cL_law 584 = .ok (.iload_n 3, 1) := by decide +kernel
theorem dL_law_585 : decode cL_law 585 = .ok (.iconst 2, 1) := by decide +kernel
theorem dL_law_586 : decode cL_law 586 = .ok (.iadd, 1) := by decide +kernel
theorem dL_law_587 : decode cL_law 587 = .ok (.iaload, 1) := by decide +kernel
theorem dL_law_588 : decode cL_law 588 = .ok (.aload_n 0, 1) := by decide +kernel
theorem dL_law_589 : decode cL_law 589 = .ok (.iload_n 3, 1) := by decide +kernel
theorem dL_law_590 : decode cL_law 590 = .ok (.iconst 3, 1) := by decide +kernel
theorem dL_law_591 : decode cL_law 591 = .ok (.iadd, 1) := by decide +kernel
theorem dL_law_592 : decode cL_law 592 = .ok (.iaload, 1) := by decide +kernel
theorem dL_law_593 : decode cL_law 593 = .ok (.invokevirtual 62, 3) := by decide +kernel
theorem dL_law_596 : decode cL_law 596 = .ok (.aload_n 2, 1) := by decide +kernel
theorem dL_law_597 : decode cL_law 597 = .ok (.aload_n 0, 1) := by decide +kernel
theorem dL_law_598 : decode cL_law 598 = .ok (.iload_n 3, 1) := by decide +kernel
theorem dL_law_599 : decode cL_law 599 = .ok (.iconst 1, 1) := by decide +kernel
theorem dL_law_600 : decode cL_law 600 = .ok (.iadd, 1) := by decide +kernel
theorem dL_law_601 : decode cL_law 601 = .ok (.iaload, 1) := by decide +kernel
theorem dL_law_602 : decode cL_law 602 = .ok (.aload_n 0, 1) := by decide +kernel
theorem dL_law_603 : decode cL_law 603 = .ok (.iload_n 3, 1) := by decide +kernel
theorem dL_law_604 : decode cL_law 604 = .ok (.iconst 2, 1) := by decide +kernel
theorem dL_law_605 : decode cL_law 605 = .ok (.iadd, 1) := by decide +kernel
theorem dL_law_606 : decode cL_law 606 = .ok (.iaload, 1) := by decide +kernel
theorem dL_law_607 : decode cL_law 607 = .ok (.aload_n 0, 1) := by decide +kernel
theorem dL_law_608 : decode cL_law 608 = .ok (.iload_n 3, 1) := by decide +kernel
theorem dL_law_609 : decode cL_law 609 = .ok (.iconst 3, 1) := by decide +kernel
theorem dL_law_610 : decode cL_law 610 = .ok (.iadd, 1) := by decide +kernel
theorem dL_law_611 : decode cL_law 611 = .ok (.iaload, 1) := by decide +kernel
theorem dL_law_612 : decode cL_law 612 = .ok (.invokevirtual 65, 3) := by decide +kernel
theorem dL_law_615 : decode cL_law 615 = .ok (.if_icmp .eq 457, 3) := by decide +kernel
theorem dL_law_618 : decode cL_law 618 = .ok (.iconst 0, 1) := by decide +kernel
theorem dL_law_619 : decode cL_law 619 = .ok (.ireturn, 1) := by decide +kernel
theorem dL_law_620 : decode cL_law 620 = .ok (.aload_n 1, 1) := by decide +kernel
theorem dL_law_621 : decode cL_law 621 = .ok (.aload_n 0, 1) := by decide +kernel
theorem dL_law_622 : decode cL_law 622 = .ok (.iload_n 3, 1) := by decide +kernel
theorem dL_law_623 : decode cL_law 623 = .ok (.iconst 1, 1) := by decide +kernel
theorem dL_law_624 : decode cL_law 624 = .ok (.iadd, 1) := by decide +kernel
theorem dL_law_625 : decode cL_law 625 = .ok (.iaload, 1) := by decide +kernel
theorem dL_law_626 : decode cL_law 626 = .ok (.invokevirtual 66, 3) := by decide +kernel
theorem dL_law_629 : decode cL_law 629 = .ok (.aload_n 2, 1) := by decide +kernel
theorem dL_law_630 : decode cL_law 630 = .ok (.aload_n 0, 1) := by decide +kernel
theorem dL_law_631 : decode cL_law 631 = .ok (.iload_n 3, 1) := by decide +kernel
theorem dL_law_632 : decode cL_law 632 = .ok (.iconst 1, 1) := by decide +kernel
theorem dL_law_633 : decode cL_law 633 = .ok (.iadd, 1) := by decide +kernel
theorem dL_law_634 : decode cL_law 634 = .ok (.iaload, 1) := by decide +kernel
theorem dL_law_635 : decode cL_law 635 = .ok (.invokevirtual 69, 3) := by decide +kernel
theorem dL_law_638 : decode cL_law 638 = .ok (.if_icmp .eq 434, 3) := by decide +kernel
theorem dL_law_641 : decode cL_law 641 = .ok (.iconst 0, 1) := by decide +kernel
theorem dL_law_642 : decode cL_law 642 = .ok (.ireturn, 1) := by decide +kernel
theorem dL_law_643 : decode cL_law 643 = .ok (.aload_n 1, 1) := by decide +kernel
theorem dL_law_644 : decode cL_law 644 = .ok (.aload_n 0, 1) := by decide +kernel
theorem dL_law_645 : decode cL_law 645 = .ok (.iload_n 3, 1) := by decide +kernel
theorem dL_law_646 : decode cL_law 646 = .ok (.iconst 1, 1) := by decide +kernel
theorem dL_law_647 : decode cL_law 647 = .ok (.iadd, 1) := by decide +kernel
theorem dL_law_648 : decode cL_law 648 = .ok (.iaload, 1) := by decide +kernel
theorem dL_law_649 : decode cL_law 649 = .ok (.aload_n 0, 1) := by decide +kernel
theorem dL_law_650 : decode cL_law 650 = .ok (.iload_n 3, 1) := by decide +kernel
theorem dL_law_651 : decode cL_law 651 = .ok (.iconst 2, 1) := by decide +kernel
theorem dL_law_652 : decode cL_law 652 = .ok (.iadd, 1) := by decide +kernel
theorem dL_law_653 : decode cL_law 653 = .ok (.iaload, 1) := by decide +kernel
theorem dL_law_654 : decode cL_law 654 = .ok (.invokevirtual 70, 3) := by decide +kernel
theorem dL_law_657 : decode cL_law 657 = .ok (.aload_n 2, 1) := by decide +kernel
theorem dL_law_658 : decode cL_law 658 = .ok (.aload_n 0, 1) := by decide +kernel
theorem dL_law_659 : decode cL_law 659 = .ok (.iload_n 3, 1) := by decide +kernel
theorem dL_law_660 : decode cL_law 660 = .ok (.iconst 1, 1) := by decide +kernel
theorem dL_law_661 : decode cL_law 661 = .ok (.iadd, 1) := by decide +kernel
theorem dL_law_662 : decode cL_law 662 = .ok (.iaload, 1) := by decide +kernel
theorem dL_law_663 : decode cL_law 663 = .ok (.aload_n 0, 1) := by decide +kernel
theorem dL_law_664 : decode cL_law 664 = .ok (.iload_n 3, 1) := by decide +kernel
theorem dL_law_665 : decode cL_law 665 = .ok (.iconst 2, 1) := by decide +kernel
theorem dL_law_666 : decode cL_law 666 = .ok (.iadd, 1) := by decide +kernel
theorem dL_law_667 : decode cL_law 667 = .ok (.iaload, 1) := by decide +kernel
theorem dL_law_668 : decode cL_law 668 = .ok (.invokevirtual 73, 3) := by decide +kernel
theorem dL_law_671 : decode cL_law 671 = .ok (.if_icmp .eq 401, 3) := by decide +kernel
theorem dL_law_674 : decode cL_law 674 = .ok (.iconst 0, 1) := by decide +kernel
theorem dL_law_675 : decode cL_law 675 = .ok (.ireturn, 1) := by decide +kernel
theorem dL_law_676 : decode cL_law 676 = .ok (.aload_n 1, 1) := by decide +kernel
theorem dL_law_677 : decode cL_law 677 = .ok (.aload_n 0, 1) := by decide +kernel
theorem dL_law_678 : decode cL_law 678 = .ok (.iload_n 3, 1) := by decide +kernel
theorem dL_law_679 : decode cL_law 679 = .ok (.iconst 1, 1) := by decide +kernel
theorem dL_law_680 : decode cL_law 680 = .ok (.iadd, 1) := by decide +kernel
theorem dL_law_681 : decode cL_law 681 = .ok (.iaload, 1) := by decide +kernel
theorem dL_law_682 : decode cL_law 682 = .ok (.aload_n 0, 1) := by decide +kernel
theorem dL_law_683 : decode cL_law 683 = .ok (.iload_n 3, 1) := by decide +kernel
theorem dL_law_684 : decode cL_law 684 = .ok (.iconst 2, 1) := by decide +kernel
theorem dL_law_685 : decode cL_law 685 = .ok (.iadd, 1) := by decide +kernel
theorem dL_law_686 : decode cL_law 686 = .ok (.iaload, 1) := by decide +kernel
theorem dL_law_687 : decode cL_law 687 = .ok (.aload_n 0, 1) := by decide +kernel
theorem dL_law_688 : decode cL_law 688 = .ok (.iload_n 3, 1) := by decide +kernel
theorem dL_law_689 : decode cL_law 689 = .ok (.iconst 3, 1) := by decide +kernel
theorem dL_law_690 : decode cL_law 690 = .ok (.iadd, 1) := by decide +kernel
theorem dL_law_691 : decode cL_law 691 = .ok (.iaload, 1) := by decide +kernel
theorem dL_law_692 : decode cL_law 692 = .ok (.invokevirtual 74, 3) := by decide +kernel
theorem dL_law_695 : decode cL_law 695 = .ok (.aload_n 2, 1) := by decide +kernel
theorem dL_law_696 : decode cL_law 696 = .ok (.aload_n 0, 1) := by decide +kernel
theorem dL_law_697 : decode cL_law 697 = .ok (.iload_n 3, 1) := by decide +kernel
theorem dL_law_698 : decode cL_law 698 = .ok (.iconst 1, 1) := by decide +kernel
theorem dL_law_699 : decode cL_law 699 = .ok (.iadd, 1) := by decide +kernel
theorem dL_law_700 : decode cL_law 700 = .ok (.iaload, 1) := by decide +kernel
theorem dL_law_701 : decode cL_law 701 = .ok (.aload_n 0, 1) := by decide +kernel
theorem dL_law_702 : decode cL_law 702 = .ok (.iload_n 3, 1) := by decide +kernel
theorem dL_law_703 : decode cL_law 703 = .ok (.iconst 2, 1) := by decide +kernel
theorem dL_law_704 : decode cL_law 704 = .ok (.iadd, 1) := by decide +kernel
theorem dL_law_705 : decode cL_law 705 = .ok (.iaload, 1) := by decide +kernel
theorem dL_law_706 : decode cL_law 706 = .ok (.aload_n 0, 1) := by decide +kernel
theorem dL_law_707 : decode cL_law 707 = .ok (.iload_n 3, 1) := by decide +kernel
theorem dL_law_708 : decode cL_law 708 = .ok (.iconst 3, 1) := by decide +kernel
theorem dL_law_709 : decode cL_law 709 = .ok (.iadd, 1) := by decide +kernel
theorem dL_law_710 : decode cL_law 710 = .ok (.iaload, 1) := by decide +kernel
theorem dL_law_711 : decode cL_law 711 = .ok (.invokevirtual 77, 3) := by decide +kernel
theorem dL_law_714 : decode cL_law 714 = .ok (.if_icmp .eq 358, 3) := by decide +kernel
theorem dL_law_717 : decode cL_law 717 = .ok (.iconst 0, 1) := by decide +kernel
theorem dL_law_718 : decode cL_law 718 = .ok (.ireturn, 1) := by decide +kernel
theorem dL_law_719 : decode cL_law 719 = .ok (.aload_n 1, 1) := by decide +kernel
theorem dL_law_720 : decode cL_law 720 = .ok (.aload_n 0, 1) := by decide +kernel
theorem dL_law_721 : decode cL_law 721 = .ok (.iload_n 3, 1) := by decide +kernel
theorem dL_law_722 : decode cL_law 722 = .ok (.iconst 1, 1) := by decide +kernel
theorem dL_law_723 : decode cL_law 723 = .ok (.iadd, 1) := by decide +kernel
theorem dL_law_724 : decode cL_law 724 = .ok (.iaload, 1) := by decide +kernel
theorem dL_law_725 : decode cL_law 725 = .ok (.invokevirtual 78, 3) := by decide +kernel
theorem dL_law_728 : decode cL_law 728 = .ok (.aload_n 2, 1) := by decide +kernel
theorem dL_law_729 : decode cL_law 729 = .ok (.aload_n 0, 1) := by decide +kernel
theorem dL_law_730 : decode cL_law 730 = .ok (.iload_n 3, 1) := by decide +kernel
theorem dL_law_731 : decode cL_law 731 = .ok (.iconst 1, 1) := by decide +kernel
theorem dL_law_732 : decode cL_law 732 = .ok (.iadd, 1) := by decide +kernel
theorem dL_law_733 : decode cL_law 733 = .ok (.iaload, 1) := by decide +kernel
theorem dL_law_734 : decode cL_law 734 = .ok (.invokevirtual 81, 3) := by decide +kernel
theorem dL_law_737 : decode cL_law 737 = .ok (.if_icmp .eq 335, 3) := by decide +kernel
theorem dL_law_740 : decode cL_law 740 = .ok (.iconst 0, 1) := by decide +kernel
theorem dL_law_741 : decode cL_law 741 = .ok (.ireturn, 1) := by decide +kernel
theorem dL_law_742 : decode cL_law 742 = .ok (.aload_n 1, 1) := by decide +kernel
theorem dL_law_743 : decode cL_law 743 = .ok (.aload_n 0, 1) := by decide +kernel
theorem dL_law_744 : decode cL_law 744 = .ok (.iload_n 3, 1) := by decide +kernel
theorem dL_law_745 : decode cL_law 745 = .ok (.iconst 1, 1) := by decide +kernel
theorem dL_law_746 : decode cL_law 746 = .ok (.iadd, 1) := by decide +kernel
theorem dL_law_747 : decode cL_law 747 = .ok (.iaload, 1) := by decide +kernel
theorem dL_law_748 : decode cL_law 748 = .ok (.aload_n 0, 1) := by decide +kernel
theorem dL_law_749 : decode cL_law 749 = .ok (.iload_n 3, 1) := by decide +kernel
theorem dL_law_750 : decode cL_law 750 = .ok (.iconst 2, 1) := by decide +kernel
theorem dL_law_751 : decode cL_law 751 = .ok (.iadd, 1) := by decide +kernel
theorem dL_law_752 : decode cL_law 752 = .ok (.iaload, 1) := by decide +kernel
theorem dL_law_753 : decode cL_law 753 = .ok (.invokevirtual 82, 3) := by decide +kernel
theorem dL_law_756 : decode cL_law 756 = .ok (.aload_n 2, 1) := by decide +kernel
theorem dL_law_757 : decode cL_law 757 = .ok (.aload_n 0, 1) := by decide +kernel
theorem dL_law_758 : decode cL_law 758 = .ok (.iload_n 3, 1) := by decide +kernel
theorem dL_law_759 : decode cL_law 759 = .ok (.iconst 1, 1) := by decide +kernel
theorem dL_law_760 : decode cL_law 760 = .ok (.iadd, 1) := by decide +kernel
theorem dL_law_761 : decode cL_law 761 = .ok (.iaload, 1) := by decide +kernel
theorem dL_law_762 : decode cL_law 762 = .ok (.aload_n 0, 1) := by decide +kernel
theorem dL_law_763 : decode cL_law 763 = .ok (.iload_n 3, 1) := by decide +kernel
theorem dL_law_764 : decode cL_law 764 = .ok (.iconst 2, 1) := by decide +kernel
theorem dL_law_765 : decode cL_law 765 = .ok (.iadd, 1) := by decide +kernel
theorem dL_law_766 : decode cL_law 766 = .ok (.iaload, 1) := by decide +kernel
theorem dL_law_767 : decode cL_law 767 = .ok (.invokevirtual 85, 3) := by decide +kernel
theorem dL_law_770 : decode cL_law 770 = .ok (.if_icmp .eq 302, 3) := by decide +kernel
theorem dL_law_773 : decode cL_law 773 = .ok (.iconst 0, 1) := by decide +kernel
theorem dL_law_774 : decode cL_law 774 = .ok (.ireturn, 1) := by decide +kernel
theorem dL_law_775 : decode cL_law 775 = .ok (.aload_n 1, 1) := by decide +kernel
theorem dL_law_776 : decode cL_law 776 = .ok (.aload_n 0, 1) := by decide +kernel
theorem dL_law_777 : decode cL_law 777 = .ok (.iload_n 3, 1) := by decide +kernel
theorem dL_law_778 : decode cL_law 778 = .ok (.iconst 1, 1) := by decide +kernel
theorem dL_law_779 : decode cL_law 779 = .ok (.iadd, 1) := by decide +kernel
theorem dL_law_780 : decode cL_law 780 = .ok (.iaload, 1) := by decide +kernel
theorem dL_law_781 : decode cL_law 781 = .ok (.aload_n 0, 1) := by decide +kernel
theorem dL_law_782 : decode cL_law 782 = .ok (.iload_n 3, 1) := by decide +kernel
theorem dL_law_783 : decode cL_law 783 = .ok (.iconst 2, 1) := by decide +kernel
theorem dL_law_784 : decode cL_law 784 = .ok (.iadd, 1) := by decide +kernel
theorem dL_law_785 : decode cL_law 785 = .ok (.iaload, 1) := by decide +kernel
theorem dL_law_786 : decode cL_law 786 = .ok (.aload_n 0, 1) := by decide +kernel
theorem dL_law_787 : decode cL_law 787 = .ok (.iload_n 3, 1) := by decide +kernel
theorem dL_law_788 : decode cL_law 788 = .ok (.iconst 3, 1) := by decide +kernel
theorem dL_law_789 : decode cL_law 789 = .ok (.iadd, 1) := by decide +kernel
theorem dL_law_790 : decode cL_law 790 = .ok (.iaload, 1) := by decide +kernel
theorem dL_law_791 : decode cL_law 791 = .ok (.invokevirtual 86, 3) := by decide +kernel
theorem dL_law_794 : decode cL_law 794 = .ok (.aload_n 2, 1) := by decide +kernel
theorem dL_law_795 : decode cL_law 795 = .ok (.aload_n 0, 1) := by decide +kernel
theorem dL_law_796 : decode cL_law 796 = .ok (.iload_n 3, 1) := by decide +kernel
theorem dL_law_797 : decode cL_law 797 = .ok (.iconst 1, 1) := by decide +kernel
theorem dL_law_798 : decode cL_law 798 = .ok (.iadd, 1) := by decide +kernel
theorem dL_law_799 : decode cL_law 799 = .ok (.iaload, 1) := by decide +kernel
theorem dL_law_800 : decode cL_law 800 = .ok (.aload_n 0, 1) := by decide +kernel
theorem dL_law_801 : decode cL_law 801 = .ok (.iload_n 3, 1) := by decide +kernel
theorem dL_law_802 : decode cL_law 802 = .ok (.iconst 2, 1) := by decide +kernel
theorem dL_law_803 : decode cL_law 803 = .ok (.iadd, 1) := by decide +kernel
theorem dL_law_804 : decode cL_law 804 = .ok (.iaload, 1) := by decide +kernel
theorem dL_law_805 : decode cL_law 805 = .ok (.aload_n 0, 1) := by decide +kernel
theorem dL_law_806 : decode cL_law 806 = .ok (.iload_n 3, 1) := by decide +kernel
theorem dL_law_807 : decode cL_law 807 = .ok (.iconst 3, 1) := by decide +kernel
theorem dL_law_808 : decode cL_law 808 = .ok (.iadd, 1) := by decide +kernel
theorem dL_law_809 : decode cL_law 809 = .ok (.iaload, 1) := by decide +kernel
theorem dL_law_810 : decode cL_law 810 = .ok (.invokevirtual 89, 3) := by decide +kernel
theorem dL_law_813 : decode cL_law 813 = .ok (.if_icmp .eq 259, 3) := by decide +kernel
theorem dL_law_816 : decode cL_law 816 = .ok (.iconst 0, 1) := by decide +kernel
theorem dL_law_817 : decode cL_law 817 = .ok (.ireturn, 1) := by decide +kernel
theorem dL_law_818 : decode cL_law 818 = .ok (.aload_n 1, 1) := by decide +kernel
theorem dL_law_819 : decode cL_law 819 = .ok (.aload_n 0, 1) := by decide +kernel
theorem dL_law_820 : decode cL_law 820 = .ok (.iload_n 3, 1) := by decide +kernel
theorem dL_law_821 : decode cL_law 821 = .ok (.iconst 1, 1) := by decide +kernel
theorem dL_law_822 : decode cL_law 822 = .ok (.iadd, 1) := by decide +kernel
theorem dL_law_823 : decode cL_law 823 = .ok (.iaload, 1) := by decide +kernel
theorem dL_law_824 : decode cL_law 824 = .ok (.aload_n 0, 1) := by decide +kernel
theorem dL_law_825 : decode cL_law 825 = .ok (.iload_n 3, 1) := by decide +kernel
theorem dL_law_826 : decode cL_law 826 = .ok (.iconst 2, 1) := by decide +kernel
theorem dL_law_827 : decode cL_law 827 = .ok (.iadd, 1) := by decide +kernel
theorem dL_law_828 : decode cL_law 828 = .ok (.iaload, 1) := by decide +kernel
theorem dL_law_829 : decode cL_law 829 = .ok (.invokevirtual 90, 3) := by decide +kernel
theorem dL_law_832 : decode cL_law 832 = .ok (.aload_n 2, 1) := by decide +kernel
theorem dL_law_833 : decode cL_law 833 = .ok (.aload_n 0, 1) := by decide +kernel
theorem dL_law_834 : decode cL_law 834 = .ok (.iload_n 3, 1) := by decide +kernel
theorem dL_law_835 : decode cL_law 835 = .ok (.iconst 1, 1) := by decide +kernel
theorem dL_law_836 : decode cL_law 836 = .ok (.iadd, 1) := by decide +kernel
theorem dL_law_837 : decode cL_law 837 = .ok (.iaload, 1) := by decide +kernel
theorem dL_law_838 : decode cL_law 838 = .ok (.aload_n 0, 1) := by decide +kernel
theorem dL_law_839 : decode cL_law 839 = .ok (.iload_n 3, 1) := by decide +kernel
theorem dL_law_840 : decode cL_law 840 = .ok (.iconst 2, 1) := by decide +kernel
theorem dL_law_841 : decode cL_law 841 = .ok (.iadd, 1) := by decide +kernel
theorem dL_law_842 : decode cL_law 842 = .ok (.iaload, 1) := by decide +kernel
theorem dL_law_843 : decode cL_law 843 = .ok (.invokevirtual 93, 3) := by decide +kernel
theorem dL_law_846 : decode cL_law 846 = .ok (.if_icmp .eq 226, 3) := by decide +kernel
theorem dL_law_849 : decode cL_law 849 = .ok (.iconst 0, 1) := by decide +kernel
theorem dL_law_850 : decode cL_law 850 = .ok (.ireturn, 1) := by decide +kernel
theorem dL_law_851 : decode cL_law 851 = .ok (.aload_n 1, 1) := by decide +kernel
theorem dL_law_852 : decode cL_law 852 = .ok (.aload_n 0, 1) := by decide +kernel
theorem dL_law_853 : decode cL_law 853 = .ok (.iload_n 3, 1) := by decide +kernel
theorem dL_law_854 : decode cL_law 854 = .ok (.iconst 1, 1) := by decide +kernel
theorem dL_law_855 : decode cL_law 855 = .ok (.iadd, 1) := by decide +kernel
theorem dL_law_856 : decode cL_law 856 = .ok (.iaload, 1) := by decide +kernel
theorem dL_law_857 : decode cL_law 857 = .ok (.aload_n 0, 1) := by decide +kernel
theorem dL_law_858 : decode cL_law 858 = .ok (.iload_n 3, 1) := by decide +kernel
theorem dL_law_859 : decode cL_law 859 = .ok (.iconst 2, 1) := by decide +kernel
theorem dL_law_860 : decode cL_law 860 = .ok (.iadd, 1) := by decide +kernel
theorem dL_law_861 : decode cL_law 861 = .ok (.iaload, 1) := by decide +kernel
theorem dL_law_862 : decode cL_law 862 = .ok (.invokevirtual 94, 3) := by decide +kernel
theorem dL_law_865 : decode cL_law 865 = .ok (.aload_n 2, 1) := by decide +kernel
theorem dL_law_866 : decode cL_law 866 = .ok (.aload_n 0, 1) := by decide +kernel
theorem dL_law_867 : decode cL_law 867 = .ok (.iload_n 3, 1) := by decide +kernel
theorem dL_law_868 : decode cL_law 868 = .ok (.iconst 1, 1) := by decide +kernel
theorem dL_law_869 : decode cL_law 869 = .ok (.iadd, 1) := by decide +kernel
theorem dL_law_870 : decode cL_law 870 = .ok (.iaload, 1) := by decide +kernel
theorem dL_law_871 : decode cL_law 871 = .ok (.aload_n 0, 1) := by decide +kernel
theorem dL_law_872 : decode cL_law 872 = .ok (.iload_n 3, 1) := by decide +kernel
theorem dL_law_873 : decode cL_law 873 = .ok (.iconst 2, 1) := by decide +kernel
theorem dL_law_874 : decode cL_law 874 = .ok (.iadd, 1) := by decide +kernel
theorem dL_law_875 : decode cL_law 875 = .ok (.iaload, 1) := by decide +kernel
theorem dL_law_876 : decode cL_law 876 = .ok (.invokevirtual 97, 3) := by decide +kernel
theorem dL_law_879 : decode cL_law 879 = .ok (.if_icmp .eq 193, 3) := by decide +kernel
theorem dL_law_882 : decode cL_law 882 = .ok (.iconst 0, 1) := by decide +kernel
theorem dL_law_883 : decode cL_law 883 = .ok (.ireturn, 1) := by decide +kernel
theorem dL_law_884 : decode cL_law 884 = .ok (.aload_n 1, 1) := by decide +kernel
theorem dL_law_885 : decode cL_law 885 = .ok (.aload_n 0, 1) := by decide +kernel
theorem dL_law_886 : decode cL_law 886 = .ok (.iload_n 3, 1) := by decide +kernel
theorem dL_law_887 : decode cL_law 887 = .ok (.iconst 1, 1) := by decide +kernel
theorem dL_law_888 : decode cL_law 888 = .ok (.iadd, 1) := by decide +kernel
theorem dL_law_889 : decode cL_law 889 = .ok (.iaload, 1) := by decide +kernel
theorem dL_law_890 : decode cL_law 890 = .ok (.invokevirtual 98, 3) := by decide +kernel
theorem dL_law_893 : decode cL_law 893 = .ok (.aload_n 2, 1) := by decide +kernel
theorem dL_law_894 : decode cL_law 894 = .ok (.aload_n 0, 1) := by decide +kernel
theorem dL_law_895 : decode cL_law 895 = .ok (.iload_n 3, 1) := by decide +kernel
theorem dL_law_896 : decode cL_law 896 = .ok (.iconst 1, 1) := by decide +kernel
theorem dL_law_897 : decode cL_law 897 = .ok (.iadd, 1) := by decide +kernel
theorem dL_law_898 : decode cL_law 898 = .ok (.iaload, 1) := by decide +kernel
theorem dL_law_899 : decode cL_law 899 = .ok (.invokevirtual 101, 3) := by decide +kernel
theorem dL_law_902 : decode cL_law 902 = .ok (.if_icmp .eq 170, 3) := by decide +kernel
theorem dL_law_905 : decode cL_law 905 = .ok (.iconst 0, 1) := by decide +kernel
theorem dL_law_906 : decode cL_law 906 = .ok (.ireturn, 1) := by decide +kernel
theorem dL_law_907 : decode cL_law 907 = .ok (.aload_n 1, 1) := by decide +kernel
theorem dL_law_908 : decode cL_law 908 = .ok (.aload_n 0, 1) := by decide +kernel
theorem dL_law_909 : decode cL_law 909 = .ok (.iload_n 3, 1) := by decide +kernel
theorem dL_law_910 : decode cL_law 910 = .ok (.iconst 1, 1) := by decide +kernel
theorem dL_law_911 : decode cL_law 911 = .ok (.iadd, 1) := by decide +kernel
theorem dL_law_912 : decode cL_law 912 = .ok (.iaload, 1) := by decide +kernel
theorem dL_law_913 : decode cL_law 913 = .ok (.aload_n 0, 1) := by decide +kernel
theorem dL_law_914 : decode cL_law 914 = .ok (.iload_n 3, 1) := by decide +kernel
theorem dL_law_915 : decode cL_law 915 = .ok (.iconst 2, 1) := by decide +kernel
theorem dL_law_916 : decode cL_law 916 = .ok (.iadd, 1) := by decide +kernel
theorem dL_law_917 : decode cL_law 917 = .ok (.iaload, 1) := by decide +kernel
theorem dL_law_918 : decode cL_law 918 = .ok (.invokevirtual 102, 3) := by decide +kernel
theorem dL_law_921 : decode cL_law 921 = .ok (.aload_n 2, 1) := by decide +kernel
theorem dL_law_922 : decode cL_law 922 = .ok (.aload_n 0, 1) := by decide +kernel
theorem dL_law_923 : decode cL_law 923 = .ok (.iload_n 3, 1) := by decide +kernel
theorem dL_law_924 : decode cL_law 924 = .ok (.iconst 1, 1) := by decide +kernel
theorem dL_law_925 : decode cL_law 925 = .ok (.iadd, 1) := by decide +kernel
theorem dL_law_926 : decode cL_law 926 = .ok (.iaload, 1) := by decide +kernel
theorem dL_law_927 : decode cL_law 927 = .ok (.aload_n 0, 1) := by decide +kernel
theorem dL_law_928 : decode cL_law 928 = .ok (.iload_n 3, 1) := by decide +kernel
theorem dL_law_929 : decode cL_law 929 = .ok (.iconst 2, 1) := by decide +kernel
theorem dL_law_930 : decode cL_law 930 = .ok (.iadd, 1) := by decide +kernel
theorem dL_law_931 : decode cL_law 931 = .ok (.iaload, 1) := by decide +kernel
theorem dL_law_932 : decode cL_law 932 = .ok (.invokevirtual 105, 3) := by decide +kernel
theorem dL_law_935 : decode cL_law 935 = .ok (.if_icmp .eq 137, 3) := by decide +kernel
theorem dL_law_938 : decode cL_law 938 = .ok (.iconst 0, 1) := by decide +kernel
theorem dL_law_939 : decode cL_law 939 = .ok (.ireturn, 1) := by decide +kernel
theorem dL_law_940 : decode cL_law 940 = .ok (.aload_n 1, 1) := by decide +kernel
theorem dL_law_941 : decode cL_law 941 = .ok (.aload_n 0, 1) := by decide +kernel
theorem dL_law_942 : decode cL_law 942 = .ok (.iload_n 3, 1) := by decide +kernel
theorem dL_law_943 : decode cL_law 943 = .ok (.iconst 1, 1) := by decide +kernel
theorem dL_law_944 : decode cL_law 944 = .ok (.iadd, 1) := by decide +kernel
theorem dL_law_945 : decode cL_law 945 = .ok (.iaload, 1) := by decide +kernel
theorem dL_law_946 : decode cL_law 946 = .ok (.aload_n 0, 1) := by decide +kernel
theorem dL_law_947 : decode cL_law 947 = .ok (.iload_n 3, 1) := by decide +kernel
theorem dL_law_948 : decode cL_law 948 = .ok (.iconst 2, 1) := by decide +kernel
theorem dL_law_949 : decode cL_law 949 = .ok (.iadd, 1) := by decide +kernel
theorem dL_law_950 : decode cL_law 950 = .ok (.iaload, 1) := by decide +kernel
theorem dL_law_951 : decode cL_law 951 = .ok (.invokevirtual 106, 3) := by decide +kernel
theorem dL_law_954 : decode cL_law 954 = .ok (.aload_n 2, 1) := by decide +kernel
theorem dL_law_955 : decode cL_law 955 = .ok (.aload_n 0, 1) := by decide +kernel
theorem dL_law_956 : decode cL_law 956 = .ok (.iload_n 3, 1) := by decide +kernel
theorem dL_law_957 : decode cL_law 957 = .ok (.iconst 1, 1) := by decide +kernel
theorem dL_law_958 : decode cL_law 958 = .ok (.iadd, 1) := by decide +kernel
theorem dL_law_959 : decode cL_law 959 = .ok (.iaload, 1) := by decide +kernel
theorem dL_law_960 : decode cL_law 960 = .ok (.aload_n 0, 1) := by decide +kernel
theorem dL_law_961 : decode cL_law 961 = .ok (.iload_n 3, 1) := by decide +kernel
theorem dL_law_962 : decode cL_law 962 = .ok (.iconst 2, 1) := by decide +kernel
theorem dL_law_963 : decode cL_law 963 = .ok (.iadd, 1) := by decide +kernel
theorem dL_law_964 : decode cL_law 964 = .ok (.iaload, 1) := by decide +kernel
theorem dL_law_965 : decode cL_law 965 = .ok (.invokevirtual 109, 3) := by decide +kernel
theorem dL_law_968 : decode cL_law 968 = .ok (.if_icmp .eq 104, 3) := by decide +kernel
theorem dL_law_971 : decode cL_law 971 = .ok (.iconst 0, 1) := by decide +kernel
theorem dL_law_972 : decode cL_law 972 = .ok (.ireturn, 1) := by decide +kernel
theorem dL_law_973 : decode cL_law 973 = .ok (.aload_n 1, 1) := by decide +kernel
theorem dL_law_974 : decode cL_law 974 = .ok (.aload_n 0, 1) := by decide +kernel
theorem dL_law_975 : decode cL_law 975 = .ok (.iload_n 3, 1) := by decide +kernel
theorem dL_law_976 : decode cL_law 976 = .ok (.iconst 1, 1) := by decide +kernel
theorem dL_law_977 : decode cL_law 977 = .ok (.iadd, 1) := by decide +kernel
theorem dL_law_978 : decode cL_law 978 = .ok (.iaload, 1) := by decide +kernel
theorem dL_law_979 : decode cL_law 979 = .ok (.aload_n 0, 1) := by decide +kernel
theorem dL_law_980 : decode cL_law 980 = .ok (.iload_n 3, 1) := by decide +kernel
theorem dL_law_981 : decode cL_law 981 = .ok (.iconst 2, 1) := by decide +kernel
theorem dL_law_982 : decode cL_law 982 = .ok (.iadd, 1) := by decide +kernel
theorem dL_law_983 : decode cL_law 983 = .ok (.iaload, 1) := by decide +kernel
theorem dL_law_984 : decode cL_law 984 = .ok (.invokevirtual 110, 3) := by decide +kernel
theorem dL_law_987 : decode cL_law 987 = .ok (.aload_n 2, 1) := by decide +kernel
theorem dL_law_988 : decode cL_law 988 = .ok (.aload_n 0, 1) := by decide +kernel
theorem dL_law_989 : decode cL_law 989 = .ok (.iload_n 3, 1) := by decide +kernel
theorem dL_law_990 : decode cL_law 990 = .ok (.iconst 1, 1) := by decide +kernel
theorem dL_law_991 : decode cL_law 991 = .ok (.iadd, 1) := by decide +kernel
theorem dL_law_992 : decode cL_law 992 = .ok (.iaload, 1) := by decide +kernel
theorem dL_law_993 : decode cL_law 993 = .ok (.aload_n 0, 1) := by decide +kernel
theorem dL_law_994 : decode cL_law 994 = .ok (.iload_n 3, 1) := by decide +kernel
theorem dL_law_995 : decode cL_law 995 = .ok (.iconst 2, 1) := by decide +kernel
theorem dL_law_996 : decode cL_law 996 = .ok (.iadd, 1) := by decide +kernel
theorem dL_law_997 : decode cL_law 997 = .ok (.iaload, 1) := by decide +kernel
theorem dL_law_998 : decode cL_law 998 = .ok (.invokevirtual 113, 3) := by decide +kernel
theorem dL_law_1001 : decode cL_law 1001 = .ok (.if_icmp .eq 71, 3) := by decide +kernel
theorem dL_law_1004 : decode cL_law 1004 = .ok (.iconst 0, 1) := by decide +kernel
theorem dL_law_1005 : decode cL_law 1005 = .ok (.ireturn, 1) := by decide +kernel
theorem dL_law_1006 : decode cL_law 1006 = .ok (.aload_n 1, 1) := by decide +kernel
theorem dL_law_1007 : decode cL_law 1007 = .ok (.aload_n 0, 1) := by decide +kernel
theorem dL_law_1008 : decode cL_law 1008 = .ok (.iload_n 3, 1) := by decide +kernel
theorem dL_law_1009 : decode cL_law 1009 = .ok (.iconst 1, 1) := by decide +kernel
theorem dL_law_1010 : decode cL_law 1010 = .ok (.iadd, 1) := by decide +kernel
theorem dL_law_1011 : decode cL_law 1011 = .ok (.iaload, 1) := by decide +kernel
theorem dL_law_1012 : decode cL_law 1012 = .ok (.aload_n 0, 1) := by decide +kernel
theorem dL_law_1013 : decode cL_law 1013 = .ok (.iload_n 3, 1) := by decide +kernel
theorem dL_law_1014 : decode cL_law 1014 = .ok (.iconst 2, 1) := by decide +kernel
theorem dL_law_1015 : decode cL_law 1015 = .ok (.iadd, 1) := by decide +kernel
theorem dL_law_1016 : decode cL_law 1016 = .ok (.iaload, 1) := by decide +kernel
theorem dL_law_1017 : decode cL_law 1017 = .ok (.aload_n 0, 1) := by decide +kernel
theorem dL_law_1018 : decode cL_law 1018 = .ok (.iload_n 3, 1) := by decide +kernel
theorem dL_law_1019 : decode cL_law 1019 = .ok (.iconst 3, 1) := by decide +kernel
theorem dL_law_1020 : decode cL_law 1020 = .ok (.iadd, 1) := by decide +kernel
theorem dL_law_1021 : decode cL_law 1021 = .ok (.iaload, 1) := by decide +kernel
theorem dL_law_1022 : decode cL_law 1022 = .ok (.invokevirtual 114, 3) := by decide +kernel
theorem dL_law_1025 : decode cL_law 1025 = .ok (.aload_n 2, 1) := by decide +kernel
theorem dL_law_1026 : decode cL_law 1026 = .ok (.aload_n 0, 1) := by decide +kernel
theorem dL_law_1027 : decode cL_law 1027 = .ok (.iload_n 3, 1) := by decide +kernel
theorem dL_law_1028 : decode cL_law 1028 = .ok (.iconst 1, 1) := by decide +kernel
theorem dL_law_1029 : decode cL_law 1029 = .ok (.iadd, 1) := by decide +kernel
theorem dL_law_1030 : decode cL_law 1030 = .ok (.iaload, 1) := by decide +kernel
theorem dL_law_1031 : decode cL_law 1031 = .ok (.aload_n 0, 1) := by decide +kernel
theorem dL_law_1032 : decode cL_law 1032 = .ok (.iload_n 3, 1) := by decide +kernel
theorem dL_law_1033 : decode cL_law 1033 = .ok (.iconst 2, 1) := by decide +kernel
theorem dL_law_1034 : decode cL_law 1034 = .ok (.iadd, 1) := by decide +kernel
theorem dL_law_1035 : decode cL_law 1035 = .ok (.iaload, 1) := by decide +kernel
theorem dL_law_1036 : decode cL_law 1036 = .ok (.aload_n 0, 1) := by decide +kernel
theorem dL_law_1037 : decode cL_law 1037 = .ok (.iload_n 3, 1) := by decide +kernel
theorem dL_law_1038 : decode cL_law 1038 = .ok (.iconst 3, 1) := by decide +kernel
theorem dL_law_1039 : decode cL_law 1039 = .ok (.iadd, 1) := by decide +kernel
theorem dL_law_1040 : decode cL_law 1040 = .ok (.iaload, 1) := by decide +kernel
theorem dL_law_1041 : decode cL_law 1041 = .ok (.invokevirtual 118, 3) := by decide +kernel
theorem dL_law_1044 : decode cL_law 1044 = .ok (.if_icmp .eq 28, 3) := by decide +kernel
theorem dL_law_1047 : decode cL_law 1047 = .ok (.iconst 0, 1) := by decide +kernel
theorem dL_law_1048 : decode cL_law 1048 = .ok (.ireturn, 1) := by decide +kernel
theorem dL_law_1049 : decode cL_law 1049 = .ok (.aload_n 1, 1) := by decide +kernel
theorem dL_law_1050 : decode cL_law 1050 = .ok (.aload_n 0, 1) := by decide +kernel
theorem dL_law_1051 : decode cL_law 1051 = .ok (.iload_n 3, 1) := by decide +kernel
theorem dL_law_1052 : decode cL_law 1052 = .ok (.iconst 1, 1) := by decide +kernel
theorem dL_law_1053 : decode cL_law 1053 = .ok (.iadd, 1) := by decide +kernel
theorem dL_law_1054 : decode cL_law 1054 = .ok (.iaload, 1) := by decide +kernel
theorem dL_law_1055 : decode cL_law 1055 = .ok (.invokevirtual 119, 3) := by decide +kernel
theorem dL_law_1058 : decode cL_law 1058 = .ok (.aload_n 2, 1) := by decide +kernel
theorem dL_law_1059 : decode cL_law 1059 = .ok (.aload_n 0, 1) := by decide +kernel
theorem dL_law_1060 : decode cL_law 1060 = .ok (.iload_n 3, 1) := by decide +kernel
theorem dL_law_1061 : decode cL_law 1061 = .ok (.iconst 1, 1) := by decide +kernel
theorem dL_law_1062 : decode cL_law 1062 = .ok (.iadd, 1) := by decide +kernel
theorem dL_law_1063 : decode cL_law 1063 = .ok (.iaload, 1) := by decide +kernel
theorem dL_law_1064 : decode cL_law 1064 = .ok (.invokevirtual 122, 3) := by decide +kernel
theorem dL_law_1067 : decode cL_law 1067 = .ok (.if_icmp .eq 5, 3) := by decide +kernel
theorem dL_law_1070 : decode cL_law 1070 = .ok (.iconst 0, 1) := by decide +kernel
theorem dL_law_1071 : decode cL_law 1071 = .ok (.ireturn, 1) := by decide +kernel
theorem dL_law_1072 : decode cL_law 1072 = .ok (.iinc 3 4, 3) := by decide +kernel
theorem dL_law_1075 : decode cL_law 1075 = .ok (.goto (-1057), 3) := by decide +kernel
theorem dL_law_1078 : decode cL_law 1078 = .ok (.iconst 1, 1) := by decide +kernel
theorem dL_law_1079 : decode cL_law 1079 = .ok (.ireturn, 1) := by decide +kernel
end
section
/-! The words that every contract here rests on: the tables' words that a call keeps -/
def gt : List Cond := lw_tbl.filter goodWord
theorem gt_mem {w : Cond} (n : Nat) (h : lw_tbl[n]? = some w) (hg : goodWord w = true) : w ∈ gt := List.mem_filter.mpr ⟨List.mem_of_getElem? h, hg⟩
theorem gt_in {w : Cond} (h : w ∈ gt) : w ∈ gt ∧ ((w.onTables && w.keeps) = true ∨ ∃ ty, w = .arrayClass ty) := ⟨h, good_of_word (List.mem_filter.mp h).2⟩
theorem gt_good {w : Cond} (hc : w ∈ gt) : GoodIn gt (w :: gt) := fun v hv => (List.mem_cons.mp hv).elim (fun e => e ▸ gt_in hc) gt_in
/-! Values and cells of my own: ints, references by the place in the list of cells (none: null), the script -/
abbrev AV : Type := Int32 ⊕ (Option Nat ⊕ Unit)
abbrev aI (x : Int32) : AV := Sum.inl x
abbrev aO (o : Option Nat) : AV := Sum.inr (Sum.inl o)
abbrev aR (k : Nat) : AV := Sum.inr (Sum.inl (some k))
abbrev aN : AV := Sum.inr (Sum.inl none)
abbrev aS : AV := Sum.inr (Sum.inr ())
abbrev AE : Type := (Nat × Nat × (Nat → Int32)) ⊕ ((Nat × Nat × (Nat → Option Nat)) ⊕ (Nat × List AV))
abbrev eA (t n : Nat) (f : Nat → Int32) : AE := Sum.inl (t, n, f)
abbrev eQ (t n : Nat) (f : Nat → Option Nat) : AE := Sum.inr (Sum.inl (t, n, f))
abbrev eO (ci : Nat) (fs : List AV) : AE := Sum.inr (Sum.inr (ci, fs))
/-- class ids and slots, array classes, the first cell's address, the script's address -/
abbrev GD : Type := va_G × (Nat → ClassId) × Nat × Nat
def toV (g : GD) : AV → Value
  | .inl x => .int x
  | .inr (.inl o) => va_rf (o.map (fun k => g.2.2.1 + k))
  | .inr (.inr _) => .ref g.2.2.2
def toE (g : GD) : AE → va_E
  | .inl a => .inl (g.2.1 a.1, a.2.1, .inl a.2.2)
  | .inr (.inl a) => .inl (g.2.1 a.1, a.2.1, .inr (.inr (.inr (.inr (fun j => (a.2.2 j).map (fun k => g.2.2.1 + k))))))
  | .inr (.inr o) => .inr (o.1, o.2.map (toV g))
abbrev xcl : List vw_C := [(RX0, TX0, 7), (RX1, TX1, 5), (RX2, TX2, 3), (RX3, TX3, 5), (RX4, TX4, 7), (RX5, TX5, 12), (RX6, TX6, 27)]
def tysG (g : GD) : List (ClassId × FieldType) := [(g.2.1 0, .int), (g.2.1 1, .boolean), (g.2.1 2, .object RX2), (g.2.1 3, .object RX1), (g.2.1 4, .object RX4), (g.2.1 5, .object RX0)]
def Kk (g : GD) (U : State) : Prop := va_K g.1 xcl (tysG g) U ∧ (va_AO RX2 U ∧ va_AO RX1 U ∧ va_AO RX4 U ∧ va_AO RX0 U) ∧ va_Nw (.methodLinkNest RX5 45 yX3_init RX5) U ∧ va_Nw (.methodLinkNest RX5 56 yX2_init RX5) U
theorem Kk.warm {g : GD} {s U : State} (hW : s.WarmedH U.vm) (h : Kk g s) : Kk g U := by
  obtain ⟨h1, ⟨a, b, c, d⟩, h3, h4⟩ := h
  exact ⟨va_K.moved hW.alike h1, ⟨a.moved hW.alike, b.moved hW.alike, c.moved hW.alike, d.moved hW.alike⟩, va_Nw.warmM hW h3, va_Nw.warmM hW h4⟩
theorem Kk.same {g : GD} {u U : State} (hvm : u.vm = U.vm) (h : Kk g u) : Kk g U := by
  obtain ⟨h1, ⟨a, b, c, d⟩, h3, h4⟩ := h
  have hA : u.vm.Alike U.vm := by rw [hvm]; exact Vm.Alike.refl _
  exact ⟨va_K.moved hA h1, ⟨a.moved hA, b.moved hA, c.moved hA, d.moved hA⟩, va_Nw.same rfl hvm h3, va_Nw.same rfl hvm h4⟩
/-- the heap is, from the first cell's address on, the list L -/
def Hs (g : GD) (L : List AE) (H : Heap) : Prop := H.size = g.2.2.1 + L.length ∧ ∀ (k : Nat) (e : AE), L[k]? = some e → va_at g.1 xcl (g.2.2.1 + k, toE g e) H
theorem Hs.set {g : GD} {L : List AE} {H H1 : Heap} {k : Nat} {e : AE} (h : Hs g L H) (he : va_at g.1 xcl (g.2.2.1 + k, toE g e) H1) (hz : H1.size = H.size) (oq : ∀ q : Nat, q ≠ g.2.2.1 + k → H1[q]? = H[q]?) : Hs g (L.set k e) H1 := by
  refine ⟨by rw [hz, List.length_set]; exact h.1, fun j x hj => ?_⟩
  by_cases hjk : j = k
  · subst hjk
    have hl : j < L.length := by
      have := (List.getElem?_eq_some_iff.mp hj).1
      simpa using this
    rw [List.getElem?_set_self hl] at hj
    cases hj
    exact he
  · rw [List.getElem?_set_ne (Ne.symm hjk)] at hj
    exact (h.2 j x hj).kept (oq _ (by omega))
theorem Hs.push {g : GD} {L : List AE} {H H1 : Heap} {e : AE} (h : Hs g L H) (he : va_at g.1 xcl (g.2.2.1 + L.length, toE g e) H1) (hz : H1.size = H.size + 1) (oq : ∀ q : Nat, q < H.size → H1[q]? = H[q]?) : Hs g (L ++ [e]) H1 := by
  have h1 := h.1
  refine ⟨by rw [hz, List.length_append]; simp; omega, fun j x hj => ?_⟩
  by_cases hjk : j < L.length
  · rw [List.getElem?_append_left hjk] at hj
    exact (h.2 j x hj).kept (oq _ (by omega))
  · rw [List.getElem?_append_right (by omega)] at hj
    have hz : j - L.length < 1 := (List.getElem?_eq_some_iff.mp hj).1
    have hj0 : j = L.length := by omega
    subst hj0
    rw [Nat.sub_self] at hj
    cases hj
    exact he
theorem Hs.P {g : GD} {L : List AE} {H : Heap} {k : Nat} {e : AE} (h : Hs g L H) (hk : L[k]? = some e) : va_P g.1 xcl [(g.2.2.1 + k, toE g e)] H := by
  intro j q hq
  have hz : j < 1 := (List.getElem?_eq_some_iff.mp hq).1
  rw [show j = 0 by omega] at hq
  cases hq
  exact h.2 k e hk
/-- the locals -/
def Lv (g : GD) (ls : Array Slot) (nL : Nat) (lv : List (Option AV)) : Prop := ls.size = nL ∧ lv_wf ls ∧ lv.length = nL ∧ ∀ (i : Nat) (v : AV), lv[i]? = some (some v) → ls[i]? = some (.val (toV g v))
theorem toV_cat (g : GD) (v : AV) : (toV g v).category = 1 := by
  rcases v with x | o | u
  · rfl
  · cases o <;> rfl
  · rfl
theorem Lv.has {g : GD} {ls : Array Slot} {nL : Nat} {lv : List (Option AV)} (h : Lv g ls nL lv) {i : Nat} {v : AV} (hi : lv[i]? = some (some v)) : lv_has ls nL [(i, toV g v)] := ⟨h.1, h.2.1, fun q hq => by rw [List.mem_singleton.mp hq]; exact h.2.2.2 i v hi⟩
def lvp (g : GD) (lv : List (Option AV)) : List (Nat × Value) := (List.range lv.length).filterMap (fun i => match lv[i]? with | some (some v) => some (i, toV g v) | _ => none)
theorem Lv.hp {g : GD} {ls : Array Slot} {nL : Nat} {lv : List (Option AV)} (h : Lv g ls nL lv) : lv_has ls nL (lvp g lv) := by
  refine ⟨h.1, h.2.1, fun q hq => ?_⟩
  obtain ⟨i, -, hi⟩ := List.mem_filterMap.mp hq
  cases hv : lv[i]? with
  | none => rw [hv] at hi; cases hi
  | some o =>
    cases o with
    | none => rw [hv] at hi; cases hi
    | some v => rw [hv] at hi; cases hi; exact h.2.2.2 i v hv
theorem lvp_mem {g : GD} {lv : List (Option AV)} {i : Nat} {v : AV} (h : lv[i]? = some (some v)) : (i, toV g v) ∈ lvp g lv := by
  refine List.mem_filterMap.mpr ⟨i, List.mem_range.mpr (List.getElem?_eq_some_iff.mp h).1, ?_⟩
  rw [h]
theorem Lv.store {g : GD} {ls : Array Slot} {nL : Nat} {lv : List (Option AV)} (h : Lv g ls nL lv) {i : Nat} (v : AV) {ls' : Array Slot} (hs : lv_has ls' nL ((i, toV g v) :: (lvp g lv).filter (fun q => !(q.1 == i) && !(q.1 + 1 == i && q.2.category == 2)))) : Lv g ls' nL (lv.set i (some v)) := by
  refine ⟨hs.1, hs.2.1, by rw [List.length_set]; exact h.2.2.1, fun j w hj => ?_⟩
  by_cases hji : j = i
  · subst hji
    have hl : j < lv.length := by
      have := (List.getElem?_eq_some_iff.mp hj).1
      simpa using this
    rw [List.getElem?_set_self hl] at hj
    cases hj
    exact hs.2.2 (j, toV g v) List.mem_cons_self
  · rw [List.getElem?_set_ne (Ne.symm hji)] at hj
    refine hs.2.2 (j, toV g w) (List.mem_cons_of_mem _ (List.mem_filter.mpr ⟨lvp_mem hj, ?_⟩))
    simp [hji, toV_cat]
/-- the judgement: from pc, with these locals, this stack, these cells, the end comes -/
abbrev ZT : Type := Heap → List Loc → Nat → Nat → Nat → Array Slot → List Value → Prop
def V (g : GD) (Z : ZT) (H0 : Heap) (nL : Nat) (L : List AE) (k n pc : Nat) (lv : List (Option AV)) (st : List AV) : Prop :=
  ∀ (H : Heap) (locs : List Loc) (ls : Array Slot), Hs g L H → va_S (fun q => g.2.2.1 ≤ q) H0 H locs → Lv g ls nL lv → Z H locs k n pc ls (st.map (toV g))
def Cx (g : GD) (Z : ZT) (H0 : Heap) (nL : Nat) (own : String) (cc : ByteArray) (nm : String) (rm : Room) : Prop :=
  ∃ (p : Program) (l : Launch) (e : Env) (s : State) (m : MethodId) (args : Array Value) (below : List Frame) (meth : Method) (c : Code) (QQ : State → Prop),
    (Z = fun H locs k n pc ls st => W p l e rm s m args below meth c H locs k n QQ (F0 m pc ls st)) ∧ H0 = s.heap ∧ p.tables.exec = Jvm.exec ∧ c.code = cc ∧ c.maxLocals = nL ∧ s.vm.findClass own = some m.cls ∧ (∀ w ∈ gt, w.before args s = true) ∧ Kk g s ∧ meth.name = nm ∧ g.2.2.1 ≤ s.heap.size
/-- a method: its name, its bytes, its locals, what it returns, its room -/
abbrev MD : Type := MethodName × ByteArray × Nat × Option FieldType × Room
def EvQ (g : GD) (Q : Option AV → List AE → Prop) : Array Value → State → Outcome → State → Prop := fun _ st o t => (∃ (v : Option AV) (L : List AE), o = .returned (v.map (toV g)) ∧ Q v L ∧ Hs g L t.heap) ∧ va_F (fun q => g.2.2.1 ≤ q) st t
def Ev (g : GD) (y : MD) (av : List AV) (L : List AE) (Q : Option AV → List AE → Prop) : Prop :=
  ∀ l : Launch, Met l y.1 (.code y.1 y.2.1 y.2.2.1 y.2.2.2.1 :: gt) y.2.2.2.2 (va_Pc (av.map (toV g)) (fun U => Hs g L U.heap ∧ Kk g U)) (EvQ g Q) y.2.2.2.2.cells y.2.2.2.2.slots (fun q => g.2.2.1 ≤ q)
abbrev EvP (g : GD) (y : MD) (av : List AV) (L : List AE) (v : Option AV) : Prop := Ev g y av L (fun v' L' => v' = v ∧ L' = L)
/-- what a return gives -/
def Rx (g : GD) (Z : ZT) (H0 : Heap) (cc : ByteArray) (rt : Option FieldType) (rm : Room) (Q : Option AV → List AE → Prop) : Prop :=
  ∃ (p : Program) (l : Launch) (e : Env) (s : State) (m : MethodId) (args : Array Value) (below : List Frame) (meth : Method) (c : Code),
    (Z = fun H locs k n pc ls st => W p l e rm s m args below meth c H locs k n (MQ below (EvQ g Q) args s rm.cells rm.slots (fun q => g.2.2.1 ≤ q)) (F0 m pc ls st)) ∧ H0 = s.heap ∧ p.tables.exec = Jvm.exec ∧ c.code = cc ∧ meth.sig.returnType = rt ∧ meth.locks = false
theorem Ev.of {g : GD} {y : MD} {av : List AV} {L : List AE} {Q : Option AV → List AE → Prop} (lv : List (Option AV)) (hy : plainName y.1.cls = true) (hlv : lv = av.map some ++ List.replicate (y.2.2.1 - av.length) none) (hn : av.length ≤ y.2.2.1)
    (body : ∀ (Z : ZT) (H0 : Heap), Cx g Z H0 y.2.2.1 y.1.cls y.2.1 y.1.name y.2.2.2.2 → Rx g Z H0 y.2.1 y.2.2.2.1 y.2.2.2.2 Q → V g Z H0 y.2.2.1 L 0 0 0 lv []) : Ev g y av L Q := by
  intro l
  refine Met.ofW (cc := y.2.1) (maxL := y.2.2.1) (ret := y.2.2.2.1) hy rfl ?_
  intro p e s m args below meth c s₁ B hml hv
  obtain ⟨rfl, hH, hK⟩ := hv
  have hts := atoms_spec (ws := .code y.1 y.2.1 y.2.2.1 y.2.2.2.1 :: gt) B.pre
  have hown : s.vm.findClass y.1.cls = some m.cls := findClass_of_methodNamed B.named
  have hnm : meth.name = y.1.name := (name_of_methodNamed B.named B.method).1
  have hg0 : g.2.2.1 ≤ s.heap.size := by rw [hH.1]; omega
  have key := body (fun H locs k n pc ls st => W p l e (headSpec (.code y.1 y.2.1 y.2.2.1 y.2.2.2.1 :: gt) y.2.2.2.2).room s m (av.map (toV g)).toArray below meth c H locs k n (MQ below (EvQ g Q) (av.map (toV g)).toArray s y.2.2.2.2.cells y.2.2.2.2.slots (fun q => g.2.2.1 ≤ q)) (F0 m pc ls st)) s.heap
    ⟨p, l, e, s, m, _, below, meth, c, _, rfl, rfl, B.exec, B.bytes, hml, hown, fun w hw => hts w (List.mem_cons_of_mem _ hw), hK, hnm, hg0⟩
    ⟨p, l, e, s, m, _, below, meth, c, rfl, rfl, B.exec, B.bytes, B.returns, B.notSynchronized⟩
  have hcat : ∀ vs : List AV, (lg_sl (vs.map (toV g))).length = vs.length ∧ ∀ (i j : Nat) (v : AV), vs[j]? = some v → (i + j, toV g v) ∈ lv_args i (vs.map (toV g)) := by
    intro vs
    induction vs with
    | nil => exact ⟨rfl, fun i j v h => by simp at h⟩
    | cons w vs ih =>
      have hc := toV_cat g w
      refine ⟨?_, fun i j v h => ?_⟩
      · have h1 : lg_sl (List.map (toV g) (w :: vs)) = Slot.val (toV g w) :: lg_sl (vs.map (toV g)) := by simp [lg_sl, hc]
        rw [h1, List.length_cons, List.length_cons, ih.1]
      · cases j with
        | zero => simp at h; subst h; simp [lv_args]
        | succ j =>
          simp only [List.map_cons, lv_args]
          rw [if_neg (by omega)]
          refine List.mem_cons_of_mem _ ?_
          have := ih.2 (i + 1) j v (by simpa using h)
          rw [show i + (j + 1) = i + 1 + j by omega]
          exact this
  have hl := lv_entry (av.map (toV g)) (n := y.2.2.1) (by rw [(hcat av).1]; exact hn)
  rw [lg_entry_eq]
  refine key s.heap [] _ hH va_S.rf ⟨hl.1, hl.2.1, ?_, fun i v hi => ?_⟩
  · rw [hlv]; simp; omega
  · rw [hlv] at hi
    by_cases hi2 : i < av.length
    · rw [List.getElem?_append_left (by simpa using hi2), List.getElem?_map] at hi
      have h3 : av[i]? = some v := by
        cases h4 : av[i]? with
        | none => rw [h4] at hi; cases hi
        | some z => rw [h4] at hi; cases hi; rfl
      have := (hcat av).2 0 i v h3
      rw [Nat.zero_add] at this
      exact hl.2.2 (i, toV g v) this
    · rw [List.getElem?_append_right (by simpa using Nat.not_lt.mp hi2)] at hi
      have := List.mem_of_getElem? hi
      rw [List.mem_replicate] at this
      cases this.2
end
section
section RW1
variable {g : GD} {Z : ZT} {H0 : Heap} {nL : Nat} {own nm : String} {cc : ByteArray} {rm : Room} {L : List AE} {k n pc : Nat} {lv : List (Option AV)} {st : List AV}
theorem V.iconst (C : Cx g Z H0 nL own cc nm rm) {z : Int} {x : Int32} (hd : decode cc pc = .ok (.iconst z, 1)) (hv : Int32.ofInt z = x) (kk : V g Z H0 nL L k n (pc + 1) lv (aI x :: st)) : V g Z H0 nL L k n pc lv st := by
  obtain ⟨p, l, e, s, m, args, below, meth, c, QQ, rfl, rfl, hx, hb, -⟩ := C
  intro H locs ls hH hS hl
  exact lv_iconst hx hb hd hv (kk H locs ls hH hS hl)
theorem V.bipush (C : Cx g Z H0 nL own cc nm rm) {z : Int} {x : Int32} (hd : decode cc pc = .ok (.bipush z, 2)) (hv : (Int8.ofInt z).toInt32 = x) (kk : V g Z H0 nL L k n (pc + 2) lv (aI x :: st)) : V g Z H0 nL L k n pc lv st := by
  obtain ⟨p, l, e, s, m, args, below, meth, c, QQ, rfl, rfl, hx, hb, -⟩ := C
  intro H locs ls hH hS hl
  exact lv_bipush hx hb hd hv (kk H locs ls hH hS hl)
theorem V.sipush (C : Cx g Z H0 nL own cc nm rm) {z : Int} {x : Int32} (hd : decode cc pc = .ok (.sipush z, 3)) (hv : (Int16.ofInt z).toInt32 = x) (kk : V g Z H0 nL L k n (pc + 3) lv (aI x :: st)) : V g Z H0 nL L k n pc lv st := by
  obtain ⟨p, l, e, s, m, args, below, meth, c, QQ, rfl, rfl, hx, hb, -⟩ := C
  intro H locs ls hH hS hl
  exact lv_sipush hx hb hd hv (kk H locs ls hH hS hl)
theorem V.ldcw (C : Cx g Z H0 nL own cc nm rm) {index : Nat} {x : Int32} (hw : Cond.constant own index x ∈ gt) (hd : decode cc pc = .ok (.ldc_w index, 3)) (kk : V g Z H0 nL L k n (pc + 3) lv (aI x :: st)) : V g Z H0 nL L k n pc lv st := by
  obtain ⟨p, l, e, s, m, args, below, meth, c, QQ, rfl, rfl, hx, hb, hml, hown, hts, -⟩ := C
  intro H locs ls hH hS hl
  exact lv_ldcw hx hb hown (hts _ hw) hd (kk H locs ls hH hS hl)
theorem V.null (C : Cx g Z H0 nL own cc nm rm) (hd : decode cc pc = .ok (.aconst_null, 1)) (kk : V g Z H0 nL L k n (pc + 1) lv (aN :: st)) : V g Z H0 nL L k n pc lv st := by
  obtain ⟨p, l, e, s, m, args, below, meth, c, QQ, rfl, rfl, hx, hb, -⟩ := C
  intro H locs ls hH hS hl
  exact lv_null hx hb hd (kk H locs ls hH hS hl)
theorem V.ild_n (C : Cx g Z H0 nL own cc nm rm) {j : Fin 4} {x : Int32} (hd : decode cc pc = .ok (.iload_n j, 1)) (hv : lv[(j : Nat)]? = some (some (aI x))) (kk : V g Z H0 nL L k n (pc + 1) lv (aI x :: st)) : V g Z H0 nL L k n pc lv st := by
  obtain ⟨p, l, e, s, m, args, below, meth, c, QQ, rfl, rfl, hx, hb, -⟩ := C
  intro H locs ls hH hS hl
  exact lv_iload_n hx hb hd rfl (hl.2.2.2 _ _ hv) (kk H locs ls hH hS hl)
theorem V.ild (C : Cx g Z H0 nL own cc nm rm) {j : Nat} {x : Int32} (hd : decode cc pc = .ok (.iload j, 2)) (hv : lv[j]? = some (some (aI x))) (kk : V g Z H0 nL L k n (pc + 2) lv (aI x :: st)) : V g Z H0 nL L k n pc lv st := by
  obtain ⟨p, l, e, s, m, args, below, meth, c, QQ, rfl, rfl, hx, hb, -⟩ := C
  intro H locs ls hH hS hl
  exact lv_iload hx hb hd (hl.2.2.2 _ _ hv) (kk H locs ls hH hS hl)
theorem V.ald_n (C : Cx g Z H0 nL own cc nm rm) {j : Fin 4} {o : Option Nat ⊕ Unit} (hd : decode cc pc = .ok (.aload_n j, 1)) (hv : lv[(j : Nat)]? = some (some (.inr o))) (kk : V g Z H0 nL L k n (pc + 1) lv (.inr o :: st)) : V g Z H0 nL L k n pc lv st := by
  obtain ⟨p, l, e, s, m, args, below, meth, c, QQ, rfl, rfl, hx, hb, -⟩ := C
  intro H locs ls hH hS hl
  have h := hl.2.2.2 _ _ hv
  rcases o with o | u
  · cases o with
    | none => exact lv_aload_nN hx hb hd rfl h (kk H locs ls hH hS hl)
    | some a => exact lv_aload_n hx hb hd rfl h (kk H locs ls hH hS hl)
  · exact lv_aload_n hx hb hd rfl h (kk H locs ls hH hS hl)
theorem V.ald (C : Cx g Z H0 nL own cc nm rm) {j : Nat} {o : Option Nat ⊕ Unit} (hd : decode cc pc = .ok (.aload j, 2)) (hv : lv[j]? = some (some (.inr o))) (kk : V g Z H0 nL L k n (pc + 2) lv (.inr o :: st)) : V g Z H0 nL L k n pc lv st := by
  obtain ⟨p, l, e, s, m, args, below, meth, c, QQ, rfl, rfl, hx, hb, -⟩ := C
  intro H locs ls hH hS hl
  have h := hl.2.2.2 _ _ hv
  rcases o with o | u
  · cases o with
    | none => exact lv_aloadN hx hb hd h (kk H locs ls hH hS hl)
    | some a => exact lv_aload hx hb hd h (kk H locs ls hH hS hl)
  · exact lv_aload hx hb hd h (kk H locs ls hH hS hl)
theorem Lv.lt {ls : Array Slot} (hl : Lv g ls nL lv) {i : Nat} (h : i < lv.length) : i < nL := by rw [← hl.2.2.1]; exact h
theorem V.ist_n (C : Cx g Z H0 nL own cc nm rm) {j : Fin 4} {x : Int32} {lv' : List (Option AV)} (hd : decode cc pc = .ok (.istore_n j, 1)) (hj : (j : Nat) < lv.length) (hs : lv.set (j : Nat) (some (aI x)) = lv') (kk : V g Z H0 nL L k n (pc + 1) lv' st) : V g Z H0 nL L k n pc lv (aI x :: st) := by
  obtain ⟨p, l, e, s, m, args, below, meth, c, QQ, rfl, rfl, hx, hb, -⟩ := C
  subst hs
  intro H locs ls hH hS hl
  exact lv_istore_n hx hb hd rfl hl.hp (hl.lt hj) rfl (fun ls' h' => kk H locs ls' hH hS (hl.store (aI x) h'))
theorem V.ist (C : Cx g Z H0 nL own cc nm rm) {j : Nat} {x : Int32} {lv' : List (Option AV)} (hd : decode cc pc = .ok (.istore j, 2)) (hj : j < lv.length) (hs : lv.set j (some (aI x)) = lv') (kk : V g Z H0 nL L k n (pc + 2) lv' st) : V g Z H0 nL L k n pc lv (aI x :: st) := by
  obtain ⟨p, l, e, s, m, args, below, meth, c, QQ, rfl, rfl, hx, hb, -⟩ := C
  subst hs
  intro H locs ls hH hS hl
  exact lv_istore hx hb hd hl.hp (hl.lt hj) rfl (fun ls' h' => kk H locs ls' hH hS (hl.store (aI x) h'))
theorem V.ast_n (C : Cx g Z H0 nL own cc nm rm) {j : Fin 4} {o : Option Nat ⊕ Unit} {lv' : List (Option AV)} (hd : decode cc pc = .ok (.astore_n j, 1)) (hj : (j : Nat) < lv.length) (hs : lv.set (j : Nat) (some (.inr o)) = lv') (kk : V g Z H0 nL L k n (pc + 1) lv' st) : V g Z H0 nL L k n pc lv (.inr o :: st) := by
  obtain ⟨p, l, e, s, m, args, below, meth, c, QQ, rfl, rfl, hx, hb, -⟩ := C
  subst hs
  intro H locs ls hH hS hl
  rcases o with o | u
  · cases o with
    | none => exact lv_astore_nN hx hb hd rfl hl.hp (hl.lt hj) rfl (fun ls' h' => kk H locs ls' hH hS (hl.store aN h'))
    | some a => exact lv_astore_n hx hb hd rfl hl.hp (hl.lt hj) rfl (fun ls' h' => kk H locs ls' hH hS (hl.store (aR a) h'))
  · exact lv_astore_n hx hb hd rfl hl.hp (hl.lt hj) rfl (fun ls' h' => kk H locs ls' hH hS (hl.store aS h'))
theorem V.ast (C : Cx g Z H0 nL own cc nm rm) {j : Nat} {o : Option Nat ⊕ Unit} {lv' : List (Option AV)} (hd : decode cc pc = .ok (.astore j, 2)) (hj : j < lv.length) (hs : lv.set j (some (.inr o)) = lv') (kk : V g Z H0 nL L k n (pc + 2) lv' st) : V g Z H0 nL L k n pc lv (.inr o :: st) := by
  obtain ⟨p, l, e, s, m, args, below, meth, c, QQ, rfl, rfl, hx, hb, -⟩ := C
  subst hs
  intro H locs ls hH hS hl
  rcases o with o | u
  · cases o with
    | none => exact lv_astoreN hx hb hd hl.hp (hl.lt hj) rfl (fun ls' h' => kk H locs ls' hH hS (hl.store aN h'))
    | some a => exact lv_astore hx hb hd hl.hp (hl.lt hj) rfl (fun ls' h' => kk H locs ls' hH hS (hl.store (aR a) h'))
  · exact lv_astore hx hb hd hl.hp (hl.lt hj) rfl (fun ls' h' => kk H locs ls' hH hS (hl.store aS h'))
theorem V.iinc (C : Cx g Z H0 nL own cc nm rm) {j : Nat} {z : Int} {x y : Int32} {lv' : List (Option AV)} (hd : decode cc pc = .ok (.iinc j z, 3)) (hv : lv[j]? = some (some (aI x))) (hy : x + Int32.ofInt z = y) (hs : lv.set j (some (aI y)) = lv') (kk : V g Z H0 nL L k n (pc + 3) lv' st) : V g Z H0 nL L k n pc lv st := by
  obtain ⟨p, l, e, s, m, args, below, meth, c, QQ, rfl, rfl, hx, hb, -⟩ := C
  subst hs
  intro H locs ls hH hS hl
  obtain ⟨i, hi⟩ := List.getElem?_of_mem (lvp_mem (g := g) hv)
  exact lv_iinc hx hb hd hl.hp hi hy (hl.lt (List.getElem?_eq_some_iff.mp hv).1) rfl (fun ls' h' => kk H locs ls' hH hS (hl.store (aI y) h'))
theorem V.iadd (C : Cx g Z H0 nL own cc nm rm) {x y : Int32} (hd : decode cc pc = .ok (.iadd, 1)) (kk : V g Z H0 nL L k n (pc + 1) lv (aI (x + y) :: st)) : V g Z H0 nL L k n pc lv (aI y :: aI x :: st) := by
  obtain ⟨p, l, e, s, m, args, below, meth, c, QQ, rfl, rfl, hx, hb, -⟩ := C
  intro H locs ls hH hS hl
  exact lv_iadd hx hb hd (kk H locs ls hH hS hl)
theorem V.isub (C : Cx g Z H0 nL own cc nm rm) {x y : Int32} (hd : decode cc pc = .ok (.isub, 1)) (kk : V g Z H0 nL L k n (pc + 1) lv (aI (x - y) :: st)) : V g Z H0 nL L k n pc lv (aI y :: aI x :: st) := by
  obtain ⟨p, l, e, s, m, args, below, meth, c, QQ, rfl, rfl, hx, hb, -⟩ := C
  intro H locs ls hH hS hl
  exact lv_isub hx hb hd (kk H locs ls hH hS hl)
theorem V.imul (C : Cx g Z H0 nL own cc nm rm) {x y : Int32} (hd : decode cc pc = .ok (.imul, 1)) (kk : V g Z H0 nL L k n (pc + 1) lv (aI (x * y) :: st)) : V g Z H0 nL L k n pc lv (aI y :: aI x :: st) := by
  obtain ⟨p, l, e, s, m, args, below, meth, c, QQ, rfl, rfl, hx, hb, -⟩ := C
  intro H locs ls hH hS hl
  exact lv_imul hx hb hd (kk H locs ls hH hS hl)
theorem V.iand (C : Cx g Z H0 nL own cc nm rm) {x y : Int32} (hd : decode cc pc = .ok (.iand, 1)) (kk : V g Z H0 nL L k n (pc + 1) lv (aI (x &&& y) :: st)) : V g Z H0 nL L k n pc lv (aI y :: aI x :: st) := by
  obtain ⟨p, l, e, s, m, args, below, meth, c, QQ, rfl, rfl, hx, hb, -⟩ := C
  intro H locs ls hH hS hl
  exact lv_iand hx hb hd (kk H locs ls hH hS hl)
theorem V.ior (C : Cx g Z H0 nL own cc nm rm) {x y : Int32} (hd : decode cc pc = .ok (.ior, 1)) (kk : V g Z H0 nL L k n (pc + 1) lv (aI (x ||| y) :: st)) : V g Z H0 nL L k n pc lv (aI y :: aI x :: st) := by
  obtain ⟨p, l, e, s, m, args, below, meth, c, QQ, rfl, rfl, hx, hb, -⟩ := C
  intro H locs ls hH hS hl
  exact lv_ior hx hb hd (kk H locs ls hH hS hl)
theorem V.ixor (C : Cx g Z H0 nL own cc nm rm) {x y : Int32} (hd : decode cc pc = .ok (.ixor, 1)) (kk : V g Z H0 nL L k n (pc + 1) lv (aI (x ^^^ y) :: st)) : V g Z H0 nL L k n pc lv (aI y :: aI x :: st) := by
  obtain ⟨p, l, e, s, m, args, below, meth, c, QQ, rfl, rfl, hx, hb, -⟩ := C
  intro H locs ls hH hS hl
  exact lv_ixor hx hb hd (kk H locs ls hH hS hl)
theorem V.idiv (C : Cx g Z H0 nL own cc nm rm) {x y : Int32} (hd : decode cc pc = .ok (.idiv, 1)) (hne : ¬ y = 0) (kk : V g Z H0 nL L k n (pc + 1) lv (aI (x / y) :: st)) : V g Z H0 nL L k n pc lv (aI y :: aI x :: st) := by
  obtain ⟨p, l, e, s, m, args, below, meth, c, QQ, rfl, rfl, hx, hb, -⟩ := C
  intro H locs ls hH hS hl
  exact lv_idiv hx hb hd hne (kk H locs ls hH hS hl)
theorem V.irem (C : Cx g Z H0 nL own cc nm rm) {x y : Int32} (hd : decode cc pc = .ok (.irem, 1)) (hne : ¬ y = 0) (kk : V g Z H0 nL L k n (pc + 1) lv (aI (x - x / y * y) :: st)) : V g Z H0 nL L k n pc lv (aI y :: aI x :: st) := by
  obtain ⟨p, l, e, s, m, args, below, meth, c, QQ, rfl, rfl, hx, hb, -⟩ := C
  intro H locs ls hH hS hl
  exact lv_irem hx hb hd hne (kk H locs ls hH hS hl)
theorem V.ineg (C : Cx g Z H0 nL own cc nm rm) {x : Int32} (hd : decode cc pc = .ok (.ineg, 1)) (kk : V g Z H0 nL L k n (pc + 1) lv (aI (-x) :: st)) : V g Z H0 nL L k n pc lv (aI x :: st) := by
  obtain ⟨p, l, e, s, m, args, below, meth, c, QQ, rfl, rfl, hx, hb, -⟩ := C
  intro H locs ls hH hS hl
  exact lv_ineg hx hb hd (kk H locs ls hH hS hl)
theorem V.ishl (C : Cx g Z H0 nL own cc nm rm) {x y : Int32} (hd : decode cc pc = .ok (.ishl, 1)) (kk : V g Z H0 nL L k n (pc + 1) lv (aI (x <<< (y &&& 31)) :: st)) : V g Z H0 nL L k n pc lv (aI y :: aI x :: st) := by
  obtain ⟨p, l, e, s, m, args, below, meth, c, QQ, rfl, rfl, hx, hb, -⟩ := C
  intro H locs ls hH hS hl
  exact lv_ishl hx hb hd (kk H locs ls hH hS hl)
theorem V.ishr (C : Cx g Z H0 nL own cc nm rm) {x y : Int32} (hd : decode cc pc = .ok (.ishr, 1)) (kk : V g Z H0 nL L k n (pc + 1) lv (aI (x >>> (y &&& 31)) :: st)) : V g Z H0 nL L k n pc lv (aI y :: aI x :: st) := by
  obtain ⟨p, l, e, s, m, args, below, meth, c, QQ, rfl, rfl, hx, hb, -⟩ := C
  intro H locs ls hH hS hl
  exact lv_ishr hx hb hd (kk H locs ls hH hS hl)
theorem V.iushr (C : Cx g Z H0 nL own cc nm rm) {x y : Int32} (hd : decode cc pc = .ok (.iushr, 1)) (kk : V g Z H0 nL L k n (pc + 1) lv (aI ((x.toUInt32 >>> (y.toUInt32 &&& Int32.toUInt32 31)).toInt32) :: st)) : V g Z H0 nL L k n pc lv (aI y :: aI x :: st) := by
  obtain ⟨p, l, e, s, m, args, below, meth, c, QQ, rfl, rfl, hx, hb, -⟩ := C
  intro H locs ls hH hS hl
  exact lv_iushr hx hb hd rfl (kk H locs ls hH hS hl)
theorem V.dup (C : Cx g Z H0 nL own cc nm rm) {v : AV} (hd : decode cc pc = .ok (.dup, 1)) (kk : V g Z H0 nL L k n (pc + 1) lv (v :: v :: st)) : V g Z H0 nL L k n pc lv (v :: st) := by
  obtain ⟨p, l, e, s, m, args, below, meth, c, QQ, rfl, rfl, hx, hb, -⟩ := C
  intro H locs ls hH hS hl
  exact lv_dup hx hb hd (toV_cat g v) (kk H locs ls hH hS hl)
theorem V.dup_x1 (C : Cx g Z H0 nL own cc nm rm) {v w : AV} (hd : decode cc pc = .ok (.dup_x1, 1)) (kk : V g Z H0 nL L k n (pc + 1) lv (v :: w :: v :: st)) : V g Z H0 nL L k n pc lv (v :: w :: st) := by
  obtain ⟨p, l, e, s, m, args, below, meth, c, QQ, rfl, rfl, hx, hb, -⟩ := C
  intro H locs ls hH hS hl
  exact lv_dup_x1 hx hb hd (toV_cat g v) (toV_cat g w) (kk H locs ls hH hS hl)
theorem V.dup2 (C : Cx g Z H0 nL own cc nm rm) {v w : AV} (hd : decode cc pc = .ok (.dup2, 1)) (kk : V g Z H0 nL L k n (pc + 1) lv (v :: w :: v :: w :: st)) : V g Z H0 nL L k n pc lv (v :: w :: st) := by
  obtain ⟨p, l, e, s, m, args, below, meth, c, QQ, rfl, rfl, hx, hb, -⟩ := C
  intro H locs ls hH hS hl
  exact lv_dup2_11 hx hb hd (toV_cat g v) (toV_cat g w) (kk H locs ls hH hS hl)
theorem V.goto (C : Cx g Z H0 nL own cc nm rm) {off : Int} {tgt : Nat} (hd : decode cc pc = .ok (.goto off, 3)) (ht : (pc : Int) + off = (tgt : Int)) (kk : V g Z H0 nL L k n tgt lv st) : V g Z H0 nL L k n pc lv st := by
  obtain ⟨p, l, e, s, m, args, below, meth, c, QQ, rfl, rfl, hx, hb, -⟩ := C
  intro H locs ls hH hS hl
  exact lv_goto hx hb hd ht (kk H locs ls hH hS hl)
theorem V.if_eq (C : Cx g Z H0 nL own cc nm rm) {x : Int32} {off : Int} {tgt : Nat} (hd : decode cc pc = .ok (.ifCond .eq off, 3)) (ht : (pc : Int) + off = (tgt : Int)) (kt : x = 0 → V g Z H0 nL L k n tgt lv st) (kf : ¬ x = 0 → V g Z H0 nL L k n (pc + 3) lv st) : V g Z H0 nL L k n pc lv (aI x :: st) := by
  obtain ⟨p, l, e, s, m, args, below, meth, c, QQ, rfl, rfl, hx, hb, -⟩ := C
  intro H locs ls hH hS hl
  exact lv_if_eq hx hb hd ht (fun h => kt h H locs ls hH hS hl) (fun h => kf h H locs ls hH hS hl)
theorem V.icmp_eq (C : Cx g Z H0 nL own cc nm rm) {x y : Int32} {off : Int} {tgt : Nat} (hd : decode cc pc = .ok (.if_icmp .eq off, 3)) (ht : (pc : Int) + off = (tgt : Int)) (kt : x = y → V g Z H0 nL L k n tgt lv st) (kf : ¬ x = y → V g Z H0 nL L k n (pc + 3) lv st) : V g Z H0 nL L k n pc lv (aI y :: aI x :: st) := by
  obtain ⟨p, l, e, s, m, args, below, meth, c, QQ, rfl, rfl, hx, hb, -⟩ := C
  intro H locs ls hH hS hl
  exact lv_icmp_eq hx hb hd ht (fun h => kt h H locs ls hH hS hl) (fun h => kf h H locs ls hH hS hl)
theorem V.if_ne (C : Cx g Z H0 nL own cc nm rm) {x : Int32} {off : Int} {tgt : Nat} (hd : decode cc pc = .ok (.ifCond .ne off, 3)) (ht : (pc : Int) + off = (tgt : Int)) (kt : ¬ x = 0 → V g Z H0 nL L k n tgt lv st) (kf : x = 0 → V g Z H0 nL L k n (pc + 3) lv st) : V g Z H0 nL L k n pc lv (aI x :: st) := by
  obtain ⟨p, l, e, s, m, args, below, meth, c, QQ, rfl, rfl, hx, hb, -⟩ := C
  intro H locs ls hH hS hl
  exact lv_if_ne hx hb hd ht (fun h => kt h H locs ls hH hS hl) (fun h => kf h H locs ls hH hS hl)
theorem V.icmp_ne (C : Cx g Z H0 nL own cc nm rm) {x y : Int32} {off : Int} {tgt : Nat} (hd : decode cc pc = .ok (.if_icmp .ne off, 3)) (ht : (pc : Int) + off = (tgt : Int)) (kt : ¬ x = y → V g Z H0 nL L k n tgt lv st) (kf : x = y → V g Z H0 nL L k n (pc + 3) lv st) : V g Z H0 nL L k n pc lv (aI y :: aI x :: st) := by
  obtain ⟨p, l, e, s, m, args, below, meth, c, QQ, rfl, rfl, hx, hb, -⟩ := C
  intro H locs ls hH hS hl
  exact lv_icmp_ne hx hb hd ht (fun h => kt h H locs ls hH hS hl) (fun h => kf h H locs ls hH hS hl)
theorem V.if_lt (C : Cx g Z H0 nL own cc nm rm) {x : Int32} {off : Int} {tgt : Nat} (hd : decode cc pc = .ok (.ifCond .lt off, 3)) (ht : (pc : Int) + off = (tgt : Int)) (kt : x < 0 → V g Z H0 nL L k n tgt lv st) (kf : ¬ x < 0 → V g Z H0 nL L k n (pc + 3) lv st) : V g Z H0 nL L k n pc lv (aI x :: st) := by
  obtain ⟨p, l, e, s, m, args, below, meth, c, QQ, rfl, rfl, hx, hb, -⟩ := C
  intro H locs ls hH hS hl
  exact lv_if_lt hx hb hd ht (fun h => kt h H locs ls hH hS hl) (fun h => kf h H locs ls hH hS hl)
theorem V.icmp_lt (C : Cx g Z H0 nL own cc nm rm) {x y : Int32} {off : Int} {tgt : Nat} (hd : decode cc pc = .ok (.if_icmp .lt off, 3)) (ht : (pc : Int) + off = (tgt : Int)) (kt : x < y → V g Z H0 nL L k n tgt lv st) (kf : ¬ x < y → V g Z H0 nL L k n (pc + 3) lv st) : V g Z H0 nL L k n pc lv (aI y :: aI x :: st) := by
  obtain ⟨p, l, e, s, m, args, below, meth, c, QQ, rfl, rfl, hx, hb, -⟩ := C
  intro H locs ls hH hS hl
  exact lv_icmp_lt hx hb hd ht (fun h => kt h H locs ls hH hS hl) (fun h => kf h H locs ls hH hS hl)
theorem V.if_ge (C : Cx g Z H0 nL own cc nm rm) {x : Int32} {off : Int} {tgt : Nat} (hd : decode cc pc = .ok (.ifCond .ge off, 3)) (ht : (pc : Int) + off = (tgt : Int)) (kt : 0 ≤ x → V g Z H0 nL L k n tgt lv st) (kf : ¬ 0 ≤ x → V g Z H0 nL L k n (pc + 3) lv st) : V g Z H0 nL L k n pc lv (aI x :: st) := by
  obtain ⟨p, l, e, s, m, args, below, meth, c, QQ, rfl, rfl, hx, hb, -⟩ := C
  intro H locs ls hH hS hl
  exact lv_if_ge hx hb hd ht (fun h => kt h H locs ls hH hS hl) (fun h => kf h H locs ls hH hS hl)
theorem V.icmp_ge (C : Cx g Z H0 nL own cc nm rm) {x y : Int32} {off : Int} {tgt : Nat} (hd : decode cc pc = .ok (.if_icmp .ge off, 3)) (ht : (pc : Int) + off = (tgt : Int)) (kt : y ≤ x → V g Z H0 nL L k n tgt lv st) (kf : ¬ y ≤ x → V g Z H0 nL L k n (pc + 3) lv st) : V g Z H0 nL L k n pc lv (aI y :: aI x :: st) := by
  obtain ⟨p, l, e, s, m, args, below, meth, c, QQ, rfl, rfl, hx, hb, -⟩ := C
  intro H locs ls hH hS hl
  exact lv_icmp_ge hx hb hd ht (fun h => kt h H locs ls hH hS hl) (fun h => kf h H locs ls hH hS hl)
theorem V.if_gt (C : Cx g Z H0 nL own cc nm rm) {x : Int32} {off : Int} {tgt : Nat} (hd : decode cc pc = .ok (.ifCond .gt off, 3)) (ht : (pc : Int) + off = (tgt : Int)) (kt : 0 < x → V g Z H0 nL L k n tgt lv st) (kf : ¬ 0 < x → V g Z H0 nL L k n (pc + 3) lv st) : V g Z H0 nL L k n pc lv (aI x :: st) := by
  obtain ⟨p, l, e, s, m, args, below, meth, c, QQ, rfl, rfl, hx, hb, -⟩ := C
  intro H locs ls hH hS hl
  exact lv_if_gt hx hb hd ht (fun h => kt h H locs ls hH hS hl) (fun h => kf h H locs ls hH hS hl)
theorem V.icmp_gt (C : Cx g Z H0 nL own cc nm rm) {x y : Int32} {off : Int} {tgt : Nat} (hd : decode cc pc = .ok (.if_icmp .gt off, 3)) (ht : (pc : Int) + off = (tgt : Int)) (kt : y < x → V g Z H0 nL L k n tgt lv st) (kf : ¬ y < x → V g Z H0 nL L k n (pc + 3) lv st) : V g Z H0 nL L k n pc lv (aI y :: aI x :: st) := by
  obtain ⟨p, l, e, s, m, args, below, meth, c, QQ, rfl, rfl, hx, hb, -⟩ := C
  intro H locs ls hH hS hl
  exact lv_icmp_gt hx hb hd ht (fun h => kt h H locs ls hH hS hl) (fun h => kf h H locs ls hH hS hl)
theorem V.if_le (C : Cx g Z H0 nL own cc nm rm) {x : Int32} {off : Int} {tgt : Nat} (hd : decode cc pc = .ok (.ifCond .le off, 3)) (ht : (pc : Int) + off = (tgt : Int)) (kt : x ≤ 0 → V g Z H0 nL L k n tgt lv st) (kf : ¬ x ≤ 0 → V g Z H0 nL L k n (pc + 3) lv st) : V g Z H0 nL L k n pc lv (aI x :: st) := by
  obtain ⟨p, l, e, s, m, args, below, meth, c, QQ, rfl, rfl, hx, hb, -⟩ := C
  intro H locs ls hH hS hl
  exact lv_if_le hx hb hd ht (fun h => kt h H locs ls hH hS hl) (fun h => kf h H locs ls hH hS hl)
theorem V.icmp_le (C : Cx g Z H0 nL own cc nm rm) {x y : Int32} {off : Int} {tgt : Nat} (hd : decode cc pc = .ok (.if_icmp .le off, 3)) (ht : (pc : Int) + off = (tgt : Int)) (kt : x ≤ y → V g Z H0 nL L k n tgt lv st) (kf : ¬ x ≤ y → V g Z H0 nL L k n (pc + 3) lv st) : V g Z H0 nL L k n pc lv (aI y :: aI x :: st) := by
  obtain ⟨p, l, e, s, m, args, below, meth, c, QQ, rfl, rfl, hx, hb, -⟩ := C
  intro H locs ls hH hS hl
  exact lv_icmp_le hx hb hd ht (fun h => kt h H locs ls hH hS hl) (fun h => kf h H locs ls hH hS hl)
theorem V.acmp_eq (C : Cx g Z H0 nL own cc nm rm) {ox oy : Option Nat} {off : Int} {tgt : Nat} (hd : decode cc pc = .ok (.if_acmp .eq off, 3)) (ht : (pc : Int) + off = (tgt : Int)) (kt : ox = oy → V g Z H0 nL L k n tgt lv st) (kf : ¬ ox = oy → V g Z H0 nL L k n (pc + 3) lv st) : V g Z H0 nL L k n pc lv (aO oy :: aO ox :: st) := by
  obtain ⟨p, l, e, s, m, args, below, meth, c, QQ, rfl, rfl, hx, hb, -⟩ := C
  intro H locs ls hH hS hl
  have hinj : ∀ {a b : Option Nat}, a.map (fun k => g.2.2.1 + k) = b.map (fun k => g.2.2.1 + k) → a = b := by
    intro a b h
    cases a <;> cases b <;> simp at h ⊢
    exact h
  exact lv_acmp_eq hx hb hd ht (fun h => kt (hinj h) H locs ls hH hS hl) (fun h => kf (fun q => h (by rw [q])) H locs ls hH hS hl)
theorem V.acmp_ne (C : Cx g Z H0 nL own cc nm rm) {ox oy : Option Nat} {off : Int} {tgt : Nat} (hd : decode cc pc = .ok (.if_acmp .ne off, 3)) (ht : (pc : Int) + off = (tgt : Int)) (kt : ¬ ox = oy → V g Z H0 nL L k n tgt lv st) (kf : ox = oy → V g Z H0 nL L k n (pc + 3) lv st) : V g Z H0 nL L k n pc lv (aO oy :: aO ox :: st) := by
  obtain ⟨p, l, e, s, m, args, below, meth, c, QQ, rfl, rfl, hx, hb, -⟩ := C
  intro H locs ls hH hS hl
  have hinj : ∀ {a b : Option Nat}, a.map (fun k => g.2.2.1 + k) = b.map (fun k => g.2.2.1 + k) → a = b := by
    intro a b h
    cases a <;> cases b <;> simp at h ⊢
    exact h
  exact lv_acmp_ne hx hb hd ht (fun h => kt (fun q => h (by rw [q])) H locs ls hH hS hl) (fun h => kf (hinj h) H locs ls hH hS hl)
theorem V.ifnull (C : Cx g Z H0 nL own cc nm rm) {a : Nat} {off : Int} (hd : decode cc pc = .ok (.ifnull off, 3)) (kk : V g Z H0 nL L k n (pc + 3) lv st) : V g Z H0 nL L k n pc lv (aR a :: st) := by
  obtain ⟨p, l, e, s, m, args, below, meth, c, QQ, rfl, rfl, hx, hb, -⟩ := C
  intro H locs ls hH hS hl
  exact lv_ifnull hx hb hd (kk H locs ls hH hS hl)
theorem V.ifnullN (C : Cx g Z H0 nL own cc nm rm) {off : Int} {tgt : Nat} (hd : decode cc pc = .ok (.ifnull off, 3)) (ht : (pc : Int) + off = (tgt : Int)) (kk : V g Z H0 nL L k n tgt lv st) : V g Z H0 nL L k n pc lv (aN :: st) := by
  obtain ⟨p, l, e, s, m, args, below, meth, c, QQ, rfl, rfl, hx, hb, -⟩ := C
  intro H locs ls hH hS hl
  exact lv_ifnullN hx hb hd ht (kk H locs ls hH hS hl)
theorem V.ifnonnull (C : Cx g Z H0 nL own cc nm rm) {a : Nat} {off : Int} {tgt : Nat} (hd : decode cc pc = .ok (.ifnonnull off, 3)) (ht : (pc : Int) + off = (tgt : Int)) (kk : V g Z H0 nL L k n tgt lv st) : V g Z H0 nL L k n pc lv (aR a :: st) := by
  obtain ⟨p, l, e, s, m, args, below, meth, c, QQ, rfl, rfl, hx, hb, -⟩ := C
  intro H locs ls hH hS hl
  exact lv_ifnonnull hx hb hd ht (kk H locs ls hH hS hl)
theorem V.ifnonnullN (C : Cx g Z H0 nL own cc nm rm) {off : Int} (hd : decode cc pc = .ok (.ifnonnull off, 3)) (kk : V g Z H0 nL L k n (pc + 3) lv st) : V g Z H0 nL L k n pc lv (aN :: st) := by
  obtain ⟨p, l, e, s, m, args, below, meth, c, QQ, rfl, rfl, hx, hb, -⟩ := C
  intro H locs ls hH hS hl
  exact lv_ifnonnullN hx hb hd (kk H locs ls hH hS hl)
theorem V.lookup (C : Cx g Z H0 nL own cc nm rm) {dflt off : Int} {ps : Array (Int × Int)} {len tgt : Nat} {x : Int32} (hd : decode cc pc = .ok (.lookupswitch dflt ps, len)) (hp : (ps.toList.zip (ps.toList.drop 1)).all (fun (a, next) => a.1 < next.1) = true) (ho : Op.lookupswitch.offset ps.toList dflt x.toInt = off) (ht : (pc : Int) + off = (tgt : Int)) (kk : V g Z H0 nL L k n tgt lv st) : V g Z H0 nL L k n pc lv (aI x :: st) := by
  obtain ⟨p, l, e, s, m, args, below, meth, c, QQ, rfl, rfl, hx, hb, -⟩ := C
  intro H locs ls hH hS hl
  exact lv_lookup hx hb hd hp ho ht (kk H locs ls hH hS hl)
theorem V.tableOut (C : Cx g Z H0 nL own cc nm rm) {dflt lo hi : Int} {offs : Array Int} {len tgt : Nat} {x : Int32} (hd : decode cc pc = .ok (.tableswitch dflt lo hi offs, len)) (h : x.toInt < lo ∨ hi < x.toInt) (ht : (pc : Int) + dflt = (tgt : Int)) (kk : V g Z H0 nL L k n tgt lv st) : V g Z H0 nL L k n pc lv (aI x :: st) := by
  obtain ⟨p, l, e, s, m, args, below, meth, c, QQ, rfl, rfl, hx, hb, -⟩ := C
  intro H locs ls hH hS hl
  exact lv_tableOut hx hb hd h ht (kk H locs ls hH hS hl)
theorem V.tableIn (C : Cx g Z H0 nL own cc nm rm) {dflt lo hi off : Int} {offs : Array Int} {len tgt : Nat} {x : Int32} (hd : decode cc pc = .ok (.tableswitch dflt lo hi offs, len)) (h1 : ¬ x.toInt < lo) (h2 : ¬ hi < x.toInt) (ho : offs[(x.toInt - lo).toNat]? = some off) (ht : (pc : Int) + off = (tgt : Int)) (kk : V g Z H0 nL L k n tgt lv st) : V g Z H0 nL L k n pc lv (aI x :: st) := by
  obtain ⟨p, l, e, s, m, args, below, meth, c, QQ, rfl, rfl, hx, hb, -⟩ := C
  intro H locs ls hH hS hl
  exact lv_tableIn hx hb hd h1 h2 ho ht (kk H locs ls hH hS hl)
end RW1
end
section
theorem in_X0 : ∀ w ∈ u_ws RX0 TX0 7, w ∈ gt := by
  intro w hw
  obtain ⟨k, hk, rfl⟩ := List.mem_map.mp hw
  rw [List.mem_range] at hk
  match k, hk with
  | 0, _ => exact gt_mem 321 (by decide +kernel) (by decide +kernel)
  | 1, _ => exact gt_mem 323 (by decide +kernel) (by decide +kernel)
  | 2, _ => exact gt_mem 325 (by decide +kernel) (by decide +kernel)
  | 3, _ => exact gt_mem 327 (by decide +kernel) (by decide +kernel)
  | 4, _ => exact gt_mem 329 (by decide +kernel) (by decide +kernel)
  | 5, _ => exact gt_mem 331 (by decide +kernel) (by decide +kernel)
  | 6, _ => exact gt_mem 333 (by decide +kernel) (by decide +kernel)
  | k + 7, hk => exact absurd hk (by omega)
theorem in_X1 : ∀ w ∈ u_ws RX1 TX1 5, w ∈ gt := by
  intro w hw
  obtain ⟨k, hk, rfl⟩ := List.mem_map.mp hw
  rw [List.mem_range] at hk
  match k, hk with
  | 0, _ => exact gt_mem 186 (by decide +kernel) (by decide +kernel)
  | 1, _ => exact gt_mem 188 (by decide +kernel) (by decide +kernel)
  | 2, _ => exact gt_mem 190 (by decide +kernel) (by decide +kernel)
  | 3, _ => exact gt_mem 192 (by decide +kernel) (by decide +kernel)
  | 4, _ => exact gt_mem 194 (by decide +kernel) (by decide +kernel)
  | k + 5, hk => exact absurd hk (by omega)
theorem in_X2 : ∀ w ∈ u_ws RX2 TX2 3, w ∈ gt := by
  intro w hw
  obtain ⟨k, hk, rfl⟩ := List.mem_map.mp hw
  rw [List.mem_range] at hk
  match k, hk with
  | 0, _ => exact gt_mem 117 (by decide +kernel) (by decide +kernel)
  | 1, _ => exact gt_mem 119 (by decide +kernel) (by decide +kernel)
  | 2, _ => exact gt_mem 121 (by decide +kernel) (by decide +kernel)
  | k + 3, hk => exact absurd hk (by omega)
theorem in_X3 : ∀ w ∈ u_ws RX3 TX3 5, w ∈ gt := by
  intro w hw
  obtain ⟨k, hk, rfl⟩ := List.mem_map.mp hw
  rw [List.mem_range] at hk
  match k, hk with
  | 0, _ => exact gt_mem 93 (by decide +kernel) (by decide +kernel)
  | 1, _ => exact gt_mem 95 (by decide +kernel) (by decide +kernel)
  | 2, _ => exact gt_mem 97 (by decide +kernel) (by decide +kernel)
  | 3, _ => exact gt_mem 99 (by decide +kernel) (by decide +kernel)
  | 4, _ => exact gt_mem 101 (by decide +kernel) (by decide +kernel)
  | k + 5, hk => exact absurd hk (by omega)
theorem in_X4 : ∀ w ∈ u_ws RX4 TX4 7, w ∈ gt := by
  intro w hw
  obtain ⟨k, hk, rfl⟩ := List.mem_map.mp hw
  rw [List.mem_range] at hk
  match k, hk with
  | 0, _ => exact gt_mem 281 (by decide +kernel) (by decide +kernel)
  | 1, _ => exact gt_mem 283 (by decide +kernel) (by decide +kernel)
  | 2, _ => exact gt_mem 285 (by decide +kernel) (by decide +kernel)
  | 3, _ => exact gt_mem 287 (by decide +kernel) (by decide +kernel)
  | 4, _ => exact gt_mem 289 (by decide +kernel) (by decide +kernel)
  | 5, _ => exact gt_mem 291 (by decide +kernel) (by decide +kernel)
  | 6, _ => exact gt_mem 293 (by decide +kernel) (by decide +kernel)
  | k + 7, hk => exact absurd hk (by omega)
theorem in_X5 : ∀ w ∈ u_ws RX5 TX5 12, w ∈ gt := by
  intro w hw
  obtain ⟨k, hk, rfl⟩ := List.mem_map.mp hw
  rw [List.mem_range] at hk
  match k, hk with
  | 0, _ => exact gt_mem 136 (by decide +kernel) (by decide +kernel)
  | 1, _ => exact gt_mem 138 (by decide +kernel) (by decide +kernel)
  | 2, _ => exact gt_mem 140 (by decide +kernel) (by decide +kernel)
  | 3, _ => exact gt_mem 142 (by decide +kernel) (by decide +kernel)
  | 4, _ => exact gt_mem 144 (by decide +kernel) (by decide +kernel)
  | 5, _ => exact gt_mem 146 (by decide +kernel) (by decide +kernel)
  | 6, _ => exact gt_mem 148 (by decide +kernel) (by decide +kernel)
  | 7, _ => exact gt_mem 150 (by decide +kernel) (by decide +kernel)
  | 8, _ => exact gt_mem 152 (by decide +kernel) (by decide +kernel)
  | 9, _ => exact gt_mem 154 (by decide +kernel) (by decide +kernel)
  | 10, _ => exact gt_mem 156 (by decide +kernel) (by decide +kernel)
  | 11, _ => exact gt_mem 158 (by decide +kernel) (by decide +kernel)
  | k + 12, hk => exact absurd hk (by omega)
theorem in_X6 : ∀ w ∈ u_ws RX6 TX6 27, w ∈ gt := by
  intro w hw
  obtain ⟨k, hk, rfl⟩ := List.mem_map.mp hw
  rw [List.mem_range] at hk
  match k, hk with
  | 0, _ => exact gt_mem 594 (by decide +kernel) (by decide +kernel)
  | 1, _ => exact gt_mem 596 (by decide +kernel) (by decide +kernel)
  | 2, _ => exact gt_mem 598 (by decide +kernel) (by decide +kernel)
  | 3, _ => exact gt_mem 600 (by decide +kernel) (by decide +kernel)
  | 4, _ => exact gt_mem 602 (by decide +kernel) (by decide +kernel)
  | 5, _ => exact gt_mem 604 (by decide +kernel) (by decide +kernel)
  | 6, _ => exact gt_mem 606 (by decide +kernel) (by decide +kernel)
  | 7, _ => exact gt_mem 608 (by decide +kernel) (by decide +kernel)
  | 8, _ => exact gt_mem 610 (by decide +kernel) (by decide +kernel)
  | 9, _ => exact gt_mem 612 (by decide +kernel) (by decide +kernel)
  | 10, _ => exact gt_mem 614 (by decide +kernel) (by decide +kernel)
  | 11, _ => exact gt_mem 616 (by decide +kernel) (by decide +kernel)
  | 12, _ => exact gt_mem 618 (by decide +kernel) (by decide +kernel)
  | 13, _ => exact gt_mem 620 (by decide +kernel) (by decide +kernel)
  | 14, _ => exact gt_mem 622 (by decide +kernel) (by decide +kernel)
  | 15, _ => exact gt_mem 624 (by decide +kernel) (by decide +kernel)
  | 16, _ => exact gt_mem 626 (by decide +kernel) (by decide +kernel)
  | 17, _ => exact gt_mem 628 (by decide +kernel) (by decide +kernel)
  | 18, _ => exact gt_mem 630 (by decide +kernel) (by decide +kernel)
  | 19, _ => exact gt_mem 632 (by decide +kernel) (by decide +kernel)
  | 20, _ => exact gt_mem 634 (by decide +kernel) (by decide +kernel)
  | 21, _ => exact gt_mem 636 (by decide +kernel) (by decide +kernel)
  | 22, _ => exact gt_mem 638 (by decide +kernel) (by decide +kernel)
  | 23, _ => exact gt_mem 640 (by decide +kernel) (by decide +kernel)
  | 24, _ => exact gt_mem 642 (by decide +kernel) (by decide +kernel)
  | 25, _ => exact gt_mem 644 (by decide +kernel) (by decide +kernel)
  | 26, _ => exact gt_mem 646 (by decide +kernel) (by decide +kernel)
  | k + 27, hk => exact absurd hk (by omega)
theorem xcl_ok {ci : Nat} {q : vw_C} (h : xcl[ci]? = some q) : (∀ w ∈ u_ws q.1 q.2.1 q.2.2, w ∈ gt) ∧ (∃ ty : Nat → FieldType, ∀ k, k < q.2.2 → parseFieldDescriptor (q.2.1 k).2.2.1 = some (ty k)) ∧ (∀ a, a < q.2.2 → ∀ b, b < q.2.2 → a ≠ b → (q.2.1 a).2.1 ≠ (q.2.1 b).2.1) := by
  match ci, h with
  | 0, h => cases h; exact ⟨in_X0, ⟨tyX0, tyX0_ok⟩, nmX0⟩
  | 1, h => cases h; exact ⟨in_X1, ⟨tyX1, tyX1_ok⟩, nmX1⟩
  | 2, h => cases h; exact ⟨in_X2, ⟨tyX2, tyX2_ok⟩, nmX2⟩
  | 3, h => cases h; exact ⟨in_X3, ⟨tyX3, tyX3_ok⟩, nmX3⟩
  | 4, h => cases h; exact ⟨in_X4, ⟨tyX4, tyX4_ok⟩, nmX4⟩
  | 5, h => cases h; exact ⟨in_X5, ⟨tyX5, tyX5_ok⟩, nmX5⟩
  | 6, h => cases h; exact ⟨in_X6, ⟨tyX6, tyX6_ok⟩, nmX6⟩
  | i + 7, h => simp [xcl] at h
end
section
/-- a field link: class own, entry index: field kf of class ci -/
def FL (own : String) (index ci kf : Nat) (ty : FieldType) (fin : Bool) : Prop := ∃ q : vw_C, xcl[ci]? = some q ∧ kf < q.2.2 ∧ Cond.fieldLink own index (q.2.1 kf).1 (q.2.1 kf).2.1 (q.2.1 kf).2.2.1 ∈ gt ∧ parseFieldDescriptor (q.2.1 kf).2.2.1 = some ty ∧ (q.2.1 kf).2.2.2 = fin ∧ (fin = true → (q.2.1 kf).1 = own)
def FG (own : String) (index ci kf : Nat) : Prop := ∃ q : vw_C, xcl[ci]? = some q ∧ kf < q.2.2 ∧ Cond.fieldLink own index (q.2.1 kf).1 (q.2.1 kf).2.1 (q.2.1 kf).2.2.1 ∈ gt
section HP1
variable {g : GD} {Z : ZT} {H0 : Heap} {nL : Nat} {own nm : String} {cc : ByteArray} {rm : Room} {L : List AE} {k n pc : Nat} {lv : List (Option AV)} {st : List AV}
theorem V.get (C : Cx g Z H0 nL own cc nm rm) {index ci kf a : Nat} {fs : List AV} {v : AV} (hf : FG own index ci kf) (hd : decode cc pc = .ok (.getfield index, 3)) (hL : L[a]? = some (eO ci fs)) (hv : fs[kf]? = some v) (kk : V g Z H0 nL L k n (pc + 3) lv (v :: st)) : V g Z H0 nL L k n pc lv (aR a :: st) := by
  obtain ⟨p, l, e, s, m, args, below, meth, c, QQ, rfl, rfl, hx, hb, hml, hown, hts, hK, -⟩ := C
  obtain ⟨⟨CN, T, N⟩, hq, hk, hl⟩ := hf
  intro H locs ls hH hS hlv
  have hv' : (fs.map (toV g))[kf]? = some (toV g v) := by rw [List.getElem?_map, hv]; rfl
  exact va_get (D := g.1) (cl := xcl) (ci := ci) (v := toV g v) hx hb hts (xcl_ok hq).1 hown hK.1 (hH.P hL) 0 (by rfl) hq kf hk (hts _ hl) (fun _ h => h) hv' hd (kk H locs ls hH hS hlv)
theorem x_put {p : Program} {l : Launch} {e : Env} {R : Room} {s : State} {m : MethodId} {args : Array Value} {below : List Frame} {meth : Method} {c : Code} {H : Heap} {locs : List Loc} {cells slots : Nat} {Q : State → Prop} {ls : Array Slot} {rest : List Value} {D : va_G} {a : Nat} {tys : List (ClassId × FieldType)}
    (hexec : p.tables.exec = Jvm.exec) (hb : c.code = cc) {ref : String} {q : vw_C} {ci index : Nat} (hts : ∀ w ∈ gt, w.before args s = true) (hown : s.vm.findClass own = some m.cls) (hK : va_K D xcl tys s) {fs : List Value} (hat : va_at D xcl (a, .inr (ci, fs)) H) (hc : xcl[ci]? = some q) (kf : Nat) (hk : kf < q.2.2) (hlink : (Cond.fieldLink own index (q.2.1 kf).1 (q.2.1 kf).2.1 (q.2.1 kf).2.2.1).before args s = true) {fin : Bool} (hfin : (q.2.1 kf).2.2.2 = fin) (hin2 : fin = true → meth.name = "<init>" ∧ (q.2.1 kf).1 = own) {ty : FieldType} {v : Value} (hd : parseFieldDescriptor (q.2.1 kf).2.2.1 = some ty) (hn : narrow ty v = v) (hfit : fits ty v = true) (hl : kf < fs.length)
    (hdg : decode cc pc = .ok (.putfield index, 3)) (kk : ∀ (H1 : Heap) (lo : Loc), lo.base = a → va_at D xcl (a, .inr (ci, fs.set kf v)) H1 → H1.size = H.size → (∀ x : Nat, x ≠ a → H1[x]? = H[x]?) → W p l e R s m args below meth c H1 (locs ++ [lo]) cells slots Q (F0 m (pc + 3) ls rest)) : W p l e R s m args below meth c H locs cells slots Q (F0 m pc ls (v :: .ref a :: rest)) := by
  obtain ⟨hin, ⟨ty0, hty⟩, hnm⟩ := xcl_ok hc
  have hap := va_apart (own := own) hts hin ty0 hty hnm hK hc
  obtain ⟨r, h1, cell, q1, q2, q3, q4⟩ := hat
  have hr : r = q := Option.some.inj (h1.symm.trans hc)
  subst hr
  obtain ⟨hS, hfc, kC, hkC, hkind⟩ := hK.1 ci _ hc
  obtain ⟨cf, kf', fi, f, hi, hsl⟩ := hS kf hk
  have hlay := hts _ (hin _ (u_in_lay hk))
  unfold u_lay at hlay
  have hst := (u_facts hfc hkC (u_lays hts hin hk) hi).1
  cases fin with
  | false =>
    rw [if_neg (by rw [hfin]; decide)] at hlay
    have h6 := u_store hfc hkC hkind hlay hi hd hn hfit
    refine W.putK hexec hb (f := f) ⟨hown, hlink, ⟨_, _, _, hi⟩, hst⟩ (by rw [q2]; exact h6) q1 q3 (by rw [hsl]; exact k2_hasslot (q4 kf hk)) rfl rfl hdg fun H' e1 e2 e3 => ?_
    rw [hsl] at e1 ⊢
    exact kk H' _ rfl ⟨_, hc, t_OB.to (V := updV (vp_V fs) kf v) ⟨_, e1, q2, q3, t_set q4 hap hk v⟩ (fun j _ => vp_updV_set hl v j)⟩ e2 e3
  | true =>
    rw [if_pos hfin] at hlay
    have hcf : m.cls = cf := by
      obtain ⟨_, _, c', _, _, _, -, -, hf', -, -, -, hown2, -⟩ := Cond.laysFinal_spec hlay
      have e1 : c' = cf := by have := hi.symm.trans hf'; simp at this; exact this.1.symm
      rw [(hin2 rfl).2] at hown2
      rw [← e1]; exact Option.some.inj (hown.symm.trans hown2)
    have h6 := u_fits hfc hkC hkind (Or.inr hlay) hi hd hn hfit
    refine W.putFinK hexec hb hown hlink hi hst hcf (hin2 rfl).1 (by rw [q2]; exact h6) q1 q3 (by rw [hsl]; exact k2_hasslot (q4 kf hk)) rfl rfl hdg fun H' e1 e2 e3 => ?_
    rw [hsl] at e1 ⊢
    exact kk H' _ rfl ⟨_, hc, t_OB.to (V := updV (vp_V fs) kf v) ⟨_, e1, q2, q3, t_set q4 hap hk v⟩ (fun j _ => vp_updV_set hl v j)⟩ e2 e3
theorem va_S.put1 {g : GD} {H H1 : Heap} {locs : List Loc} {a : Nat} {lo : Loc} (h : va_S (fun q => g.2.2.1 ≤ q) H0 H locs) (hlo : lo.base = g.2.2.1 + a) (z : H1.size = H.size) (oq : ∀ q : Nat, q ≠ g.2.2.1 + a → H1[q]? = H[q]?) : va_S (fun q => g.2.2.1 ≤ q) H0 H1 (locs ++ [lo]) := by
  refine ⟨by rw [z]; exact h.1, fun q h1 h2 => ?_, fun q hq => ?_⟩
  · rw [oq q (fun e => h2 (by rw [e]; exact Nat.le_add_right _ _))]
    exact h.2.1 q h1 h2
  · rcases List.mem_append.mp hq with h1 | h1
    · exact h.2.2 q h1
    · rw [List.mem_singleton.mp h1, hlo]
      exact Nat.le_add_right _ _
theorem V.put (C : Cx g Z H0 nL own cc nm rm) {index ci kf a : Nat} {ty : FieldType} {fin : Bool} {fs : List AV} {v : AV} {L' : List AE} (hf : FL own index ci kf ty fin) (hd : decode cc pc = .ok (.putfield index, 3)) (hL : L[a]? = some (eO ci fs)) (hfit : narrow ty (toV g v) = toV g v ∧ fits ty (toV g v) = true) (hlen : kf < fs.length) (hin : fin = true → nm = "<init>") (hs : L.set a (eO ci (fs.set kf v)) = L') (kk : V g Z H0 nL L' k n (pc + 3) lv st) : V g Z H0 nL L k n pc lv (v :: aR a :: st) := by
  obtain ⟨p, l, e, s, m, args, below, meth, c, QQ, rfl, rfl, hx, hb, hml, hown, hts, hK, hnm, hg0⟩ := C
  obtain ⟨q, hq, hk, hl, hp, hfi, hfo⟩ := hf
  subst hs
  intro H locs ls hH hS hlv
  have hat : va_at g.1 xcl (g.2.2.1 + a, .inr (ci, fs.map (toV g))) H := hH.2 a _ hL
  refine x_put (own := own) (ref := own) (ci := ci) (q := q) (v := toV g v) hx hb hts hown hK.1 hat hq kf hk (hts _ hl) hfi (fun h => ⟨hnm.trans (hin h), hfo h⟩) hp hfit.1 hfit.2 (by simpa using hlen) hd (fun H1 lo hlo h1 h2 h3 => ?_)
  refine kk H1 _ ls (hH.set (k := a) (e := eO ci (fs.set kf v)) ?_ h2 h3) (hS.put1 hlo h2 h3) hlv
  have e1 : toE g (eO ci (fs.set kf v)) = .inr (ci, (fs.map (toV g)).set kf (toV g v)) := by
    show Sum.inr (ci, (fs.set kf v).map (toV g)) = _
    rw [List.map_set]
  rw [e1]
  exact h1
theorem V.iald (C : Cx g Z H0 nL own cc nm rm) {a N : Nat} {f : Nat → Int32} {i x : Int32} (hd : decode cc pc = .ok (.iaload, 1)) (hL : L[a]? = some (eA 0 N f)) (hi : vp_in i N) (hv : f i.toNatClampNeg = x) (kk : V g Z H0 nL L k n (pc + 1) lv (aI x :: st)) : V g Z H0 nL L k n pc lv (aI i :: aR a :: st) := by
  obtain ⟨p, l, e, s, m, args, below, meth, c, QQ, rfl, rfl, hx, hb, hml, hown, hts, hK, -⟩ := C
  subst hv
  intro H locs ls hH hS hlv
  exact va_iald (D := g.1) (cl := xcl) (tys := tysG g) hx hb hK.1 (hH.P hL) 0 0 (by rfl) (by rfl) hi hd (kk H locs ls hH hS hlv)
theorem V.zald (C : Cx g Z H0 nL own cc nm rm) {a N : Nat} {f : Nat → Int32} {i x : Int32} (hd : decode cc pc = .ok (.baload, 1)) (hL : L[a]? = some (eA 1 N f)) (hi : vp_in i N) (hv : f i.toNatClampNeg = x) (kk : V g Z H0 nL L k n (pc + 1) lv (aI x :: st)) : V g Z H0 nL L k n pc lv (aI i :: aR a :: st) := by
  obtain ⟨p, l, e, s, m, args, below, meth, c, QQ, rfl, rfl, hx, hb, hml, hown, hts, hK, -⟩ := C
  subst hv
  intro H locs ls hH hS hlv
  exact va_zald (D := g.1) (cl := xcl) (tys := tysG g) hx hb hK.1 (hH.P hL) 0 1 (by rfl) (by rfl) hi hd (kk H locs ls hH hS hlv)
/-- which class an array of references is over -/
def arC : Nat → String
  | 2 => RX2
  | 3 => RX1
  | 4 => RX4
  | _ => RX0
theorem arC_ok (g : GD) {t : Nat} (h : 2 ≤ t ∧ t ≤ 5) : (tysG g)[t]? = some (g.2.1 t, .object (arC t)) := by
  obtain ⟨h1, h2⟩ := h
  match t, h1, h2 with
  | 2, _, _ => rfl
  | 3, _, _ => rfl
  | 4, _, _ => rfl
  | 5, _, _ => rfl
theorem V.aald (C : Cx g Z H0 nL own cc nm rm) {a N t : Nat} {f : Nat → Option Nat} {i : Int32} {o : Option Nat} (ht : 2 ≤ t ∧ t ≤ 5) (hd : decode cc pc = .ok (.aaload, 1)) (hL : L[a]? = some (eQ t N f)) (hi : vp_in i N) (hv : f i.toNatClampNeg = o) (kk : V g Z H0 nL L k n (pc + 1) lv (aO o :: st)) : V g Z H0 nL L k n pc lv (aI i :: aR a :: st) := by
  obtain ⟨p, l, e, s, m, args, below, meth, c, QQ, rfl, rfl, hx, hb, hml, hown, hts, hK, -⟩ := C
  subst hv
  intro H locs ls hH hS hlv
  exact va_aldq (D := g.1) (cl := xcl) (tys := tysG g) (f := fun j => (f j).map (fun k => g.2.2.1 + k)) hx hb hK.1 (hH.P hL) 0 t (by rfl) (arC_ok g ht) hi hd (kk H locs ls hH hS hlv)
theorem V.alen (C : Cx g Z H0 nL own cc nm rm) {a N : Nat} {f : Nat → Int32} {x : Int32} (hd : decode cc pc = .ok (.arraylength, 1)) (hL : L[a]? = some (eA 0 N f)) (hv : Int32.ofNat N = x) (kk : V g Z H0 nL L k n (pc + 1) lv (aI x :: st)) : V g Z H0 nL L k n pc lv (aR a :: st) := by
  obtain ⟨p, l, e, s, m, args, below, meth, c, QQ, rfl, rfl, hx, hb, hml, hown, hts, hK, -⟩ := C
  intro H locs ls hH hS hlv
  exact va_alen (D := g.1) (cl := xcl) (tys := tysG g) hx hb hK.1 (hH.P hL) 0 0 (x := (N, .inl f)) (by rfl) (ty := .int) (by rfl) hv hd (kk H locs ls hH hS hlv)
theorem arr_hin {cA : ClassId} {N : Nat} {z : Nat → Value} {i : Int32} (hi : vp_in i N) : ¬ (i < 0 ∨ (arrV cA N z).slots.size ≤ i.toNatClampNeg) := by rw [arrV_size]; exact hi
theorem V.iast (C : Cx g Z H0 nL own cc nm rm) {a N : Nat} {f : Nat → Int32} {i x : Int32} {L' : List AE} (hd : decode cc pc = .ok (.iastore, 1)) (hL : L[a]? = some (eA 0 N f)) (hi : vp_in i N) (hs : L.set a (eA 0 N (upd f i.toNatClampNeg x)) = L') (kk : V g Z H0 nL L' k n (pc + 1) lv st) : V g Z H0 nL L k n pc lv (aI x :: aI i :: aR a :: st) := by
  obtain ⟨p, l, e, s, m, args, below, meth, c, QQ, rfl, rfl, hx, hb, hml, hown, hts, hK, -⟩ := C
  subst hs
  intro H locs ls hH hS hlv
  have hc : H[g.2.2.1 + a]? = some (vp_cell (g.2.1 0) (N, .inl f)) := hH.2 a _ hL
  have hA := (hK.1.2 0 (g.2.1 0, .int) rfl).1 N (fun j => .int (f j))
  refine W.iast hx hb hc hA (fun q => by cases q) (arr_hin hi) rfl rfl hd fun H1 e1 z oq => ?_
  refine kk H1 _ ls (hH.set (k := a) (e := eA 0 N (upd f i.toNatClampNeg x)) ?_ z oq) (hS.put1 rfl z oq) hlv
  show H1[g.2.2.1 + a]? = some (vp_cell _ _)
  rw [e1, vp_cell_i, vp_cell_i, arrV_store]
  congr 2
  funext q
  by_cases hq : q = i.toNatClampNeg
  · subst hq; simp [updV, upd]
  · simp [updV, upd, hq]
theorem V.zast (C : Cx g Z H0 nL own cc nm rm) {a N : Nat} {f : Nat → Int32} {i x : Int32} {L' : List AE} (hd : decode cc pc = .ok (.bastore, 1)) (hL : L[a]? = some (eA 1 N f)) (hi : vp_in i N) (hx01 : x = 0 ∨ x = 1) (hs : L.set a (eA 1 N (upd f i.toNatClampNeg x)) = L') (kk : V g Z H0 nL L' k n (pc + 1) lv st) : V g Z H0 nL L k n pc lv (aI x :: aI i :: aR a :: st) := by
  obtain ⟨p, l, e, s, m, args, below, meth, c, QQ, rfl, rfl, hx, hb, hml, hown, hts, hK, -⟩ := C
  subst hs
  intro H locs ls hH hS hlv
  have hc : H[g.2.2.1 + a]? = some (vp_cell (g.2.1 1) (N, .inl f)) := hH.2 a _ hL
  have hA := (hK.1.2 1 (g.2.1 1, .boolean) rfl).1 N (fun j => .int (f j))
  have hnar : narrow .boolean (.int x) = .int x := by rcases hx01 with rfl | rfl <;> rfl
  refine W.zast hx hb hc hA (fun q => by cases q) (arr_hin hi) rfl rfl hd fun H1 e1 z oq => ?_
  refine kk H1 _ ls (hH.set (k := a) (e := eA 1 N (upd f i.toNatClampNeg x)) ?_ z oq) (hS.put1 rfl z oq) hlv
  show H1[g.2.2.1 + a]? = some (vp_cell _ _)
  rw [e1, hnar, vp_cell_i, vp_cell_i, arrV_store]
  congr 2
  funext q
  by_cases hq : q = i.toNatClampNeg
  · subst hq; simp [updV, upd]
  · simp [updV, upd, hq]
theorem V.aast (C : Cx g Z H0 nL own cc nm rm) {a N t ci v : Nat} {f : Nat → Option Nat} {i : Int32} {fs : List AV} {q : vw_C} {L' : List AE} (ht : 2 ≤ t ∧ t ≤ 5) (hd : decode cc pc = .ok (.aastore, 1)) (hL : L[a]? = some (eQ t N f)) (hv : L[v]? = some (eO ci fs)) (hq : xcl[ci]? = some q) (hqt : q.1 = arC t) (hi : vp_in i N) (hs : L.set a (eQ t N (va_up f i.toNatClampNeg (some v))) = L') (kk : V g Z H0 nL L' k n (pc + 1) lv st) : V g Z H0 nL L k n pc lv (aR v :: aI i :: aR a :: st) := by
  obtain ⟨p, l, e, s, m, args, below, meth, c, QQ, rfl, rfl, hx, hb, hml, hown, hts, hK, -⟩ := C
  subst hs
  intro H locs ls hH hS hlv
  have hc : H[g.2.2.1 + a]? = some (vp_cell (g.2.1 t) (N, .inr (.inr (.inr (.inr (fun j => (f j).map (fun k => g.2.2.1 + k))))))) := hH.2 a _ hL
  have hlt : i.toNatClampNeg < N := Nat.not_le.mp fun z => hi (Or.inr z)
  have h0 : ¬ i < 0 := fun z => hi (Or.inl z)
  obtain ⟨r', hr', cellV, g1, g2, g3, -⟩ := hH.2 v _ hv
  have hcls := (hK.1.1 ci q hq).2
  have ht2 := arC_ok g ht
  rw [← hqt] at ht2
  obtain ⟨kA, comp, k1, k2, k3, -⟩ := (hK.1.2 t _ ht2).2
  have hcomp : comp = g.1.1 ci := Option.some.inj (k3.symm.trans hcls.1)
  subst hcomp
  obtain ⟨kC, hkC, -⟩ := hcls.2
  refine W.aast hx hb hc (fun z h => by cases h) (fun h => by cases h) k1 k2 rfl hkC ⟨h0, by show _ < (arrV _ _ _).slots.size; rw [arrV_size]; exact hlt⟩ g1 (fun z h => by rw [g3] at h; cases h) (by rw [g2]; exact hkC) (by rw [g2]; exact va_assign hcls) rfl rfl hd fun H1 e1 z oq => ?_
  refine kk H1 _ ls (hH.set (k := a) (e := eQ t N (va_up f i.toNatClampNeg (some v))) ?_ z oq) (hS.put1 rfl z oq) hlv
  show H1[g.2.2.1 + a]? = some (vp_cell _ _)
  rw [e1, vp_cell_q, vp_cell_q, arrV_store]
  congr 2
  funext q
  by_cases hq : q = i.toNatClampNeg
  · subst hq; simp [updV, va_up, va_rf]
  · simp [updV, va_up, hq]
end HP1
end
section
section AL1
variable {g : GD} {Z : ZT} {H0 : Heap} {nL : Nat} {own nm : String} {cc : ByteArray} {rm : Room} {L : List AE} {k n pc : Nat} {lv : List (Option AV)} {st : List AV}
theorem va_S.new1 {H H1 : Heap} {locs : List Loc} {A : Nat → Prop} (h : va_S A H0 H locs) (z : H1.size = H.size + 1) (oq : ∀ q : Nat, q < H.size → H1[q]? = H[q]?) : va_S A H0 H1 locs :=
  ⟨Nat.le_trans h.1 (by omega), fun x h1 h2 => (oq x (Nat.lt_of_lt_of_le h1 h.1)).trans (h.2.1 x h1 h2), h.2.2⟩
/-- fields of a new object: as their types have them -/
def dfl (ty : FieldType) : AV := match ty with
  | .object _ => aN
  | .array _ => aN
  | _ => aI 0
theorem dfl_ok (g : GD) {ty : FieldType} (h : ty = .int ∨ ty = .boolean ∨ (∃ s, ty = .object s) ∨ ∃ t, ty = .array t) : defaultValue ty = toV g (dfl ty) := by
  rcases h with rfl | rfl | ⟨s, rfl⟩ | ⟨t, rfl⟩ <;> rfl
theorem V.new (C : Cx g Z H0 nL own cc nm rm) {index ci k' n' : Nat} {q : vw_C} {fs : List AV} (hcl : Cond.classLink own index q.1 ∈ gt) (hins : Cond.instantiable q.1 q.2.2 ∈ gt) (hini : Cond.initialized q.1 ∈ gt) (hq : xcl[ci]? = some q) (hfs : ∀ j, j < q.2.2 → ∃ ty, parseFieldDescriptor (q.2.1 j).2.2.1 = some ty ∧ fs[j]? = some (dfl ty) ∧ (ty = .int ∨ ty = .boolean ∨ (∃ s, ty = .object s) ∨ ∃ t, ty = .array t)) (hd : decode cc pc = .ok (.new index, 3)) (hk : k + 1 = k') (hn : n + q.2.2 = n') (hc : k' ≤ rm.cells) (hsl : n' ≤ rm.slots)
    (kk : V g Z H0 nL (L ++ [eO ci fs]) k' n' (pc + 3) lv (aR L.length :: st)) : V g Z H0 nL L k n pc lv st := by
  obtain ⟨p, l, e, s, m, args, below, meth, c, QQ, rfl, rfl, hx, hb, hml, hown, hts, hK, hnm, hg0⟩ := C
  subst hk hn
  intro H locs ls hH hS hlv
  obtain ⟨hin, ⟨ty0, hty⟩, hnmq⟩ := xcl_ok hq
  have hKn := hK.1.1 ci _ hq
  refine W.newcK hx hb hown (hts _ hcl) (hts _ hins) (hts _ hini) rfl hd hc hsl hKn.2.1 hH.1 fun H1 kC hkC e1 z1 o1 => ?_
  have o2 : ∀ x, x < H.size → H1[x]? = H[x]? := fun x hx => o1 x (by rw [← hH.1]; exact hx)
  have z2 : H1.size = H.size + 1 := by rw [z1, hH.1]
  refine kk H1 locs ls (hH.push (e := eO ci fs) ?_ z2 o2) (hS.new1 z2 o2) hlv
  refine ⟨q, hq, (u_born ty0 hts hin hKn hkC e1 hty).to (fun j hj => ?_)⟩
  obtain ⟨ty, h1, h2, h3⟩ := hfs j hj
  have e2 : ty0 j = ty := Option.some.inj ((hty j hj).symm.trans h1)
  rw [e2, dfl_ok g h3]
  show _ = vp_V (fs.map (toV g)) j
  simp [vp_V, h2]
theorem V.newI (C : Cx g Z H0 nL own cc nm rm) {x : Int32} {N k' n' : Nat} (hw : Cond.arrayClass .int ∈ gt) (hd : decode cc pc = .ok (.newarray .int, 2)) (h0 : ¬ x < 0) (hN : x.toNatClampNeg = N) (hby : N * 4 ≤ 536870912) (hk : k + 1 = k') (hn : n + N = n') (hc : k' ≤ rm.cells) (hsl : n' ≤ rm.slots)
    (kk : V g Z H0 nL (L ++ [eA 0 N (fun _ => 0)]) k' n' (pc + 2) lv (aR L.length :: st)) : V g Z H0 nL L k n pc lv (aI x :: st) := by
  obtain ⟨p, l, e, s, m, args, below, meth, c, QQ, rfl, rfl, hx, hb, hml, hown, hts, hK, hnm, hg0⟩ := C
  subst hk hn
  intro H locs ls hH hS hlv
  refine va_newaK hx hb (atype := .int) (hts _ hw) rfl hd rfl h0 hN hby hc hsl hH.1 fun H1 cA e1 z1 o1 hAr hNm => ?_
  have hcA : cA = g.2.1 0 := by
    have := (hK.1.2 0 (g.2.1 0, .int) rfl).2
    exact Option.some.inj (hNm.symm.trans this)
  subst hcA
  have o2 : ∀ x, x < H.size → H1[x]? = H[x]? := fun x hx => o1 x (by rw [← hH.1]; exact hx)
  have z2 : H1.size = H.size + 1 := by rw [z1, hH.1]
  exact kk H1 locs ls (hH.push (e := eA 0 N (fun _ => 0)) e1 z2 o2) (hS.new1 z2 o2) hlv
theorem V.newZ (C : Cx g Z H0 nL own cc nm rm) {x : Int32} {N k' n' : Nat} (hw : Cond.arrayClass .boolean ∈ gt) (hd : decode cc pc = .ok (.newarray .boolean, 2)) (h0 : ¬ x < 0) (hN : x.toNatClampNeg = N) (hby : N * componentBytes .boolean ≤ 536870912) (hk : k + 1 = k') (hn : n + N = n') (hc : k' ≤ rm.cells) (hsl : n' ≤ rm.slots)
    (kk : V g Z H0 nL (L ++ [eA 1 N (fun _ => 0)]) k' n' (pc + 2) lv (aR L.length :: st)) : V g Z H0 nL L k n pc lv (aI x :: st) := by
  obtain ⟨p, l, e, s, m, args, below, meth, c, QQ, rfl, rfl, hx, hb, hml, hown, hts, hK, hnm, hg0⟩ := C
  subst hk hn
  intro H locs ls hH hS hlv
  refine va_newaK hx hb (atype := .boolean) (hts _ hw) rfl hd rfl h0 hN hby hc hsl hH.1 fun H1 cA e1 z1 o1 hAr hNm => ?_
  have hcA : cA = g.2.1 1 := by
    have := (hK.1.2 1 (g.2.1 1, .boolean) rfl).2
    exact Option.some.inj (hNm.symm.trans this)
  subst hcA
  have o2 : ∀ x, x < H.size → H1[x]? = H[x]? := fun x hx => o1 x (by rw [← hH.1]; exact hx)
  have z2 : H1.size = H.size + 1 := by rw [z1, hH.1]
  exact kk H1 locs ls (hH.push (e := eA 1 N (fun _ => 0)) e1 z2 o2) (hS.new1 z2 o2) hlv
theorem arC_AO {g : GD} {s : State} (hK : Kk g s) {t : Nat} (h : 2 ≤ t ∧ t ≤ 5) : va_AO (arC t) s := by
  obtain ⟨h1, h2⟩ := h
  obtain ⟨-, ⟨a, b, c, d⟩, -⟩ := hK
  match t, h1, h2 with
  | 2, _, _ => exact a
  | 3, _, _ => exact b
  | 4, _, _ => exact c
  | 5, _, _ => exact d
theorem V.newQ (C : Cx g Z H0 nL own cc nm rm) {index t : Nat} {x : Int32} {N k' n' : Nat} (ht : 2 ≤ t ∧ t ≤ 5) (hcl : Cond.classLink own index (arC t) ∈ gt) (hd : decode cc pc = .ok (.anewarray index, 3)) (h0 : ¬ x < 0) (hN : x.toNatClampNeg = N) (hby : N * 4 ≤ 536870912) (hk : k + 1 = k') (hn : n + N = n') (hc : k' ≤ rm.cells) (hsl : n' ≤ rm.slots)
    (kk : V g Z H0 nL (L ++ [eQ t N (fun _ => none)]) k' n' (pc + 3) lv (aR L.length :: st)) : V g Z H0 nL L k n pc lv (aI x :: st) := by
  obtain ⟨p, l, e, s, m, args, below, meth, c, QQ, rfl, rfl, hx, hb, hml, hown, hts, hK, hnm, hg0⟩ := C
  subst hk hn
  subst hN
  intro H locs ls hH hS hlv
  refine W.anew hx hb hown (hts _ hcl) (va_AO.use (arC_AO hK ht)) rfl hd rfl h0 hby hc hsl fun cA kA comp f1 f2 f3 f4 => ?_
  generalize hH1 : H.push ({ cls := cA, slots := Array.replicate x.toNatClampNeg .null, vm := .none } : Cell) = H1
  have z1 : H1.size = H.size + 1 := by rw [← hH1, Array.size_push]
  have e1 : H1[H.size]? = some (arrV cA x.toNatClampNeg (fun _ => .null)) := by rw [← hH1, Array.getElem?_push_size, ← arrV_new]
  have o1 : ∀ q : Nat, q < H.size → H1[q]? = H[q]? := fun q hq => by rw [← hH1, Array.getElem?_push, if_neg (Nat.ne_of_lt hq)]
  have hcA : cA = g.2.1 t := by
    obtain ⟨kA', comp', k1, k2, k3, k4⟩ := (hK.1.2 t _ (arC_ok g ht)).2
    exact Option.some.inj (f1.symm.trans k4)
  subst hcA
  have hz : H.size = g.2.2.1 + L.length := hH.1
  rw [hz] at e1 ⊢
  exact kk H1 locs ls (hH.push (e := eQ t x.toNatClampNeg (fun _ => none)) e1 (by rw [z1]) o1) (hS.new1 z1 o1) hlv
theorem V.objInit (C : Cx g Z H0 nL own cc nm rm) {index a : Nat} (hl : Cond.methodLink own index objectInit ∈ gt) (hi : Cond.instanceMethod objectInit ∈ gt) (hco : Cond.code objectInit ⟨#[0xb1]⟩ 1 none ∈ gt) (hd : decode cc pc = .ok (.invokespecial index, 3)) (hst : st.length ≤ 4) (hf : 1 ≤ rm.frames ∧ 16 ≤ rm.locals) (kk : V g Z H0 nL L k n (pc + 3) lv st) : V g Z H0 nL L k n pc lv (aR a :: st) := by
  obtain ⟨p, l, e, s, m, args, below, meth, c, QQ, rfl, rfl, hx, hb, hml, hown, hts, hK, hnm, hg0⟩ := C
  intro H locs ls hH hS hlv
  have hsum : ((st.map (toV g)).map fun v => v.category).sum = st.length := by
    clear kk hd hst hf
    induction st with
    | nil => rfl
    | cons v vs ih => simp only [List.map_cons, List.sum_cons, ih, toV_cat, List.length_cons]; omega
  refine W.objInit hx hb hown (hts _ hl) (hts _ hi) (hts _ hco) rfl (by show ls.size = _; rw [hml]; exact hlv.1) rfl hd hf.1 (by show 2 * 0 + _ + 12 ≤ _; rw [hsum]; omega) ?_
  exact kk H locs ls hH hS hlv
theorem cat_sum (g : GD) (st : List AV) : ((st.map (toV g)).map fun v => v.category).sum = st.length := by
  induction st with
  | nil => rfl
  | cons v vs ih => simp only [List.map_cons, List.sum_cons, ih, toV_cat, List.length_cons]; omega
theorem V.widen {k' n' : Nat} (C : Cx g Z H0 nL own cc nm rm) (hk : k ≤ k') (hn : n ≤ n') (kk : V g Z H0 nL L k' n' pc lv st) : V g Z H0 nL L k n pc lv st := by
  obtain ⟨p, l, e, s, m, args, below, meth, c, QQ, rfl, rfl, -⟩ := C
  intro H locs ls hH hS hlv
  exact W.widen hk hn (kk H locs ls hH hS hlv)
/-! calls -/
/-- a callee's own words -/
def MO (y : MD) (n : Nat) : Prop := Cond.code y.1 y.2.1 y.2.2.1 y.2.2.2.1 ∈ gt ∧ Cond.initialized y.1.cls ∈ gt ∧ (y.1.cls ≠ "java/lang/invoke/MethodHandle" ∧ y.1.cls ≠ "java/lang/invoke/VarHandle") ∧ (parseMethodDescriptor y.1.desc).map (fun d => d.parameters.length) = some n
def RmOk (y : MD) (rm : Room) (k n : Nat) : Prop := y.2.2.2.2.frames + 1 ≤ rm.frames ∧ 8 + (y.2.2.1 + 11) + y.2.2.2.2.locals ≤ rm.locals ∧ k + y.2.2.2.2.cells ≤ rm.cells ∧ n + y.2.2.2.2.slots ≤ rm.slots
theorem Pc_blind {g : GD} {av : List AV} {L : List AE} : FrameBlind (va_Pc (av.map (toV g)) (fun U => Hs g L U.heap ∧ Kk g U)) := by
  intro a U f mk h
  obtain ⟨h1, h2, h3⟩ := h
  exact ⟨h1, h2, Kk.same rfl h3⟩
theorem V.after {p : Program} {l : Launch} {e : Env} {s : State} {m : MethodId} {args : Array Value} {below : List Frame} {meth : Method} {c : Code} {QQ : State → Prop} {H : Heap} {locs : List Loc} {ls : Array Slot} {stk rest : List Value} {Q : Option AV → List AE → Prop} {mc ms : Nat} {a : Array Value}
    (hr : va_Run p l e rm s m args below meth c H locs k n mc ms (F0 m pc ls stk) rest (EvQ g Q a) (fun q => g.2.2.1 ≤ q)) (hS : va_S (fun q => g.2.2.1 ≤ q) s.heap H locs)
    (kk : ∀ (v : Option AV) (L1 : List AE) (H1 : Heap) (locs1 : List Loc), Q v L1 → Hs g L1 H1 → va_S (fun q => g.2.2.1 ≤ q) s.heap H1 locs1 → W p l e rm s m args below meth c H1 locs1 (k + mc) (n + ms) QQ (F0 m (pc + 3) ls ((v.map (toV g)).toList ++ rest))) : W p l e rm s m args below meth c H locs k n QQ (F0 m pc ls stk) := by
  intro T hT X
  obtain ⟨v, st₀, t, T', L2, h0, X', hL, e1, e2, ⟨⟨v', L1, hv, hq, hH1⟩, hz, hk⟩, st⟩ := hr T hT X
  cases hv
  rw [h0] at hz hk
  obtain ⟨t2, a1, b1⟩ := kk v' L1 T'.heap (locs ++ L2) hq (by rw [e1]; exact hH1) ⟨Nat.le_trans hS.1 (by rw [e1]; exact hz), fun q h1 h2 => by rw [e1, hk q (Nat.lt_of_lt_of_le h1 hS.1) h2]; exact hS.2.1 q h1 h2, fun q hq => by
      rcases List.mem_append.mp hq with h | h
      · exact hS.2.2 q h
      · exact hL q h⟩ T' rfl X'
  exact ⟨t2, st t2 a1, b1⟩
theorem V.callV (C : Cx g Z H0 nL own cc nm rm) {index a ci np : Nat} {y : MD} {As rest stk : List AV} {fs : List AV} {q : vw_C} {Q : Option AV → List AE → Prop} (hm : MO y np) (hi : Cond.instanceMethod y.1 ∈ gt) (hse : Cond.selects y.1.cls y.1 y.1 ∈ gt) (hl : Cond.methodLink own index y.1 ∈ gt) (hev : Ev g y (aR a :: As) L Q) (hd : decode cc pc = .ok (.invokevirtual index, 3)) (hstk : stk = As.reverse ++ aR a :: rest) (hlen : As.length = np) (hL : L[a]? = some (eO ci fs)) (hq : xcl[ci]? = some q) (hqn : q.1 = y.1.cls) (hrl : rest.length ≤ 8) (hroom : RmOk y rm k n)
    (kk : ∀ (v : Option AV) (L1 : List AE), Q v L1 → V g Z H0 nL L1 (k + y.2.2.2.2.cells) (n + y.2.2.2.2.slots) (pc + 3) lv (v.toList ++ rest)) : V g Z H0 nL L k n pc lv stk := by
  obtain ⟨p, l, e, s, m, args, below, meth, c, QQ, rfl, rfl, hx, hb, hml, hown, hts, hK, hnm, hg0⟩ := C
  obtain ⟨hc, hin, hnn, hd2⟩ := hm
  subst hstk
  intro H locs ls hH hS hlv
  have hstack : (As.reverse ++ aR a :: rest).map (toV g) = (As.map (toV g)).reverse ++ Value.ref (g.2.2.1 + a) :: rest.map (toV g) := by simp [toV, va_rf]
  rw [hstack]
  have hcw : CallW rm s args own y.1.cls index y.1 y.2.1 y.2.2.1 y.2.2.2.1 (.code y.1 y.2.1 y.2.2.1 y.2.2.2.1 :: gt) y.2.2.2.2 y.2.2.2.2.cells y.2.2.2.2.slots np :=
    ⟨callB_of np hts (gt_good hc) rfl rfl rfl (hts _ hin) (hts _ hl) ⟨hnn.1, hnn.2, hd2⟩ ⟨hroom.1, hroom.2.1⟩, hts _ hi, hts _ hse⟩
  have hrun := va_runV (p := p) (l := l) (e := e) (R := rm) (s := s) (m := m) (args := args) (below := below) (meth := meth) (c := c) (H := H) (locs := locs) (cells := k) (slots := n) (g := F0 m pc ls ((As.map (toV g)).reverse ++ Value.ref (g.2.2.1 + a) :: rest.map (toV g))) (b := g.2.2.1 + a) (As := As.map (toV g)) (rest := rest.map (toV g)) (nL := nL) (Ts := gt) ⟨hx, hb, hml, hown, hts⟩ (hev l) hcw
    ⟨Pc_blind, by rw [← hqn]; exact va_recv hK.1 (hH.P hL) hq (q0 := 0) (by rfl), fun U hU hW => ⟨rfl, by rw [hU]; exact hH, hK.warm hW⟩⟩ rfl (by simpa using hlen) hlv.1 rfl (by show 2 * 0 + _ ≤ 8; rw [cat_sum]; omega) hd ⟨hroom.2.2.1, hroom.2.2.2⟩
  refine V.after hrun hS (fun v L1 H1 locs1 hv1 hH1 hS1 => ?_)
  have := kk v L1 hv1 H1 locs1 ls hH1 hS1 hlv
  have e3 : (v.toList ++ rest).map (toV g) = (v.map (toV g)).toList ++ rest.map (toV g) := by cases v <;> rfl
  rw [e3] at this
  exact this
theorem V.callS (C : Cx g Z H0 nL own cc nm rm) {index np : Nat} {y : MD} {As rest stk : List AV} {Q : Option AV → List AE → Prop} (hm : MO y np) (hi : Cond.static y.1 ∈ gt) (hl : Cond.methodLink own index y.1 ∈ gt) (hev : Ev g y As L Q) (hd : decode cc pc = .ok (.invokestatic index, 3)) (hstk : stk = As.reverse ++ rest) (hlen : As.length = np) (hrl : rest.length ≤ 8) (hroom : RmOk y rm k n)
    (kk : ∀ (v : Option AV) (L1 : List AE), Q v L1 → V g Z H0 nL L1 (k + y.2.2.2.2.cells) (n + y.2.2.2.2.slots) (pc + 3) lv (v.toList ++ rest)) : V g Z H0 nL L k n pc lv stk := by
  obtain ⟨p, l, e, s, m, args, below, meth, c, QQ, rfl, rfl, hx, hb, hml, hown, hts, hK, hnm, hg0⟩ := C
  obtain ⟨hc, hin, hnn, hd2⟩ := hm
  subst hstk
  intro H locs ls hH hS hlv
  have hstack : (As.reverse ++ rest).map (toV g) = (As.map (toV g)).reverse ++ rest.map (toV g) := by simp
  rw [hstack]
  have hcw : CallB rm s args own index y.1 y.2.1 y.2.2.1 y.2.2.2.1 (.code y.1 y.2.1 y.2.2.1 y.2.2.2.1 :: gt) y.2.2.2.2 y.2.2.2.2.cells y.2.2.2.2.slots np :=
    callB_of np hts (gt_good hc) rfl rfl rfl (hts _ hin) (hts _ hl) ⟨hnn.1, hnn.2, hd2⟩ ⟨hroom.1, hroom.2.1⟩
  have hrun := va_runS (p := p) (l := l) (e := e) (R := rm) (s := s) (m := m) (args := args) (below := below) (meth := meth) (c := c) (H := H) (locs := locs) (cells := k) (slots := n) (g := F0 m pc ls ((As.map (toV g)).reverse ++ rest.map (toV g))) (As := As.map (toV g)) (rest := rest.map (toV g)) (nL := nL) (Ts := gt) ⟨hx, hb, hml, hown, hts⟩ (hev l) ⟨hcw, hts _ hi⟩
    ⟨Pc_blind, fun U hU hW => ⟨rfl, by rw [hU]; exact hH, hK.warm hW⟩⟩ rfl (by simpa using hlen) hlv.1 rfl (by show 2 * 0 + _ ≤ 8; rw [cat_sum]; omega) hd ⟨hroom.2.2.1, hroom.2.2.2⟩
  refine V.after hrun hS (fun v L1 H1 locs1 hv1 hH1 hS1 => ?_)
  have := kk v L1 hv1 H1 locs1 ls hH1 hS1 hlv
  have e3 : (v.toList ++ rest).map (toV g) = (v.map (toV g)).toList ++ rest.map (toV g) := by cases v <;> rfl
  rw [e3] at this
  exact this
theorem V.callI (C : Cx g Z H0 nL own cc nm rm) {index a np : Nat} {y : MD} {As rest stk : List AV} {Q : Option AV → List AE → Prop} (hm : MO y np) (hrt : y.2.2.2.1 = none) (hi : Cond.instanceMethod y.1 ∈ gt) (hnm : y.1.name = "<init>") (hl : Cond.methodLink own index y.1 ∈ gt) (hev : Ev g y (aR a :: As) L Q) (hd : decode cc pc = .ok (.invokespecial index, 3)) (hstk : stk = As.reverse ++ aR a :: rest) (hlen : As.length = np) (hrl : rest.length ≤ 8) (hroom : RmOk y rm k n)
    (kk : ∀ (v : Option AV) (L1 : List AE), Q v L1 → V g Z H0 nL L1 (k + y.2.2.2.2.cells) (n + y.2.2.2.2.slots) (pc + 3) lv (v.toList ++ rest)) : V g Z H0 nL L k n pc lv stk := by
  obtain ⟨p, l, e, s, m, args, below, meth, c, QQ, rfl, rfl, hx, hb, hml, hown, hts, hK, hnm0, hg0⟩ := C
  obtain ⟨y1, y2, y3, y4, y5⟩ := y
  simp only at hrt
  subst hrt
  obtain ⟨hc, hin, hnn, hd2⟩ := hm
  subst hstk
  intro H locs ls hH hS hlv
  have hstack : (As.reverse ++ aR a :: rest).map (toV g) = (As.map (toV g)).reverse ++ Value.ref (g.2.2.1 + a) :: rest.map (toV g) := by simp [toV, va_rf]
  rw [hstack]
  have hcw := callB_of (R := rm) (rm := y5) (mc := y5.cells) (ms := y5.slots) np hts (gt_good hc) rfl rfl rfl (hts _ hin) (hts _ hl) ⟨hnn.1, hnn.2, hd2⟩ ⟨hroom.1, hroom.2.1⟩
  have hrun := va_runI (p := p) (l := l) (e := e) (R := rm) (s := s) (m := m) (args := args) (below := below) (meth := meth) (c := c) (H := H) (locs := locs) (cells := k) (slots := n) (g := F0 m pc ls ((As.map (toV g)).reverse ++ Value.ref (g.2.2.1 + a) :: rest.map (toV g))) (b := g.2.2.1 + a) (As := As.map (toV g)) (rest := rest.map (toV g)) (nL := nL) (Ts := gt) ⟨hx, hb, hml, hown, hts⟩ (hev l) ⟨hcw, hnm, hts _ hi⟩
    ⟨Pc_blind, fun U hU hW => ⟨rfl, by rw [hU]; exact hH, hK.warm hW⟩⟩ rfl (by simpa using hlen) hlv.1 rfl (by show 2 * 0 + _ ≤ 8; rw [cat_sum]; omega) hd ⟨hroom.2.2.1, hroom.2.2.2⟩
  refine V.after hrun hS (fun v L1 H1 locs1 hv1 hH1 hS1 => ?_)
  have := kk v L1 hv1 H1 locs1 ls hH1 hS1 hlv
  have e3 : (v.toList ++ rest).map (toV g) = (v.map (toV g)).toList ++ rest.map (toV g) := by cases v <;> rfl
  rw [e3] at this
  exact this
theorem V.callIN (C : Cx g Z H0 nL own cc nm rm) {index a np : Nat} {host : String} {y : MD} {As rest stk : List AV} {Q : Option AV → List AE → Prop} (hm : MO y np) (hrt : y.2.2.2.1 = none) (hi : Cond.instanceMethod y.1 ∈ gt) (hnm : y.1.name = "<init>") (hl : ∀ s, Kk g s → va_Nw (.methodLinkNest own index y.1 host) s) (hev : Ev g y (aR a :: As) L Q) (hd : decode cc pc = .ok (.invokespecial index, 3)) (hstk : stk = As.reverse ++ aR a :: rest) (hlen : As.length = np) (hrl : rest.length ≤ 8) (hroom : RmOk y rm k n)
    (kk : ∀ (v : Option AV) (L1 : List AE), Q v L1 → V g Z H0 nL L1 (k + y.2.2.2.2.cells) (n + y.2.2.2.2.slots) (pc + 3) lv (v.toList ++ rest)) : V g Z H0 nL L k n pc lv stk := by
  obtain ⟨p, l, e, s, m, args, below, meth, c, QQ, rfl, rfl, hx, hb, hml, hown, hts, hK, hnm0, hg0⟩ := C
  obtain ⟨y1, y2, y3, y4, y5⟩ := y
  simp only at hrt
  subst hrt
  obtain ⟨hc, hin, hnn, hd2⟩ := hm
  subst hstk
  intro H locs ls hH hS hlv
  have hstack : (As.reverse ++ aR a :: rest).map (toV g) = (As.map (toV g)).reverse ++ Value.ref (g.2.2.1 + a) :: rest.map (toV g) := by simp [toV, va_rf]
  rw [hstack]
  have hcw := va_cnB (R := rm) (rm := y5) (mc := y5.cells) (ms := y5.slots) np hts (gt_good hc) rfl rfl rfl (hl s hK) (hts _ hin) ⟨hnn.1, hnn.2, hd2⟩ ⟨hroom.1, hroom.2.1⟩
  have hrun := va_runIN (p := p) (l := l) (e := e) (R := rm) (s := s) (m := m) (args := args) (below := below) (meth := meth) (c := c) (H := H) (locs := locs) (cells := k) (slots := n) (g := F0 m pc ls ((As.map (toV g)).reverse ++ Value.ref (g.2.2.1 + a) :: rest.map (toV g))) (b := g.2.2.1 + a) (As := As.map (toV g)) (rest := rest.map (toV g)) (nL := nL) (Ts := gt) ⟨hx, hb, hml, hown, hts⟩ (hev l) ⟨hcw, hnm, hts _ hi⟩
    ⟨Pc_blind, fun U hU hW => ⟨rfl, by rw [hU]; exact hH, hK.warm hW⟩⟩ rfl (by simpa using hlen) hlv.1 rfl (by show 2 * 0 + _ ≤ 8; rw [cat_sum]; omega) hd ⟨hroom.2.2.1, hroom.2.2.2⟩
  refine V.after hrun hS (fun v L1 H1 locs1 hv1 hH1 hS1 => ?_)
  have := kk v L1 hv1 H1 locs1 ls hH1 hS1 hlv
  have e3 : (v.toList ++ rest).map (toV g) = (v.map (toV g)).toList ++ rest.map (toV g) := by cases v <;> rfl
  rw [e3] at this
  exact this
/-! returns -/
theorem V.iret {rt : FieldType} {Q : Option AV → List AE → Prop} {x : Int32} (X : Rx g Z H0 cc (some rt) rm Q) (hd : decode cc pc = .ok (.ireturn, 1)) (hn : narrow rt (.int x) = .int x) (hk : k ≤ rm.cells) (hsl : n ≤ rm.slots) (hq : Q (some (aI x)) L) : V g Z H0 nL L k n pc lv [aI x] := by
  obtain ⟨p, l, e, s, m, args, below, meth, c, rfl, rfl, hx, hb, hr, hlocks⟩ := X
  intro H locs ls hH hS hlv
  refine W.widen hk hsl ?_
  exact W.zret hx hb hr hn (fun t ht hW => ⟨⟨some (aI x), L, rfl, hq, by rw [ht]; exact hH⟩, hS.F ht⟩) hS.2.2 hd
theorem V.vret {Q : Option AV → List AE → Prop} (X : Rx g Z H0 cc none rm Q) (hd : decode cc pc = .ok (.return_, 1)) (hk : k ≤ rm.cells) (hsl : n ≤ rm.slots) (hq : Q none L) : V g Z H0 nL L k n pc lv [] := by
  obtain ⟨p, l, e, s, m, args, below, meth, c, rfl, rfl, hx, hb, hr, hlocks⟩ := X
  intro H locs ls hH hS hlv
  refine W.widen hk hsl ?_
  exact W.vret hx hb hr (fun t ht hW => ⟨⟨none, L, rfl, hq, by rw [ht]; exact hH⟩, hS.F ht⟩) hS.2.2 hd
theorem V.aret {rt : FieldType} {Q : Option AV → List AE → Prop} {o : Option Nat} (X : Rx g Z H0 cc (some rt) rm Q) (hd : decode cc pc = .ok (.areturn, 1)) (hrt : (∃ n, rt = .object n) ∨ ∃ t, rt = .array t) (hk : k ≤ rm.cells) (hsl : n ≤ rm.slots) (hq : Q (some (aO o)) L) : V g Z H0 nL L k n pc lv [aO o] := by
  obtain ⟨p, l, e, s, m, args, below, meth, c, rfl, rfl, hx, hb, hr, hlocks⟩ := X
  intro H locs ls hH hS hlv
  refine W.widen hk hsl ?_
  refine W.aret (v := toV g (aO o)) hx hb hr hrt ?_ (fun t ht hW => ⟨⟨some (aO o), L, rfl, hq, by rw [ht]; exact hH⟩, hS.F ht⟩) hS.2.2 hd
  cases o with
  | none => exact Or.inl rfl
  | some a => exact Or.inr ⟨_, rfl⟩
end AL1
end
section
abbrev mX0_init : MD := (yX0_init, cX0_init, 3, none, { frames := 1, cells := 1, slots := 8, locals := 20 })
theorem mo_X0_init : MO mX0_init 2 := ⟨gt_mem 307 (by decide +kernel) (by decide +kernel), gt_mem 62 (by decide +kernel) (by decide +kernel), by decide +kernel, by decide +kernel⟩
theorem im_X0_init : Cond.instanceMethod yX0_init ∈ gt := gt_mem 306 (by decide +kernel) (by decide +kernel)
abbrev mX0_hear : MD := (yX0_hear, cX0_hear, 2, none, { frames := 1, cells := 0, slots := 0, locals := 60 })
theorem mo_X0_hear : MO mX0_hear 1 := ⟨gt_mem 458 (by decide +kernel) (by decide +kernel), gt_mem 62 (by decide +kernel) (by decide +kernel), by decide +kernel, by decide +kernel⟩
theorem im_X0_hear : Cond.instanceMethod yX0_hear ∈ gt := gt_mem 456 (by decide +kernel) (by decide +kernel)
theorem se_X0_hear : Cond.selects RX0 yX0_hear yX0_hear ∈ gt := gt_mem 457 (by decide +kernel) (by decide +kernel)
abbrev mX1_init : MD := (yX1_init, cX1_init, 3, none, { frames := 1, cells := 0, slots := 0, locals := 20 })
theorem mo_X1_init : MO mX1_init 2 := ⟨gt_mem 176 (by decide +kernel) (by decide +kernel), gt_mem 59 (by decide +kernel) (by decide +kernel), by decide +kernel, by decide +kernel⟩
theorem im_X1_init : Cond.instanceMethod yX1_init ∈ gt := gt_mem 175 (by decide +kernel) (by decide +kernel)
abbrev mX1_hasSide : MD := (yX1_hasSide, cX1_hasSide, 2, some .boolean, { frames := 0, cells := 0, slots := 0, locals := 0 })
theorem mo_X1_hasSide : MO mX1_hasSide 1 := ⟨gt_mem 219 (by decide +kernel) (by decide +kernel), gt_mem 59 (by decide +kernel) (by decide +kernel), by decide +kernel, by decide +kernel⟩
theorem im_X1_hasSide : Cond.instanceMethod yX1_hasSide ∈ gt := gt_mem 217 (by decide +kernel) (by decide +kernel)
theorem se_X1_hasSide : Cond.selects RX1 yX1_hasSide yX1_hasSide ∈ gt := gt_mem 218 (by decide +kernel) (by decide +kernel)
abbrev mX1_sideFrom : MD := (yX1_sideFrom, cX1_sideFrom, 2, some .int, { frames := 0, cells := 0, slots := 0, locals := 0 })
theorem mo_X1_sideFrom : MO mX1_sideFrom 1 := ⟨gt_mem 431 (by decide +kernel) (by decide +kernel), gt_mem 59 (by decide +kernel) (by decide +kernel), by decide +kernel, by decide +kernel⟩
theorem im_X1_sideFrom : Cond.instanceMethod yX1_sideFrom ∈ gt := gt_mem 429 (by decide +kernel) (by decide +kernel)
theorem se_X1_sideFrom : Cond.selects RX1 yX1_sideFrom yX1_sideFrom ∈ gt := gt_mem 430 (by decide +kernel) (by decide +kernel)
abbrev mX1_obstacle : MD := (yX1_obstacle, cX1_obstacle, 1, some .int, { frames := 0, cells := 0, slots := 0, locals := 0 })
theorem mo_X1_obstacle : MO mX1_obstacle 0 := ⟨gt_mem 419 (by decide +kernel) (by decide +kernel), gt_mem 59 (by decide +kernel) (by decide +kernel), by decide +kernel, by decide +kernel⟩
theorem im_X1_obstacle : Cond.instanceMethod yX1_obstacle ∈ gt := gt_mem 417 (by decide +kernel) (by decide +kernel)
theorem se_X1_obstacle : Cond.selects RX1 yX1_obstacle yX1_obstacle ∈ gt := gt_mem 418 (by decide +kernel) (by decide +kernel)
abbrev mX2_init : MD := (yX2_init, cX2_init, 1, none, { frames := 1, cells := 1, slots := 4, locals := 20 })
theorem mo_X2_init : MO mX2_init 0 := ⟨gt_mem 111 (by decide +kernel) (by decide +kernel), gt_mem 57 (by decide +kernel) (by decide +kernel), by decide +kernel, by decide +kernel⟩
theorem im_X2_init : Cond.instanceMethod yX2_init ∈ gt := gt_mem 110 (by decide +kernel) (by decide +kernel)
abbrev mX2_append : MD := (yX2_append, cX2_append, 2, some .boolean, { frames := 0, cells := 0, slots := 0, locals := 0 })
theorem mo_X2_append : MO mX2_append 1 := ⟨gt_mem 238 (by decide +kernel) (by decide +kernel), gt_mem 57 (by decide +kernel) (by decide +kernel), by decide +kernel, by decide +kernel⟩
theorem im_X2_append : Cond.instanceMethod yX2_append ∈ gt := gt_mem 236 (by decide +kernel) (by decide +kernel)
theorem se_X2_append : Cond.selects RX2 yX2_append yX2_append ∈ gt := gt_mem 237 (by decide +kernel) (by decide +kernel)
abbrev mX2_current : MD := (yX2_current, cX2_current, 1, some .int, { frames := 0, cells := 0, slots := 0, locals := 0 })
theorem mo_X2_current : MO mX2_current 0 := ⟨gt_mem 435 (by decide +kernel) (by decide +kernel), gt_mem 57 (by decide +kernel) (by decide +kernel), by decide +kernel, by decide +kernel⟩
theorem im_X2_current : Cond.instanceMethod yX2_current ∈ gt := gt_mem 433 (by decide +kernel) (by decide +kernel)
theorem se_X2_current : Cond.selects RX2 yX2_current yX2_current ∈ gt := gt_mem 434 (by decide +kernel) (by decide +kernel)
abbrev mX2_advance : MD := (yX2_advance, cX2_advance, 1, none, { frames := 0, cells := 0, slots := 0, locals := 0 })
theorem mo_X2_advance : MO mX2_advance 0 := ⟨gt_mem 443 (by decide +kernel) (by decide +kernel), gt_mem 57 (by decide +kernel) (by decide +kernel), by decide +kernel, by decide +kernel⟩
theorem im_X2_advance : Cond.instanceMethod yX2_advance ∈ gt := gt_mem 441 (by decide +kernel) (by decide +kernel)
theorem se_X2_advance : Cond.selects RX2 yX2_advance yX2_advance ∈ gt := gt_mem 442 (by decide +kernel) (by decide +kernel)
abbrev mX3_init : MD := (yX3_init, cX3_init, 1, none, { frames := 1, cells := 4, slots := 80, locals := 20 })
theorem mo_X3_init : MO mX3_init 0 := ⟨gt_mem 84 (by decide +kernel) (by decide +kernel), gt_mem 55 (by decide +kernel) (by decide +kernel), by decide +kernel, by decide +kernel⟩
theorem im_X3_init : Cond.instanceMethod yX3_init ∈ gt := gt_mem 83 (by decide +kernel) (by decide +kernel)
abbrev mX3_begin : MD := (yX3_begin, cX3_begin, 2, none, { frames := 1, cells := 0, slots := 0, locals := 23 })
theorem mo_X3_begin : MO mX3_begin 1 := ⟨gt_mem 489 (by decide +kernel) (by decide +kernel), gt_mem 55 (by decide +kernel) (by decide +kernel), by decide +kernel, by decide +kernel⟩
theorem im_X3_begin : Cond.instanceMethod yX3_begin ∈ gt := gt_mem 487 (by decide +kernel) (by decide +kernel)
theorem se_X3_begin : Cond.selects RX3 yX3_begin yX3_begin ∈ gt := gt_mem 488 (by decide +kernel) (by decide +kernel)
abbrev mX3_reach : MD := (yX3_reach, cX3_reach, 4, none, { frames := 1, cells := 0, slots := 0, locals := 20 })
theorem mo_X3_reach : MO mX3_reach 3 := ⟨gt_mem 497 (by decide +kernel) (by decide +kernel), gt_mem 55 (by decide +kernel) (by decide +kernel), by decide +kernel, by decide +kernel⟩
theorem im_X3_reach : Cond.instanceMethod yX3_reach ∈ gt := gt_mem 495 (by decide +kernel) (by decide +kernel)
theorem se_X3_reach : Cond.selects RX3 yX3_reach yX3_reach ∈ gt := gt_mem 496 (by decide +kernel) (by decide +kernel)
abbrev mX3_stepsTo : MD := (yX3_stepsTo, cX3_stepsTo, 2, some .int, { frames := 1, cells := 0, slots := 0, locals := 20 })
theorem mo_X3_stepsTo : MO mX3_stepsTo 1 := ⟨gt_mem 501 (by decide +kernel) (by decide +kernel), gt_mem 55 (by decide +kernel) (by decide +kernel), by decide +kernel, by decide +kernel⟩
theorem im_X3_stepsTo : Cond.instanceMethod yX3_stepsTo ∈ gt := gt_mem 499 (by decide +kernel) (by decide +kernel)
theorem se_X3_stepsTo : Cond.selects RX3 yX3_stepsTo yX3_stepsTo ∈ gt := gt_mem 500 (by decide +kernel) (by decide +kernel)
abbrev mX3_directionOfStep : MD := (yX3_directionOfStep, cX3_directionOfStep, 5, some .int, { frames := 2, cells := 0, slots := 0, locals := 41 })
theorem mo_X3_directionOfStep : MO mX3_directionOfStep 2 := ⟨gt_mem 505 (by decide +kernel) (by decide +kernel), gt_mem 55 (by decide +kernel) (by decide +kernel), by decide +kernel, by decide +kernel⟩
theorem im_X3_directionOfStep : Cond.instanceMethod yX3_directionOfStep ∈ gt := gt_mem 503 (by decide +kernel) (by decide +kernel)
theorem se_X3_directionOfStep : Cond.selects RX3 yX3_directionOfStep yX3_directionOfStep ∈ gt := gt_mem 504 (by decide +kernel) (by decide +kernel)
abbrev mX3_isNumber : MD := (yX3_isNumber, cX3_isNumber, 1, some .boolean, { frames := 0, cells := 0, slots := 0, locals := 0 })
theorem mo_X3_isNumber : MO mX3_isNumber 1 := ⟨gt_mem 493 (by decide +kernel) (by decide +kernel), gt_mem 55 (by decide +kernel) (by decide +kernel), by decide +kernel, by decide +kernel⟩
theorem sm_X3_isNumber : Cond.static yX3_isNumber ∈ gt := gt_mem 492 (by decide +kernel) (by decide +kernel)
abbrev mX4_init : MD := (yX4_init, cX4_init, 5, none, { frames := 1, cells := 0, slots := 0, locals := 20 })
theorem mo_X4_init : MO mX4_init 4 := ⟨gt_mem 267 (by decide +kernel) (by decide +kernel), gt_mem 61 (by decide +kernel) (by decide +kernel), by decide +kernel, by decide +kernel⟩
theorem im_X4_init : Cond.instanceMethod yX4_init ∈ gt := gt_mem 266 (by decide +kernel) (by decide +kernel)
abbrev mX5_init : MD := (yX5_init, cX5_init, 2, none, { frames := 2, cells := 22, slots := 503, locals := 40 })
theorem mo_X5_init : MO mX5_init 0 := ⟨gt_mem 68 (by decide +kernel) (by decide +kernel), gt_mem 54 (by decide +kernel) (by decide +kernel), by decide +kernel, by decide +kernel⟩
theorem im_X5_init : Cond.instanceMethod yX5_init ∈ gt := gt_mem 67 (by decide +kernel) (by decide +kernel)
abbrev mX5_room : MD := (yX5_room, cX5_room, 1, some .int, { frames := 0, cells := 0, slots := 0, locals := 0 })
theorem mo_X5_room : MO mX5_room 0 := ⟨gt_mem 164 (by decide +kernel) (by decide +kernel), gt_mem 54 (by decide +kernel) (by decide +kernel), by decide +kernel, by decide +kernel⟩
theorem im_X5_room : Cond.instanceMethod yX5_room ∈ gt := gt_mem 162 (by decide +kernel) (by decide +kernel)
theorem se_X5_room : Cond.selects RX5 yX5_room yX5_room ∈ gt := gt_mem 163 (by decide +kernel) (by decide +kernel)
abbrev mX5_door : MD := (yX5_door, cX5_door, 3, some .int, { frames := 2, cells := 1, slots := 5, locals := 42 })
theorem mo_X5_door : MO mX5_door 2 := ⟨gt_mem 168 (by decide +kernel) (by decide +kernel), gt_mem 54 (by decide +kernel) (by decide +kernel), by decide +kernel, by decide +kernel⟩
theorem im_X5_door : Cond.instanceMethod yX5_door ∈ gt := gt_mem 166 (by decide +kernel) (by decide +kernel)
theorem se_X5_door : Cond.selects RX5 yX5_door yX5_door ∈ gt := gt_mem 167 (by decide +kernel) (by decide +kernel)
abbrev mX5_exit : MD := (yX5_exit, cX5_exit, 5, some .int, { frames := 2, cells := 0, slots := 0, locals := 44 })
theorem mo_X5_exit : MO mX5_exit 3 := ⟨gt_mem 200 (by decide +kernel) (by decide +kernel), gt_mem 54 (by decide +kernel) (by decide +kernel), by decide +kernel, by decide +kernel⟩
theorem im_X5_exit : Cond.instanceMethod yX5_exit ∈ gt := gt_mem 198 (by decide +kernel) (by decide +kernel)
theorem se_X5_exit : Cond.selects RX5 yX5_exit yX5_exit ∈ gt := gt_mem 199 (by decide +kernel) (by decide +kernel)
abbrev mX5_width : MD := (yX5_width, cX5_width, 5, some .int, { frames := 2, cells := 0, slots := 0, locals := 43 })
theorem mo_X5_width : MO mX5_width 3 := ⟨gt_mem 230 (by decide +kernel) (by decide +kernel), gt_mem 54 (by decide +kernel) (by decide +kernel), by decide +kernel, by decide +kernel⟩
theorem im_X5_width : Cond.instanceMethod yX5_width ∈ gt := gt_mem 228 (by decide +kernel) (by decide +kernel)
theorem se_X5_width : Cond.selects RX5 yX5_width yX5_width ∈ gt := gt_mem 229 (by decide +kernel) (by decide +kernel)
abbrev mX5_turn : MD := (yX5_turn, cX5_turn, 4, some .int, { frames := 1, cells := 0, slots := 0, locals := 21 })
theorem mo_X5_turn : MO mX5_turn 2 := ⟨gt_mem 234 (by decide +kernel) (by decide +kernel), gt_mem 54 (by decide +kernel) (by decide +kernel), by decide +kernel, by decide +kernel⟩
theorem im_X5_turn : Cond.instanceMethod yX5_turn ∈ gt := gt_mem 232 (by decide +kernel) (by decide +kernel)
theorem se_X5_turn : Cond.selects RX5 yX5_turn yX5_turn ∈ gt := gt_mem 233 (by decide +kernel) (by decide +kernel)
abbrev mX5_region : MD := (yX5_region, cX5_region, 5, some .int, { frames := 1, cells := 0, slots := 0, locals := 21 })
theorem mo_X5_region : MO mX5_region 3 := ⟨gt_mem 242 (by decide +kernel) (by decide +kernel), gt_mem 54 (by decide +kernel) (by decide +kernel), by decide +kernel, by decide +kernel⟩
theorem im_X5_region : Cond.instanceMethod yX5_region ∈ gt := gt_mem 240 (by decide +kernel) (by decide +kernel)
theorem se_X5_region : Cond.selects RX5 yX5_region yX5_region ∈ gt := gt_mem 241 (by decide +kernel) (by decide +kernel)
abbrev mX5_lock : MD := (yX5_lock, cX5_lock, 6, some .int, { frames := 1, cells := 0, slots := 0, locals := 21 })
theorem mo_X5_lock : MO mX5_lock 3 := ⟨gt_mem 255 (by decide +kernel) (by decide +kernel), gt_mem 54 (by decide +kernel) (by decide +kernel), by decide +kernel, by decide +kernel⟩
theorem im_X5_lock : Cond.instanceMethod yX5_lock ∈ gt := gt_mem 253 (by decide +kernel) (by decide +kernel)
theorem se_X5_lock : Cond.selects RX5 yX5_lock yX5_lock ∈ gt := gt_mem 254 (by decide +kernel) (by decide +kernel)
abbrev mX5_thing : MD := (yX5_thing, cX5_thing, 4, some .int, { frames := 2, cells := 1, slots := 7, locals := 44 })
theorem mo_X5_thing : MO mX5_thing 3 := ⟨gt_mem 263 (by decide +kernel) (by decide +kernel), gt_mem 54 (by decide +kernel) (by decide +kernel), by decide +kernel, by decide +kernel⟩
theorem im_X5_thing : Cond.instanceMethod yX5_thing ∈ gt := gt_mem 261 (by decide +kernel) (by decide +kernel)
theorem se_X5_thing : Cond.selects RX5 yX5_thing yX5_thing ∈ gt := gt_mem 262 (by decide +kernel) (by decide +kernel)
abbrev mX5_floats : MD := (yX5_floats, cX5_floats, 4, some .int, { frames := 1, cells := 0, slots := 0, locals := 21 })
theorem mo_X5_floats : MO mX5_floats 2 := ⟨gt_mem 299 (by decide +kernel) (by decide +kernel), gt_mem 54 (by decide +kernel) (by decide +kernel), by decide +kernel, by decide +kernel⟩
theorem im_X5_floats : Cond.instanceMethod yX5_floats ∈ gt := gt_mem 297 (by decide +kernel) (by decide +kernel)
theorem se_X5_floats : Cond.selects RX5 yX5_floats yX5_floats ∈ gt := gt_mem 298 (by decide +kernel) (by decide +kernel)
abbrev mX5_being : MD := (yX5_being, cX5_being, 2, some .int, { frames := 2, cells := 2, slots := 15, locals := 42 })
theorem mo_X5_being : MO mX5_being 1 := ⟨gt_mem 303 (by decide +kernel) (by decide +kernel), gt_mem 54 (by decide +kernel) (by decide +kernel), by decide +kernel, by decide +kernel⟩
theorem im_X5_being : Cond.instanceMethod yX5_being ∈ gt := gt_mem 301 (by decide +kernel) (by decide +kernel)
theorem se_X5_being : Cond.selects RX5 yX5_being yX5_being ∈ gt := gt_mem 302 (by decide +kernel) (by decide +kernel)
abbrev mX5_act : MD := (yX5_act, cX5_act, 6, some .int, { frames := 2, cells := 0, slots := 0, locals := 45 })
theorem mo_X5_act : MO mX5_act 3 := ⟨gt_mem 339 (by decide +kernel) (by decide +kernel), gt_mem 54 (by decide +kernel) (by decide +kernel), by decide +kernel, by decide +kernel⟩
theorem im_X5_act : Cond.instanceMethod yX5_act ∈ gt := gt_mem 337 (by decide +kernel) (by decide +kernel)
theorem se_X5_act : Cond.selects RX5 yX5_act yX5_act ∈ gt := gt_mem 338 (by decide +kernel) (by decide +kernel)
abbrev mX5_handle : MD := (yX5_handle, cX5_handle, 6, some .int, { frames := 4, cells := 0, slots := 0, locals := 87 })
theorem mo_X5_handle : MO mX5_handle 3 := ⟨gt_mem 367 (by decide +kernel) (by decide +kernel), gt_mem 54 (by decide +kernel) (by decide +kernel), by decide +kernel, by decide +kernel⟩
theorem im_X5_handle : Cond.instanceMethod yX5_handle ∈ gt := gt_mem 365 (by decide +kernel) (by decide +kernel)
theorem se_X5_handle : Cond.selects RX5 yX5_handle yX5_handle ∈ gt := gt_mem 366 (by decide +kernel) (by decide +kernel)
abbrev mX5_leave : MD := (yX5_leave, cX5_leave, 3, some .int, { frames := 1, cells := 0, slots := 0, locals := 21 })
theorem mo_X5_leave : MO mX5_leave 1 := ⟨gt_mem 395 (by decide +kernel) (by decide +kernel), gt_mem 54 (by decide +kernel) (by decide +kernel), by decide +kernel, by decide +kernel⟩
theorem im_X5_leave : Cond.instanceMethod yX5_leave ∈ gt := gt_mem 393 (by decide +kernel) (by decide +kernel)
theorem se_X5_leave : Cond.selects RX5 yX5_leave yX5_leave ∈ gt := gt_mem 394 (by decide +kernel) (by decide +kernel)
abbrev mX5_go : MD := (yX5_go, cX5_go, 4, some .int, { frames := 6, cells := 0, slots := 0, locals := 182 })
theorem mo_X5_go : MO mX5_go 2 := ⟨gt_mem 399 (by decide +kernel) (by decide +kernel), gt_mem 54 (by decide +kernel) (by decide +kernel), by decide +kernel, by decide +kernel⟩
theorem im_X5_go : Cond.instanceMethod yX5_go ∈ gt := gt_mem 397 (by decide +kernel) (by decide +kernel)
theorem se_X5_go : Cond.selects RX5 yX5_go yX5_go ∈ gt := gt_mem 398 (by decide +kernel) (by decide +kernel)
abbrev mX5_push : MD := (yX5_push, cX5_push, 6, some .int, { frames := 5, cells := 0, slots := 0, locals := 159 })
theorem mo_X5_push : MO mX5_push 3 := ⟨gt_mem 469 (by decide +kernel) (by decide +kernel), gt_mem 54 (by decide +kernel) (by decide +kernel), by decide +kernel, by decide +kernel⟩
theorem im_X5_push : Cond.instanceMethod yX5_push ∈ gt := gt_mem 467 (by decide +kernel) (by decide +kernel)
theorem se_X5_push : Cond.selects RX5 yX5_push yX5_push ∈ gt := gt_mem 468 (by decide +kernel) (by decide +kernel)
abbrev mX5_back : MD := (yX5_back, cX5_back, 4, some .int, { frames := 6, cells := 0, slots := 0, locals := 182 })
theorem mo_X5_back : MO mX5_back 1 := ⟨gt_mem 473 (by decide +kernel) (by decide +kernel), gt_mem 54 (by decide +kernel) (by decide +kernel), by decide +kernel, by decide +kernel⟩
theorem im_X5_back : Cond.instanceMethod yX5_back ∈ gt := gt_mem 471 (by decide +kernel) (by decide +kernel)
theorem se_X5_back : Cond.selects RX5 yX5_back yX5_back ∈ gt := gt_mem 472 (by decide +kernel) (by decide +kernel)
abbrev mX5_follow : MD := (yX5_follow, cX5_follow, 5, some .int, { frames := 6, cells := 0, slots := 0, locals := 182 })
theorem mo_X5_follow : MO mX5_follow 2 := ⟨gt_mem 481 (by decide +kernel) (by decide +kernel), gt_mem 54 (by decide +kernel) (by decide +kernel), by decide +kernel, by decide +kernel⟩
theorem im_X5_follow : Cond.instanceMethod yX5_follow ∈ gt := gt_mem 479 (by decide +kernel) (by decide +kernel)
theorem se_X5_follow : Cond.selects RX5 yX5_follow yX5_follow ∈ gt := gt_mem 480 (by decide +kernel) (by decide +kernel)
abbrev mX5_route : MD := (yX5_route, cX5_route, 5, some .int, { frames := 4, cells := 0, slots := 0, locals := 92 })
theorem mo_X5_route : MO mX5_route 3 := ⟨gt_mem 510 (by decide +kernel) (by decide +kernel), gt_mem 54 (by decide +kernel) (by decide +kernel), by decide +kernel, by decide +kernel⟩
theorem im_X5_route : Cond.instanceMethod yX5_route ∈ gt := gt_mem 508 (by decide +kernel) (by decide +kernel)
theorem se_X5_route : Cond.selects RX5 yX5_route yX5_route ∈ gt := gt_mem 509 (by decide +kernel) (by decide +kernel)
abbrev mX5_way : MD := (yX5_way, cX5_way, 3, some .int, { frames := 2, cells := 0, slots := 0, locals := 43 })
theorem mo_X5_way : MO mX5_way 2 := ⟨gt_mem 514 (by decide +kernel) (by decide +kernel), gt_mem 54 (by decide +kernel) (by decide +kernel), by decide +kernel, by decide +kernel⟩
theorem im_X5_way : Cond.instanceMethod yX5_way ∈ gt := gt_mem 512 (by decide +kernel) (by decide +kernel)
theorem se_X5_way : Cond.selects RX5 yX5_way yX5_way ∈ gt := gt_mem 513 (by decide +kernel) (by decide +kernel)
abbrev mX5_leads : MD := (yX5_leads, cX5_leads, 4, some .int, { frames := 3, cells := 0, slots := 0, locals := 68 })
theorem mo_X5_leads : MO mX5_leads 2 := ⟨gt_mem 518 (by decide +kernel) (by decide +kernel), gt_mem 54 (by decide +kernel) (by decide +kernel), by decide +kernel, by decide +kernel⟩
theorem im_X5_leads : Cond.instanceMethod yX5_leads ∈ gt := gt_mem 516 (by decide +kernel) (by decide +kernel)
theorem se_X5_leads : Cond.selects RX5 yX5_leads yX5_leads ∈ gt := gt_mem 517 (by decide +kernel) (by decide +kernel)
abbrev mX5_state : MD := (yX5_state, cX5_state, 7, some .int, { frames := 1, cells := 0, slots := 0, locals := 21 })
theorem mo_X5_state : MO mX5_state 1 := ⟨gt_mem 522 (by decide +kernel) (by decide +kernel), gt_mem 54 (by decide +kernel) (by decide +kernel), by decide +kernel, by decide +kernel⟩
theorem im_X5_state : Cond.instanceMethod yX5_state ∈ gt := gt_mem 520 (by decide +kernel) (by decide +kernel)
theorem se_X5_state : Cond.selects RX5 yX5_state yX5_state ∈ gt := gt_mem 521 (by decide +kernel) (by decide +kernel)
abbrev mX5_thingIs : MD := (yX5_thingIs, cX5_thingIs, 4, some .int, { frames := 4, cells := 0, slots := 0, locals := 86 })
theorem mo_X5_thingIs : MO mX5_thingIs 2 := ⟨gt_mem 526 (by decide +kernel) (by decide +kernel), gt_mem 54 (by decide +kernel) (by decide +kernel), by decide +kernel, by decide +kernel⟩
theorem im_X5_thingIs : Cond.instanceMethod yX5_thingIs ∈ gt := gt_mem 524 (by decide +kernel) (by decide +kernel)
theorem se_X5_thingIs : Cond.selects RX5 yX5_thingIs yX5_thingIs ∈ gt := gt_mem 525 (by decide +kernel) (by decide +kernel)
abbrev mX5_beingIs : MD := (yX5_beingIs, cX5_beingIs, 4, some .int, { frames := 1, cells := 0, slots := 0, locals := 21 })
theorem mo_X5_beingIs : MO mX5_beingIs 2 := ⟨gt_mem 541 (by decide +kernel) (by decide +kernel), gt_mem 54 (by decide +kernel) (by decide +kernel), by decide +kernel, by decide +kernel⟩
theorem im_X5_beingIs : Cond.instanceMethod yX5_beingIs ∈ gt := gt_mem 539 (by decide +kernel) (by decide +kernel)
theorem se_X5_beingIs : Cond.selects RX5 yX5_beingIs yX5_beingIs ∈ gt := gt_mem 540 (by decide +kernel) (by decide +kernel)
abbrev mX5_news : MD := (yX5_news, cX5_news, 4, some .int, { frames := 1, cells := 0, slots := 0, locals := 21 })
theorem mo_X5_news : MO mX5_news 2 := ⟨gt_mem 545 (by decide +kernel) (by decide +kernel), gt_mem 54 (by decide +kernel) (by decide +kernel), by decide +kernel, by decide +kernel⟩
theorem im_X5_news : Cond.instanceMethod yX5_news ∈ gt := gt_mem 543 (by decide +kernel) (by decide +kernel)
theorem se_X5_news : Cond.selects RX5 yX5_news yX5_news ∈ gt := gt_mem 544 (by decide +kernel) (by decide +kernel)
abbrev mX5_here : MD := (yX5_here, cX5_here, 5, some .boolean, { frames := 4, cells := 0, slots := 0, locals := 87 })
theorem mo_X5_here : MO mX5_here 3 := ⟨gt_mem 549 (by decide +kernel) (by decide +kernel), gt_mem 54 (by decide +kernel) (by decide +kernel), by decide +kernel, by decide +kernel⟩
theorem im_X5_here : Cond.instanceMethod yX5_here ∈ gt := gt_mem 547 (by decide +kernel) (by decide +kernel)
theorem se_X5_here : Cond.selects RX5 yX5_here yX5_here ∈ gt := gt_mem 548 (by decide +kernel) (by decide +kernel)
abbrev mX5_count : MD := (yX5_count, cX5_count, 2, some .int, { frames := 4, cells := 0, slots := 0, locals := 93 })
theorem mo_X5_count : MO mX5_count 1 := ⟨gt_mem 556 (by decide +kernel) (by decide +kernel), gt_mem 54 (by decide +kernel) (by decide +kernel), by decide +kernel, by decide +kernel⟩
theorem im_X5_count : Cond.instanceMethod yX5_count ∈ gt := gt_mem 554 (by decide +kernel) (by decide +kernel)
theorem se_X5_count : Cond.selects RX5 yX5_count yX5_count ∈ gt := gt_mem 555 (by decide +kernel) (by decide +kernel)
abbrev mX5_isRoom : MD := (yX5_isRoom, cX5_isRoom, 2, some .boolean, { frames := 0, cells := 0, slots := 0, locals := 0 })
theorem mo_X5_isRoom : MO mX5_isRoom 1 := ⟨gt_mem 172 (by decide +kernel) (by decide +kernel), gt_mem 54 (by decide +kernel) (by decide +kernel), by decide +kernel, by decide +kernel⟩
theorem im_X5_isRoom : Cond.instanceMethod yX5_isRoom ∈ gt := gt_mem 171 (by decide +kernel) (by decide +kernel)
theorem se_X5_isRoom : Cond.selects RX5 yX5_isRoom yX5_isRoom ∈ gt := gt_mem 0 (by decide +kernel) (by decide +kernel)
abbrev mX5_isDirection : MD := (yX5_isDirection, cX5_isDirection, 1, some .boolean, { frames := 0, cells := 0, slots := 0, locals := 0 })
theorem mo_X5_isDirection : MO mX5_isDirection 1 := ⟨gt_mem 207 (by decide +kernel) (by decide +kernel), gt_mem 54 (by decide +kernel) (by decide +kernel), by decide +kernel, by decide +kernel⟩
theorem sm_X5_isDirection : Cond.static yX5_isDirection ∈ gt := gt_mem 206 (by decide +kernel) (by decide +kernel)
abbrev mX5_isRegion : MD := (yX5_isRegion, cX5_isRegion, 1, some .boolean, { frames := 0, cells := 0, slots := 0, locals := 0 })
theorem mo_X5_isRegion : MO mX5_isRegion 1 := ⟨gt_mem 245 (by decide +kernel) (by decide +kernel), gt_mem 54 (by decide +kernel) (by decide +kernel), by decide +kernel, by decide +kernel⟩
theorem sm_X5_isRegion : Cond.static yX5_isRegion ∈ gt := gt_mem 244 (by decide +kernel) (by decide +kernel)
abbrev mX5_isPlace : MD := (yX5_isPlace, cX5_isPlace, 3, some .boolean, { frames := 1, cells := 0, slots := 0, locals := 21 })
theorem mo_X5_isPlace : MO mX5_isPlace 2 := ⟨gt_mem 204 (by decide +kernel) (by decide +kernel), gt_mem 54 (by decide +kernel) (by decide +kernel), by decide +kernel, by decide +kernel⟩
theorem im_X5_isPlace : Cond.instanceMethod yX5_isPlace ∈ gt := gt_mem 203 (by decide +kernel) (by decide +kernel)
theorem se_X5_isPlace : Cond.selects RX5 yX5_isPlace yX5_isPlace ∈ gt := gt_mem 1 (by decide +kernel) (by decide +kernel)
abbrev mX5_placeOf : MD := (yX5_placeOf, cX5_placeOf, 2, some .int, { frames := 0, cells := 0, slots := 0, locals := 0 })
theorem mo_X5_placeOf : MO mX5_placeOf 2 := ⟨gt_mem 226 (by decide +kernel) (by decide +kernel), gt_mem 54 (by decide +kernel) (by decide +kernel), by decide +kernel, by decide +kernel⟩
theorem sm_X5_placeOf : Cond.static yX5_placeOf ∈ gt := gt_mem 225 (by decide +kernel) (by decide +kernel)
abbrev mX5_ruleAt : MD := (yX5_ruleAt, cX5_ruleAt, 2, some (.object "DoorsLocks$Rule"), { frames := 0, cells := 0, slots := 0, locals := 0 })
theorem mo_X5_ruleAt : MO mX5_ruleAt 1 := ⟨gt_mem 223 (by decide +kernel) (by decide +kernel), gt_mem 54 (by decide +kernel) (by decide +kernel), by decide +kernel, by decide +kernel⟩
theorem im_X5_ruleAt : Cond.instanceMethod yX5_ruleAt ∈ gt := gt_mem 222 (by decide +kernel) (by decide +kernel)
theorem se_X5_ruleAt : Cond.selects RX5 yX5_ruleAt yX5_ruleAt ∈ gt := gt_mem 4 (by decide +kernel) (by decide +kernel)
abbrev mX5_doorAt : MD := (yX5_doorAt, cX5_doorAt, 2, some (.object "DoorsLocks$Door"), { frames := 0, cells := 0, slots := 0, locals := 0 })
theorem mo_X5_doorAt : MO mX5_doorAt 1 := ⟨gt_mem 215 (by decide +kernel) (by decide +kernel), gt_mem 54 (by decide +kernel) (by decide +kernel), by decide +kernel, by decide +kernel⟩
theorem im_X5_doorAt : Cond.instanceMethod yX5_doorAt ∈ gt := gt_mem 214 (by decide +kernel) (by decide +kernel)
theorem se_X5_doorAt : Cond.selects RX5 yX5_doorAt yX5_doorAt ∈ gt := gt_mem 3 (by decide +kernel) (by decide +kernel)
abbrev mX5_thingAt : MD := (yX5_thingAt, cX5_thingAt, 2, some (.object "DoorsLocks$Thing"), { frames := 0, cells := 0, slots := 0, locals := 0 })
theorem mo_X5_thingAt : MO mX5_thingAt 1 := ⟨gt_mem 259 (by decide +kernel) (by decide +kernel), gt_mem 54 (by decide +kernel) (by decide +kernel), by decide +kernel, by decide +kernel⟩
theorem im_X5_thingAt : Cond.instanceMethod yX5_thingAt ∈ gt := gt_mem 258 (by decide +kernel) (by decide +kernel)
theorem se_X5_thingAt : Cond.selects RX5 yX5_thingAt yX5_thingAt ∈ gt := gt_mem 5 (by decide +kernel) (by decide +kernel)
abbrev mX5_beingAt : MD := (yX5_beingAt, cX5_beingAt, 2, some (.object "DoorsLocks$Being"), { frames := 0, cells := 0, slots := 0, locals := 0 })
theorem mo_X5_beingAt : MO mX5_beingAt 1 := ⟨gt_mem 343 (by decide +kernel) (by decide +kernel), gt_mem 54 (by decide +kernel) (by decide +kernel), by decide +kernel, by decide +kernel⟩
theorem im_X5_beingAt : Cond.instanceMethod yX5_beingAt ∈ gt := gt_mem 342 (by decide +kernel) (by decide +kernel)
theorem se_X5_beingAt : Cond.selects RX5 yX5_beingAt yX5_beingAt ∈ gt := gt_mem 6 (by decide +kernel) (by decide +kernel)
abbrev mX5_orNoSuch : MD := (yX5_orNoSuch, cX5_orNoSuch, 1, some .int, { frames := 0, cells := 0, slots := 0, locals := 0 })
theorem mo_X5_orNoSuch : MO mX5_orNoSuch 1 := ⟨gt_mem 537 (by decide +kernel) (by decide +kernel), gt_mem 54 (by decide +kernel) (by decide +kernel), by decide +kernel, by decide +kernel⟩
theorem sm_X5_orNoSuch : Cond.static yX5_orNoSuch ∈ gt := gt_mem 536 (by decide +kernel) (by decide +kernel)
abbrev mX5_mayBeWayOf : MD := (yX5_mayBeWayOf, cX5_mayBeWayOf, 4, some .boolean, { frames := 1, cells := 0, slots := 0, locals := 21 })
theorem mo_X5_mayBeWayOf : MO mX5_mayBeWayOf 2 := ⟨gt_mem 211 (by decide +kernel) (by decide +kernel), gt_mem 54 (by decide +kernel) (by decide +kernel), by decide +kernel, by decide +kernel⟩
theorem im_X5_mayBeWayOf : Cond.instanceMethod yX5_mayBeWayOf ∈ gt := gt_mem 210 (by decide +kernel) (by decide +kernel)
theorem se_X5_mayBeWayOf : Cond.selects RX5 yX5_mayBeWayOf yX5_mayBeWayOf ∈ gt := gt_mem 2 (by decide +kernel) (by decide +kernel)
abbrev mX5_doorOfWay : MD := (yX5_doorOfWay, cX5_doorOfWay, 2, some (.object "DoorsLocks$Door"), { frames := 1, cells := 0, slots := 0, locals := 21 })
theorem mo_X5_doorOfWay : MO mX5_doorOfWay 1 := ⟨gt_mem 415 (by decide +kernel) (by decide +kernel), gt_mem 54 (by decide +kernel) (by decide +kernel), by decide +kernel, by decide +kernel⟩
theorem im_X5_doorOfWay : Cond.instanceMethod yX5_doorOfWay ∈ gt := gt_mem 414 (by decide +kernel) (by decide +kernel)
theorem se_X5_doorOfWay : Cond.selects RX5 yX5_doorOfWay yX5_doorOfWay ∈ gt := gt_mem 15 (by decide +kernel) (by decide +kernel)
abbrev mX5_ruleOfWay : MD := (yX5_ruleOfWay, cX5_ruleOfWay, 2, some (.object "DoorsLocks$Rule"), { frames := 1, cells := 0, slots := 0, locals := 21 })
theorem mo_X5_ruleOfWay : MO mX5_ruleOfWay 1 := ⟨gt_mem 423 (by decide +kernel) (by decide +kernel), gt_mem 54 (by decide +kernel) (by decide +kernel), by decide +kernel, by decide +kernel⟩
theorem im_X5_ruleOfWay : Cond.instanceMethod yX5_ruleOfWay ∈ gt := gt_mem 422 (by decide +kernel) (by decide +kernel)
theorem se_X5_ruleOfWay : Cond.selects RX5 yX5_ruleOfWay yX5_ruleOfWay ∈ gt := gt_mem 16 (by decide +kernel) (by decide +kernel)
abbrev mX5_leadsTo : MD := (yX5_leadsTo, cX5_leadsTo, 6, some .int, { frames := 2, cells := 0, slots := 0, locals := 43 })
theorem mo_X5_leadsTo : MO mX5_leadsTo 2 := ⟨gt_mem 427 (by decide +kernel) (by decide +kernel), gt_mem 54 (by decide +kernel) (by decide +kernel), by decide +kernel, by decide +kernel⟩
theorem im_X5_leadsTo : Cond.instanceMethod yX5_leadsTo ∈ gt := gt_mem 426 (by decide +kernel) (by decide +kernel)
theorem se_X5_leadsTo : Cond.selects RX5 yX5_leadsTo yX5_leadsTo ∈ gt := gt_mem 17 (by decide +kernel) (by decide +kernel)
abbrev mX5_countWays : MD := (yX5_countWays, cX5_countWays, 6, some .int, { frames := 3, cells := 0, slots := 0, locals := 68 })
theorem mo_X5_countWays : MO mX5_countWays 1 := ⟨gt_mem 560 (by decide +kernel) (by decide +kernel), gt_mem 54 (by decide +kernel) (by decide +kernel), by decide +kernel, by decide +kernel⟩
theorem im_X5_countWays : Cond.instanceMethod yX5_countWays ∈ gt := gt_mem 559 (by decide +kernel) (by decide +kernel)
theorem se_X5_countWays : Cond.selects RX5 yX5_countWays yX5_countWays ∈ gt := gt_mem 26 (by decide +kernel) (by decide +kernel)
abbrev mX5_searchFrom : MD := (yX5_searchFrom, cX5_searchFrom, 5, none, { frames := 3, cells := 0, slots := 0, locals := 68 })
theorem mo_X5_searchFrom : MO mX5_searchFrom 1 := ⟨gt_mem 485 (by decide +kernel) (by decide +kernel), gt_mem 54 (by decide +kernel) (by decide +kernel), by decide +kernel, by decide +kernel⟩
theorem im_X5_searchFrom : Cond.instanceMethod yX5_searchFrom ∈ gt := gt_mem 484 (by decide +kernel) (by decide +kernel)
theorem se_X5_searchFrom : Cond.selects RX5 yX5_searchFrom yX5_searchFrom ∈ gt := gt_mem 23 (by decide +kernel) (by decide +kernel)
abbrev mX5_isShutIn : MD := (yX5_isShutIn, cX5_isShutIn, 1, some .boolean, { frames := 0, cells := 0, slots := 0, locals := 0 })
theorem mo_X5_isShutIn : MO mX5_isShutIn 1 := ⟨gt_mem 349 (by decide +kernel) (by decide +kernel), gt_mem 54 (by decide +kernel) (by decide +kernel), by decide +kernel, by decide +kernel⟩
theorem sm_X5_isShutIn : Cond.static yX5_isShutIn ∈ gt := gt_mem 348 (by decide +kernel) (by decide +kernel)
abbrev mX5_isDoorHere : MD := (yX5_isDoorHere, cX5_isDoorHere, 2, some .boolean, { frames := 1, cells := 0, slots := 0, locals := 21 })
theorem mo_X5_isDoorHere : MO mX5_isDoorHere 2 := ⟨gt_mem 346 (by decide +kernel) (by decide +kernel), gt_mem 54 (by decide +kernel) (by decide +kernel), by decide +kernel, by decide +kernel⟩
theorem sm_X5_isDoorHere : Cond.static yX5_isDoorHere ∈ gt := gt_mem 345 (by decide +kernel) (by decide +kernel)
abbrev mX5_isThingHere : MD := (yX5_isThingHere, cX5_isThingHere, 3, some .boolean, { frames := 3, cells := 0, slots := 0, locals := 65 })
theorem mo_X5_isThingHere : MO mX5_isThingHere 2 := ⟨gt_mem 374 (by decide +kernel) (by decide +kernel), gt_mem 54 (by decide +kernel) (by decide +kernel), by decide +kernel, by decide +kernel⟩
theorem im_X5_isThingHere : Cond.instanceMethod yX5_isThingHere ∈ gt := gt_mem 373 (by decide +kernel) (by decide +kernel)
theorem se_X5_isThingHere : Cond.selects RX5 yX5_isThingHere yX5_isThingHere ∈ gt := gt_mem 9 (by decide +kernel) (by decide +kernel)
abbrev mX5_isInRoom : MD := (yX5_isInRoom, cX5_isInRoom, 3, some .boolean, { frames := 2, cells := 0, slots := 0, locals := 43 })
theorem mo_X5_isInRoom : MO mX5_isInRoom 2 := ⟨gt_mem 378 (by decide +kernel) (by decide +kernel), gt_mem 54 (by decide +kernel) (by decide +kernel), by decide +kernel, by decide +kernel⟩
theorem im_X5_isInRoom : Cond.instanceMethod yX5_isInRoom ∈ gt := gt_mem 377 (by decide +kernel) (by decide +kernel)
theorem se_X5_isInRoom : Cond.selects RX5 yX5_isInRoom yX5_isInRoom ∈ gt := gt_mem 10 (by decide +kernel) (by decide +kernel)
abbrev mX5_isBeingHere : MD := (yX5_isBeingHere, cX5_isBeingHere, 2, some .boolean, { frames := 1, cells := 0, slots := 0, locals := 20 })
theorem mo_X5_isBeingHere : MO mX5_isBeingHere 2 := ⟨gt_mem 552 (by decide +kernel) (by decide +kernel), gt_mem 54 (by decide +kernel) (by decide +kernel), by decide +kernel, by decide +kernel⟩
theorem sm_X5_isBeingHere : Cond.static yX5_isBeingHere ∈ gt := gt_mem 551 (by decide +kernel) (by decide +kernel)
abbrev mX5_hasRoom : MD := (yX5_hasRoom, cX5_hasRoom, 3, some .boolean, { frames := 1, cells := 0, slots := 0, locals := 21 })
theorem mo_X5_hasRoom : MO mX5_hasRoom 2 := ⟨gt_mem 382 (by decide +kernel) (by decide +kernel), gt_mem 54 (by decide +kernel) (by decide +kernel), by decide +kernel, by decide +kernel⟩
theorem im_X5_hasRoom : Cond.instanceMethod yX5_hasRoom ∈ gt := gt_mem 381 (by decide +kernel) (by decide +kernel)
theorem se_X5_hasRoom : Cond.selects RX5 yX5_hasRoom yX5_hasRoom ∈ gt := gt_mem 11 (by decide +kernel) (by decide +kernel)
abbrev mX5_leastRoomOf : MD := (yX5_leastRoomOf, cX5_leastRoomOf, 3, some .int, { frames := 2, cells := 0, slots := 0, locals := 43 })
theorem mo_X5_leastRoomOf : MO mX5_leastRoomOf 1 := ⟨gt_mem 534 (by decide +kernel) (by decide +kernel), gt_mem 54 (by decide +kernel) (by decide +kernel), by decide +kernel, by decide +kernel⟩
theorem im_X5_leastRoomOf : Cond.instanceMethod yX5_leastRoomOf ∈ gt := gt_mem 533 (by decide +kernel) (by decide +kernel)
theorem se_X5_leastRoomOf : Cond.selects RX5 yX5_leastRoomOf yX5_leastRoomOf ∈ gt := gt_mem 25 (by decide +kernel) (by decide +kernel)
abbrev mX5_placeOfThing : MD := (yX5_placeOfThing, cX5_placeOfThing, 2, some .int, { frames := 3, cells := 0, slots := 0, locals := 65 })
theorem mo_X5_placeOfThing : MO mX5_placeOfThing 1 := ⟨gt_mem 530 (by decide +kernel) (by decide +kernel), gt_mem 54 (by decide +kernel) (by decide +kernel), by decide +kernel, by decide +kernel⟩
theorem im_X5_placeOfThing : Cond.instanceMethod yX5_placeOfThing ∈ gt := gt_mem 529 (by decide +kernel) (by decide +kernel)
theorem se_X5_placeOfThing : Cond.selects RX5 yX5_placeOfThing yX5_placeOfThing ∈ gt := gt_mem 24 (by decide +kernel) (by decide +kernel)
abbrev mX5_openDoor : MD := (yX5_openDoor, cX5_openDoor, 1, some .int, { frames := 0, cells := 0, slots := 0, locals := 0 })
theorem mo_X5_openDoor : MO mX5_openDoor 1 := ⟨gt_mem 352 (by decide +kernel) (by decide +kernel), gt_mem 54 (by decide +kernel) (by decide +kernel), by decide +kernel, by decide +kernel⟩
theorem sm_X5_openDoor : Cond.static yX5_openDoor ∈ gt := gt_mem 351 (by decide +kernel) (by decide +kernel)
abbrev mX5_closeDoor : MD := (yX5_closeDoor, cX5_closeDoor, 1, some .int, { frames := 0, cells := 0, slots := 0, locals := 0 })
theorem mo_X5_closeDoor : MO mX5_closeDoor 1 := ⟨gt_mem 355 (by decide +kernel) (by decide +kernel), gt_mem 54 (by decide +kernel) (by decide +kernel), by decide +kernel, by decide +kernel⟩
theorem sm_X5_closeDoor : Cond.static yX5_closeDoor ∈ gt := gt_mem 354 (by decide +kernel) (by decide +kernel)
abbrev mX5_turnKey : MD := (yX5_turnKey, cX5_turnKey, 4, some .int, { frames := 1, cells := 0, slots := 0, locals := 22 })
theorem mo_X5_turnKey : MO mX5_turnKey 3 := ⟨gt_mem 359 (by decide +kernel) (by decide +kernel), gt_mem 54 (by decide +kernel) (by decide +kernel), by decide +kernel, by decide +kernel⟩
theorem im_X5_turnKey : Cond.instanceMethod yX5_turnKey ∈ gt := gt_mem 358 (by decide +kernel) (by decide +kernel)
theorem se_X5_turnKey : Cond.selects RX5 yX5_turnKey yX5_turnKey ∈ gt := gt_mem 7 (by decide +kernel) (by decide +kernel)
abbrev mX5_holdsAnyKey : MD := (yX5_holdsAnyKey, cX5_holdsAnyKey, 3, some .boolean, { frames := 0, cells := 0, slots := 0, locals := 0 })
theorem mo_X5_holdsAnyKey : MO mX5_holdsAnyKey 1 := ⟨gt_mem 363 (by decide +kernel) (by decide +kernel), gt_mem 54 (by decide +kernel) (by decide +kernel), by decide +kernel, by decide +kernel⟩
theorem im_X5_holdsAnyKey : Cond.instanceMethod yX5_holdsAnyKey ∈ gt := gt_mem 362 (by decide +kernel) (by decide +kernel)
theorem se_X5_holdsAnyKey : Cond.selects RX5 yX5_holdsAnyKey yX5_holdsAnyKey ∈ gt := gt_mem 8 (by decide +kernel) (by decide +kernel)
abbrev mX5_take : MD := (yX5_take, cX5_take, 2, some .int, { frames := 0, cells := 0, slots := 0, locals := 0 })
theorem mo_X5_take : MO mX5_take 2 := ⟨gt_mem 385 (by decide +kernel) (by decide +kernel), gt_mem 54 (by decide +kernel) (by decide +kernel), by decide +kernel, by decide +kernel⟩
theorem sm_X5_take : Cond.static yX5_take ∈ gt := gt_mem 384 (by decide +kernel) (by decide +kernel)
abbrev mX5_drop : MD := (yX5_drop, cX5_drop, 2, some .int, { frames := 0, cells := 0, slots := 0, locals := 0 })
theorem mo_X5_drop : MO mX5_drop 2 := ⟨gt_mem 370 (by decide +kernel) (by decide +kernel), gt_mem 54 (by decide +kernel) (by decide +kernel), by decide +kernel, by decide +kernel⟩
theorem sm_X5_drop : Cond.static yX5_drop ∈ gt := gt_mem 369 (by decide +kernel) (by decide +kernel)
abbrev mX5_climbInto : MD := (yX5_climbInto, cX5_climbInto, 2, some .int, { frames := 0, cells := 0, slots := 0, locals := 0 })
theorem mo_X5_climbInto : MO mX5_climbInto 2 := ⟨gt_mem 388 (by decide +kernel) (by decide +kernel), gt_mem 54 (by decide +kernel) (by decide +kernel), by decide +kernel, by decide +kernel⟩
theorem sm_X5_climbInto : Cond.static yX5_climbInto ∈ gt := gt_mem 387 (by decide +kernel) (by decide +kernel)
abbrev mX5_setShut : MD := (yX5_setShut, cX5_setShut, 2, some .int, { frames := 0, cells := 0, slots := 0, locals := 0 })
theorem mo_X5_setShut : MO mX5_setShut 2 := ⟨gt_mem 391 (by decide +kernel) (by decide +kernel), gt_mem 54 (by decide +kernel) (by decide +kernel), by decide +kernel, by decide +kernel⟩
theorem sm_X5_setShut : Cond.static yX5_setShut ∈ gt := gt_mem 390 (by decide +kernel) (by decide +kernel)
abbrev mX5_goBy : MD := (yX5_goBy, cX5_goBy, 4, some .int, { frames := 5, cells := 0, slots := 0, locals := 159 })
theorem mo_X5_goBy : MO mX5_goBy 2 := ⟨gt_mem 403 (by decide +kernel) (by decide +kernel), gt_mem 54 (by decide +kernel) (by decide +kernel), by decide +kernel, by decide +kernel⟩
theorem im_X5_goBy : Cond.instanceMethod yX5_goBy ∈ gt := gt_mem 402 (by decide +kernel) (by decide +kernel)
theorem se_X5_goBy : Cond.selects RX5 yX5_goBy yX5_goBy ∈ gt := gt_mem 12 (by decide +kernel) (by decide +kernel)
abbrev mX5_directionBack : MD := (yX5_directionBack, cX5_directionBack, 3, some .int, { frames := 3, cells := 0, slots := 0, locals := 68 })
theorem mo_X5_directionBack : MO mX5_directionBack 1 := ⟨gt_mem 477 (by decide +kernel) (by decide +kernel), gt_mem 54 (by decide +kernel) (by decide +kernel), by decide +kernel, by decide +kernel⟩
theorem im_X5_directionBack : Cond.instanceMethod yX5_directionBack ∈ gt := gt_mem 476 (by decide +kernel) (by decide +kernel)
theorem se_X5_directionBack : Cond.selects RX5 yX5_directionBack yX5_directionBack ∈ gt := gt_mem 22 (by decide +kernel) (by decide +kernel)
abbrev mX5_travel : MD := (yX5_travel, cX5_travel, 8, some .int, { frames := 4, cells := 0, slots := 0, locals := 132 })
theorem mo_X5_travel : MO mX5_travel 3 := ⟨gt_mem 407 (by decide +kernel) (by decide +kernel), gt_mem 54 (by decide +kernel) (by decide +kernel), by decide +kernel, by decide +kernel⟩
theorem im_X5_travel : Cond.instanceMethod yX5_travel ∈ gt := gt_mem 406 (by decide +kernel) (by decide +kernel)
theorem se_X5_travel : Cond.selects RX5 yX5_travel yX5_travel ∈ gt := gt_mem 13 (by decide +kernel) (by decide +kernel)
abbrev mX5_obstacleOf : MD := (yX5_obstacleOf, cX5_obstacleOf, 4, some .int, { frames := 2, cells := 0, slots := 0, locals := 42 })
theorem mo_X5_obstacleOf : MO mX5_obstacleOf 1 := ⟨gt_mem 411 (by decide +kernel) (by decide +kernel), gt_mem 54 (by decide +kernel) (by decide +kernel), by decide +kernel, by decide +kernel⟩
theorem im_X5_obstacleOf : Cond.instanceMethod yX5_obstacleOf ∈ gt := gt_mem 410 (by decide +kernel) (by decide +kernel)
theorem se_X5_obstacleOf : Cond.selects RX5 yX5_obstacleOf yX5_obstacleOf ∈ gt := gt_mem 14 (by decide +kernel) (by decide +kernel)
abbrev mX5_takeTurn : MD := (yX5_takeTurn, cX5_takeTurn, 3, none, { frames := 2, cells := 0, slots := 0, locals := 42 })
theorem mo_X5_takeTurn : MO mX5_takeTurn 1 := ⟨gt_mem 439 (by decide +kernel) (by decide +kernel), gt_mem 54 (by decide +kernel) (by decide +kernel), by decide +kernel, by decide +kernel⟩
theorem im_X5_takeTurn : Cond.instanceMethod yX5_takeTurn ∈ gt := gt_mem 438 (by decide +kernel) (by decide +kernel)
theorem se_X5_takeTurn : Cond.selects RX5 yX5_takeTurn yX5_takeTurn ∈ gt := gt_mem 18 (by decide +kernel) (by decide +kernel)
abbrev mX5_goesWith : MD := (yX5_goesWith, cX5_goesWith, 3, some .boolean, { frames := 0, cells := 0, slots := 0, locals := 0 })
theorem mo_X5_goesWith : MO mX5_goesWith 3 := ⟨gt_mem 450 (by decide +kernel) (by decide +kernel), gt_mem 54 (by decide +kernel) (by decide +kernel), by decide +kernel, by decide +kernel⟩
theorem sm_X5_goesWith : Cond.static yX5_goesWith ∈ gt := gt_mem 449 (by decide +kernel) (by decide +kernel)
abbrev mX5_tellOfAll : MD := (yX5_tellOfAll, cX5_tellOfAll, 7, none, { frames := 3, cells := 0, slots := 0, locals := 106 })
theorem mo_X5_tellOfAll : MO mX5_tellOfAll 4 := ⟨gt_mem 447 (by decide +kernel) (by decide +kernel), gt_mem 54 (by decide +kernel) (by decide +kernel), by decide +kernel, by decide +kernel⟩
theorem im_X5_tellOfAll : Cond.instanceMethod yX5_tellOfAll ∈ gt := gt_mem 446 (by decide +kernel) (by decide +kernel)
theorem se_X5_tellOfAll : Cond.selects RX5 yX5_tellOfAll yX5_tellOfAll ∈ gt := gt_mem 19 (by decide +kernel) (by decide +kernel)
abbrev mX5_tellOthersIn : MD := (yX5_tellOthersIn, cX5_tellOthersIn, 6, none, { frames := 2, cells := 0, slots := 0, locals := 81 })
theorem mo_X5_tellOthersIn : MO mX5_tellOthersIn 4 := ⟨gt_mem 454 (by decide +kernel) (by decide +kernel), gt_mem 54 (by decide +kernel) (by decide +kernel), by decide +kernel, by decide +kernel⟩
theorem im_X5_tellOthersIn : Cond.instanceMethod yX5_tellOthersIn ∈ gt := gt_mem 453 (by decide +kernel) (by decide +kernel)
theorem se_X5_tellOthersIn : Cond.selects RX5 yX5_tellOthersIn yX5_tellOthersIn ∈ gt := gt_mem 20 (by decide +kernel) (by decide +kernel)
abbrev mX5_moveAll : MD := (yX5_moveAll, cX5_moveAll, 5, none, { frames := 1, cells := 0, slots := 0, locals := 22 })
theorem mo_X5_moveAll : MO mX5_moveAll 3 := ⟨gt_mem 465 (by decide +kernel) (by decide +kernel), gt_mem 54 (by decide +kernel) (by decide +kernel), by decide +kernel, by decide +kernel⟩
theorem im_X5_moveAll : Cond.instanceMethod yX5_moveAll ∈ gt := gt_mem 464 (by decide +kernel) (by decide +kernel)
theorem se_X5_moveAll : Cond.selects RX5 yX5_moveAll yX5_moveAll ∈ gt := gt_mem 21 (by decide +kernel) (by decide +kernel)
abbrev mX6_init : MD := (yX6_init, cX6_init, 1, none, { frames := 1, cells := 22, slots := 807, locals := 20 })
theorem mo_X6_init : MO mX6_init 0 := ⟨gt_mem 565 (by decide +kernel) (by decide +kernel), gt_mem 58 (by decide +kernel) (by decide +kernel), by decide +kernel, by decide +kernel⟩
theorem im_X6_init : Cond.instanceMethod yX6_init ∈ gt := gt_mem 564 (by decide +kernel) (by decide +kernel)
abbrev mX6_in : MD := (yX6_in, cX6_in, 3, some .boolean, { frames := 0, cells := 0, slots := 0, locals := 0 })
theorem mo_X6_in : MO mX6_in 3 := ⟨gt_mem 664 (by decide +kernel) (by decide +kernel), gt_mem 58 (by decide +kernel) (by decide +kernel), by decide +kernel, by decide +kernel⟩
theorem sm_X6_in : Cond.static yX6_in ∈ gt := gt_mem 663 (by decide +kernel) (by decide +kernel)
abbrev mX6_isRoom : MD := (yX6_isRoom, cX6_isRoom, 2, some .boolean, { frames := 1, cells := 0, slots := 0, locals := 22 })
theorem mo_X6_isRoom : MO mX6_isRoom 1 := ⟨gt_mem 661 (by decide +kernel) (by decide +kernel), gt_mem 58 (by decide +kernel) (by decide +kernel), by decide +kernel, by decide +kernel⟩
theorem im_X6_isRoom : Cond.instanceMethod yX6_isRoom ∈ gt := gt_mem 660 (by decide +kernel) (by decide +kernel)
theorem se_X6_isRoom : Cond.selects RX6 yX6_isRoom yX6_isRoom ∈ gt := gt_mem 27 (by decide +kernel) (by decide +kernel)
abbrev mX6_isDoor : MD := (yX6_isDoor, cX6_isDoor, 2, some .boolean, { frames := 1, cells := 0, slots := 0, locals := 22 })
theorem mo_X6_isDoor : MO mX6_isDoor 1 := ⟨gt_mem 676 (by decide +kernel) (by decide +kernel), gt_mem 58 (by decide +kernel) (by decide +kernel), by decide +kernel, by decide +kernel⟩
theorem im_X6_isDoor : Cond.instanceMethod yX6_isDoor ∈ gt := gt_mem 675 (by decide +kernel) (by decide +kernel)
theorem se_X6_isDoor : Cond.selects RX6 yX6_isDoor yX6_isDoor ∈ gt := gt_mem 29 (by decide +kernel) (by decide +kernel)
abbrev mX6_isThing : MD := (yX6_isThing, cX6_isThing, 2, some .boolean, { frames := 1, cells := 0, slots := 0, locals := 22 })
theorem mo_X6_isThing : MO mX6_isThing 1 := ⟨gt_mem 700 (by decide +kernel) (by decide +kernel), gt_mem 58 (by decide +kernel) (by decide +kernel), by decide +kernel, by decide +kernel⟩
theorem im_X6_isThing : Cond.instanceMethod yX6_isThing ∈ gt := gt_mem 699 (by decide +kernel) (by decide +kernel)
theorem se_X6_isThing : Cond.selects RX6 yX6_isThing yX6_isThing ∈ gt := gt_mem 31 (by decide +kernel) (by decide +kernel)
abbrev mX6_isBeing : MD := (yX6_isBeing, cX6_isBeing, 2, some .boolean, { frames := 1, cells := 0, slots := 0, locals := 22 })
theorem mo_X6_isBeing : MO mX6_isBeing 1 := ⟨gt_mem 720 (by decide +kernel) (by decide +kernel), gt_mem 58 (by decide +kernel) (by decide +kernel), by decide +kernel, by decide +kernel⟩
theorem im_X6_isBeing : Cond.instanceMethod yX6_isBeing ∈ gt := gt_mem 719 (by decide +kernel) (by decide +kernel)
theorem se_X6_isBeing : Cond.selects RX6 yX6_isBeing yX6_isBeing ∈ gt := gt_mem 32 (by decide +kernel) (by decide +kernel)
abbrev mX6_room : MD := (yX6_room, cX6_room, 2, some .int, { frames := 0, cells := 0, slots := 0, locals := 0 })
theorem mo_X6_room : MO mX6_room 0 := ⟨gt_mem 653 (by decide +kernel) (by decide +kernel), gt_mem 58 (by decide +kernel) (by decide +kernel), by decide +kernel, by decide +kernel⟩
theorem im_X6_room : Cond.instanceMethod yX6_room ∈ gt := gt_mem 651 (by decide +kernel) (by decide +kernel)
theorem se_X6_room : Cond.selects RX6 yX6_room yX6_room ∈ gt := gt_mem 652 (by decide +kernel) (by decide +kernel)
abbrev mX6_door : MD := (yX6_door, cX6_door, 3, some .int, { frames := 2, cells := 0, slots := 0, locals := 43 })
theorem mo_X6_door : MO mX6_door 2 := ⟨gt_mem 657 (by decide +kernel) (by decide +kernel), gt_mem 58 (by decide +kernel) (by decide +kernel), by decide +kernel, by decide +kernel⟩
theorem im_X6_door : Cond.instanceMethod yX6_door ∈ gt := gt_mem 655 (by decide +kernel) (by decide +kernel)
theorem se_X6_door : Cond.selects RX6 yX6_door yX6_door ∈ gt := gt_mem 656 (by decide +kernel) (by decide +kernel)
abbrev mX6_isSide : MD := (yX6_isSide, cX6_isSide, 3, some .boolean, { frames := 0, cells := 0, slots := 0, locals := 0 })
theorem mo_X6_isSide : MO mX6_isSide 2 := ⟨gt_mem 680 (by decide +kernel) (by decide +kernel), gt_mem 58 (by decide +kernel) (by decide +kernel), by decide +kernel, by decide +kernel⟩
theorem im_X6_isSide : Cond.instanceMethod yX6_isSide ∈ gt := gt_mem 679 (by decide +kernel) (by decide +kernel)
theorem se_X6_isSide : Cond.selects RX6 yX6_isSide yX6_isSide ∈ gt := gt_mem 30 (by decide +kernel) (by decide +kernel)
abbrev mX6_mayBe : MD := (yX6_mayBe, cX6_mayBe, 3, some .boolean, { frames := 2, cells := 0, slots := 0, locals := 43 })
theorem mo_X6_mayBe : MO mX6_mayBe 2 := ⟨gt_mem 672 (by decide +kernel) (by decide +kernel), gt_mem 58 (by decide +kernel) (by decide +kernel), by decide +kernel, by decide +kernel⟩
theorem im_X6_mayBe : Cond.instanceMethod yX6_mayBe ∈ gt := gt_mem 671 (by decide +kernel) (by decide +kernel)
theorem se_X6_mayBe : Cond.selects RX6 yX6_mayBe yX6_mayBe ∈ gt := gt_mem 28 (by decide +kernel) (by decide +kernel)
abbrev mX6_exit : MD := (yX6_exit, cX6_exit, 5, some .int, { frames := 3, cells := 0, slots := 0, locals := 65 })
theorem mo_X6_exit : MO mX6_exit 3 := ⟨gt_mem 668 (by decide +kernel) (by decide +kernel), gt_mem 58 (by decide +kernel) (by decide +kernel), by decide +kernel, by decide +kernel⟩
theorem im_X6_exit : Cond.instanceMethod yX6_exit ∈ gt := gt_mem 666 (by decide +kernel) (by decide +kernel)
theorem se_X6_exit : Cond.selects RX6 yX6_exit yX6_exit ∈ gt := gt_mem 667 (by decide +kernel) (by decide +kernel)
abbrev mX6_width : MD := (yX6_width, cX6_width, 5, some .int, { frames := 2, cells := 0, slots := 0, locals := 43 })
theorem mo_X6_width : MO mX6_width 3 := ⟨gt_mem 684 (by decide +kernel) (by decide +kernel), gt_mem 58 (by decide +kernel) (by decide +kernel), by decide +kernel, by decide +kernel⟩
theorem im_X6_width : Cond.instanceMethod yX6_width ∈ gt := gt_mem 682 (by decide +kernel) (by decide +kernel)
theorem se_X6_width : Cond.selects RX6 yX6_width yX6_width ∈ gt := gt_mem 683 (by decide +kernel) (by decide +kernel)
abbrev mX6_turn : MD := (yX6_turn, cX6_turn, 3, some .int, { frames := 2, cells := 0, slots := 0, locals := 43 })
theorem mo_X6_turn : MO mX6_turn 2 := ⟨gt_mem 688 (by decide +kernel) (by decide +kernel), gt_mem 58 (by decide +kernel) (by decide +kernel), by decide +kernel, by decide +kernel⟩
theorem im_X6_turn : Cond.instanceMethod yX6_turn ∈ gt := gt_mem 686 (by decide +kernel) (by decide +kernel)
theorem se_X6_turn : Cond.selects RX6 yX6_turn yX6_turn ∈ gt := gt_mem 687 (by decide +kernel) (by decide +kernel)
abbrev mX6_region : MD := (yX6_region, cX6_region, 6, some .int, { frames := 2, cells := 0, slots := 0, locals := 43 })
theorem mo_X6_region : MO mX6_region 3 := ⟨gt_mem 692 (by decide +kernel) (by decide +kernel), gt_mem 58 (by decide +kernel) (by decide +kernel), by decide +kernel, by decide +kernel⟩
theorem im_X6_region : Cond.instanceMethod yX6_region ∈ gt := gt_mem 690 (by decide +kernel) (by decide +kernel)
theorem se_X6_region : Cond.selects RX6 yX6_region yX6_region ∈ gt := gt_mem 691 (by decide +kernel) (by decide +kernel)
abbrev mX6_lock : MD := (yX6_lock, cX6_lock, 4, some .int, { frames := 2, cells := 0, slots := 0, locals := 43 })
theorem mo_X6_lock : MO mX6_lock 3 := ⟨gt_mem 696 (by decide +kernel) (by decide +kernel), gt_mem 58 (by decide +kernel) (by decide +kernel), by decide +kernel, by decide +kernel⟩
theorem im_X6_lock : Cond.instanceMethod yX6_lock ∈ gt := gt_mem 694 (by decide +kernel) (by decide +kernel)
theorem se_X6_lock : Cond.selects RX6 yX6_lock yX6_lock ∈ gt := gt_mem 695 (by decide +kernel) (by decide +kernel)
abbrev mX6_thing : MD := (yX6_thing, cX6_thing, 4, some .int, { frames := 2, cells := 0, slots := 0, locals := 43 })
theorem mo_X6_thing : MO mX6_thing 3 := ⟨gt_mem 704 (by decide +kernel) (by decide +kernel), gt_mem 58 (by decide +kernel) (by decide +kernel), by decide +kernel, by decide +kernel⟩
theorem im_X6_thing : Cond.instanceMethod yX6_thing ∈ gt := gt_mem 702 (by decide +kernel) (by decide +kernel)
theorem se_X6_thing : Cond.selects RX6 yX6_thing yX6_thing ∈ gt := gt_mem 703 (by decide +kernel) (by decide +kernel)
abbrev mX6_floats : MD := (yX6_floats, cX6_floats, 3, some .int, { frames := 2, cells := 0, slots := 0, locals := 43 })
theorem mo_X6_floats : MO mX6_floats 2 := ⟨gt_mem 708 (by decide +kernel) (by decide +kernel), gt_mem 58 (by decide +kernel) (by decide +kernel), by decide +kernel, by decide +kernel⟩
theorem im_X6_floats : Cond.instanceMethod yX6_floats ∈ gt := gt_mem 706 (by decide +kernel) (by decide +kernel)
theorem se_X6_floats : Cond.selects RX6 yX6_floats yX6_floats ∈ gt := gt_mem 707 (by decide +kernel) (by decide +kernel)
abbrev mX6_being : MD := (yX6_being, cX6_being, 2, some .int, { frames := 2, cells := 0, slots := 0, locals := 43 })
theorem mo_X6_being : MO mX6_being 1 := ⟨gt_mem 712 (by decide +kernel) (by decide +kernel), gt_mem 58 (by decide +kernel) (by decide +kernel), by decide +kernel, by decide +kernel⟩
theorem im_X6_being : Cond.instanceMethod yX6_being ∈ gt := gt_mem 710 (by decide +kernel) (by decide +kernel)
theorem se_X6_being : Cond.selects RX6 yX6_being yX6_being ∈ gt := gt_mem 711 (by decide +kernel) (by decide +kernel)
abbrev mX6_isShutIn : MD := (yX6_isShutIn, cX6_isShutIn, 2, some .boolean, { frames := 0, cells := 0, slots := 0, locals := 0 })
theorem mo_X6_isShutIn : MO mX6_isShutIn 1 := ⟨gt_mem 728 (by decide +kernel) (by decide +kernel), gt_mem 58 (by decide +kernel) (by decide +kernel), by decide +kernel, by decide +kernel⟩
theorem im_X6_isShutIn : Cond.instanceMethod yX6_isShutIn ∈ gt := gt_mem 727 (by decide +kernel) (by decide +kernel)
theorem se_X6_isShutIn : Cond.selects RX6 yX6_isShutIn yX6_isShutIn ∈ gt := gt_mem 34 (by decide +kernel) (by decide +kernel)
abbrev mX6_isThingIn : MD := (yX6_isThingIn, cX6_isThingIn, 3, some .boolean, { frames := 0, cells := 0, slots := 0, locals := 0 })
theorem mo_X6_isThingIn : MO mX6_isThingIn 2 := ⟨gt_mem 740 (by decide +kernel) (by decide +kernel), gt_mem 58 (by decide +kernel) (by decide +kernel), by decide +kernel, by decide +kernel⟩
theorem im_X6_isThingIn : Cond.instanceMethod yX6_isThingIn ∈ gt := gt_mem 739 (by decide +kernel) (by decide +kernel)
theorem se_X6_isThingIn : Cond.selects RX6 yX6_isThingIn yX6_isThingIn ∈ gt := gt_mem 37 (by decide +kernel) (by decide +kernel)
abbrev mX6_holds : MD := (yX6_holds, cX6_holds, 3, some .boolean, { frames := 0, cells := 0, slots := 0, locals := 0 })
theorem mo_X6_holds : MO mX6_holds 2 := ⟨gt_mem 736 (by decide +kernel) (by decide +kernel), gt_mem 58 (by decide +kernel) (by decide +kernel), by decide +kernel, by decide +kernel⟩
theorem im_X6_holds : Cond.instanceMethod yX6_holds ∈ gt := gt_mem 735 (by decide +kernel) (by decide +kernel)
theorem se_X6_holds : Cond.selects RX6 yX6_holds yX6_holds ∈ gt := gt_mem 36 (by decide +kernel) (by decide +kernel)
abbrev mX6_hasThing : MD := (yX6_hasThing, cX6_hasThing, 3, some .boolean, { frames := 1, cells := 0, slots := 0, locals := 22 })
theorem mo_X6_hasThing : MO mX6_hasThing 2 := ⟨gt_mem 732 (by decide +kernel) (by decide +kernel), gt_mem 58 (by decide +kernel) (by decide +kernel), by decide +kernel, by decide +kernel⟩
theorem im_X6_hasThing : Cond.instanceMethod yX6_hasThing ∈ gt := gt_mem 731 (by decide +kernel) (by decide +kernel)
theorem se_X6_hasThing : Cond.selects RX6 yX6_hasThing yX6_hasThing ∈ gt := gt_mem 35 (by decide +kernel) (by decide +kernel)
abbrev mX6_hasDoor : MD := (yX6_hasDoor, cX6_hasDoor, 3, some .boolean, { frames := 1, cells := 0, slots := 0, locals := 22 })
theorem mo_X6_hasDoor : MO mX6_hasDoor 2 := ⟨gt_mem 724 (by decide +kernel) (by decide +kernel), gt_mem 58 (by decide +kernel) (by decide +kernel), by decide +kernel, by decide +kernel⟩
theorem im_X6_hasDoor : Cond.instanceMethod yX6_hasDoor ∈ gt := gt_mem 723 (by decide +kernel) (by decide +kernel)
theorem se_X6_hasDoor : Cond.selects RX6 yX6_hasDoor yX6_hasDoor ∈ gt := gt_mem 33 (by decide +kernel) (by decide +kernel)
abbrev mX6_held : MD := (yX6_held, cX6_held, 4, some .int, { frames := 1, cells := 0, slots := 0, locals := 22 })
theorem mo_X6_held : MO mX6_held 1 := ⟨gt_mem 764 (by decide +kernel) (by decide +kernel), gt_mem 58 (by decide +kernel) (by decide +kernel), by decide +kernel, by decide +kernel⟩
theorem im_X6_held : Cond.instanceMethod yX6_held ∈ gt := gt_mem 763 (by decide +kernel) (by decide +kernel)
theorem se_X6_held : Cond.selects RX6 yX6_held yX6_held ∈ gt := gt_mem 41 (by decide +kernel) (by decide +kernel)
abbrev mX6_here : MD := (yX6_here, cX6_here, 4, some .boolean, { frames := 2, cells := 0, slots := 0, locals := 44 })
theorem mo_X6_here : MO mX6_here 3 := ⟨gt_mem 716 (by decide +kernel) (by decide +kernel), gt_mem 58 (by decide +kernel) (by decide +kernel), by decide +kernel, by decide +kernel⟩
theorem im_X6_here : Cond.instanceMethod yX6_here ∈ gt := gt_mem 714 (by decide +kernel) (by decide +kernel)
theorem se_X6_here : Cond.selects RX6 yX6_here yX6_here ∈ gt := gt_mem 715 (by decide +kernel) (by decide +kernel)
abbrev mX6_holdsOther : MD := (yX6_holdsOther, cX6_holdsOther, 5, some .boolean, { frames := 1, cells := 0, slots := 0, locals := 22 })
theorem mo_X6_holdsOther : MO mX6_holdsOther 2 := ⟨gt_mem 752 (by decide +kernel) (by decide +kernel), gt_mem 58 (by decide +kernel) (by decide +kernel), by decide +kernel, by decide +kernel⟩
theorem im_X6_holdsOther : Cond.instanceMethod yX6_holdsOther ∈ gt := gt_mem 751 (by decide +kernel) (by decide +kernel)
theorem se_X6_holdsOther : Cond.selects RX6 yX6_holdsOther yX6_holdsOther ∈ gt := gt_mem 39 (by decide +kernel) (by decide +kernel)
abbrev mX6_actText : MD := (yX6_actText, cX6_actText, 5, some .int, { frames := 2, cells := 0, slots := 0, locals := 46 })
theorem mo_X6_actText : MO mX6_actText 3 := ⟨gt_mem 748 (by decide +kernel) (by decide +kernel), gt_mem 58 (by decide +kernel) (by decide +kernel), by decide +kernel, by decide +kernel⟩
theorem im_X6_actText : Cond.instanceMethod yX6_actText ∈ gt := gt_mem 747 (by decide +kernel) (by decide +kernel)
theorem se_X6_actText : Cond.selects RX6 yX6_actText yX6_actText ∈ gt := gt_mem 38 (by decide +kernel) (by decide +kernel)
abbrev mX6_act : MD := (yX6_act, cX6_act, 5, some .int, { frames := 3, cells := 0, slots := 0, locals := 70 })
theorem mo_X6_act : MO mX6_act 3 := ⟨gt_mem 744 (by decide +kernel) (by decide +kernel), gt_mem 58 (by decide +kernel) (by decide +kernel), by decide +kernel, by decide +kernel⟩
theorem im_X6_act : Cond.instanceMethod yX6_act ∈ gt := gt_mem 742 (by decide +kernel) (by decide +kernel)
theorem se_X6_act : Cond.selects RX6 yX6_act yX6_act ∈ gt := gt_mem 743 (by decide +kernel) (by decide +kernel)
abbrev mX6_handleText : MD := (yX6_handleText, cX6_handleText, 4, some .int, { frames := 2, cells := 0, slots := 0, locals := 45 })
theorem mo_X6_handleText : MO mX6_handleText 3 := ⟨gt_mem 760 (by decide +kernel) (by decide +kernel), gt_mem 58 (by decide +kernel) (by decide +kernel), by decide +kernel, by decide +kernel⟩
theorem im_X6_handleText : Cond.instanceMethod yX6_handleText ∈ gt := gt_mem 759 (by decide +kernel) (by decide +kernel)
theorem se_X6_handleText : Cond.selects RX6 yX6_handleText yX6_handleText ∈ gt := gt_mem 40 (by decide +kernel) (by decide +kernel)
abbrev mX6_handle : MD := (yX6_handle, cX6_handle, 5, some .int, { frames := 3, cells := 0, slots := 0, locals := 68 })
theorem mo_X6_handle : MO mX6_handle 3 := ⟨gt_mem 756 (by decide +kernel) (by decide +kernel), gt_mem 58 (by decide +kernel) (by decide +kernel), by decide +kernel, by decide +kernel⟩
theorem im_X6_handle : Cond.instanceMethod yX6_handle ∈ gt := gt_mem 754 (by decide +kernel) (by decide +kernel)
theorem se_X6_handle : Cond.selects RX6 yX6_handle yX6_handle ∈ gt := gt_mem 755 (by decide +kernel) (by decide +kernel)
abbrev mX6_leave : MD := (yX6_leave, cX6_leave, 2, some .int, { frames := 2, cells := 0, slots := 0, locals := 43 })
theorem mo_X6_leave : MO mX6_leave 1 := ⟨gt_mem 768 (by decide +kernel) (by decide +kernel), gt_mem 58 (by decide +kernel) (by decide +kernel), by decide +kernel, by decide +kernel⟩
theorem im_X6_leave : Cond.instanceMethod yX6_leave ∈ gt := gt_mem 766 (by decide +kernel) (by decide +kernel)
theorem se_X6_leave : Cond.selects RX6 yX6_leave yX6_leave ∈ gt := gt_mem 767 (by decide +kernel) (by decide +kernel)
abbrev mX6_otherSide : MD := (yX6_otherSide, cX6_otherSide, 3, some .int, { frames := 0, cells := 0, slots := 0, locals := 0 })
theorem mo_X6_otherSide : MO mX6_otherSide 2 := ⟨gt_mem 788 (by decide +kernel) (by decide +kernel), gt_mem 58 (by decide +kernel) (by decide +kernel), by decide +kernel, by decide +kernel⟩
theorem im_X6_otherSide : Cond.instanceMethod yX6_otherSide ∈ gt := gt_mem 787 (by decide +kernel) (by decide +kernel)
theorem se_X6_otherSide : Cond.selects RX6 yX6_otherSide yX6_otherSide ∈ gt := gt_mem 45 (by decide +kernel) (by decide +kernel)
abbrev mX6_leadsTo : MD := (yX6_leadsTo, cX6_leadsTo, 4, some .int, { frames := 1, cells := 0, slots := 0, locals := 22 })
theorem mo_X6_leadsTo : MO mX6_leadsTo 2 := ⟨gt_mem 784 (by decide +kernel) (by decide +kernel), gt_mem 58 (by decide +kernel) (by decide +kernel), by decide +kernel, by decide +kernel⟩
theorem im_X6_leadsTo : Cond.instanceMethod yX6_leadsTo ∈ gt := gt_mem 783 (by decide +kernel) (by decide +kernel)
theorem se_X6_leadsTo : Cond.selects RX6 yX6_leadsTo yX6_leadsTo ∈ gt := gt_mem 44 (by decide +kernel) (by decide +kernel)
abbrev mX6_wayText : MD := (yX6_wayText, cX6_wayText, 5, some .int, { frames := 2, cells := 0, slots := 0, locals := 45 })
theorem mo_X6_wayText : MO mX6_wayText 3 := ⟨gt_mem 780 (by decide +kernel) (by decide +kernel), gt_mem 58 (by decide +kernel) (by decide +kernel), by decide +kernel, by decide +kernel⟩
theorem im_X6_wayText : Cond.instanceMethod yX6_wayText ∈ gt := gt_mem 779 (by decide +kernel) (by decide +kernel)
theorem se_X6_wayText : Cond.selects RX6 yX6_wayText yX6_wayText ∈ gt := gt_mem 43 (by decide +kernel) (by decide +kernel)
abbrev mX6_tell : MD := (yX6_tell, cX6_tell, 4, none, { frames := 0, cells := 0, slots := 0, locals := 0 })
theorem mo_X6_tell : MO mX6_tell 2 := ⟨gt_mem 804 (by decide +kernel) (by decide +kernel), gt_mem 58 (by decide +kernel) (by decide +kernel), by decide +kernel, by decide +kernel⟩
theorem im_X6_tell : Cond.instanceMethod yX6_tell ∈ gt := gt_mem 803 (by decide +kernel) (by decide +kernel)
theorem se_X6_tell : Cond.selects RX6 yX6_tell yX6_tell ∈ gt := gt_mem 49 (by decide +kernel) (by decide +kernel)
abbrev mX6_tellIn : MD := (yX6_tellIn, cX6_tellIn, 5, none, { frames := 1, cells := 0, slots := 0, locals := 23 })
theorem mo_X6_tellIn : MO mX6_tellIn 3 := ⟨gt_mem 800 (by decide +kernel) (by decide +kernel), gt_mem 58 (by decide +kernel) (by decide +kernel), by decide +kernel, by decide +kernel⟩
theorem im_X6_tellIn : Cond.instanceMethod yX6_tellIn ∈ gt := gt_mem 799 (by decide +kernel) (by decide +kernel)
theorem se_X6_tellIn : Cond.selects RX6 yX6_tellIn yX6_tellIn ∈ gt := gt_mem 48 (by decide +kernel) (by decide +kernel)
abbrev mX6_move : MD := (yX6_move, cX6_move, 8, some .int, { frames := 2, cells := 0, slots := 0, locals := 47 })
theorem mo_X6_move : MO mX6_move 4 := ⟨gt_mem 796 (by decide +kernel) (by decide +kernel), gt_mem 58 (by decide +kernel) (by decide +kernel), by decide +kernel, by decide +kernel⟩
theorem im_X6_move : Cond.instanceMethod yX6_move ∈ gt := gt_mem 795 (by decide +kernel) (by decide +kernel)
theorem se_X6_move : Cond.selects RX6 yX6_move yX6_move ∈ gt := gt_mem 47 (by decide +kernel) (by decide +kernel)
abbrev mX6_insideOf : MD := (yX6_insideOf, cX6_insideOf, 4, some .int, { frames := 0, cells := 0, slots := 0, locals := 0 })
theorem mo_X6_insideOf : MO mX6_insideOf 1 := ⟨gt_mem 792 (by decide +kernel) (by decide +kernel), gt_mem 58 (by decide +kernel) (by decide +kernel), by decide +kernel, by decide +kernel⟩
theorem im_X6_insideOf : Cond.instanceMethod yX6_insideOf ∈ gt := gt_mem 791 (by decide +kernel) (by decide +kernel)
theorem se_X6_insideOf : Cond.selects RX6 yX6_insideOf yX6_insideOf ∈ gt := gt_mem 46 (by decide +kernel) (by decide +kernel)
abbrev mX6_goBy : MD := (yX6_goBy, cX6_goBy, 5, some .int, { frames := 3, cells := 0, slots := 0, locals := 74 })
theorem mo_X6_goBy : MO mX6_goBy 2 := ⟨gt_mem 776 (by decide +kernel) (by decide +kernel), gt_mem 58 (by decide +kernel) (by decide +kernel), by decide +kernel, by decide +kernel⟩
theorem im_X6_goBy : Cond.instanceMethod yX6_goBy ∈ gt := gt_mem 775 (by decide +kernel) (by decide +kernel)
theorem se_X6_goBy : Cond.selects RX6 yX6_goBy yX6_goBy ∈ gt := gt_mem 42 (by decide +kernel) (by decide +kernel)
abbrev mX6_go : MD := (yX6_go, cX6_go, 3, some .int, { frames := 4, cells := 0, slots := 0, locals := 98 })
theorem mo_X6_go : MO mX6_go 2 := ⟨gt_mem 772 (by decide +kernel) (by decide +kernel), gt_mem 58 (by decide +kernel) (by decide +kernel), by decide +kernel, by decide +kernel⟩
theorem im_X6_go : Cond.instanceMethod yX6_go ∈ gt := gt_mem 770 (by decide +kernel) (by decide +kernel)
theorem se_X6_go : Cond.selects RX6 yX6_go yX6_go ∈ gt := gt_mem 771 (by decide +kernel) (by decide +kernel)
abbrev mX6_push : MD := (yX6_push, cX6_push, 5, some .int, { frames := 3, cells := 0, slots := 0, locals := 74 })
theorem mo_X6_push : MO mX6_push 3 := ⟨gt_mem 808 (by decide +kernel) (by decide +kernel), gt_mem 58 (by decide +kernel) (by decide +kernel), by decide +kernel, by decide +kernel⟩
theorem im_X6_push : Cond.instanceMethod yX6_push ∈ gt := gt_mem 806 (by decide +kernel) (by decide +kernel)
theorem se_X6_push : Cond.selects RX6 yX6_push yX6_push ∈ gt := gt_mem 807 (by decide +kernel) (by decide +kernel)
abbrev mX6_back : MD := (yX6_back, cX6_back, 3, some .int, { frames := 4, cells := 0, slots := 0, locals := 98 })
theorem mo_X6_back : MO mX6_back 1 := ⟨gt_mem 812 (by decide +kernel) (by decide +kernel), gt_mem 58 (by decide +kernel) (by decide +kernel), by decide +kernel, by decide +kernel⟩
theorem im_X6_back : Cond.instanceMethod yX6_back ∈ gt := gt_mem 810 (by decide +kernel) (by decide +kernel)
theorem se_X6_back : Cond.selects RX6 yX6_back yX6_back ∈ gt := gt_mem 811 (by decide +kernel) (by decide +kernel)
abbrev mX6_measure : MD := (yX6_measure, cX6_measure, 5, none, { frames := 2, cells := 0, slots := 0, locals := 45 })
theorem mo_X6_measure : MO mX6_measure 1 := ⟨gt_mem 820 (by decide +kernel) (by decide +kernel), gt_mem 58 (by decide +kernel) (by decide +kernel), by decide +kernel, by decide +kernel⟩
theorem im_X6_measure : Cond.instanceMethod yX6_measure ∈ gt := gt_mem 819 (by decide +kernel) (by decide +kernel)
theorem se_X6_measure : Cond.selects RX6 yX6_measure yX6_measure ∈ gt := gt_mem 50 (by decide +kernel) (by decide +kernel)
abbrev mX6_step : MD := (yX6_step, cX6_step, 4, some .int, { frames := 2, cells := 0, slots := 0, locals := 45 })
theorem mo_X6_step : MO mX6_step 1 := ⟨gt_mem 824 (by decide +kernel) (by decide +kernel), gt_mem 58 (by decide +kernel) (by decide +kernel), by decide +kernel, by decide +kernel⟩
theorem im_X6_step : Cond.instanceMethod yX6_step ∈ gt := gt_mem 823 (by decide +kernel) (by decide +kernel)
theorem se_X6_step : Cond.selects RX6 yX6_step yX6_step ∈ gt := gt_mem 51 (by decide +kernel) (by decide +kernel)
abbrev mX6_follow : MD := (yX6_follow, cX6_follow, 3, some .int, { frames := 4, cells := 0, slots := 0, locals := 98 })
theorem mo_X6_follow : MO mX6_follow 2 := ⟨gt_mem 816 (by decide +kernel) (by decide +kernel), gt_mem 58 (by decide +kernel) (by decide +kernel), by decide +kernel, by decide +kernel⟩
theorem im_X6_follow : Cond.instanceMethod yX6_follow ∈ gt := gt_mem 814 (by decide +kernel) (by decide +kernel)
theorem se_X6_follow : Cond.selects RX6 yX6_follow yX6_follow ∈ gt := gt_mem 815 (by decide +kernel) (by decide +kernel)
abbrev mX6_route : MD := (yX6_route, cX6_route, 6, some .int, { frames := 3, cells := 0, slots := 0, locals := 69 })
theorem mo_X6_route : MO mX6_route 3 := ⟨gt_mem 828 (by decide +kernel) (by decide +kernel), gt_mem 58 (by decide +kernel) (by decide +kernel), by decide +kernel, by decide +kernel⟩
theorem im_X6_route : Cond.instanceMethod yX6_route ∈ gt := gt_mem 826 (by decide +kernel) (by decide +kernel)
theorem se_X6_route : Cond.selects RX6 yX6_route yX6_route ∈ gt := gt_mem 827 (by decide +kernel) (by decide +kernel)
abbrev mX6_way : MD := (yX6_way, cX6_way, 3, some .int, { frames := 2, cells := 0, slots := 0, locals := 43 })
theorem mo_X6_way : MO mX6_way 2 := ⟨gt_mem 832 (by decide +kernel) (by decide +kernel), gt_mem 58 (by decide +kernel) (by decide +kernel), by decide +kernel, by decide +kernel⟩
theorem im_X6_way : Cond.instanceMethod yX6_way ∈ gt := gt_mem 830 (by decide +kernel) (by decide +kernel)
theorem se_X6_way : Cond.selects RX6 yX6_way yX6_way ∈ gt := gt_mem 831 (by decide +kernel) (by decide +kernel)
abbrev mX6_leads : MD := (yX6_leads, cX6_leads, 3, some .int, { frames := 2, cells := 0, slots := 0, locals := 45 })
theorem mo_X6_leads : MO mX6_leads 2 := ⟨gt_mem 836 (by decide +kernel) (by decide +kernel), gt_mem 58 (by decide +kernel) (by decide +kernel), by decide +kernel, by decide +kernel⟩
theorem im_X6_leads : Cond.instanceMethod yX6_leads ∈ gt := gt_mem 834 (by decide +kernel) (by decide +kernel)
theorem se_X6_leads : Cond.selects RX6 yX6_leads yX6_leads ∈ gt := gt_mem 835 (by decide +kernel) (by decide +kernel)
abbrev mX6_state : MD := (yX6_state, cX6_state, 2, some .int, { frames := 2, cells := 0, slots := 0, locals := 43 })
theorem mo_X6_state : MO mX6_state 1 := ⟨gt_mem 840 (by decide +kernel) (by decide +kernel), gt_mem 58 (by decide +kernel) (by decide +kernel), by decide +kernel, by decide +kernel⟩
theorem im_X6_state : Cond.instanceMethod yX6_state ∈ gt := gt_mem 838 (by decide +kernel) (by decide +kernel)
theorem se_X6_state : Cond.selects RX6 yX6_state yX6_state ∈ gt := gt_mem 839 (by decide +kernel) (by decide +kernel)
abbrev mX6_leastOf : MD := (yX6_leastOf, cX6_leastOf, 3, some .int, { frames := 0, cells := 0, slots := 0, locals := 0 })
theorem mo_X6_leastOf : MO mX6_leastOf 1 := ⟨gt_mem 848 (by decide +kernel) (by decide +kernel), gt_mem 58 (by decide +kernel) (by decide +kernel), by decide +kernel, by decide +kernel⟩
theorem im_X6_leastOf : Cond.instanceMethod yX6_leastOf ∈ gt := gt_mem 847 (by decide +kernel) (by decide +kernel)
theorem se_X6_leastOf : Cond.selects RX6 yX6_leastOf yX6_leastOf ∈ gt := gt_mem 52 (by decide +kernel) (by decide +kernel)
abbrev mX6_thingIs : MD := (yX6_thingIs, cX6_thingIs, 4, some .int, { frames := 2, cells := 0, slots := 0, locals := 43 })
theorem mo_X6_thingIs : MO mX6_thingIs 2 := ⟨gt_mem 844 (by decide +kernel) (by decide +kernel), gt_mem 58 (by decide +kernel) (by decide +kernel), by decide +kernel, by decide +kernel⟩
theorem im_X6_thingIs : Cond.instanceMethod yX6_thingIs ∈ gt := gt_mem 842 (by decide +kernel) (by decide +kernel)
theorem se_X6_thingIs : Cond.selects RX6 yX6_thingIs yX6_thingIs ∈ gt := gt_mem 843 (by decide +kernel) (by decide +kernel)
abbrev mX6_beingIs : MD := (yX6_beingIs, cX6_beingIs, 3, some .int, { frames := 2, cells := 0, slots := 0, locals := 45 })
theorem mo_X6_beingIs : MO mX6_beingIs 2 := ⟨gt_mem 852 (by decide +kernel) (by decide +kernel), gt_mem 58 (by decide +kernel) (by decide +kernel), by decide +kernel, by decide +kernel⟩
theorem im_X6_beingIs : Cond.instanceMethod yX6_beingIs ∈ gt := gt_mem 850 (by decide +kernel) (by decide +kernel)
theorem se_X6_beingIs : Cond.selects RX6 yX6_beingIs yX6_beingIs ∈ gt := gt_mem 851 (by decide +kernel) (by decide +kernel)
abbrev mX6_news : MD := (yX6_news, cX6_news, 3, some .int, { frames := 2, cells := 0, slots := 0, locals := 43 })
theorem mo_X6_news : MO mX6_news 2 := ⟨gt_mem 856 (by decide +kernel) (by decide +kernel), gt_mem 58 (by decide +kernel) (by decide +kernel), by decide +kernel, by decide +kernel⟩
theorem im_X6_news : Cond.instanceMethod yX6_news ∈ gt := gt_mem 854 (by decide +kernel) (by decide +kernel)
theorem se_X6_news : Cond.selects RX6 yX6_news yX6_news ∈ gt := gt_mem 855 (by decide +kernel) (by decide +kernel)
abbrev mX6_count : MD := (yX6_count, cX6_count, 4, some .int, { frames := 2, cells := 0, slots := 0, locals := 45 })
theorem mo_X6_count : MO mX6_count 1 := ⟨gt_mem 860 (by decide +kernel) (by decide +kernel), gt_mem 58 (by decide +kernel) (by decide +kernel), by decide +kernel, by decide +kernel⟩
theorem im_X6_count : Cond.instanceMethod yX6_count ∈ gt := gt_mem 858 (by decide +kernel) (by decide +kernel)
theorem se_X6_count : Cond.selects RX6 yX6_count yX6_count ∈ gt := gt_mem 859 (by decide +kernel) (by decide +kernel)
abbrev mJ6_bitCount_0f7a4 : MD := (yJ6_bitCount_0f7a4, cJ6_bitCount_0f7a4, 1, some .int, { frames := 0, cells := 0, slots := 0, locals := 0 })
theorem mo_J6_bitCount_0f7a4 : MO mJ6_bitCount_0f7a4 1 := ⟨gt_mem 248 (by decide +kernel) (by decide +kernel), gt_mem 60 (by decide +kernel) (by decide +kernel), by decide +kernel, by decide +kernel⟩
theorem sm_J6_bitCount_0f7a4 : Cond.static yJ6_bitCount_0f7a4 ∈ gt := gt_mem 247 (by decide +kernel) (by decide +kernel)
abbrev mJ7_fill_53178 : MD := (yJ7_fill_53178, cJ7_fill_53178, 4, none, { frames := 0, cells := 0, slots := 0, locals := 0 })
theorem mo_J7_fill_53178 : MO mJ7_fill_53178 2 := ⟨gt_mem 107 (by decide +kernel) (by decide +kernel), gt_mem 56 (by decide +kernel) (by decide +kernel), by decide +kernel, by decide +kernel⟩
theorem sm_J7_fill_53178 : Cond.static yJ7_fill_53178 ∈ gt := gt_mem 106 (by decide +kernel) (by decide +kernel)
theorem ml_RL_9 : Cond.methodLink RL 9 yX5_init ∈ gt := gt_mem 66 (by decide +kernel) (by decide +kernel)
theorem ml_RX5_1 : Cond.methodLink RX5 1 objectInit ∈ gt := gt_mem 69 (by decide +kernel) (by decide +kernel)
theorem ml_RX3_3 : Cond.methodLink RX3 3 objectInit ∈ gt := gt_mem 85 (by decide +kernel) (by decide +kernel)
theorem ml_RX5_50 : Cond.methodLink RX5 50 yJ7_fill_53178 ∈ gt := gt_mem 105 (by decide +kernel) (by decide +kernel)
theorem ml_RX2_3 : Cond.methodLink RX2 3 objectInit ∈ gt := gt_mem 112 (by decide +kernel) (by decide +kernel)
theorem ml_RL_13 : Cond.methodLink RL 13 yX5_room ∈ gt := gt_mem 161 (by decide +kernel) (by decide +kernel)
theorem ml_RL_18 : Cond.methodLink RL 18 yX5_door ∈ gt := gt_mem 165 (by decide +kernel) (by decide +kernel)
theorem ml_RX5_61 : Cond.methodLink RX5 61 yX5_isRoom ∈ gt := gt_mem 169 (by decide +kernel) (by decide +kernel)
theorem ml_RX5_68 : Cond.methodLink RX5 68 yX1_init ∈ gt := gt_mem 174 (by decide +kernel) (by decide +kernel)
theorem ml_RX1_3 : Cond.methodLink RX1 3 objectInit ∈ gt := gt_mem 177 (by decide +kernel) (by decide +kernel)
theorem ml_RL_23 : Cond.methodLink RL 23 yX5_exit ∈ gt := gt_mem 197 (by decide +kernel) (by decide +kernel)
theorem ml_RX5_71 : Cond.methodLink RX5 71 yX5_isPlace ∈ gt := gt_mem 201 (by decide +kernel) (by decide +kernel)
theorem ml_RX5_176 : Cond.methodLink RX5 176 yX5_isDirection ∈ gt := gt_mem 205 (by decide +kernel) (by decide +kernel)
theorem ml_RX5_75 : Cond.methodLink RX5 75 yX5_mayBeWayOf ∈ gt := gt_mem 208 (by decide +kernel) (by decide +kernel)
theorem ml_RX5_101 : Cond.methodLink RX5 101 yX5_doorAt ∈ gt := gt_mem 212 (by decide +kernel) (by decide +kernel)
theorem ml_RX5_246 : Cond.methodLink RX5 246 yX1_hasSide ∈ gt := gt_mem 216 (by decide +kernel) (by decide +kernel)
theorem ml_RX5_82 : Cond.methodLink RX5 82 yX5_ruleAt ∈ gt := gt_mem 220 (by decide +kernel) (by decide +kernel)
theorem ml_RX5_78 : Cond.methodLink RX5 78 yX5_placeOf ∈ gt := gt_mem 224 (by decide +kernel) (by decide +kernel)
theorem ml_RL_28 : Cond.methodLink RL 28 yX5_width ∈ gt := gt_mem 227 (by decide +kernel) (by decide +kernel)
theorem ml_RL_32 : Cond.methodLink RL 32 yX5_turn ∈ gt := gt_mem 231 (by decide +kernel) (by decide +kernel)
theorem ml_RX5_86 : Cond.methodLink RX5 86 yX2_append ∈ gt := gt_mem 235 (by decide +kernel) (by decide +kernel)
theorem ml_RL_36 : Cond.methodLink RL 36 yX5_region ∈ gt := gt_mem 239 (by decide +kernel) (by decide +kernel)
theorem ml_RX5_92 : Cond.methodLink RX5 92 yX5_isRegion ∈ gt := gt_mem 243 (by decide +kernel) (by decide +kernel)
theorem ml_RX5_95 : Cond.methodLink RX5 95 yJ6_bitCount_0f7a4 ∈ gt := gt_mem 246 (by decide +kernel) (by decide +kernel)
theorem ml_RL_41 : Cond.methodLink RL 41 yX5_lock ∈ gt := gt_mem 252 (by decide +kernel) (by decide +kernel)
theorem ml_RX5_105 : Cond.methodLink RX5 105 yX5_thingAt ∈ gt := gt_mem 256 (by decide +kernel) (by decide +kernel)
theorem ml_RL_45 : Cond.methodLink RL 45 yX5_thing ∈ gt := gt_mem 260 (by decide +kernel) (by decide +kernel)
theorem ml_RX5_123 : Cond.methodLink RX5 123 yX4_init ∈ gt := gt_mem 265 (by decide +kernel) (by decide +kernel)
theorem ml_RX4_3 : Cond.methodLink RX4 3 objectInit ∈ gt := gt_mem 268 (by decide +kernel) (by decide +kernel)
theorem ml_RL_49 : Cond.methodLink RL 49 yX5_floats ∈ gt := gt_mem 296 (by decide +kernel) (by decide +kernel)
theorem ml_RL_53 : Cond.methodLink RL 53 yX5_being ∈ gt := gt_mem 300 (by decide +kernel) (by decide +kernel)
theorem ml_RX5_132 : Cond.methodLink RX5 132 yX0_init ∈ gt := gt_mem 305 (by decide +kernel) (by decide +kernel)
theorem ml_RX0_3 : Cond.methodLink RX0 3 objectInit ∈ gt := gt_mem 308 (by decide +kernel) (by decide +kernel)
theorem ml_RL_58 : Cond.methodLink RL 58 yX5_act ∈ gt := gt_mem 336 (by decide +kernel) (by decide +kernel)
theorem ml_RX5_133 : Cond.methodLink RX5 133 yX5_beingAt ∈ gt := gt_mem 340 (by decide +kernel) (by decide +kernel)
theorem ml_RX5_137 : Cond.methodLink RX5 137 yX5_isDoorHere ∈ gt := gt_mem 344 (by decide +kernel) (by decide +kernel)
theorem ml_RX5_275 : Cond.methodLink RX5 275 yX5_isShutIn ∈ gt := gt_mem 347 (by decide +kernel) (by decide +kernel)
theorem ml_RX5_141 : Cond.methodLink RX5 141 yX5_openDoor ∈ gt := gt_mem 350 (by decide +kernel) (by decide +kernel)
theorem ml_RX5_145 : Cond.methodLink RX5 145 yX5_closeDoor ∈ gt := gt_mem 353 (by decide +kernel) (by decide +kernel)
theorem ml_RX5_148 : Cond.methodLink RX5 148 yX5_turnKey ∈ gt := gt_mem 356 (by decide +kernel) (by decide +kernel)
theorem ml_RX5_295 : Cond.methodLink RX5 295 yX5_holdsAnyKey ∈ gt := gt_mem 360 (by decide +kernel) (by decide +kernel)
theorem ml_RL_62 : Cond.methodLink RL 62 yX5_handle ∈ gt := gt_mem 364 (by decide +kernel) (by decide +kernel)
theorem ml_RX5_152 : Cond.methodLink RX5 152 yX5_drop ∈ gt := gt_mem 368 (by decide +kernel) (by decide +kernel)
theorem ml_RX5_156 : Cond.methodLink RX5 156 yX5_isThingHere ∈ gt := gt_mem 371 (by decide +kernel) (by decide +kernel)
theorem ml_RX5_283 : Cond.methodLink RX5 283 yX5_isInRoom ∈ gt := gt_mem 375 (by decide +kernel) (by decide +kernel)
theorem ml_RX5_288 : Cond.methodLink RX5 288 yX5_hasRoom ∈ gt := gt_mem 379 (by decide +kernel) (by decide +kernel)
theorem ml_RX5_160 : Cond.methodLink RX5 160 yX5_take ∈ gt := gt_mem 383 (by decide +kernel) (by decide +kernel)
theorem ml_RX5_163 : Cond.methodLink RX5 163 yX5_climbInto ∈ gt := gt_mem 386 (by decide +kernel) (by decide +kernel)
theorem ml_RX5_166 : Cond.methodLink RX5 166 yX5_setShut ∈ gt := gt_mem 389 (by decide +kernel) (by decide +kernel)
theorem ml_RL_66 : Cond.methodLink RL 66 yX5_leave ∈ gt := gt_mem 392 (by decide +kernel) (by decide +kernel)
theorem ml_RL_70 : Cond.methodLink RL 70 yX5_go ∈ gt := gt_mem 396 (by decide +kernel) (by decide +kernel)
theorem ml_RX5_179 : Cond.methodLink RX5 179 yX5_goBy ∈ gt := gt_mem 400 (by decide +kernel) (by decide +kernel)
theorem ml_RX5_183 : Cond.methodLink RX5 183 yX5_travel ∈ gt := gt_mem 404 (by decide +kernel) (by decide +kernel)
theorem ml_RX5_298 : Cond.methodLink RX5 298 yX5_obstacleOf ∈ gt := gt_mem 408 (by decide +kernel) (by decide +kernel)
theorem ml_RX5_249 : Cond.methodLink RX5 249 yX5_doorOfWay ∈ gt := gt_mem 412 (by decide +kernel) (by decide +kernel)
theorem ml_RX5_312 : Cond.methodLink RX5 312 yX1_obstacle ∈ gt := gt_mem 416 (by decide +kernel) (by decide +kernel)
theorem ml_RX5_255 : Cond.methodLink RX5 255 yX5_ruleOfWay ∈ gt := gt_mem 420 (by decide +kernel) (by decide +kernel)
theorem ml_RX5_204 : Cond.methodLink RX5 204 yX5_leadsTo ∈ gt := gt_mem 424 (by decide +kernel) (by decide +kernel)
theorem ml_RX5_252 : Cond.methodLink RX5 252 yX1_sideFrom ∈ gt := gt_mem 428 (by decide +kernel) (by decide +kernel)
theorem ml_RX5_258 : Cond.methodLink RX5 258 yX2_current ∈ gt := gt_mem 432 (by decide +kernel) (by decide +kernel)
theorem ml_RX5_301 : Cond.methodLink RX5 301 yX5_takeTurn ∈ gt := gt_mem 436 (by decide +kernel) (by decide +kernel)
theorem ml_RX5_315 : Cond.methodLink RX5 315 yX2_advance ∈ gt := gt_mem 440 (by decide +kernel) (by decide +kernel)
theorem ml_RX5_304 : Cond.methodLink RX5 304 yX5_tellOfAll ∈ gt := gt_mem 444 (by decide +kernel) (by decide +kernel)
theorem ml_RX5_318 : Cond.methodLink RX5 318 yX5_goesWith ∈ gt := gt_mem 448 (by decide +kernel) (by decide +kernel)
theorem ml_RX5_322 : Cond.methodLink RX5 322 yX5_tellOthersIn ∈ gt := gt_mem 451 (by decide +kernel) (by decide +kernel)
theorem ml_RX5_326 : Cond.methodLink RX5 326 yX0_hear ∈ gt := gt_mem 455 (by decide +kernel) (by decide +kernel)
theorem ml_RX0_25 : Cond.methodLink RX0 25 arraycopyName ∈ gt := gt_mem 459 (by decide +kernel) (by decide +kernel)
theorem ml_RX5_308 : Cond.methodLink RX5 308 yX5_moveAll ∈ gt := gt_mem 462 (by decide +kernel) (by decide +kernel)
theorem ml_RL_74 : Cond.methodLink RL 74 yX5_push ∈ gt := gt_mem 466 (by decide +kernel) (by decide +kernel)
theorem ml_RL_78 : Cond.methodLink RL 78 yX5_back ∈ gt := gt_mem 470 (by decide +kernel) (by decide +kernel)
theorem ml_RX5_187 : Cond.methodLink RX5 187 yX5_directionBack ∈ gt := gt_mem 474 (by decide +kernel) (by decide +kernel)
theorem ml_RL_82 : Cond.methodLink RL 82 yX5_follow ∈ gt := gt_mem 478 (by decide +kernel) (by decide +kernel)
theorem ml_RX5_194 : Cond.methodLink RX5 194 yX5_searchFrom ∈ gt := gt_mem 482 (by decide +kernel) (by decide +kernel)
theorem ml_RX5_262 : Cond.methodLink RX5 262 yX3_begin ∈ gt := gt_mem 486 (by decide +kernel) (by decide +kernel)
theorem ml_RX3_24 : Cond.methodLink RX3 24 yJ7_fill_53178 ∈ gt := gt_mem 490 (by decide +kernel) (by decide +kernel)
theorem ml_RX3_34 : Cond.methodLink RX3 34 yX3_isNumber ∈ gt := gt_mem 491 (by decide +kernel) (by decide +kernel)
theorem ml_RX5_271 : Cond.methodLink RX5 271 yX3_reach ∈ gt := gt_mem 494 (by decide +kernel) (by decide +kernel)
theorem ml_RX5_198 : Cond.methodLink RX5 198 yX3_stepsTo ∈ gt := gt_mem 498 (by decide +kernel) (by decide +kernel)
theorem ml_RX5_201 : Cond.methodLink RX5 201 yX3_directionOfStep ∈ gt := gt_mem 502 (by decide +kernel) (by decide +kernel)
theorem ml_RX3_38 : Cond.methodLink RX3 38 yX3_stepsTo ∈ gt := gt_mem 506 (by decide +kernel) (by decide +kernel)
theorem ml_RL_86 : Cond.methodLink RL 86 yX5_route ∈ gt := gt_mem 507 (by decide +kernel) (by decide +kernel)
theorem ml_RL_90 : Cond.methodLink RL 90 yX5_way ∈ gt := gt_mem 511 (by decide +kernel) (by decide +kernel)
theorem ml_RL_94 : Cond.methodLink RL 94 yX5_leads ∈ gt := gt_mem 515 (by decide +kernel) (by decide +kernel)
theorem ml_RL_98 : Cond.methodLink RL 98 yX5_state ∈ gt := gt_mem 519 (by decide +kernel) (by decide +kernel)
theorem ml_RL_102 : Cond.methodLink RL 102 yX5_thingIs ∈ gt := gt_mem 523 (by decide +kernel) (by decide +kernel)
theorem ml_RX5_213 : Cond.methodLink RX5 213 yX5_placeOfThing ∈ gt := gt_mem 527 (by decide +kernel) (by decide +kernel)
theorem ml_RX5_292 : Cond.methodLink RX5 292 yX5_leastRoomOf ∈ gt := gt_mem 531 (by decide +kernel) (by decide +kernel)
theorem ml_RX5_220 : Cond.methodLink RX5 220 yX5_orNoSuch ∈ gt := gt_mem 535 (by decide +kernel) (by decide +kernel)
theorem ml_RL_106 : Cond.methodLink RL 106 yX5_beingIs ∈ gt := gt_mem 538 (by decide +kernel) (by decide +kernel)
theorem ml_RL_110 : Cond.methodLink RL 110 yX5_news ∈ gt := gt_mem 542 (by decide +kernel) (by decide +kernel)
theorem ml_RL_114 : Cond.methodLink RL 114 yX5_here ∈ gt := gt_mem 546 (by decide +kernel) (by decide +kernel)
theorem ml_RX5_238 : Cond.methodLink RX5 238 yX5_isBeingHere ∈ gt := gt_mem 550 (by decide +kernel) (by decide +kernel)
theorem ml_RL_119 : Cond.methodLink RL 119 yX5_count ∈ gt := gt_mem 553 (by decide +kernel) (by decide +kernel)
theorem ml_RX5_242 : Cond.methodLink RX5 242 yX5_countWays ∈ gt := gt_mem 557 (by decide +kernel) (by decide +kernel)
theorem ml_RL_12 : Cond.methodLink RL 12 yX6_init ∈ gt := gt_mem 563 (by decide +kernel) (by decide +kernel)
theorem ml_RX6_1 : Cond.methodLink RX6 1 objectInit ∈ gt := gt_mem 566 (by decide +kernel) (by decide +kernel)
theorem ml_RL_17 : Cond.methodLink RL 17 yX6_room ∈ gt := gt_mem 650 (by decide +kernel) (by decide +kernel)
theorem ml_RL_22 : Cond.methodLink RL 22 yX6_door ∈ gt := gt_mem 654 (by decide +kernel) (by decide +kernel)
theorem ml_RX6_97 : Cond.methodLink RX6 97 yX6_isRoom ∈ gt := gt_mem 658 (by decide +kernel) (by decide +kernel)
theorem ml_RX6_84 : Cond.methodLink RX6 84 yX6_in ∈ gt := gt_mem 662 (by decide +kernel) (by decide +kernel)
theorem ml_RL_27 : Cond.methodLink RL 27 yX6_exit ∈ gt := gt_mem 665 (by decide +kernel) (by decide +kernel)
theorem ml_RX6_108 : Cond.methodLink RX6 108 yX6_mayBe ∈ gt := gt_mem 669 (by decide +kernel) (by decide +kernel)
theorem ml_RX6_101 : Cond.methodLink RX6 101 yX6_isDoor ∈ gt := gt_mem 673 (by decide +kernel) (by decide +kernel)
theorem ml_RX6_104 : Cond.methodLink RX6 104 yX6_isSide ∈ gt := gt_mem 677 (by decide +kernel) (by decide +kernel)
theorem ml_RL_31 : Cond.methodLink RL 31 yX6_width ∈ gt := gt_mem 681 (by decide +kernel) (by decide +kernel)
theorem ml_RL_35 : Cond.methodLink RL 35 yX6_turn ∈ gt := gt_mem 685 (by decide +kernel) (by decide +kernel)
theorem ml_RL_40 : Cond.methodLink RL 40 yX6_region ∈ gt := gt_mem 689 (by decide +kernel) (by decide +kernel)
theorem ml_RL_44 : Cond.methodLink RL 44 yX6_lock ∈ gt := gt_mem 693 (by decide +kernel) (by decide +kernel)
theorem ml_RX6_111 : Cond.methodLink RX6 111 yX6_isThing ∈ gt := gt_mem 697 (by decide +kernel) (by decide +kernel)
theorem ml_RL_48 : Cond.methodLink RL 48 yX6_thing ∈ gt := gt_mem 701 (by decide +kernel) (by decide +kernel)
theorem ml_RL_52 : Cond.methodLink RL 52 yX6_floats ∈ gt := gt_mem 705 (by decide +kernel) (by decide +kernel)
theorem ml_RL_57 : Cond.methodLink RL 57 yX6_being ∈ gt := gt_mem 709 (by decide +kernel) (by decide +kernel)
theorem ml_RL_118 : Cond.methodLink RL 118 yX6_here ∈ gt := gt_mem 713 (by decide +kernel) (by decide +kernel)
theorem ml_RX6_123 : Cond.methodLink RX6 123 yX6_isBeing ∈ gt := gt_mem 717 (by decide +kernel) (by decide +kernel)
theorem ml_RX6_126 : Cond.methodLink RX6 126 yX6_hasDoor ∈ gt := gt_mem 721 (by decide +kernel) (by decide +kernel)
theorem ml_RX6_117 : Cond.methodLink RX6 117 yX6_isShutIn ∈ gt := gt_mem 725 (by decide +kernel) (by decide +kernel)
theorem ml_RX6_129 : Cond.methodLink RX6 129 yX6_hasThing ∈ gt := gt_mem 729 (by decide +kernel) (by decide +kernel)
theorem ml_RX6_114 : Cond.methodLink RX6 114 yX6_holds ∈ gt := gt_mem 733 (by decide +kernel) (by decide +kernel)
theorem ml_RX6_120 : Cond.methodLink RX6 120 yX6_isThingIn ∈ gt := gt_mem 737 (by decide +kernel) (by decide +kernel)
theorem ml_RL_61 : Cond.methodLink RL 61 yX6_act ∈ gt := gt_mem 741 (by decide +kernel) (by decide +kernel)
theorem ml_RX6_135 : Cond.methodLink RX6 135 yX6_actText ∈ gt := gt_mem 745 (by decide +kernel) (by decide +kernel)
theorem ml_RX6_132 : Cond.methodLink RX6 132 yX6_holdsOther ∈ gt := gt_mem 749 (by decide +kernel) (by decide +kernel)
theorem ml_RL_65 : Cond.methodLink RL 65 yX6_handle ∈ gt := gt_mem 753 (by decide +kernel) (by decide +kernel)
theorem ml_RX6_143 : Cond.methodLink RX6 143 yX6_handleText ∈ gt := gt_mem 757 (by decide +kernel) (by decide +kernel)
theorem ml_RX6_139 : Cond.methodLink RX6 139 yX6_held ∈ gt := gt_mem 761 (by decide +kernel) (by decide +kernel)
theorem ml_RL_69 : Cond.methodLink RL 69 yX6_leave ∈ gt := gt_mem 765 (by decide +kernel) (by decide +kernel)
theorem ml_RL_73 : Cond.methodLink RL 73 yX6_go ∈ gt := gt_mem 769 (by decide +kernel) (by decide +kernel)
theorem ml_RX6_171 : Cond.methodLink RX6 171 yX6_goBy ∈ gt := gt_mem 773 (by decide +kernel) (by decide +kernel)
theorem ml_RX6_161 : Cond.methodLink RX6 161 yX6_wayText ∈ gt := gt_mem 777 (by decide +kernel) (by decide +kernel)
theorem ml_RX6_150 : Cond.methodLink RX6 150 yX6_leadsTo ∈ gt := gt_mem 781 (by decide +kernel) (by decide +kernel)
theorem ml_RX6_146 : Cond.methodLink RX6 146 yX6_otherSide ∈ gt := gt_mem 785 (by decide +kernel) (by decide +kernel)
theorem ml_RX6_164 : Cond.methodLink RX6 164 yX6_insideOf ∈ gt := gt_mem 789 (by decide +kernel) (by decide +kernel)
theorem ml_RX6_167 : Cond.methodLink RX6 167 yX6_move ∈ gt := gt_mem 793 (by decide +kernel) (by decide +kernel)
theorem ml_RX6_157 : Cond.methodLink RX6 157 yX6_tellIn ∈ gt := gt_mem 797 (by decide +kernel) (by decide +kernel)
theorem ml_RX6_153 : Cond.methodLink RX6 153 yX6_tell ∈ gt := gt_mem 801 (by decide +kernel) (by decide +kernel)
theorem ml_RL_77 : Cond.methodLink RL 77 yX6_push ∈ gt := gt_mem 805 (by decide +kernel) (by decide +kernel)
theorem ml_RL_81 : Cond.methodLink RL 81 yX6_back ∈ gt := gt_mem 809 (by decide +kernel) (by decide +kernel)
theorem ml_RL_85 : Cond.methodLink RL 85 yX6_follow ∈ gt := gt_mem 813 (by decide +kernel) (by decide +kernel)
theorem ml_RX6_174 : Cond.methodLink RX6 174 yX6_measure ∈ gt := gt_mem 817 (by decide +kernel) (by decide +kernel)
theorem ml_RX6_178 : Cond.methodLink RX6 178 yX6_step ∈ gt := gt_mem 821 (by decide +kernel) (by decide +kernel)
theorem ml_RL_89 : Cond.methodLink RL 89 yX6_route ∈ gt := gt_mem 825 (by decide +kernel) (by decide +kernel)
theorem ml_RL_93 : Cond.methodLink RL 93 yX6_way ∈ gt := gt_mem 829 (by decide +kernel) (by decide +kernel)
theorem ml_RL_97 : Cond.methodLink RL 97 yX6_leads ∈ gt := gt_mem 833 (by decide +kernel) (by decide +kernel)
theorem ml_RL_101 : Cond.methodLink RL 101 yX6_state ∈ gt := gt_mem 837 (by decide +kernel) (by decide +kernel)
theorem ml_RL_105 : Cond.methodLink RL 105 yX6_thingIs ∈ gt := gt_mem 841 (by decide +kernel) (by decide +kernel)
theorem ml_RX6_181 : Cond.methodLink RX6 181 yX6_leastOf ∈ gt := gt_mem 845 (by decide +kernel) (by decide +kernel)
theorem ml_RL_109 : Cond.methodLink RL 109 yX6_beingIs ∈ gt := gt_mem 849 (by decide +kernel) (by decide +kernel)
theorem ml_RL_113 : Cond.methodLink RL 113 yX6_news ∈ gt := gt_mem 853 (by decide +kernel) (by decide +kernel)
theorem ml_RL_122 : Cond.methodLink RL 122 yX6_count ∈ gt := gt_mem 857 (by decide +kernel) (by decide +kernel)
theorem oi_i : Cond.instanceMethod objectInit ∈ gt := gt_mem 70 (by decide +kernel) (by decide +kernel)
theorem oi_c : Cond.code objectInit ⟨#[0xb1]⟩ 1 none ∈ gt := gt_mem 71 (by decide +kernel) (by decide +kernel)
theorem ac_n : Cond.native arraycopyName ∈ gt := gt_mem 461 (by decide +kernel) (by decide +kernel)
theorem ac_s : Cond.static arraycopyName ∈ gt := gt_mem 460 (by decide +kernel) (by decide +kernel)
theorem ac_i : Cond.initialized "java/lang/System" ∈ gt := gt_mem 63 (by decide +kernel) (by decide +kernel)
theorem fg_RX3_9 : FG RX3 9 3 0 := ⟨_, rfl, by decide, gt_mem 86 (by decide +kernel) (by decide +kernel)⟩
theorem fl_RX3_9 : FL RX3 9 3 0 (.array .int) true := ⟨_, rfl, by decide, gt_mem 86 (by decide +kernel) (by decide +kernel), by decide +kernel, rfl, fun _ => rfl⟩
theorem fg_RX5_268 : FG RX5 268 3 0 := ⟨_, rfl, by decide, gt_mem 87 (by decide +kernel) (by decide +kernel)⟩
theorem fg_RX3_15 : FG RX3 15 3 1 := ⟨_, rfl, by decide, gt_mem 88 (by decide +kernel) (by decide +kernel)⟩
theorem fl_RX3_15 : FL RX3 15 3 1 (.array .int) true := ⟨_, rfl, by decide, gt_mem 88 (by decide +kernel) (by decide +kernel), by decide +kernel, rfl, fun _ => rfl⟩
theorem fg_RX3_18 : FG RX3 18 3 2 := ⟨_, rfl, by decide, gt_mem 89 (by decide +kernel) (by decide +kernel)⟩
theorem fl_RX3_18 : FL RX3 18 3 2 (.array .int) true := ⟨_, rfl, by decide, gt_mem 89 (by decide +kernel) (by decide +kernel), by decide +kernel, rfl, fun _ => rfl⟩
theorem fg_RX3_21 : FG RX3 21 3 3 := ⟨_, rfl, by decide, gt_mem 90 (by decide +kernel) (by decide +kernel)⟩
theorem fl_RX3_21 : FL RX3 21 3 3 (.array .int) true := ⟨_, rfl, by decide, gt_mem 90 (by decide +kernel) (by decide +kernel), by decide +kernel, rfl, fun _ => rfl⟩
theorem fg_RX3_30 : FG RX3 30 3 4 := ⟨_, rfl, by decide, gt_mem 91 (by decide +kernel) (by decide +kernel)⟩
theorem fl_RX3_30 : FL RX3 30 3 4 .int false := ⟨_, rfl, by decide, gt_mem 91 (by decide +kernel) (by decide +kernel), by decide +kernel, rfl, fun h => by cases h⟩
theorem fg_RX5_265 : FG RX5 265 3 4 := ⟨_, rfl, by decide, gt_mem 92 (by decide +kernel) (by decide +kernel)⟩
theorem fl_RX5_265 : FL RX5 265 3 4 .int false := ⟨_, rfl, by decide, gt_mem 92 (by decide +kernel) (by decide +kernel), by decide +kernel, rfl, fun h => by cases h⟩
theorem fg_RX2_9 : FG RX2 9 2 0 := ⟨_, rfl, by decide, gt_mem 113 (by decide +kernel) (by decide +kernel)⟩
theorem fl_RX2_9 : FL RX2 9 2 0 (.array .int) true := ⟨_, rfl, by decide, gt_mem 113 (by decide +kernel) (by decide +kernel), by decide +kernel, rfl, fun _ => rfl⟩
theorem fg_RX2_15 : FG RX2 15 2 1 := ⟨_, rfl, by decide, gt_mem 114 (by decide +kernel) (by decide +kernel)⟩
theorem fl_RX2_15 : FL RX2 15 2 1 .int false := ⟨_, rfl, by decide, gt_mem 114 (by decide +kernel) (by decide +kernel), by decide +kernel, rfl, fun h => by cases h⟩
theorem fg_RX5_89 : FG RX5 89 2 1 := ⟨_, rfl, by decide, gt_mem 115 (by decide +kernel) (by decide +kernel)⟩
theorem fl_RX5_89 : FL RX5 89 2 1 .int false := ⟨_, rfl, by decide, gt_mem 115 (by decide +kernel) (by decide +kernel), by decide +kernel, rfl, fun h => by cases h⟩
theorem fg_RX2_19 : FG RX2 19 2 2 := ⟨_, rfl, by decide, gt_mem 116 (by decide +kernel) (by decide +kernel)⟩
theorem fl_RX2_19 : FL RX2 19 2 2 .int false := ⟨_, rfl, by decide, gt_mem 116 (by decide +kernel) (by decide +kernel), by decide +kernel, rfl, fun h => by cases h⟩
theorem fg_RX5_9 : FG RX5 9 5 0 := ⟨_, rfl, by decide, gt_mem 124 (by decide +kernel) (by decide +kernel)⟩
theorem fl_RX5_9 : FL RX5 9 5 0 (.array .int) true := ⟨_, rfl, by decide, gt_mem 124 (by decide +kernel) (by decide +kernel), by decide +kernel, rfl, fun _ => rfl⟩
theorem fg_RX5_13 : FG RX5 13 5 1 := ⟨_, rfl, by decide, gt_mem 125 (by decide +kernel) (by decide +kernel)⟩
theorem fl_RX5_13 : FL RX5 13 5 1 (.array .int) true := ⟨_, rfl, by decide, gt_mem 125 (by decide +kernel) (by decide +kernel), by decide +kernel, rfl, fun _ => rfl⟩
theorem fg_RX5_18 : FG RX5 18 5 2 := ⟨_, rfl, by decide, gt_mem 126 (by decide +kernel) (by decide +kernel)⟩
theorem fl_RX5_18 : FL RX5 18 5 2 (.array (.object "DoorsLocks$Rule")) true := ⟨_, rfl, by decide, gt_mem 126 (by decide +kernel) (by decide +kernel), by decide +kernel, rfl, fun _ => rfl⟩
theorem fg_RX5_22 : FG RX5 22 5 3 := ⟨_, rfl, by decide, gt_mem 127 (by decide +kernel) (by decide +kernel)⟩
theorem fl_RX5_22 : FL RX5 22 5 3 (.array .int) true := ⟨_, rfl, by decide, gt_mem 127 (by decide +kernel) (by decide +kernel), by decide +kernel, rfl, fun _ => rfl⟩
theorem fg_RX5_27 : FG RX5 27 5 4 := ⟨_, rfl, by decide, gt_mem 128 (by decide +kernel) (by decide +kernel)⟩
theorem fl_RX5_27 : FL RX5 27 5 4 (.array (.object "DoorsLocks$Door")) true := ⟨_, rfl, by decide, gt_mem 128 (by decide +kernel) (by decide +kernel), by decide +kernel, rfl, fun _ => rfl⟩
theorem fg_RX5_33 : FG RX5 33 5 5 := ⟨_, rfl, by decide, gt_mem 129 (by decide +kernel) (by decide +kernel)⟩
theorem fl_RX5_33 : FL RX5 33 5 5 (.array (.object "DoorsLocks$Thing")) true := ⟨_, rfl, by decide, gt_mem 129 (by decide +kernel) (by decide +kernel), by decide +kernel, rfl, fun _ => rfl⟩
theorem fg_RX5_39 : FG RX5 39 5 6 := ⟨_, rfl, by decide, gt_mem 130 (by decide +kernel) (by decide +kernel)⟩
theorem fl_RX5_39 : FL RX5 39 5 6 (.array (.object "DoorsLocks$Being")) true := ⟨_, rfl, by decide, gt_mem 130 (by decide +kernel) (by decide +kernel), by decide +kernel, rfl, fun _ => rfl⟩
theorem fg_RX5_46 : FG RX5 46 5 7 := ⟨_, rfl, by decide, gt_mem 131 (by decide +kernel) (by decide +kernel)⟩
theorem fl_RX5_46 : FL RX5 46 5 7 (.object "DoorsLocks$Search") true := ⟨_, rfl, by decide, gt_mem 131 (by decide +kernel) (by decide +kernel), by decide +kernel, rfl, fun _ => rfl⟩
theorem fg_RX5_57 : FG RX5 57 5 8 := ⟨_, rfl, by decide, gt_mem 132 (by decide +kernel) (by decide +kernel)⟩
theorem fl_RX5_57 : FL RX5 57 5 8 .int false := ⟨_, rfl, by decide, gt_mem 132 (by decide +kernel) (by decide +kernel), by decide +kernel, rfl, fun h => by cases h⟩
theorem fg_RX5_65 : FG RX5 65 5 9 := ⟨_, rfl, by decide, gt_mem 133 (by decide +kernel) (by decide +kernel)⟩
theorem fl_RX5_65 : FL RX5 65 5 9 .int false := ⟨_, rfl, by decide, gt_mem 133 (by decide +kernel) (by decide +kernel), by decide +kernel, rfl, fun h => by cases h⟩
theorem fg_RX5_120 : FG RX5 120 5 10 := ⟨_, rfl, by decide, gt_mem 134 (by decide +kernel) (by decide +kernel)⟩
theorem fl_RX5_120 : FL RX5 120 5 10 .int false := ⟨_, rfl, by decide, gt_mem 134 (by decide +kernel) (by decide +kernel), by decide +kernel, rfl, fun h => by cases h⟩
theorem fg_RX5_129 : FG RX5 129 5 11 := ⟨_, rfl, by decide, gt_mem 135 (by decide +kernel) (by decide +kernel)⟩
theorem fl_RX5_129 : FL RX5 129 5 11 .int false := ⟨_, rfl, by decide, gt_mem 135 (by decide +kernel) (by decide +kernel), by decide +kernel, rfl, fun h => by cases h⟩
theorem fg_RX1_9 : FG RX1 9 1 0 := ⟨_, rfl, by decide, gt_mem 178 (by decide +kernel) (by decide +kernel)⟩
theorem fl_RX1_9 : FL RX1 9 1 0 .int true := ⟨_, rfl, by decide, gt_mem 178 (by decide +kernel) (by decide +kernel), by decide +kernel, rfl, fun _ => rfl⟩
theorem fg_RX1_15 : FG RX1 15 1 1 := ⟨_, rfl, by decide, gt_mem 179 (by decide +kernel) (by decide +kernel)⟩
theorem fl_RX1_15 : FL RX1 15 1 1 .int true := ⟨_, rfl, by decide, gt_mem 179 (by decide +kernel) (by decide +kernel), by decide +kernel, rfl, fun _ => rfl⟩
theorem fg_RX5_210 : FG RX5 210 1 1 := ⟨_, rfl, by decide, gt_mem 180 (by decide +kernel) (by decide +kernel)⟩
theorem fg_RX1_18 : FG RX1 18 1 2 := ⟨_, rfl, by decide, gt_mem 181 (by decide +kernel) (by decide +kernel)⟩
theorem fl_RX1_18 : FL RX1 18 1 2 .boolean false := ⟨_, rfl, by decide, gt_mem 181 (by decide +kernel) (by decide +kernel), by decide +kernel, rfl, fun h => by cases h⟩
theorem fg_RX5_207 : FG RX5 207 1 2 := ⟨_, rfl, by decide, gt_mem 182 (by decide +kernel) (by decide +kernel)⟩
theorem fl_RX5_207 : FL RX5 207 1 2 .boolean false := ⟨_, rfl, by decide, gt_mem 182 (by decide +kernel) (by decide +kernel), by decide +kernel, rfl, fun h => by cases h⟩
theorem fg_RX1_22 : FG RX1 22 1 3 := ⟨_, rfl, by decide, gt_mem 183 (by decide +kernel) (by decide +kernel)⟩
theorem fl_RX1_22 : FL RX1 22 1 3 .boolean false := ⟨_, rfl, by decide, gt_mem 183 (by decide +kernel) (by decide +kernel), by decide +kernel, rfl, fun h => by cases h⟩
theorem fg_RX5_116 : FG RX5 116 1 3 := ⟨_, rfl, by decide, gt_mem 184 (by decide +kernel) (by decide +kernel)⟩
theorem fl_RX5_116 : FL RX5 116 1 3 .boolean false := ⟨_, rfl, by decide, gt_mem 184 (by decide +kernel) (by decide +kernel), by decide +kernel, rfl, fun h => by cases h⟩
theorem fg_RX5_112 : FG RX5 112 1 4 := ⟨_, rfl, by decide, gt_mem 185 (by decide +kernel) (by decide +kernel)⟩
theorem fl_RX5_112 : FL RX5 112 1 4 (.object "DoorsLocks$Thing") false := ⟨_, rfl, by decide, gt_mem 185 (by decide +kernel) (by decide +kernel), by decide +kernel, rfl, fun h => by cases h⟩
theorem fg_RX4_15 : FG RX4 15 4 0 := ⟨_, rfl, by decide, gt_mem 269 (by decide +kernel) (by decide +kernel)⟩
theorem fl_RX4_15 : FL RX4 15 4 0 .int true := ⟨_, rfl, by decide, gt_mem 269 (by decide +kernel) (by decide +kernel), by decide +kernel, rfl, fun _ => rfl⟩
theorem fg_RX5_223 : FG RX5 223 4 0 := ⟨_, rfl, by decide, gt_mem 270 (by decide +kernel) (by decide +kernel)⟩
theorem fg_RX4_21 : FG RX4 21 4 1 := ⟨_, rfl, by decide, gt_mem 271 (by decide +kernel) (by decide +kernel)⟩
theorem fl_RX4_21 : FL RX4 21 4 1 .int true := ⟨_, rfl, by decide, gt_mem 271 (by decide +kernel) (by decide +kernel), by decide +kernel, rfl, fun _ => rfl⟩
theorem fg_RX5_109 : FG RX5 109 4 1 := ⟨_, rfl, by decide, gt_mem 272 (by decide +kernel) (by decide +kernel)⟩
theorem fg_RX4_24 : FG RX4 24 4 2 := ⟨_, rfl, by decide, gt_mem 273 (by decide +kernel) (by decide +kernel)⟩
theorem fl_RX4_24 : FL RX4 24 4 2 .int true := ⟨_, rfl, by decide, gt_mem 273 (by decide +kernel) (by decide +kernel), by decide +kernel, rfl, fun _ => rfl⟩
theorem fg_RX5_217 : FG RX5 217 4 2 := ⟨_, rfl, by decide, gt_mem 274 (by decide +kernel) (by decide +kernel)⟩
theorem fg_RX4_18 : FG RX4 18 4 3 := ⟨_, rfl, by decide, gt_mem 275 (by decide +kernel) (by decide +kernel)⟩
theorem fl_RX4_18 : FL RX4 18 4 3 .int false := ⟨_, rfl, by decide, gt_mem 275 (by decide +kernel) (by decide +kernel), by decide +kernel, rfl, fun h => by cases h⟩
theorem fg_RX5_287 : FG RX5 287 4 3 := ⟨_, rfl, by decide, gt_mem 276 (by decide +kernel) (by decide +kernel)⟩
theorem fl_RX5_287 : FL RX5 287 4 3 .int false := ⟨_, rfl, by decide, gt_mem 276 (by decide +kernel) (by decide +kernel), by decide +kernel, rfl, fun h => by cases h⟩
theorem fg_RX4_9 : FG RX4 9 4 4 := ⟨_, rfl, by decide, gt_mem 277 (by decide +kernel) (by decide +kernel)⟩
theorem fl_RX4_9 : FL RX4 9 4 4 .int false := ⟨_, rfl, by decide, gt_mem 277 (by decide +kernel) (by decide +kernel), by decide +kernel, rfl, fun h => by cases h⟩
theorem fg_RX5_126 : FG RX5 126 4 4 := ⟨_, rfl, by decide, gt_mem 278 (by decide +kernel) (by decide +kernel)⟩
theorem fl_RX5_126 : FL RX5 126 4 4 .int false := ⟨_, rfl, by decide, gt_mem 278 (by decide +kernel) (by decide +kernel), by decide +kernel, rfl, fun h => by cases h⟩
theorem fg_RX5_279 : FG RX5 279 4 5 := ⟨_, rfl, by decide, gt_mem 279 (by decide +kernel) (by decide +kernel)⟩
theorem fl_RX5_279 : FL RX5 279 4 5 (.object "DoorsLocks$Being") false := ⟨_, rfl, by decide, gt_mem 279 (by decide +kernel) (by decide +kernel), by decide +kernel, rfl, fun h => by cases h⟩
theorem fg_RX5_173 : FG RX5 173 4 6 := ⟨_, rfl, by decide, gt_mem 280 (by decide +kernel) (by decide +kernel)⟩
theorem fl_RX5_173 : FL RX5 173 4 6 .boolean false := ⟨_, rfl, by decide, gt_mem 280 (by decide +kernel) (by decide +kernel), by decide +kernel, rfl, fun h => by cases h⟩
theorem fg_RX0_19 : FG RX0 19 0 0 := ⟨_, rfl, by decide, gt_mem 309 (by decide +kernel) (by decide +kernel)⟩
theorem fl_RX0_19 : FL RX0 19 0 0 .int true := ⟨_, rfl, by decide, gt_mem 309 (by decide +kernel) (by decide +kernel), by decide +kernel, rfl, fun _ => rfl⟩
theorem fg_RX5_291 : FG RX5 291 0 0 := ⟨_, rfl, by decide, gt_mem 310 (by decide +kernel) (by decide +kernel)⟩
theorem fg_RX0_9 : FG RX0 9 0 1 := ⟨_, rfl, by decide, gt_mem 311 (by decide +kernel) (by decide +kernel)⟩
theorem fl_RX0_9 : FL RX0 9 0 1 (.array .int) true := ⟨_, rfl, by decide, gt_mem 311 (by decide +kernel) (by decide +kernel), by decide +kernel, rfl, fun _ => rfl⟩
theorem fg_RX5_235 : FG RX5 235 0 1 := ⟨_, rfl, by decide, gt_mem 312 (by decide +kernel) (by decide +kernel)⟩
theorem fg_RX0_22 : FG RX0 22 0 2 := ⟨_, rfl, by decide, gt_mem 313 (by decide +kernel) (by decide +kernel)⟩
theorem fl_RX0_22 : FL RX0 22 0 2 .int false := ⟨_, rfl, by decide, gt_mem 313 (by decide +kernel) (by decide +kernel), by decide +kernel, rfl, fun h => by cases h⟩
theorem fg_RX5_191 : FG RX5 191 0 2 := ⟨_, rfl, by decide, gt_mem 314 (by decide +kernel) (by decide +kernel)⟩
theorem fl_RX5_191 : FL RX5 191 0 2 .int false := ⟨_, rfl, by decide, gt_mem 314 (by decide +kernel) (by decide +kernel), by decide +kernel, rfl, fun h => by cases h⟩
theorem fg_RX5_229 : FG RX5 229 0 3 := ⟨_, rfl, by decide, gt_mem 315 (by decide +kernel) (by decide +kernel)⟩
theorem fl_RX5_229 : FL RX5 229 0 3 .int false := ⟨_, rfl, by decide, gt_mem 315 (by decide +kernel) (by decide +kernel), by decide +kernel, rfl, fun h => by cases h⟩
theorem fg_RX0_31 : FG RX0 31 0 4 := ⟨_, rfl, by decide, gt_mem 316 (by decide +kernel) (by decide +kernel)⟩
theorem fl_RX0_31 : FL RX0 31 0 4 .int false := ⟨_, rfl, by decide, gt_mem 316 (by decide +kernel) (by decide +kernel), by decide +kernel, rfl, fun h => by cases h⟩
theorem fg_RX5_232 : FG RX5 232 0 4 := ⟨_, rfl, by decide, gt_mem 317 (by decide +kernel) (by decide +kernel)⟩
theorem fl_RX5_232 : FL RX5 232 0 4 .int false := ⟨_, rfl, by decide, gt_mem 317 (by decide +kernel) (by decide +kernel), by decide +kernel, rfl, fun h => by cases h⟩
theorem fg_RX0_15 : FG RX0 15 0 5 := ⟨_, rfl, by decide, gt_mem 318 (by decide +kernel) (by decide +kernel)⟩
theorem fl_RX0_15 : FL RX0 15 0 5 .int false := ⟨_, rfl, by decide, gt_mem 318 (by decide +kernel) (by decide +kernel), by decide +kernel, rfl, fun h => by cases h⟩
theorem fg_RX5_226 : FG RX5 226 0 5 := ⟨_, rfl, by decide, gt_mem 319 (by decide +kernel) (by decide +kernel)⟩
theorem fl_RX5_226 : FL RX5 226 0 5 .int false := ⟨_, rfl, by decide, gt_mem 319 (by decide +kernel) (by decide +kernel), by decide +kernel, rfl, fun h => by cases h⟩
theorem fg_RX5_170 : FG RX5 170 0 6 := ⟨_, rfl, by decide, gt_mem 320 (by decide +kernel) (by decide +kernel)⟩
theorem fl_RX5_170 : FL RX5 170 0 6 (.object "DoorsLocks$Thing") false := ⟨_, rfl, by decide, gt_mem 320 (by decide +kernel) (by decide +kernel), by decide +kernel, rfl, fun h => by cases h⟩
theorem fg_RX6_77 : FG RX6 77 6 0 := ⟨_, rfl, by decide, gt_mem 567 (by decide +kernel) (by decide +kernel)⟩
theorem fl_RX6_77 : FL RX6 77 6 0 .int false := ⟨_, rfl, by decide, gt_mem 567 (by decide +kernel) (by decide +kernel), by decide +kernel, rfl, fun h => by cases h⟩
theorem fg_RX6_81 : FG RX6 81 6 1 := ⟨_, rfl, by decide, gt_mem 568 (by decide +kernel) (by decide +kernel)⟩
theorem fl_RX6_81 : FL RX6 81 6 1 .int false := ⟨_, rfl, by decide, gt_mem 568 (by decide +kernel) (by decide +kernel), by decide +kernel, rfl, fun h => by cases h⟩
theorem fg_RX6_7 : FG RX6 7 6 2 := ⟨_, rfl, by decide, gt_mem 569 (by decide +kernel) (by decide +kernel)⟩
theorem fl_RX6_7 : FL RX6 7 6 2 (.array .int) true := ⟨_, rfl, by decide, gt_mem 569 (by decide +kernel) (by decide +kernel), by decide +kernel, rfl, fun _ => rfl⟩
theorem fg_RX6_13 : FG RX6 13 6 3 := ⟨_, rfl, by decide, gt_mem 570 (by decide +kernel) (by decide +kernel)⟩
theorem fl_RX6_13 : FL RX6 13 6 3 (.array .int) true := ⟨_, rfl, by decide, gt_mem 570 (by decide +kernel) (by decide +kernel), by decide +kernel, rfl, fun _ => rfl⟩
theorem fg_RX6_88 : FG RX6 88 6 4 := ⟨_, rfl, by decide, gt_mem 571 (by decide +kernel) (by decide +kernel)⟩
theorem fl_RX6_88 : FL RX6 88 6 4 .int false := ⟨_, rfl, by decide, gt_mem 571 (by decide +kernel) (by decide +kernel), by decide +kernel, rfl, fun h => by cases h⟩
theorem fg_RX6_16 : FG RX6 16 6 5 := ⟨_, rfl, by decide, gt_mem 572 (by decide +kernel) (by decide +kernel)⟩
theorem fl_RX6_16 : FL RX6 16 6 5 (.array .int) true := ⟨_, rfl, by decide, gt_mem 572 (by decide +kernel) (by decide +kernel), by decide +kernel, rfl, fun _ => rfl⟩
theorem fg_RX6_19 : FG RX6 19 6 6 := ⟨_, rfl, by decide, gt_mem 573 (by decide +kernel) (by decide +kernel)⟩
theorem fl_RX6_19 : FL RX6 19 6 6 (.array .int) true := ⟨_, rfl, by decide, gt_mem 573 (by decide +kernel) (by decide +kernel), by decide +kernel, rfl, fun _ => rfl⟩
theorem fg_RX6_22 : FG RX6 22 6 7 := ⟨_, rfl, by decide, gt_mem 574 (by decide +kernel) (by decide +kernel)⟩
theorem fl_RX6_22 : FL RX6 22 6 7 (.array .int) true := ⟨_, rfl, by decide, gt_mem 574 (by decide +kernel) (by decide +kernel), by decide +kernel, rfl, fun _ => rfl⟩
theorem fg_RX6_25 : FG RX6 25 6 8 := ⟨_, rfl, by decide, gt_mem 575 (by decide +kernel) (by decide +kernel)⟩
theorem fl_RX6_25 : FL RX6 25 6 8 (.array .boolean) true := ⟨_, rfl, by decide, gt_mem 575 (by decide +kernel) (by decide +kernel), by decide +kernel, rfl, fun _ => rfl⟩
theorem fg_RX6_29 : FG RX6 29 6 9 := ⟨_, rfl, by decide, gt_mem 576 (by decide +kernel) (by decide +kernel)⟩
theorem fl_RX6_29 : FL RX6 29 6 9 (.array .boolean) true := ⟨_, rfl, by decide, gt_mem 576 (by decide +kernel) (by decide +kernel), by decide +kernel, rfl, fun _ => rfl⟩
theorem fg_RX6_91 : FG RX6 91 6 10 := ⟨_, rfl, by decide, gt_mem 577 (by decide +kernel) (by decide +kernel)⟩
theorem fl_RX6_91 : FL RX6 91 6 10 .int false := ⟨_, rfl, by decide, gt_mem 577 (by decide +kernel) (by decide +kernel), by decide +kernel, rfl, fun h => by cases h⟩
theorem fg_RX6_32 : FG RX6 32 6 11 := ⟨_, rfl, by decide, gt_mem 578 (by decide +kernel) (by decide +kernel)⟩
theorem fl_RX6_32 : FL RX6 32 6 11 (.array .int) true := ⟨_, rfl, by decide, gt_mem 578 (by decide +kernel) (by decide +kernel), by decide +kernel, rfl, fun _ => rfl⟩
theorem fg_RX6_35 : FG RX6 35 6 12 := ⟨_, rfl, by decide, gt_mem 579 (by decide +kernel) (by decide +kernel)⟩
theorem fl_RX6_35 : FL RX6 35 6 12 (.array .int) true := ⟨_, rfl, by decide, gt_mem 579 (by decide +kernel) (by decide +kernel), by decide +kernel, rfl, fun _ => rfl⟩
theorem fg_RX6_38 : FG RX6 38 6 13 := ⟨_, rfl, by decide, gt_mem 580 (by decide +kernel) (by decide +kernel)⟩
theorem fl_RX6_38 : FL RX6 38 6 13 (.array .int) true := ⟨_, rfl, by decide, gt_mem 580 (by decide +kernel) (by decide +kernel), by decide +kernel, rfl, fun _ => rfl⟩
theorem fg_RX6_41 : FG RX6 41 6 14 := ⟨_, rfl, by decide, gt_mem 581 (by decide +kernel) (by decide +kernel)⟩
theorem fl_RX6_41 : FL RX6 41 6 14 (.array .int) true := ⟨_, rfl, by decide, gt_mem 581 (by decide +kernel) (by decide +kernel), by decide +kernel, rfl, fun _ => rfl⟩
theorem fg_RX6_44 : FG RX6 44 6 15 := ⟨_, rfl, by decide, gt_mem 582 (by decide +kernel) (by decide +kernel)⟩
theorem fl_RX6_44 : FL RX6 44 6 15 (.array .boolean) true := ⟨_, rfl, by decide, gt_mem 582 (by decide +kernel) (by decide +kernel), by decide +kernel, rfl, fun _ => rfl⟩
theorem fg_RX6_94 : FG RX6 94 6 16 := ⟨_, rfl, by decide, gt_mem 583 (by decide +kernel) (by decide +kernel)⟩
theorem fl_RX6_94 : FL RX6 94 6 16 .int false := ⟨_, rfl, by decide, gt_mem 583 (by decide +kernel) (by decide +kernel), by decide +kernel, rfl, fun h => by cases h⟩
theorem fg_RX6_47 : FG RX6 47 6 17 := ⟨_, rfl, by decide, gt_mem 584 (by decide +kernel) (by decide +kernel)⟩
theorem fl_RX6_47 : FL RX6 47 6 17 (.array .int) true := ⟨_, rfl, by decide, gt_mem 584 (by decide +kernel) (by decide +kernel), by decide +kernel, rfl, fun _ => rfl⟩
theorem fg_RX6_50 : FG RX6 50 6 18 := ⟨_, rfl, by decide, gt_mem 585 (by decide +kernel) (by decide +kernel)⟩
theorem fl_RX6_50 : FL RX6 50 6 18 (.array .int) true := ⟨_, rfl, by decide, gt_mem 585 (by decide +kernel) (by decide +kernel), by decide +kernel, rfl, fun _ => rfl⟩
theorem fg_RX6_53 : FG RX6 53 6 19 := ⟨_, rfl, by decide, gt_mem 586 (by decide +kernel) (by decide +kernel)⟩
theorem fl_RX6_53 : FL RX6 53 6 19 (.array .int) true := ⟨_, rfl, by decide, gt_mem 586 (by decide +kernel) (by decide +kernel), by decide +kernel, rfl, fun _ => rfl⟩
theorem fg_RX6_56 : FG RX6 56 6 20 := ⟨_, rfl, by decide, gt_mem 587 (by decide +kernel) (by decide +kernel)⟩
theorem fl_RX6_56 : FL RX6 56 6 20 (.array .int) true := ⟨_, rfl, by decide, gt_mem 587 (by decide +kernel) (by decide +kernel), by decide +kernel, rfl, fun _ => rfl⟩
theorem fg_RX6_59 : FG RX6 59 6 21 := ⟨_, rfl, by decide, gt_mem 588 (by decide +kernel) (by decide +kernel)⟩
theorem fl_RX6_59 : FL RX6 59 6 21 (.array .int) true := ⟨_, rfl, by decide, gt_mem 588 (by decide +kernel) (by decide +kernel), by decide +kernel, rfl, fun _ => rfl⟩
theorem fg_RX6_62 : FG RX6 62 6 22 := ⟨_, rfl, by decide, gt_mem 589 (by decide +kernel) (by decide +kernel)⟩
theorem fl_RX6_62 : FL RX6 62 6 22 (.array .int) true := ⟨_, rfl, by decide, gt_mem 589 (by decide +kernel) (by decide +kernel), by decide +kernel, rfl, fun _ => rfl⟩
theorem fg_RX6_65 : FG RX6 65 6 23 := ⟨_, rfl, by decide, gt_mem 590 (by decide +kernel) (by decide +kernel)⟩
theorem fl_RX6_65 : FL RX6 65 6 23 (.array .int) true := ⟨_, rfl, by decide, gt_mem 590 (by decide +kernel) (by decide +kernel), by decide +kernel, rfl, fun _ => rfl⟩
theorem fg_RX6_68 : FG RX6 68 6 24 := ⟨_, rfl, by decide, gt_mem 591 (by decide +kernel) (by decide +kernel)⟩
theorem fl_RX6_68 : FL RX6 68 6 24 (.array .int) true := ⟨_, rfl, by decide, gt_mem 591 (by decide +kernel) (by decide +kernel), by decide +kernel, rfl, fun _ => rfl⟩
theorem fg_RX6_71 : FG RX6 71 6 25 := ⟨_, rfl, by decide, gt_mem 592 (by decide +kernel) (by decide +kernel)⟩
theorem fl_RX6_71 : FL RX6 71 6 25 (.array .boolean) true := ⟨_, rfl, by decide, gt_mem 592 (by decide +kernel) (by decide +kernel), by decide +kernel, rfl, fun _ => rfl⟩
theorem fg_RX6_74 : FG RX6 74 6 26 := ⟨_, rfl, by decide, gt_mem 593 (by decide +kernel) (by decide +kernel)⟩
theorem fl_RX6_74 : FL RX6 74 6 26 (.array .int) true := ⟨_, rfl, by decide, gt_mem 593 (by decide +kernel) (by decide +kernel), by decide +kernel, rfl, fun _ => rfl⟩
theorem cl_RL_7 : Cond.classLink RL 7 RX5 ∈ gt := gt_mem 64 (by decide +kernel) (by decide +kernel)
theorem cl_RX5_16 : Cond.classLink RX5 16 RX2 ∈ gt := gt_mem 72 (by decide +kernel) (by decide +kernel)
theorem cl_RX5_25 : Cond.classLink RX5 25 RX1 ∈ gt := gt_mem 74 (by decide +kernel) (by decide +kernel)
theorem cl_RX5_31 : Cond.classLink RX5 31 RX4 ∈ gt := gt_mem 76 (by decide +kernel) (by decide +kernel)
theorem cl_RX5_37 : Cond.classLink RX5 37 RX0 ∈ gt := gt_mem 78 (by decide +kernel) (by decide +kernel)
theorem cl_RX5_43 : Cond.classLink RX5 43 RX3 ∈ gt := gt_mem 80 (by decide +kernel) (by decide +kernel)
theorem cl_RL_10 : Cond.classLink RL 10 RX6 ∈ gt := gt_mem 561 (by decide +kernel) (by decide +kernel)
theorem is_RX0 : Cond.instantiable RX0 7 ∈ gt := gt_mem 304 (by decide +kernel) (by decide +kernel)
theorem it_RX0 : Cond.initialized RX0 ∈ gt := gt_mem 62 (by decide +kernel) (by decide +kernel)
theorem is_RX1 : Cond.instantiable RX1 5 ∈ gt := gt_mem 173 (by decide +kernel) (by decide +kernel)
theorem it_RX1 : Cond.initialized RX1 ∈ gt := gt_mem 59 (by decide +kernel) (by decide +kernel)
theorem is_RX2 : Cond.instantiable RX2 3 ∈ gt := gt_mem 108 (by decide +kernel) (by decide +kernel)
theorem it_RX2 : Cond.initialized RX2 ∈ gt := gt_mem 57 (by decide +kernel) (by decide +kernel)
theorem is_RX3 : Cond.instantiable RX3 5 ∈ gt := gt_mem 81 (by decide +kernel) (by decide +kernel)
theorem it_RX3 : Cond.initialized RX3 ∈ gt := gt_mem 55 (by decide +kernel) (by decide +kernel)
theorem is_RX4 : Cond.instantiable RX4 7 ∈ gt := gt_mem 264 (by decide +kernel) (by decide +kernel)
theorem it_RX4 : Cond.initialized RX4 ∈ gt := gt_mem 61 (by decide +kernel) (by decide +kernel)
theorem is_RX5 : Cond.instantiable RX5 12 ∈ gt := gt_mem 65 (by decide +kernel) (by decide +kernel)
theorem it_RX5 : Cond.initialized RX5 ∈ gt := gt_mem 54 (by decide +kernel) (by decide +kernel)
theorem is_RX6 : Cond.instantiable RX6 27 ∈ gt := gt_mem 562 (by decide +kernel) (by decide +kernel)
theorem it_RX6 : Cond.initialized RX6 ∈ gt := gt_mem 58 (by decide +kernel) (by decide +kernel)
theorem ar_i : Cond.arrayClass .int ∈ gt := gt_mem 104 (by decide +kernel) (by decide +kernel)
theorem ar_z : Cond.arrayClass .boolean ∈ gt := gt_mem 649 (by decide +kernel) (by decide +kernel)
theorem cn_265 : Cond.constant RJ6 265 1431655765 ∈ gt := gt_mem 249 (by decide +kernel) (by decide +kernel)
theorem cn_266 : Cond.constant RJ6 266 858993459 ∈ gt := gt_mem 250 (by decide +kernel) (by decide +kernel)
theorem cn_267 : Cond.constant RJ6 267 252645135 ∈ gt := gt_mem 251 (by decide +kernel) (by decide +kernel)
end
section
section CP1
variable {g : GD} {Z : ZT} {H0 : Heap} {nL : Nat} {own nm : String} {cc : ByteArray} {rm : Room} {L : List AE} {k n pc : Nat} {lv : List (Option AV)} {st : List AV}
/-- System.arraycopy within one array of ints -/
theorem V.copyI (C : Cx g Z H0 nL own cc nm rm) {index a N : Nat} {f : Nat → Int32} {sp dp z : Int32} {L' : List AE} (hl : Cond.methodLink own index arraycopyName ∈ gt) (hd : decode cc pc = .ok (.invokestatic index, 3)) (hL : L[a]? = some (eA 0 N f)) (h1 : ¬ sp < 0) (h2 : ¬ dp < 0) (h3 : ¬ z < 0) (h4 : sp.toNatClampNeg + z.toNatClampNeg ≤ N) (h5 : dp.toNatClampNeg + z.toNatClampNeg ≤ N) (hrm : 1 ≤ rm.frames ∧ 40 ≤ rm.locals) (hst : st.length ≤ 8)
    (hs : L.set a (eA 0 N (va_cpy f f sp.toNatClampNeg dp.toNatClampNeg z.toNatClampNeg)) = L') (kk : V g Z H0 nL L' k n (pc + 3) lv st) : V g Z H0 nL L k n pc lv (aI z :: aI dp :: aR a :: aI sp :: aR a :: st) := by
  obtain ⟨p, l, e, s, m, args, below, meth, c, QQ, rfl, rfl, hx, hb, hml, hown, hts, hK, hnm, hg0⟩ := C
  subst hs
  intro H locs ls hH hS hlv T hT X
  have nn : ∀ z : Int32, ¬ z < 0 → z.toInt = (z.toNatClampNeg : Int) := by
    intro z hz
    have hz0 : (0 : Int) ≤ z.toInt := by
      have := Int32.not_lt.mp hz
      simpa using Int32.le_iff_toInt_le.mp this
    show z.toInt = ((z.toInt.toNat : Nat) : Int)
    omega
  have hnf : nativeFrameWords "java/lang/System" "arraycopy" 5 = 7 := by decide +kernel
  have hc0 : H[g.2.2.1 + a]? = some (vp_cell (g.2.1 0) (N, .inl f)) := hH.2 a _ hL
  obtain ⟨-, k0, hk0, cm0, hkk0⟩ := (hK.1.2 0 (g.2.1 0, .int) rfl).1 N (fun j => .int (f j))
  obtain ⟨vm', X', step⟩ := X.arraycopy hx hown (hts _ hl) (hts _ ac_n) (hts _ ac_s) (hts _ ac_i) (src := g.2.2.1 + a) (dst := g.2.2.1 + a) (cs := vp_cell (g.2.1 0) (N, .inl f)) (cd := vp_cell (g.2.1 0) (N, .inl f)) (srcPos := sp) (destPos := dp) (n := z) (by rw [hT]; exact hc0) (by rw [hT]; exact hc0)
    (fun _ h => by cases h) (fun _ h => by cases h) (fun h => by cases h) (fun h => by cases h) hk0 hk0 hkk0 hkk0 (by simp [refKind]) h1 h2 h3
    (by rw [nn sp h1, nn z h3]; show ¬ _ > ((arrV (g.2.1 0) N (fun j => .int (f j))).slots.size : Int); rw [arrV_size]; omega)
    (by rw [nn dp h2, nn z h3]; show ¬ _ > ((arrV (g.2.1 0) N (fun j => .int (f j))).slots.size : Int); rw [arrV_size]; omega)
    (fun vm₁ _ i hi => by
      have e : (vp_cell (g.2.1 0) (N, .inl f)).slots.getD (sp.toNatClampNeg + i) .null = .int (f (sp.toNatClampNeg + i)) := by
        show (arrV (g.2.1 0) N (fun j => .int (f j))).slots.getD _ _ = _
        rw [Array.getD_eq_getD_getElem?, arrV_read _ _ (by omega)]
        rfl
      refine ⟨?_, ?_⟩
      · rw [e]; rfl
      · rw [e]
        exact trivial)
    (g := F0 m pc ls ((aI z :: aI dp :: aR a :: aI sp :: aR a :: st).map (toV g))) rfl (by show ls.size = _; rw [hml]; exact hlv.1) (rest := st.map (toV g)) rfl (by rw [hb]; exact hd) hrm.1 (by show 2 * 0 + _ + _ ≤ _; rw [cat_sum, hnf]; omega)
  have e1 : copied (vp_cell (g.2.1 0) (N, .inl f)) (vp_cell (g.2.1 0) (N, .inl f)) sp dp z = vp_cell (g.2.1 0) (N, .inl (va_cpy f f sp.toNatClampNeg dp.toNatClampNeg z.toNatClampNeg)) := va_copied (fun z => .int z) (g.2.1 0) (g.2.1 0) f f h4
  rw [e1] at X' step
  have hlt : g.2.2.1 + a < H.size := (Array.getElem?_eq_some_iff.mp hc0).1
  have hheap : ((T.setVm vm').setCell (g.2.2.1 + a) (vp_cell (g.2.1 0) (N, .inl (va_cpy f f sp.toNatClampNeg dp.toNatClampNeg z.toNatClampNeg)))).heap = H.setIfInBounds (g.2.2.1 + a) (vp_cell (g.2.1 0) (N, .inl (va_cpy f f sp.toNatClampNeg dp.toNatClampNeg z.toNatClampNeg))) := by rw [← hT]; rfl
  have oq : ∀ q : Nat, q ≠ g.2.2.1 + a → (H.setIfInBounds (g.2.2.1 + a) (vp_cell (g.2.1 0) (N, .inl (va_cpy f f sp.toNatClampNeg dp.toNatClampNeg z.toNatClampNeg))))[q]? = H[q]? := fun q hq => by simp [Array.getElem?_setIfInBounds, Ne.symm hq]
  obtain ⟨t, a1, b1⟩ := kk _ _ ls (hH.set (k := a) (e := eA 0 N (va_cpy f f sp.toNatClampNeg dp.toNatClampNeg z.toNatClampNeg)) (show (H.setIfInBounds (g.2.2.1 + a) _)[g.2.2.1 + a]? = some _ by simp [Array.getElem?_setIfInBounds, hlt]) (by simp) oq) ⟨by simp; exact hS.1, fun q g1 g2 => by
      rw [oq q (fun e => g2 (by rw [e]; exact Nat.le_add_right _ _))]
      exact hS.2.1 q g1 g2, fun q hq => by
      rcases List.mem_append.mp hq with h | h
      · exact hS.2.2 q h
      · obtain ⟨w, -, hw⟩ := List.mem_map.mp h
        rw [← hw]
        exact Nat.le_add_right _ _⟩ hlv _ hheap X'
  exact ⟨t, step t a1, b1⟩
end CP1
end
section
/-! truth values, numbers within -/
noncomputable def cI {α : Type} (p : Prop) (a b : α) : α := @ite α p (Classical.propDecidable p) a b
theorem cI_t {α : Type} {p : Prop} {a b : α} (h : p) : cI p a b = a := if_pos h
theorem cI_f {α : Type} {p : Prop} {a b : α} (h : ¬ p) : cI p a b = b := if_neg h
theorem cI_iff {α : Type} {p q : Prop} {a b : α} (h : p ↔ q) : cI p a b = cI q a b := by rw [propext h]
noncomputable def b2 (p : Prop) : Int32 := cI p 1 0
theorem b2_t {p : Prop} (h : p) : b2 p = 1 := cI_t h
theorem b2_f {p : Prop} (h : ¬ p) : b2 p = 0 := cI_f h
theorem b2_01 (p : Prop) : b2 p = 0 ∨ b2 p = 1 := by
  by_cases h : p
  · exact Or.inr (b2_t h)
  · exact Or.inl (b2_f h)
theorem b2_nar (p : Prop) : narrow .boolean (.int (b2 p)) = .int (b2 p) := by
  rcases b2_01 p with h | h <;> rw [h] <;> rfl
theorem b2_iff {p q : Prop} (h : p ↔ q) : b2 p = b2 q := by rw [propext h]
abbrev isN (x : Int32) (n : Nat) : Prop := 0 ≤ x.toInt ∧ x.toInt < (n : Int)
theorem isN_iff (x : Int32) (n : Nat) : isN x n ↔ (0 ≤ x.toInt ∧ x.toInt < n) := Iff.rfl
theorem isN_ex {x : Int32} {n : Nat} (h : isN x n) (hn : n < 2 ^ 31) : ∃ j : Nat, j < n ∧ x = nI j := by
  obtain ⟨h1, h2⟩ := h
  have h3 : ¬ x < 0 := by
    intro q
    have := Int32.lt_iff_toInt_lt.mp q
    simp at this
    omega
  obtain ⟨j, hj, rfl⟩ := nI_of h3
  rw [nI_toInt hj] at h2
  exact ⟨j, by omega, rfl⟩
theorem isN_nI {j n : Nat} (hj : j < n) (hn : n < 2 ^ 31) : isN (nI j) n := by
  unfold isN
  rw [nI_toInt (by omega)]
  omega
theorem isN_lt {x : Int32} {n : Nat} (hn : n < 2 ^ 31) : isN x n ↔ ¬ x < 0 ∧ x < nI n := by
  unfold isN
  rw [Int32.lt_iff_toInt_lt, Int32.lt_iff_toInt_lt, nI_toInt hn]
  simp
theorem isN_not {x : Int32} {n : Nat} (hn : n < 2 ^ 31) (h : ¬ isN x n) : x < 0 ∨ nI n ≤ x := by
  rw [isN_lt hn] at h
  by_cases h0 : x < 0
  · exact Or.inl h0
  · exact Or.inr (Int32.not_lt.mp (fun q => h ⟨h0, q⟩))
theorem isN_cases (x : Int32) (n : Nat) (hn : n < 2 ^ 31) : (∃ j : Nat, j < n ∧ x = nI j) ∨ ¬ isN x n := by
  by_cases h : isN x n
  · exact Or.inl (isN_ex h hn)
  · exact Or.inr h
theorem nI_inj {a b : Nat} (ha : a < 2 ^ 31) (hb : b < 2 ^ 31) (h : nI a = nI b) : a = b := (nI_eq ha hb).mp h
theorem pq {v w : Int32} {L : List AE} (h : v = w) : some (aI v) = some (aI w) ∧ L = L := ⟨by rw [h], rfl⟩
theorem RmOk.mk' {y : MD} {rm : Room} {k n : Nat} (a : y.2.2.2.2.frames + 1 ≤ rm.frames) (b : 8 + (y.2.2.1 + 11) + y.2.2.2.2.locals ≤ rm.locals) (c : k + y.2.2.2.2.cells ≤ rm.cells) (d : n + y.2.2.2.2.slots ≤ rm.slots) : RmOk y rm k n := ⟨a, b, c, d⟩
section MR1
variable {g : GD} {Z : ZT} {H0 : Heap} {nL : Nat} {own nm : String} {cc : ByteArray} {rm : Room} {L : List AE} {k n pc : Nat} {lv : List (Option AV)} {st : List AV}
theorem V.top {x x' : Int32} (h : x = x') (kk : V g Z H0 nL L k n pc lv (aI x' :: st)) : V g Z H0 nL L k n pc lv (aI x :: st) := h ▸ kk
theorem V.ialdN (C : Cx g Z H0 nL own cc nm rm) {a N j : Nat} {f : Nat → Int32} (hd : decode cc pc = .ok (.iaload, 1)) (hL : L[a]? = some (eA 0 N f)) (hj : j < N) (hN : N < 2 ^ 31) (kk : V g Z H0 nL L k n (pc + 1) lv (aI (f j) :: st)) : V g Z H0 nL L k n pc lv (aI (nI j) :: aR a :: st) :=
  V.iald C hd hL (vp_in_nI hj hN) (by rw [nI_clamp (by omega)]) kk
theorem V.zaldN (C : Cx g Z H0 nL own cc nm rm) {a N j : Nat} {f : Nat → Int32} (hd : decode cc pc = .ok (.baload, 1)) (hL : L[a]? = some (eA 1 N f)) (hj : j < N) (hN : N < 2 ^ 31) (kk : V g Z H0 nL L k n (pc + 1) lv (aI (f j) :: st)) : V g Z H0 nL L k n pc lv (aI (nI j) :: aR a :: st) :=
  V.zald C hd hL (vp_in_nI hj hN) (by rw [nI_clamp (by omega)]) kk
theorem V.aaldN (C : Cx g Z H0 nL own cc nm rm) {a N j t : Nat} {f : Nat → Option Nat} {o : Option Nat} (ht : 2 ≤ t ∧ t ≤ 5) (hd : decode cc pc = .ok (.aaload, 1)) (hL : L[a]? = some (eQ t N f)) (hj : j < N) (hN : N < 2 ^ 31) (hv : f j = o) (kk : V g Z H0 nL L k n (pc + 1) lv (aO o :: st)) : V g Z H0 nL L k n pc lv (aI (nI j) :: aR a :: st) :=
  V.aald C ht hd hL (vp_in_nI hj hN) (by rw [nI_clamp (by omega)]; exact hv) kk
theorem V.iastN (C : Cx g Z H0 nL own cc nm rm) {a N j : Nat} {f : Nat → Int32} {x : Int32} (hd : decode cc pc = .ok (.iastore, 1)) (hL : L[a]? = some (eA 0 N f)) (hj : j < N) (hN : N < 2 ^ 31) (kk : V g Z H0 nL (L.set a (eA 0 N (upd f j x))) k n (pc + 1) lv st) : V g Z H0 nL L k n pc lv (aI x :: aI (nI j) :: aR a :: st) :=
  V.iast C hd hL (vp_in_nI hj hN) (by rw [nI_clamp (by omega)]) kk
theorem V.zastN (C : Cx g Z H0 nL own cc nm rm) {a N j : Nat} {f : Nat → Int32} {x : Int32} (hd : decode cc pc = .ok (.bastore, 1)) (hL : L[a]? = some (eA 1 N f)) (hj : j < N) (hN : N < 2 ^ 31) (hx : x = 0 ∨ x = 1) (kk : V g Z H0 nL (L.set a (eA 1 N (upd f j x))) k n (pc + 1) lv st) : V g Z H0 nL L k n pc lv (aI x :: aI (nI j) :: aR a :: st) :=
  V.zast C hd hL (vp_in_nI hj hN) hx (by rw [nI_clamp (by omega)]) kk
theorem V.aastN (C : Cx g Z H0 nL own cc nm rm) {a N j t ci v : Nat} {f : Nat → Option Nat} {fs : List AV} {q : vw_C} (ht : 2 ≤ t ∧ t ≤ 5) (hd : decode cc pc = .ok (.aastore, 1)) (hL : L[a]? = some (eQ t N f)) (hv : L[v]? = some (eO ci fs)) (hq : xcl[ci]? = some q) (hqt : q.1 = arC t) (hj : j < N) (hN : N < 2 ^ 31) (kk : V g Z H0 nL (L.set a (eQ t N (va_up f j (some v)))) k n (pc + 1) lv st) : V g Z H0 nL L k n pc lv (aR v :: aI (nI j) :: aR a :: st) :=
  V.aast C ht hd hL hv hq hqt (vp_in_nI hj hN) (by rw [nI_clamp (by omega)]) kk
theorem V.callVp (C : Cx g Z H0 nL own cc nm rm) {index a ci np : Nat} {y : MD} {As rest stk : List AV} {fs : List AV} {q : vw_C} {v : AV} (hm : MO y np) (hi : Cond.instanceMethod y.1 ∈ gt) (hse : Cond.selects y.1.cls y.1 y.1 ∈ gt) (hl : Cond.methodLink own index y.1 ∈ gt) (hev : EvP g y (aR a :: As) L (some v)) (hd : decode cc pc = .ok (.invokevirtual index, 3)) (hstk : stk = As.reverse ++ aR a :: rest) (hlen : As.length = np) (hL : L[a]? = some (eO ci fs)) (hq : xcl[ci]? = some q) (hqn : q.1 = y.1.cls) (hrl : rest.length ≤ 8) (hroom : RmOk y rm k n) (hz : y.2.2.2.2.cells = 0 ∧ y.2.2.2.2.slots = 0)
    (kk : V g Z H0 nL L k n (pc + 3) lv (v :: rest)) : V g Z H0 nL L k n pc lv stk := by
  refine V.callV C hm hi hse hl hev hd hstk hlen hL hq hqn hrl hroom (fun v' L1 h => ?_)
  obtain ⟨rfl, rfl⟩ := h
  rw [hz.1, hz.2]
  exact kk
theorem V.callSp (C : Cx g Z H0 nL own cc nm rm) {index np : Nat} {y : MD} {As rest stk : List AV} {v : AV} (hm : MO y np) (hi : Cond.static y.1 ∈ gt) (hl : Cond.methodLink own index y.1 ∈ gt) (hev : EvP g y As L (some v)) (hd : decode cc pc = .ok (.invokestatic index, 3)) (hstk : stk = As.reverse ++ rest) (hlen : As.length = np) (hrl : rest.length ≤ 8) (hroom : RmOk y rm k n) (hz : y.2.2.2.2.cells = 0 ∧ y.2.2.2.2.slots = 0)
    (kk : V g Z H0 nL L k n (pc + 3) lv (v :: rest)) : V g Z H0 nL L k n pc lv stk := by
  refine V.callS C hm hi hl hev hd hstk hlen hrl hroom (fun v' L1 h => ?_)
  obtain ⟨rfl, rfl⟩ := h
  rw [hz.1, hz.2]
  exact kk
theorem V.ifb_eq (C : Cx g Z H0 nL own cc nm rm) {p : Prop} {off : Int} {tgt : Nat} (hd : decode cc pc = .ok (.ifCond .eq off, 3)) (ht : (pc : Int) + off = (tgt : Int)) (kt : ¬ p → V g Z H0 nL L k n tgt lv st) (kf : p → V g Z H0 nL L k n (pc + 3) lv st) : V g Z H0 nL L k n pc lv (aI (b2 p) :: st) :=
  V.if_eq C hd ht (fun h => kt (fun hp => by rw [b2_t hp] at h; exact absurd h (by decide))) (fun h => kf (Classical.byContradiction fun hp => h (b2_f hp)))
theorem V.ifb_ne (C : Cx g Z H0 nL own cc nm rm) {p : Prop} {off : Int} {tgt : Nat} (hd : decode cc pc = .ok (.ifCond .ne off, 3)) (ht : (pc : Int) + off = (tgt : Int)) (kt : p → V g Z H0 nL L k n tgt lv st) (kf : ¬ p → V g Z H0 nL L k n (pc + 3) lv st) : V g Z H0 nL L k n pc lv (aI (b2 p) :: st) :=
  V.if_ne C hd ht (fun h => kt (Classical.byContradiction fun hp => h (b2_f hp))) (fun h => kf (fun hp => by rw [b2_t hp] at h; exact absurd h (by decide)))
theorem V.norm {a N t : Nat} {f f' : Nat → Int32} (hL : L[a]? = some (eA t N f)) (hf : ∀ j, j < N → f j = f' j) (kk : V g Z H0 nL (L.set a (eA t N f')) k n pc lv st) : V g Z H0 nL L k n pc lv st := by
  intro H locs ls hH hS hlv
  refine kk H locs ls (hH.set (k := a) (e := eA t N f') ?_ rfl (fun _ _ => rfl)) hS hlv
  have h1 : H[g.2.2.1 + a]? = some (vp_cell (g.2.1 t) (N, .inl f)) := hH.2 a _ hL
  show H[g.2.2.1 + a]? = some (vp_cell (g.2.1 t) (N, .inl f'))
  rw [h1, vp_cell_i, vp_cell_i]
  unfold arrV
  congr 2
  congr 1
  funext j
  dsimp only
  rw [hf j.val j.isLt]
theorem V.normQ {a N t : Nat} {f f' : Nat → Option Nat} (hL : L[a]? = some (eQ t N f)) (hf : ∀ j, j < N → f j = f' j) (kk : V g Z H0 nL (L.set a (eQ t N f')) k n pc lv st) : V g Z H0 nL L k n pc lv st := by
  intro H locs ls hH hS hlv
  refine kk H locs ls (hH.set (k := a) (e := eQ t N f') ?_ rfl (fun _ _ => rfl)) hS hlv
  have h1 : H[g.2.2.1 + a]? = some (vp_cell (g.2.1 t) (N, .inr (.inr (.inr (.inr (fun j => (f j).map (fun k => g.2.2.1 + k))))))) := hH.2 a _ hL
  show H[g.2.2.1 + a]? = some (vp_cell (g.2.1 t) (N, .inr (.inr (.inr (.inr (fun j => (f' j).map (fun k => g.2.2.1 + k)))))))
  rw [h1, vp_cell_q, vp_cell_q]
  unfold arrV
  congr 2
  congr 1
  funext j
  dsimp only
  rw [hf j.val j.isLt]
end MR1
theorem set_same {L : List AE} {a : Nat} {e : AE} (h : L[a]? = some e) : L.set a e = L := by
  apply List.ext_getElem?
  intro i
  by_cases hi : i = a
  · subst hi
    rw [List.getElem?_set_self (List.getElem?_eq_some_iff.mp h).1, h]
  · rw [List.getElem?_set_ne (Ne.symm hi)]
theorem get_set {L : List AE} {a : Nat} {e e0 : AE} (h : L[a]? = some e0) : (L.set a e)[a]? = some e := List.getElem?_set_self (List.getElem?_eq_some_iff.mp h).1
theorem get_ne {L : List AE} {a j : Nat} {e : AE} (h : j ≠ a) : (L.set a e)[j]? = L[j]? := List.getElem?_set_ne (Ne.symm h)
end
section
abbrev ST : Type := Nat → Nat → Int32
def up2 (A : ST) (j i : Nat) (x : Int32) : ST := fun j' => if j' = j then upd (A j) i x else A j'
theorem up2_s {A : ST} {j i : Nat} {x : Int32} : up2 A j i x j = upd (A j) i x := if_pos rfl
theorem up2_n {A : ST} {j j' i : Nat} {x : Int32} (h : j' ≠ j) : up2 A j i x j' = A j' := if_neg h
/-- the model's arrays, by their fields: where, of what, how long -/
def mad : Nat → Nat
  | 2 => 24
  | 3 => 25
  | 5 => 26
  | 6 => 27
  | 7 => 28
  | 8 => 29
  | 9 => 30
  | 11 => 31
  | 12 => 32
  | 13 => 33
  | 14 => 34
  | 15 => 35
  | 17 => 36
  | 18 => 37
  | 19 => 38
  | 20 => 39
  | 21 => 40
  | 22 => 41
  | 23 => 42
  | 24 => 43
  | 25 => 44
  | 26 => 45
  | _ => 0
def mty : Nat → Nat
  | 8 => 1
  | 9 => 1
  | 15 => 1
  | 25 => 1
  | _ => 0
def mln : Nat → Nat
  | 2 => 160
  | 3 => 160
  | 5 => 15
  | 6 => 15
  | 7 => 15
  | 8 => 15
  | 9 => 15
  | 11 => 30
  | 12 => 30
  | 13 => 30
  | 14 => 30
  | 15 => 30
  | 17 => 6
  | 18 => 6
  | 19 => 6
  | 20 => 48
  | 21 => 6
  | 22 => 20
  | 23 => 5
  | 24 => 5
  | 25 => 140
  | 26 => 20
  | _ => 0
def mis : List Nat := [2, 3, 5, 6, 7, 8, 9, 11, 12, 13, 14, 15, 17, 18, 19, 20, 21, 22, 23, 24, 25, 26]
abbrev mfs (r d t b : Nat) : List AV := [aI 0, aI (nI r), aR 24, aR 25, aI (nI d), aR 26, aR 27, aR 28, aR 29, aR 30, aI (nI t), aR 31, aR 32, aR 33, aR 34, aR 35, aI (nI b), aR 36, aR 37, aR 38, aR 39, aR 40, aR 41, aR 42, aR 43, aR 44, aR 45]
def MR (r d t b : Nat) (A : ST) (L : List AE) : Prop := L[23]? = some (eO 6 (mfs r d t b)) ∧ ∀ j ∈ mis, L[mad j]? = some (eA (mty j) (mln j) (A j))
theorem mad_ok : ∀ j ∈ mis, 24 ≤ mad j ∧ mad j < 46 := by decide
theorem mad_inj : ∀ j ∈ mis, ∀ i ∈ mis, mad j = mad i → j = i := by decide
def FrM (L L' : List AE) : Prop := L'.length = L.length ∧ ∀ k, (k < 23 ∨ 46 ≤ k) → L'[k]? = L[k]?
theorem FrM.rf {L : List AE} : FrM L L := ⟨rfl, fun _ _ => rfl⟩
theorem FrM.tr {L L1 L2 : List AE} (h : FrM L L1) (h2 : FrM L1 L2) : FrM L L2 := ⟨h2.1.trans h.1, fun k hk => (h2.2 k hk).trans (h.2 k hk)⟩
theorem FrM.st {L L1 : List AE} {a : Nat} {e : AE} (h : FrM L L1) (ha : 23 ≤ a ∧ a < 46) : FrM L (L1.set a e) := ⟨by rw [List.length_set]; exact h.1, fun k hk => (get_ne (by omega)).trans (h.2 k hk)⟩
theorem MR.st {r d t b : Nat} {A : ST} {L : List AE} (h : MR r d t b A L) (j : Nat) (hj : j ∈ mis) (i : Nat) (x : Int32) : MR r d t b (up2 A j i x) (L.set (mad j) (eA (mty j) (mln j) (upd (A j) i x))) := by
  have hm := mad_ok j hj
  refine ⟨(get_ne (by omega)).trans h.1, fun j' hj' => ?_⟩
  by_cases e : j' = j
  · subst e
    rw [get_set (h.2 j' hj), up2_s]
  · rw [get_ne (fun q => e (mad_inj j' hj' j hj q)), up2_n e]
    exact h.2 j' hj'
theorem MR.fs {r d t b : Nat} {A : ST} {L : List AE} (h : MR r d t b A L) (r' d' t' b' : Nat) : MR r' d' t' b' A (L.set 23 (eO 6 (mfs r' d' t' b'))) := by
  refine ⟨get_set h.1, fun j' hj' => ?_⟩
  have hm := mad_ok j' hj'
  exact (get_ne (by omega)).trans (h.2 j' hj')
theorem in_isN {x : Int32} {n : Nat} (hn : n < 2 ^ 31) : (0 ≤ x ∧ x ≤ nI n - 1) ↔ isN x n := by
  have h1 : (nI n - 1).toInt = (n : Int) - 1 := by
    rw [Int32.toInt_sub, nI_toInt hn]
    have : (1 : Int32).toInt = 1 := by decide
    rw [this, Int.bmod_eq_of_le] <;> omega
  rw [Int32.le_iff_toInt_le, Int32.le_iff_toInt_le, h1]
  have h0 : (0 : Int32).toInt = 0 := by decide
  rw [h0]
  unfold isN
  omega
theorem in_k {x a c : Int32} {lo : Int} {hi : Int} (ha : a.toInt = lo) (hc : c.toInt = hi) : (a ≤ x ∧ x ≤ c) ↔ (lo ≤ x.toInt ∧ x.toInt ≤ hi) := by
  rw [Int32.le_iff_toInt_le, Int32.le_iff_toInt_le, ha, hc]
end
section
/-! what holds of the numbers at every time -/
def wOk (r d : Nat) (A : ST) (i : Nat) (w : Int32) : Prop := w = -1 ∨ (∃ k, k < r ∧ w = nI k) ∨ (∃ k, k < d ∧ w = nI (100 + k) ∧ (A 5 k = nI i ∨ A 6 k = nI i)) ∨ (∃ k, k < 50 ∧ w = nI (200 + k)) ∨ (∃ k, k < 5 ∧ w = nI (300 + k))
def dOk (r t : Nat) (A : ST) (i : Nat) : Prop := (∃ a, a < r ∧ A 5 i = nI a) ∧ (A 6 i = -1 ∨ ∃ a, a < r ∧ A 6 i = nI a) ∧ A 5 i ≠ A 6 i ∧ (A 7 i = -1 ∨ ∃ k, k < t ∧ A 7 i = nI k ∧ A 11 k = 0) ∧ (A 8 i = 0 ∨ A 8 i = 1) ∧ (A 9 i = 0 ∨ A 9 i = 1)
def tOk (r b : Nat) (A : ST) (i : Nat) : Prop := (∃ k, k < 4 ∧ A 11 i = nI k) ∧ ((∃ k, k < r ∧ A 13 i = nI k) ∨ (∃ w, w < b ∧ A 13 i = nI (100 + w) ∧ A 11 i = 0 ∧ A 14 i = -1)) ∧ (A 14 i = -1 ∨ ∃ k, k < 7 ∧ A 14 i = nI k ∧ A 11 i = 1) ∧ (A 15 i = 0 ∨ A 15 i = 1) ∧ ∃ k, 1 ≤ k ∧ k ≤ 9 ∧ A 12 i = nI k
def bOk (r t : Nat) (A : ST) (i : Nat) : Prop := (∃ k, k < r ∧ A 17 i = nI k) ∧ (A 18 i = -1 ∨ ∃ k, k < t ∧ A 18 i = nI k ∧ (A 11 k = 2 ∨ A 11 k = 3)) ∧ (A 19 i = -1 ∨ ∃ k, k < r ∧ A 19 i = nI k) ∧ ∃ k, k ≤ 8 ∧ A 21 i = nI k
def rOk (r : Nat) (A : ST) (i : Nat) : Prop := ∃ m k, m ≤ 4 ∧ A 23 i = nI m ∧ A 24 i = nI k ∧ (k < m ∨ (m = 0 ∧ k = 0)) ∧ ∀ j, j < m → ∃ x, x < r ∧ A 22 (4 * i + j) = nI x
def Inv (r d t b : Nat) (A : ST) : Prop := (r ≤ 20 ∧ d ≤ 15 ∧ t ≤ 30 ∧ b ≤ 6) ∧ (∀ i j, i < r → j < 8 → wOk r d A i (A 2 (8 * i + j))) ∧ (∀ i, i < d → dOk r t A i) ∧ (∀ i, i < t → tOk r b A i) ∧ (∀ i, i < b → bOk r t A i) ∧ (∀ i, i < 5 → rOk r A i) ∧ (∀ i j, i < 7 → j < 20 → (A 25 (20 * i + j) = 0 ∨ (A 25 (20 * i + j) = 1 ∧ j < r))) ∧ (∀ i, d ≤ i → A 8 i = 0 ∧ A 9 i = 0) ∧ (∀ i, t ≤ i → A 15 i = 0) ∧ ∀ i, b ≤ i → A 21 i = 0 ∧ ∀ j, j < 8 → A 20 (8 * i + j) = 0
section IV
variable {r d t b : Nat} {A : ST}
theorem Inv.cn (h : Inv r d t b A) : r ≤ 20 ∧ d ≤ 15 ∧ t ≤ 30 ∧ b ≤ 6 := h.1
theorem Inv.cw (h : Inv r d t b A) {i j : Nat} (hi : i < r) (hj : j < 8) : wOk r d A i (A 2 (8 * i + j)) := h.2.1 i j hi hj
theorem Inv.cd (h : Inv r d t b A) {i : Nat} (hi : i < d) : dOk r t A i := h.2.2.1 i hi
theorem Inv.ct (h : Inv r d t b A) {i : Nat} (hi : i < t) : tOk r b A i := h.2.2.2.1 i hi
theorem Inv.cb (h : Inv r d t b A) {i : Nat} (hi : i < b) : bOk r t A i := h.2.2.2.2.1 i hi
theorem Inv.cr (h : Inv r d t b A) {i : Nat} (hi : i < 5) : rOk r A i := h.2.2.2.2.2.1 i hi
theorem Inv.cg (h : Inv r d t b A) {i j : Nat} (hi : i < 7) (hj : j < 20) : A 25 (20 * i + j) = 0 ∨ (A 25 (20 * i + j) = 1 ∧ j < r) := h.2.2.2.2.2.2.1 i j hi hj
theorem Inv.zd (h : Inv r d t b A) {i : Nat} (hi : d ≤ i) : A 8 i = 0 ∧ A 9 i = 0 := h.2.2.2.2.2.2.2.1 i hi
theorem Inv.zt (h : Inv r d t b A) {i : Nat} (hi : t ≤ i) : A 15 i = 0 := h.2.2.2.2.2.2.2.2.1 i hi
theorem Inv.zb (h : Inv r d t b A) {i : Nat} (hi : b ≤ i) : A 21 i = 0 ∧ ∀ j, j < 8 → A 20 (8 * i + j) = 0 := h.2.2.2.2.2.2.2.2.2 i hi
end IV
/-! numbers -/
theorem nI_neg {n : Nat} (h : n < 2 ^ 31) : nI n ≠ -1 := by
  intro q
  have := congrArg Int32.toInt q
  rw [nI_toInt h] at this
  have h1 : (-1 : Int32).toInt = -1 := by decide
  omega
theorem nI_mul8 (i j : Nat) : (8 : Int32) * nI i + nI j = nI (8 * i + j) := by
  rw [show (8 : Int32) = nI 8 from rfl, pk_mul, nI_add]
theorem nI_mulk (k i j : Nat) : nI k * nI i + nI j = nI (k * i + j) := by
  rw [pk_mul, nI_add]
theorem i32_lt {x y : Int32} : x < y ↔ x.toInt < y.toInt := Int32.lt_iff_toInt_lt
theorem i32_le {x y : Int32} : x ≤ y ↔ x.toInt ≤ y.toInt := Int32.le_iff_toInt_le
theorem i32_eq {x y : Int32} : x = y ↔ x.toInt = y.toInt := Int32.toInt_inj.symm
theorem tI_k {n : Nat} (h : n < 2 ^ 31) : (nI n).toInt = (n : Int) := nI_toInt h
end
section
section NB
variable {g : GD} {Z : ZT} {H0 : Heap} {nL : Nat} {own nm : String} {cc : ByteArray} {rm : Room} {L : List AE} {k n pc : Nat} {lv : List (Option AV)} {st : List AV}
theorem V.icmpN_eq (C : Cx g Z H0 nL own cc nm rm) (x y : Nat) {off : Int} {tgt : Nat} (hd : decode cc pc = .ok (.if_icmp .eq off, 3)) (ht : (pc : Int) + off = (tgt : Int)) (hx : x < 2 ^ 31) (hy : y < 2 ^ 31) (kt : x = y → V g Z H0 nL L k n tgt lv st) (kf : ¬ x = y → V g Z H0 nL L k n (pc + 3) lv st) : V g Z H0 nL L k n pc lv (aI (nI y) :: aI (nI x) :: st) :=
  V.icmp_eq C hd ht (fun h => kt ((nI_eq hx hy).mp h)) (fun h => kf (fun q => h ((nI_eq hx hy).mpr q)))
theorem V.icmpN_ne (C : Cx g Z H0 nL own cc nm rm) (x y : Nat) {off : Int} {tgt : Nat} (hd : decode cc pc = .ok (.if_icmp .ne off, 3)) (ht : (pc : Int) + off = (tgt : Int)) (hx : x < 2 ^ 31) (hy : y < 2 ^ 31) (kt : ¬ x = y → V g Z H0 nL L k n tgt lv st) (kf : x = y → V g Z H0 nL L k n (pc + 3) lv st) : V g Z H0 nL L k n pc lv (aI (nI y) :: aI (nI x) :: st) :=
  V.icmp_ne C hd ht (fun h => kt (fun q => h ((nI_eq hx hy).mpr q))) (fun h => kf ((nI_eq hx hy).mp h))
theorem V.icmpN_lt (C : Cx g Z H0 nL own cc nm rm) (x y : Nat) {off : Int} {tgt : Nat} (hd : decode cc pc = .ok (.if_icmp .lt off, 3)) (ht : (pc : Int) + off = (tgt : Int)) (hx : x < 2 ^ 31) (hy : y < 2 ^ 31) (kt : x < y → V g Z H0 nL L k n tgt lv st) (kf : ¬ x < y → V g Z H0 nL L k n (pc + 3) lv st) : V g Z H0 nL L k n pc lv (aI (nI y) :: aI (nI x) :: st) :=
  V.icmp_lt C hd ht (fun h => kt ((nI_ltI hx hy).mp h)) (fun h => kf (fun q => h ((nI_ltI hx hy).mpr q)))
theorem V.icmpN_ge (C : Cx g Z H0 nL own cc nm rm) (x y : Nat) {off : Int} {tgt : Nat} (hd : decode cc pc = .ok (.if_icmp .ge off, 3)) (ht : (pc : Int) + off = (tgt : Int)) (hx : x < 2 ^ 31) (hy : y < 2 ^ 31) (kt : y ≤ x → V g Z H0 nL L k n tgt lv st) (kf : ¬ y ≤ x → V g Z H0 nL L k n (pc + 3) lv st) : V g Z H0 nL L k n pc lv (aI (nI y) :: aI (nI x) :: st) :=
  V.icmp_ge C hd ht (fun h => kt ((nI_leI hy hx).mp h)) (fun h => kf (fun q => h ((nI_leI hy hx).mpr q)))
theorem V.icmpN_gt (C : Cx g Z H0 nL own cc nm rm) (x y : Nat) {off : Int} {tgt : Nat} (hd : decode cc pc = .ok (.if_icmp .gt off, 3)) (ht : (pc : Int) + off = (tgt : Int)) (hx : x < 2 ^ 31) (hy : y < 2 ^ 31) (kt : y < x → V g Z H0 nL L k n tgt lv st) (kf : ¬ y < x → V g Z H0 nL L k n (pc + 3) lv st) : V g Z H0 nL L k n pc lv (aI (nI y) :: aI (nI x) :: st) :=
  V.icmp_gt C hd ht (fun h => kt ((nI_ltI hy hx).mp h)) (fun h => kf (fun q => h ((nI_ltI hy hx).mpr q)))
theorem V.icmpN_le (C : Cx g Z H0 nL own cc nm rm) (x y : Nat) {off : Int} {tgt : Nat} (hd : decode cc pc = .ok (.if_icmp .le off, 3)) (ht : (pc : Int) + off = (tgt : Int)) (hx : x < 2 ^ 31) (hy : y < 2 ^ 31) (kt : x ≤ y → V g Z H0 nL L k n tgt lv st) (kf : ¬ x ≤ y → V g Z H0 nL L k n (pc + 3) lv st) : V g Z H0 nL L k n pc lv (aI (nI y) :: aI (nI x) :: st) :=
  V.icmp_le C hd ht (fun h => kt ((nI_leI hx hy).mp h)) (fun h => kf (fun q => h ((nI_leI hx hy).mpr q)))
end NB
theorem nsub (a b : Nat) : nI (a + b) - nI a = nI b := by rw [pk_sub (by omega)]; congr 1; omega
end
section
theorem ev_X6_in {g : GD} {L : List AE} (v lo hi : Int32) : EvP g mX6_in [aI v, aI lo, aI hi] L (some (aI (b2 (lo ≤ v ∧ v ≤ hi)))) := by
  refine Ev.of [some (aI v), some (aI lo), some (aI hi)] (by decide) rfl (Nat.le_of_ble_eq_true rfl) fun Z H0 C X => ?_
  refine V.ild_n C dX6_in_0 rfl ?_
  refine V.ild_n C dX6_in_1 rfl ?_
  refine V.icmp_lt C (tgt := 14) dX6_in_2 (by decide) (fun h2 => ?_) (fun h2 => ?_)
  · skip
    refine V.iconst C (x := 0) dX6_in_14 (by decide) ?_
    exact V.iret X dX6_in_15 rfl (by decide) (by decide) (pq (b2_f (by simp only [i32_lt, i32_le] at *; omega)).symm)
  · skip
    refine V.ild_n C dX6_in_5 rfl ?_
    refine V.ild_n C dX6_in_6 rfl ?_
    refine V.icmp_gt C (tgt := 14) dX6_in_7 (by decide) (fun h7 => ?_) (fun h7 => ?_)
    · skip
      refine V.iconst C (x := 0) dX6_in_14 (by decide) ?_
      exact V.iret X dX6_in_15 rfl (by decide) (by decide) (pq (b2_f (by simp only [i32_lt, i32_le] at *; omega)).symm)
    · skip
      refine V.iconst C (x := 1) dX6_in_10 (by decide) ?_
      refine V.goto C (tgt := 15) dX6_in_11 (by decide) ?_
      exact V.iret X dX6_in_15 rfl (by decide) (by decide) (pq (b2_t (by simp only [i32_lt, i32_le] at *; omega)).symm)
theorem ev_X6_isRoom {g : GD} {r d t b : Nat} {A : ST} {L : List AE} (hM : MR r d t b A L) (hI : Inv r d t b A) (x : Int32) : EvP g mX6_isRoom [aR 23, aI x] L (some (aI (b2 (isN x r)))) := by
  refine Ev.of [some (aR 23), some (aI x)] (by decide) rfl (Nat.le_of_ble_eq_true rfl) fun Z H0 C X => ?_
  have hN := hI.cn
  refine V.ild_n C dX6_isRoom_0 rfl ?_
  refine V.iconst C (x := 0) dX6_isRoom_1 (by decide) ?_
  refine V.ald_n C dX6_isRoom_2 rfl ?_
  refine V.get C fg_RX6_81 dX6_isRoom_3 hM.1 rfl ?_
  refine V.iconst C (x := 1) dX6_isRoom_6 (by decide) ?_
  refine V.isub C dX6_isRoom_7 ?_
  refine V.callSp C mo_X6_in sm_X6_in ml_RX6_84 (ev_X6_in _ _ _) dX6_isRoom_8 rfl rfl (Nat.le_of_ble_eq_true rfl) (RmOk.mk' (by decide) (by decide) (by decide) (by decide)) ⟨rfl, rfl⟩ ?_
  exact V.iret X dX6_isRoom_11 (b2_nar _) (by decide) (by decide) (pq (b2_iff (in_isN (by omega))))
theorem ev_X6_isDoor {g : GD} {r d t b : Nat} {A : ST} {L : List AE} (hM : MR r d t b A L) (hI : Inv r d t b A) (x : Int32) : EvP g mX6_isDoor [aR 23, aI x] L (some (aI (b2 (isN x d)))) := by
  refine Ev.of [some (aR 23), some (aI x)] (by decide) rfl (Nat.le_of_ble_eq_true rfl) fun Z H0 C X => ?_
  have hN := hI.cn
  refine V.ild_n C dX6_isDoor_0 rfl ?_
  refine V.iconst C (x := 0) dX6_isDoor_1 (by decide) ?_
  refine V.ald_n C dX6_isDoor_2 rfl ?_
  refine V.get C fg_RX6_88 dX6_isDoor_3 hM.1 rfl ?_
  refine V.iconst C (x := 1) dX6_isDoor_6 (by decide) ?_
  refine V.isub C dX6_isDoor_7 ?_
  refine V.callSp C mo_X6_in sm_X6_in ml_RX6_84 (ev_X6_in _ _ _) dX6_isDoor_8 rfl rfl (Nat.le_of_ble_eq_true rfl) (RmOk.mk' (by decide) (by decide) (by decide) (by decide)) ⟨rfl, rfl⟩ ?_
  exact V.iret X dX6_isDoor_11 (b2_nar _) (by decide) (by decide) (pq (b2_iff (in_isN (by omega))))
theorem ev_X6_isThing {g : GD} {r d t b : Nat} {A : ST} {L : List AE} (hM : MR r d t b A L) (hI : Inv r d t b A) (x : Int32) : EvP g mX6_isThing [aR 23, aI x] L (some (aI (b2 (isN x t)))) := by
  refine Ev.of [some (aR 23), some (aI x)] (by decide) rfl (Nat.le_of_ble_eq_true rfl) fun Z H0 C X => ?_
  have hN := hI.cn
  refine V.ild_n C dX6_isThing_0 rfl ?_
  refine V.iconst C (x := 0) dX6_isThing_1 (by decide) ?_
  refine V.ald_n C dX6_isThing_2 rfl ?_
  refine V.get C fg_RX6_91 dX6_isThing_3 hM.1 rfl ?_
  refine V.iconst C (x := 1) dX6_isThing_6 (by decide) ?_
  refine V.isub C dX6_isThing_7 ?_
  refine V.callSp C mo_X6_in sm_X6_in ml_RX6_84 (ev_X6_in _ _ _) dX6_isThing_8 rfl rfl (Nat.le_of_ble_eq_true rfl) (RmOk.mk' (by decide) (by decide) (by decide) (by decide)) ⟨rfl, rfl⟩ ?_
  exact V.iret X dX6_isThing_11 (b2_nar _) (by decide) (by decide) (pq (b2_iff (in_isN (by omega))))
theorem ev_X6_isBeing {g : GD} {r d t b : Nat} {A : ST} {L : List AE} (hM : MR r d t b A L) (hI : Inv r d t b A) (x : Int32) : EvP g mX6_isBeing [aR 23, aI x] L (some (aI (b2 (isN x b)))) := by
  refine Ev.of [some (aR 23), some (aI x)] (by decide) rfl (Nat.le_of_ble_eq_true rfl) fun Z H0 C X => ?_
  have hN := hI.cn
  refine V.ild_n C dX6_isBeing_0 rfl ?_
  refine V.iconst C (x := 0) dX6_isBeing_1 (by decide) ?_
  refine V.ald_n C dX6_isBeing_2 rfl ?_
  refine V.get C fg_RX6_94 dX6_isBeing_3 hM.1 rfl ?_
  refine V.iconst C (x := 1) dX6_isBeing_6 (by decide) ?_
  refine V.isub C dX6_isBeing_7 ?_
  refine V.callSp C mo_X6_in sm_X6_in ml_RX6_84 (ev_X6_in _ _ _) dX6_isBeing_8 rfl rfl (Nat.le_of_ble_eq_true rfl) (RmOk.mk' (by decide) (by decide) (by decide) (by decide)) ⟨rfl, rfl⟩ ?_
  exact V.iret X dX6_isBeing_11 (b2_nar _) (by decide) (by decide) (pq (b2_iff (in_isN (by omega))))
theorem ev_X6_isSide {g : GD} {r d t b : Nat} {A : ST} {L : List AE} (hM : MR r d t b A L) (hI : Inv r d t b A) {j : Nat} (hj : j < d) (x : Int32) : EvP g mX6_isSide [aR 23, aI (nI j), aI x] L (some (aI (b2 (A 5 j = x ∨ A 6 j = x)))) := by
  refine Ev.of [some (aR 23), some (aI (nI j)), some (aI x)] (by decide) rfl (Nat.le_of_ble_eq_true rfl) fun Z H0 C X => ?_
  have hN := hI.cn
  refine V.ald_n C dX6_isSide_0 rfl ?_
  refine V.get C fg_RX6_16 dX6_isSide_1 hM.1 rfl ?_
  refine V.ild_n C dX6_isSide_4 rfl ?_
  refine V.ialdN C (N := 15) dX6_isSide_5 (hM.2 5 (by decide)) (by omega) (by decide) ?_
  refine V.ild_n C dX6_isSide_6 rfl ?_
  refine V.icmp_eq C (tgt := 20) dX6_isSide_7 (by decide) (fun h7 => ?_) (fun h7 => ?_)
  · skip
    refine V.iconst C (x := 1) dX6_isSide_20 (by decide) ?_
    refine V.goto C (tgt := 25) dX6_isSide_21 (by decide) ?_
    exact V.iret X dX6_isSide_25 rfl (by decide) (by decide) (pq (b2_t (by simp_all)).symm)
  · skip
    refine V.ald_n C dX6_isSide_10 rfl ?_
    refine V.get C fg_RX6_19 dX6_isSide_11 hM.1 rfl ?_
    refine V.ild_n C dX6_isSide_14 rfl ?_
    refine V.ialdN C (N := 15) dX6_isSide_15 (hM.2 6 (by decide)) (by omega) (by decide) ?_
    refine V.ild_n C dX6_isSide_16 rfl ?_
    refine V.icmp_ne C (tgt := 24) dX6_isSide_17 (by decide) (fun h17 => ?_) (fun h17 => ?_)
    · skip
      refine V.iconst C (x := 0) dX6_isSide_24 (by decide) ?_
      exact V.iret X dX6_isSide_25 rfl (by decide) (by decide) (pq (b2_f (by simp_all)).symm)
    · skip
      refine V.iconst C (x := 1) dX6_isSide_20 (by decide) ?_
      refine V.goto C (tgt := 25) dX6_isSide_21 (by decide) ?_
      exact V.iret X dX6_isSide_25 rfl (by decide) (by decide) (pq (b2_t (by simp_all)).symm)
theorem sub100 {w : Int32} {k : Nat} (h : w - 100 = nI k) : w = nI (100 + k) := by
  have : w = (w - 100) + 100 := by rw [Int32.sub_add_cancel]
  rw [this, h, show (100 : Int32) = nI 100 from rfl, nI_add, Nat.add_comm]
theorem wOk_lt {r d : Nat} {A : ST} {i : Nat} {w : Int32} (h : w.toInt < 100) (hr : r ≤ 20) (hd : d ≤ 15) : wOk r d A i w ↔ (w = -1 ∨ isN w r) := by
  constructor
  · rintro (h1 | ⟨k, hk, rfl⟩ | ⟨k, hk, rfl, -⟩ | ⟨k, hk, rfl⟩ | ⟨k, hk, rfl⟩)
    · exact Or.inl h1
    · exact Or.inr (isN_nI hk (by omega))
    · rw [nI_toInt (by omega)] at h; omega
    · rw [nI_toInt (by omega)] at h; omega
    · rw [nI_toInt (by omega)] at h; omega
  · rintro (h1 | h1)
    · exact Or.inl h1
    · obtain ⟨k, hk, rfl⟩ := isN_ex h1 (by omega)
      exact Or.inr (Or.inl ⟨k, hk, rfl⟩)
theorem wOk_mid {r d : Nat} {A : ST} {i : Nat} {w : Int32} (h1 : 100 ≤ w.toInt) (h2 : w.toInt < 200) (hr : r ≤ 20) (hd : d ≤ 15) : wOk r d A i w ↔ ∃ k, k < d ∧ w = nI (100 + k) ∧ (A 5 k = nI i ∨ A 6 k = nI i) := by
  constructor
  · rintro (h | ⟨k, hk, rfl⟩ | h | ⟨k, hk, rfl⟩ | ⟨k, hk, rfl⟩)
    · subst h; exact absurd h1 (by decide)
    · rw [nI_toInt (by omega)] at h1; omega
    · exact h
    · rw [nI_toInt (by omega)] at h2; omega
    · rw [nI_toInt (by omega)] at h2; omega
  · exact fun h => Or.inr (Or.inr (Or.inl h))
theorem wOk_hi {r d : Nat} {A : ST} {i : Nat} {w : Int32} (h1 : 200 ≤ w.toInt) (hr : r ≤ 20) (hd : d ≤ 15) : wOk r d A i w ↔ ((200 ≤ w.toInt ∧ w.toInt ≤ 249) ∨ (300 ≤ w.toInt ∧ w.toInt ≤ 304)) := by
  constructor
  · rintro (h | ⟨k, hk, rfl⟩ | ⟨k, hk, rfl, -⟩ | ⟨k, hk, rfl⟩ | ⟨k, hk, rfl⟩)
    · subst h; exact absurd h1 (by decide)
    · rw [nI_toInt (by omega)] at h1; omega
    · rw [nI_toInt (by omega)] at h1; omega
    · rw [nI_toInt (by omega)]; omega
    · rw [nI_toInt (by omega)]; omega
  · intro h
    have h0 : ¬ w < 0 := by rw [i32_lt]; simp; omega
    obtain ⟨j, hj, rfl⟩ := nI_of h0
    rw [nI_toInt hj] at h
    rcases h with h | h
    · exact Or.inr (Or.inr (Or.inr (Or.inl ⟨j - 200, by omega, by rw [show 200 + (j - 200) = j by omega]⟩)))
    · exact Or.inr (Or.inr (Or.inr (Or.inr ⟨j - 300, by omega, by rw [show 300 + (j - 300) = j by omega]⟩)))
theorem k100 : (100 : Int32).toInt = 100 := by decide
theorem k200 : (200 : Int32).toInt = 200 := by decide
theorem k249 : (249 : Int32).toInt = 249 := by decide
theorem k300 : (300 : Int32).toInt = 300 := by decide
theorem k304 : (304 : Int32).toInt = 304 := by decide
theorem k199 : (199 : Int32).toInt = 199 := by decide
theorem km1 : (-1 : Int32).toInt = -1 := by decide
theorem k0 : (0 : Int32).toInt = 0 := by decide
theorem k1 : (1 : Int32).toInt = 1 := by decide
theorem ev_X6_mayBe {g : GD} {r d t b : Nat} {A : ST} {L : List AE} (hM : MR r d t b A L) (hI : Inv r d t b A) {i : Nat} (hi : i < r) (w : Int32) : EvP g mX6_mayBe [aR 23, aI (nI i), aI w] L (some (aI (b2 (wOk r d A i w)))) := by
  refine Ev.of [some (aR 23), some (aI (nI i)), some (aI w)] (by decide) rfl (Nat.le_of_ble_eq_true rfl) fun Z H0 C X => ?_
  have hN := hI.cn
  refine V.ild_n C dX6_mayBe_0 rfl ?_
  refine V.bipush C (x := 100) dX6_mayBe_1 (by decide) ?_
  refine V.icmp_ge C (tgt := 25) dX6_mayBe_3 (by decide) (fun h3 => ?_) (fun h3 => ?_)
  · skip
    refine V.ild_n C dX6_mayBe_25 rfl ?_
    refine V.sipush C (x := 200) dX6_mayBe_26 (by decide) ?_
    refine V.icmp_ge C (tgt := 61) dX6_mayBe_29 (by decide) (fun h29 => ?_) (fun h29 => ?_)
    · skip
      refine V.ild_n C dX6_mayBe_61 rfl ?_
      refine V.sipush C (x := 200) dX6_mayBe_62 (by decide) ?_
      refine V.sipush C (x := 249) dX6_mayBe_65 (by decide) ?_
      refine V.callSp C mo_X6_in sm_X6_in ml_RX6_84 (ev_X6_in _ _ _) dX6_mayBe_68 rfl rfl (Nat.le_of_ble_eq_true rfl) (RmOk.mk' (by decide) (by decide) (by decide) (by decide)) ⟨rfl, rfl⟩ ?_
      refine V.ifb_ne C (tgt := 87) dX6_mayBe_71 (by decide) (fun h71 => ?_) (fun h71 => ?_)
      · skip
        refine V.iconst C (x := 1) dX6_mayBe_87 (by decide) ?_
        refine V.goto C (tgt := 92) dX6_mayBe_88 (by decide) ?_
        exact V.iret X dX6_mayBe_92 rfl (by decide) (by decide) (pq (b2_t ((wOk_hi (by rw [i32_le, k200] at h29; omega) hN.1 hN.2.1).mpr (Or.inl ((in_k k200 k249).mp h71)))).symm)
      · skip
        refine V.ild_n C dX6_mayBe_74 rfl ?_
        refine V.sipush C (x := 300) dX6_mayBe_75 (by decide) ?_
        refine V.sipush C (x := 304) dX6_mayBe_78 (by decide) ?_
        refine V.callSp C mo_X6_in sm_X6_in ml_RX6_84 (ev_X6_in _ _ _) dX6_mayBe_81 rfl rfl (Nat.le_of_ble_eq_true rfl) (RmOk.mk' (by decide) (by decide) (by decide) (by decide)) ⟨rfl, rfl⟩ ?_
        refine V.ifb_eq C (tgt := 91) dX6_mayBe_84 (by decide) (fun h84 => ?_) (fun h84 => ?_)
        · skip
          refine V.iconst C (x := 0) dX6_mayBe_91 (by decide) ?_
          exact V.iret X dX6_mayBe_92 rfl (by decide) (by decide) (pq (b2_f (fun q => ((wOk_hi (by rw [i32_le, k200] at h29; omega) hN.1 hN.2.1).mp q).elim (fun z => h71 ((in_k k200 k249).mpr z)) (fun z => h84 ((in_k k300 k304).mpr z)))).symm)
        · skip
          refine V.iconst C (x := 1) dX6_mayBe_87 (by decide) ?_
          refine V.goto C (tgt := 92) dX6_mayBe_88 (by decide) ?_
          exact V.iret X dX6_mayBe_92 rfl (by decide) (by decide) (pq (b2_t ((wOk_hi (by rw [i32_le, k200] at h29; omega) hN.1 hN.2.1).mpr (Or.inr ((in_k k300 k304).mp h84)))).symm)
    · skip
      refine V.ald_n C dX6_mayBe_32 rfl ?_
      refine V.ild_n C dX6_mayBe_33 rfl ?_
      refine V.bipush C (x := 100) dX6_mayBe_34 (by decide) ?_
      refine V.isub C dX6_mayBe_36 ?_
      refine V.callVp C mo_X6_isDoor im_X6_isDoor se_X6_isDoor ml_RX6_101 (ev_X6_isDoor hM hI _) dX6_mayBe_37 rfl rfl hM.1 rfl rfl (Nat.le_of_ble_eq_true rfl) (RmOk.mk' (by decide) (by decide) (by decide) (by decide)) ⟨rfl, rfl⟩ ?_
      refine V.ifb_eq C (tgt := 59) dX6_mayBe_40 (by decide) (fun h40 => ?_) (fun h40 => ?_)
      · skip
        refine V.iconst C (x := 0) dX6_mayBe_59 (by decide) ?_
        exact V.iret X dX6_mayBe_60 rfl (by decide) (by decide) (pq (b2_f (fun q => by obtain ⟨k, hk, rfl, -⟩ := (wOk_mid (by rw [i32_le, k100] at h3; omega) (by rw [i32_le, k200] at h29; omega) hN.1 hN.2.1).mp q; exact h40 (by rw [show (100 : Int32) = nI 100 from rfl, nsub]; exact isN_nI hk (by omega)))).symm)
      · skip
        obtain ⟨k, hk, hw⟩ := isN_ex h40 (by omega)
        have hw := sub100 hw
        subst hw
        refine V.ald_n C dX6_mayBe_43 rfl ?_
        refine V.ild_n C dX6_mayBe_44 rfl ?_
        refine V.bipush C (x := 100) dX6_mayBe_45 (by decide) ?_
        refine V.isub C dX6_mayBe_47 ?_
        refine V.top (nsub 100 k) ?_
        refine V.ild_n C dX6_mayBe_48 rfl ?_
        refine V.callVp C mo_X6_isSide im_X6_isSide se_X6_isSide ml_RX6_104 (ev_X6_isSide hM hI (by omega) _) dX6_mayBe_49 rfl rfl hM.1 rfl rfl (Nat.le_of_ble_eq_true rfl) (RmOk.mk' (by decide) (by decide) (by decide) (by decide)) ⟨rfl, rfl⟩ ?_
        refine V.ifb_eq C (tgt := 59) dX6_mayBe_52 (by decide) (fun h52 => ?_) (fun h52 => ?_)
        · skip
          refine V.iconst C (x := 0) dX6_mayBe_59 (by decide) ?_
          exact V.iret X dX6_mayBe_60 rfl (by decide) (by decide) (pq (b2_f (fun q => by obtain ⟨k2, hk2, e2, q2⟩ := (wOk_mid (by rw [i32_le, k100] at h3; omega) (by rw [i32_le, k200] at h29; omega) hN.1 hN.2.1).mp q; have e3 := nI_inj (by omega) (by omega) e2; have e4 : k2 = k := (by omega); subst e4; exact h52 q2)).symm)
        · skip
          refine V.iconst C (x := 1) dX6_mayBe_55 (by decide) ?_
          refine V.goto C (tgt := 60) dX6_mayBe_56 (by decide) ?_
          exact V.iret X dX6_mayBe_60 rfl (by decide) (by decide) (pq (b2_t ((wOk_mid (by rw [i32_le, k100] at h3; omega) (by rw [i32_le, k200] at h29; omega) hN.1 hN.2.1).mpr ⟨k, hk, rfl, h52⟩)).symm)
  · skip
    refine V.ild_n C dX6_mayBe_6 rfl ?_
    refine V.iconst C (x := -1) dX6_mayBe_7 (by decide) ?_
    refine V.icmp_eq C (tgt := 19) dX6_mayBe_8 (by decide) (fun h8 => ?_) (fun h8 => ?_)
    · skip
      refine V.iconst C (x := 1) dX6_mayBe_19 (by decide) ?_
      refine V.goto C (tgt := 24) dX6_mayBe_20 (by decide) ?_
      exact V.iret X dX6_mayBe_24 rfl (by decide) (by decide) (pq (b2_t ((wOk_lt (by rw [i32_le, k100] at h3; omega) hN.1 hN.2.1).mpr (Or.inl h8))).symm)
    · skip
      refine V.ald_n C dX6_mayBe_11 rfl ?_
      refine V.ild_n C dX6_mayBe_12 rfl ?_
      refine V.callVp C mo_X6_isRoom im_X6_isRoom se_X6_isRoom ml_RX6_97 (ev_X6_isRoom hM hI _) dX6_mayBe_13 rfl rfl hM.1 rfl rfl (Nat.le_of_ble_eq_true rfl) (RmOk.mk' (by decide) (by decide) (by decide) (by decide)) ⟨rfl, rfl⟩ ?_
      refine V.ifb_eq C (tgt := 23) dX6_mayBe_16 (by decide) (fun h16 => ?_) (fun h16 => ?_)
      · skip
        refine V.iconst C (x := 0) dX6_mayBe_23 (by decide) ?_
        exact V.iret X dX6_mayBe_24 rfl (by decide) (by decide) (pq (b2_f (fun q => ((wOk_lt (by rw [i32_le, k100] at h3; omega) hN.1 hN.2.1).mp q).elim h8 h16)).symm)
      · skip
        refine V.iconst C (x := 1) dX6_mayBe_19 (by decide) ?_
        refine V.goto C (tgt := 24) dX6_mayBe_20 (by decide) ?_
        exact V.iret X dX6_mayBe_24 rfl (by decide) (by decide) (pq (b2_t ((wOk_lt (by rw [i32_le, k100] at h3; omega) hN.1 hN.2.1).mpr (Or.inr h16))).symm)
/-- shut in -/
def shIn (A : ST) (i : Nat) : Prop := A 18 i ≠ -1 ∧ A 15 (A 18 i).toNatClampNeg = 1
theorem shIn_neg {A : ST} {i : Nat} (h : A 18 i = -1) : ¬ shIn A i := fun q => q.1 h
theorem shIn_k {A : ST} {i k : Nat} (h : A 18 i = nI k) (hk : k < 2 ^ 31) : shIn A i ↔ A 15 k = 1 := by
  unfold shIn
  rw [h, nI_clamp hk]
  exact ⟨fun q => q.2, fun q => ⟨nI_neg hk, q⟩⟩
/-- a thing is in a room -/
def tIn (A : ST) (i j : Nat) : Prop := (A 14 i ≠ -1 ∧ A 25 (20 * (A 14 i).toNatClampNeg + j) = 1) ∨ (A 14 i = -1 ∧ A 13 i = nI j)
theorem tIn_neg {A : ST} {i j : Nat} (h : A 14 i = -1) : tIn A i j ↔ A 13 i = nI j := by
  unfold tIn
  exact ⟨fun q => q.elim (fun z => absurd h z.1) (fun z => z.2), fun q => Or.inr ⟨h, q⟩⟩
theorem tIn_k {A : ST} {i j k : Nat} (h : A 14 i = nI k) (hk : k < 2 ^ 31) : tIn A i j ↔ A 25 (20 * k + j) = 1 := by
  unfold tIn
  rw [h, nI_clamp hk]
  exact ⟨fun q => q.elim (fun z => z.2) (fun z => absurd z.1 (nI_neg hk)), fun q => Or.inl ⟨nI_neg hk, q⟩⟩
/-- who holds what -/
def hol (A : ST) (w i : Nat) : Prop := A 14 i = -1 ∧ A 13 i = nI (100 + w)
def hasT (A : ST) (w i : Nat) : Prop := hol A w i ∨ (shIn A w ∧ A 18 w = nI i) ∨ (¬ shIn A w ∧ tIn A i (A 17 w).toNatClampNeg)
def hasD (A : ST) (w j : Nat) : Prop := ¬ shIn A w ∧ (A 5 j = A 17 w ∨ A 6 j = A 17 w)
theorem ev_X6_isShutIn {g : GD} {r d t b : Nat} {A : ST} {L : List AE} (hM : MR r d t b A L) (hI : Inv r d t b A) {i : Nat} (hi : i < b) : EvP g mX6_isShutIn [aR 23, aI (nI i)] L (some (aI (b2 (shIn A i)))) := by
  refine Ev.of [some (aR 23), some (aI (nI i))] (by decide) rfl (Nat.le_of_ble_eq_true rfl) fun Z H0 C X => ?_
  have hN := hI.cn
  rcases (hI.cb hi).2.1 with hw | ⟨k, hk, hw, -⟩
  · skip
    refine V.ald_n C dX6_isShutIn_0 rfl ?_
    refine V.get C fg_RX6_50 dX6_isShutIn_1 hM.1 rfl ?_
    refine V.ild_n C dX6_isShutIn_4 rfl ?_
    refine V.ialdN C (N := 6) dX6_isShutIn_5 (hM.2 18 (by decide)) (by omega) (by decide) ?_
    refine V.top hw ?_
    refine V.if_lt C (tgt := 27) dX6_isShutIn_6 (by decide) (fun h6 => ?_) (fun h6 => absurd h6 (by decide))
    refine V.iconst C (x := 0) dX6_isShutIn_27 (by decide) ?_
    exact V.iret X dX6_isShutIn_28 rfl (by decide) (by decide) (pq (b2_f (shIn_neg hw)).symm)
  · skip
    refine V.ald_n C dX6_isShutIn_0 rfl ?_
    refine V.get C fg_RX6_50 dX6_isShutIn_1 hM.1 rfl ?_
    refine V.ild_n C dX6_isShutIn_4 rfl ?_
    refine V.ialdN C (N := 6) dX6_isShutIn_5 (hM.2 18 (by decide)) (by omega) (by decide) ?_
    refine V.top hw ?_
    refine V.if_lt C (tgt := 27) dX6_isShutIn_6 (by decide) (fun h6 => absurd h6 (nI_pos (by omega))) (fun h6 => ?_)
    refine V.ald_n C dX6_isShutIn_9 rfl ?_
    refine V.get C fg_RX6_44 dX6_isShutIn_10 hM.1 rfl ?_
    refine V.ald_n C dX6_isShutIn_13 rfl ?_
    refine V.get C fg_RX6_50 dX6_isShutIn_14 hM.1 rfl ?_
    refine V.ild_n C dX6_isShutIn_17 rfl ?_
    refine V.ialdN C (N := 6) dX6_isShutIn_18 (hM.2 18 (by decide)) (by omega) (by decide) ?_
    refine V.top hw ?_
    refine V.zaldN C (N := 30) dX6_isShutIn_19 (hM.2 15 (by decide)) (by omega) (by decide) ?_
    refine V.if_eq C (tgt := 27) dX6_isShutIn_20 (by decide) (fun h20 => ?_) (fun h20 => ?_)
    · skip
      refine V.iconst C (x := 0) dX6_isShutIn_27 (by decide) ?_
      exact V.iret X dX6_isShutIn_28 rfl (by decide) (by decide) (pq (b2_f (fun q => by rw [(shIn_k hw (by omega)), h20] at q; exact absurd q (by decide))).symm)
    · skip
      refine V.iconst C (x := 1) dX6_isShutIn_23 (by decide) ?_
      refine V.goto C (tgt := 28) dX6_isShutIn_24 (by decide) ?_
      exact V.iret X dX6_isShutIn_28 rfl (by decide) (by decide) (pq (b2_t ((shIn_k hw (by omega)).mpr (((hI.ct hk).2.2.2.1).resolve_left h20))).symm)
theorem ev_X6_isThingIn {g : GD} {r d t b : Nat} {A : ST} {L : List AE} (hM : MR r d t b A L) (hI : Inv r d t b A) {i j : Nat} (hi : i < t) (hj : j < r) : EvP g mX6_isThingIn [aR 23, aI (nI i), aI (nI j)] L (some (aI (b2 (tIn A i j)))) := by
  refine Ev.of [some (aR 23), some (aI (nI i)), some (aI (nI j))] (by decide) rfl (Nat.le_of_ble_eq_true rfl) fun Z H0 C X => ?_
  have hN := hI.cn
  rcases (hI.ct hi).2.2.1 with hw | ⟨k, hk, hw, -⟩
  · skip
    refine V.ald_n C dX6_isThingIn_0 rfl ?_
    refine V.get C fg_RX6_41 dX6_isThingIn_1 hM.1 rfl ?_
    refine V.ild_n C dX6_isThingIn_4 rfl ?_
    refine V.ialdN C (N := 30) dX6_isThingIn_5 (hM.2 14 (by decide)) (by omega) (by decide) ?_
    refine V.top hw ?_
    refine V.if_lt C (tgt := 28) dX6_isThingIn_6 (by decide) (fun h6 => ?_) (fun h6 => absurd h6 (by decide))
    refine V.ald_n C dX6_isThingIn_28 rfl ?_
    refine V.get C fg_RX6_38 dX6_isThingIn_29 hM.1 rfl ?_
    refine V.ild_n C dX6_isThingIn_32 rfl ?_
    refine V.ialdN C (N := 30) dX6_isThingIn_33 (hM.2 13 (by decide)) (by omega) (by decide) ?_
    refine V.ild_n C dX6_isThingIn_34 rfl ?_
    refine V.icmp_ne C (tgt := 42) dX6_isThingIn_35 (by decide) (fun h35 => ?_) (fun h35 => ?_)
    · skip
      refine V.iconst C (x := 0) dX6_isThingIn_42 (by decide) ?_
      exact V.iret X dX6_isThingIn_43 rfl (by decide) (by decide) (pq (b2_f (fun q => h35 ((tIn_neg hw).mp q))).symm)
    · skip
      refine V.iconst C (x := 1) dX6_isThingIn_38 (by decide) ?_
      refine V.goto C (tgt := 43) dX6_isThingIn_39 (by decide) ?_
      exact V.iret X dX6_isThingIn_43 rfl (by decide) (by decide) (pq (b2_t ((tIn_neg hw).mpr h35)).symm)
  · skip
    refine V.ald_n C dX6_isThingIn_0 rfl ?_
    refine V.get C fg_RX6_41 dX6_isThingIn_1 hM.1 rfl ?_
    refine V.ild_n C dX6_isThingIn_4 rfl ?_
    refine V.ialdN C (N := 30) dX6_isThingIn_5 (hM.2 14 (by decide)) (by omega) (by decide) ?_
    refine V.top hw ?_
    refine V.if_lt C (tgt := 28) dX6_isThingIn_6 (by decide) (fun h6 => absurd h6 (nI_pos (by omega))) (fun h6 => ?_)
    refine V.ald_n C dX6_isThingIn_9 rfl ?_
    refine V.get C fg_RX6_71 dX6_isThingIn_10 hM.1 rfl ?_
    refine V.bipush C (x := 20) dX6_isThingIn_13 (by decide) ?_
    refine V.ald_n C dX6_isThingIn_15 rfl ?_
    refine V.get C fg_RX6_41 dX6_isThingIn_16 hM.1 rfl ?_
    refine V.ild_n C dX6_isThingIn_19 rfl ?_
    refine V.ialdN C (N := 30) dX6_isThingIn_20 (hM.2 14 (by decide)) (by omega) (by decide) ?_
    refine V.top hw ?_
    refine V.imul C dX6_isThingIn_21 ?_
    refine V.top (pk_mul 20 k) ?_
    refine V.ild_n C dX6_isThingIn_22 rfl ?_
    refine V.iadd C dX6_isThingIn_23 ?_
    refine V.top (nI_add (20 * k) j) ?_
    refine V.zaldN C (N := 140) dX6_isThingIn_24 (hM.2 25 (by decide)) (by omega) (by decide) ?_
    have e1 : A 25 (20 * k + j) = b2 (tIn A i j) := by
      rcases hI.cg hk (show j < 20 by omega) with h | ⟨h, -⟩
      · rw [h, b2_f (fun q => by rw [(tIn_k hw (by omega)), h] at q; exact absurd q (by decide))]
      · rw [h, b2_t ((tIn_k hw (by omega)).mpr h)]
    refine V.top e1 ?_
    refine V.goto C (tgt := 43) dX6_isThingIn_25 (by decide) ?_
    exact V.iret X dX6_isThingIn_43 (b2_nar _) (by decide) (by decide) (pq rfl)
theorem ev_X6_holds {g : GD} {r d t b : Nat} {A : ST} {L : List AE} (hM : MR r d t b A L) (hI : Inv r d t b A) {w i : Nat} (hw : w < b) (hi : i < t) : EvP g mX6_holds [aR 23, aI (nI w), aI (nI i)] L (some (aI (b2 (hol A w i)))) := by
  refine Ev.of [some (aR 23), some (aI (nI w)), some (aI (nI i))] (by decide) rfl (Nat.le_of_ble_eq_true rfl) fun Z H0 C X => ?_
  have hN := hI.cn
  rcases (hI.ct hi).2.2.1 with hf | ⟨k, hk, hf, -⟩
  · skip
    refine V.ald_n C dX6_holds_0 rfl ?_
    refine V.get C fg_RX6_41 dX6_holds_1 hM.1 rfl ?_
    refine V.ild_n C dX6_holds_4 rfl ?_
    refine V.ialdN C (N := 30) dX6_holds_5 (hM.2 14 (by decide)) (by omega) (by decide) ?_
    refine V.top hf ?_
    refine V.if_ge C (tgt := 26) dX6_holds_6 (by decide) (fun h6 => absurd h6 (by decide)) (fun h6 => ?_)
    refine V.ald_n C dX6_holds_9 rfl ?_
    refine V.get C fg_RX6_38 dX6_holds_10 hM.1 rfl ?_
    refine V.ild_n C dX6_holds_13 rfl ?_
    refine V.ialdN C (N := 30) dX6_holds_14 (hM.2 13 (by decide)) (by omega) (by decide) ?_
    refine V.bipush C (x := 100) dX6_holds_15 (by decide) ?_
    refine V.ild_n C dX6_holds_17 rfl ?_
    refine V.iadd C dX6_holds_18 ?_
    refine V.top (nI_add 100 w) ?_
    refine V.icmp_ne C (tgt := 26) dX6_holds_19 (by decide) (fun h19 => ?_) (fun h19 => ?_)
    · skip
      refine V.iconst C (x := 0) dX6_holds_26 (by decide) ?_
      exact V.iret X dX6_holds_27 rfl (by decide) (by decide) (pq (b2_f (fun q => h19 q.2)).symm)
    · skip
      refine V.iconst C (x := 1) dX6_holds_22 (by decide) ?_
      refine V.goto C (tgt := 27) dX6_holds_23 (by decide) ?_
      exact V.iret X dX6_holds_27 rfl (by decide) (by decide) (pq (b2_t ⟨hf, h19⟩).symm)
  · skip
    refine V.ald_n C dX6_holds_0 rfl ?_
    refine V.get C fg_RX6_41 dX6_holds_1 hM.1 rfl ?_
    refine V.ild_n C dX6_holds_4 rfl ?_
    refine V.ialdN C (N := 30) dX6_holds_5 (hM.2 14 (by decide)) (by omega) (by decide) ?_
    refine V.top hf ?_
    refine V.if_ge C (tgt := 26) dX6_holds_6 (by decide) (fun h6 => ?_) (fun h6 => absurd (nI_pos' (by omega)) h6)
    refine V.iconst C (x := 0) dX6_holds_26 (by decide) ?_
    exact V.iret X dX6_holds_27 rfl (by decide) (by decide) (pq (b2_f (fun q => nI_neg (show k < 2 ^ 31 by omega) (hf.symm.trans q.1))).symm)
theorem ev_X6_hasThing {g : GD} {r d t b : Nat} {A : ST} {L : List AE} (hM : MR r d t b A L) (hI : Inv r d t b A) {w i : Nat} (hw : w < b) (hi : i < t) : EvP g mX6_hasThing [aR 23, aI (nI w), aI (nI i)] L (some (aI (b2 (hasT A w i)))) := by
  refine Ev.of [some (aR 23), some (aI (nI w)), some (aI (nI i))] (by decide) rfl (Nat.le_of_ble_eq_true rfl) fun Z H0 C X => ?_
  have hN := hI.cn
  obtain ⟨a, hal, ha⟩ := (hI.cb hw).1
  refine V.ald_n C dX6_hasThing_0 rfl ?_
  refine V.ild_n C dX6_hasThing_1 rfl ?_
  refine V.ild_n C dX6_hasThing_2 rfl ?_
  refine V.callVp C mo_X6_holds im_X6_holds se_X6_holds ml_RX6_114 (ev_X6_holds hM hI (by omega) (by omega)) dX6_hasThing_3 rfl rfl hM.1 rfl rfl (Nat.le_of_ble_eq_true rfl) (RmOk.mk' (by decide) (by decide) (by decide) (by decide)) ⟨rfl, rfl⟩ ?_
  refine V.ifb_ne C (tgt := 44) dX6_hasThing_6 (by decide) (fun h6 => ?_) (fun h6 => ?_)
  · skip
    refine V.iconst C (x := 1) dX6_hasThing_44 (by decide) ?_
    refine V.goto C (tgt := 49) dX6_hasThing_45 (by decide) ?_
    exact V.iret X dX6_hasThing_49 rfl (by decide) (by decide) (pq (b2_t (Or.inl h6)).symm)
  · skip
    refine V.ald_n C dX6_hasThing_9 rfl ?_
    refine V.ild_n C dX6_hasThing_10 rfl ?_
    refine V.callVp C mo_X6_isShutIn im_X6_isShutIn se_X6_isShutIn ml_RX6_117 (ev_X6_isShutIn hM hI (by omega)) dX6_hasThing_11 rfl rfl hM.1 rfl rfl (Nat.le_of_ble_eq_true rfl) (RmOk.mk' (by decide) (by decide) (by decide) (by decide)) ⟨rfl, rfl⟩ ?_
    refine V.ifb_eq C (tgt := 30) dX6_hasThing_14 (by decide) (fun h14 => ?_) (fun h14 => ?_)
    · skip
      refine V.ald_n C dX6_hasThing_30 rfl ?_
      refine V.ild_n C dX6_hasThing_31 rfl ?_
      refine V.ald_n C dX6_hasThing_32 rfl ?_
      refine V.get C fg_RX6_47 dX6_hasThing_33 hM.1 rfl ?_
      refine V.ild_n C dX6_hasThing_36 rfl ?_
      refine V.ialdN C (N := 6) dX6_hasThing_37 (hM.2 17 (by decide)) (by omega) (by decide) ?_
      refine V.top ha ?_
      refine V.callVp C mo_X6_isThingIn im_X6_isThingIn se_X6_isThingIn ml_RX6_120 (ev_X6_isThingIn hM hI (by omega) (by omega)) dX6_hasThing_38 rfl rfl hM.1 rfl rfl (Nat.le_of_ble_eq_true rfl) (RmOk.mk' (by decide) (by decide) (by decide) (by decide)) ⟨rfl, rfl⟩ ?_
      refine V.ifb_eq C (tgt := 48) dX6_hasThing_41 (by decide) (fun h41 => ?_) (fun h41 => ?_)
      · skip
        refine V.iconst C (x := 0) dX6_hasThing_48 (by decide) ?_
        exact V.iret X dX6_hasThing_49 rfl (by decide) (by decide) (pq (b2_f (fun q => q.elim h6 (fun z => z.elim (fun y => h14 y.1) (fun y => h41 (by rw [ha, nI_clamp (by omega)] at y; exact y.2))))).symm)
      · skip
        refine V.iconst C (x := 1) dX6_hasThing_44 (by decide) ?_
        refine V.goto C (tgt := 49) dX6_hasThing_45 (by decide) ?_
        exact V.iret X dX6_hasThing_49 rfl (by decide) (by decide) (pq (b2_t (Or.inr (Or.inr ⟨h14, by rw [ha, nI_clamp (by omega)]; exact h41⟩))).symm)
    · skip
      refine V.ald_n C dX6_hasThing_17 rfl ?_
      refine V.get C fg_RX6_50 dX6_hasThing_18 hM.1 rfl ?_
      refine V.ild_n C dX6_hasThing_21 rfl ?_
      refine V.ialdN C (N := 6) dX6_hasThing_22 (hM.2 18 (by decide)) (by omega) (by decide) ?_
      refine V.ild_n C dX6_hasThing_23 rfl ?_
      refine V.icmp_ne C (tgt := 48) dX6_hasThing_24 (by decide) (fun h24 => ?_) (fun h24 => ?_)
      · skip
        refine V.iconst C (x := 0) dX6_hasThing_48 (by decide) ?_
        exact V.iret X dX6_hasThing_49 rfl (by decide) (by decide) (pq (b2_f (fun q => q.elim h6 (fun z => z.elim (fun y => h24 y.2) (fun y => y.1 h14)))).symm)
      · skip
        refine V.goto C (tgt := 44) dX6_hasThing_27 (by decide) ?_
        refine V.iconst C (x := 1) dX6_hasThing_44 (by decide) ?_
        refine V.goto C (tgt := 49) dX6_hasThing_45 (by decide) ?_
        exact V.iret X dX6_hasThing_49 rfl (by decide) (by decide) (pq (b2_t (Or.inr (Or.inl ⟨h14, h24⟩))).symm)
theorem ev_X6_hasDoor {g : GD} {r d t b : Nat} {A : ST} {L : List AE} (hM : MR r d t b A L) (hI : Inv r d t b A) {w j : Nat} (hw : w < b) (hj : j < d) : EvP g mX6_hasDoor [aR 23, aI (nI w), aI (nI j)] L (some (aI (b2 (hasD A w j)))) := by
  refine Ev.of [some (aR 23), some (aI (nI w)), some (aI (nI j))] (by decide) rfl (Nat.le_of_ble_eq_true rfl) fun Z H0 C X => ?_
  have hN := hI.cn
  refine V.ald_n C dX6_hasDoor_0 rfl ?_
  refine V.ild_n C dX6_hasDoor_1 rfl ?_
  refine V.callVp C mo_X6_isShutIn im_X6_isShutIn se_X6_isShutIn ml_RX6_117 (ev_X6_isShutIn hM hI (by omega)) dX6_hasDoor_2 rfl rfl hM.1 rfl rfl (Nat.le_of_ble_eq_true rfl) (RmOk.mk' (by decide) (by decide) (by decide) (by decide)) ⟨rfl, rfl⟩ ?_
  refine V.ifb_ne C (tgt := 26) dX6_hasDoor_5 (by decide) (fun h5 => ?_) (fun h5 => ?_)
  · skip
    refine V.iconst C (x := 0) dX6_hasDoor_26 (by decide) ?_
    exact V.iret X dX6_hasDoor_27 rfl (by decide) (by decide) (pq (b2_f (fun q => q.1 h5)).symm)
  · skip
    refine V.ald_n C dX6_hasDoor_8 rfl ?_
    refine V.ild_n C dX6_hasDoor_9 rfl ?_
    refine V.ald_n C dX6_hasDoor_10 rfl ?_
    refine V.get C fg_RX6_47 dX6_hasDoor_11 hM.1 rfl ?_
    refine V.ild_n C dX6_hasDoor_14 rfl ?_
    refine V.ialdN C (N := 6) dX6_hasDoor_15 (hM.2 17 (by decide)) (by omega) (by decide) ?_
    refine V.callVp C mo_X6_isSide im_X6_isSide se_X6_isSide ml_RX6_104 (ev_X6_isSide hM hI (by omega) _) dX6_hasDoor_16 rfl rfl hM.1 rfl rfl (Nat.le_of_ble_eq_true rfl) (RmOk.mk' (by decide) (by decide) (by decide) (by decide)) ⟨rfl, rfl⟩ ?_
    refine V.ifb_eq C (tgt := 26) dX6_hasDoor_19 (by decide) (fun h19 => ?_) (fun h19 => ?_)
    · skip
      refine V.iconst C (x := 0) dX6_hasDoor_26 (by decide) ?_
      exact V.iret X dX6_hasDoor_27 rfl (by decide) (by decide) (pq (b2_f (fun q => h19 q.2)).symm)
    · skip
      refine V.iconst C (x := 1) dX6_hasDoor_22 (by decide) ?_
      refine V.goto C (tgt := 27) dX6_hasDoor_23 (by decide) ?_
      exact V.iret X dX6_hasDoor_27 rfl (by decide) (by decide) (pq (b2_t ⟨h5, h19⟩).symm)
end
section
noncomputable def ok1 {α : Type} (x : Int32) (n : Nat) (f : Nat → α) (e : α) : α := cI (isN x n) (f x.toNatClampNeg) e
theorem ok1_t {α : Type} {i n : Nat} {f : Nat → α} {e : α} (hi : i < n) (hn : n < 2 ^ 31) : ok1 (nI i) n f e = f i := by
  unfold ok1
  rw [cI_t (isN_nI hi hn), nI_clamp (by omega)]
theorem ok1_f {α : Type} {x : Int32} {n : Nat} {f : Nat → α} {e : α} (h : ¬ isN x n) : ok1 x n f e = e := cI_f h
noncomputable def cnt (P : Nat → Prop) : Nat → Nat
  | 0 => 0
  | n + 1 => cnt P n + cI (P n) 1 0
theorem cnt_t {P : Nat → Prop} {i : Nat} (h : P i) : nI (cnt P i) + 1 = nI (cnt P (i + 1)) := by
  rw [nI_1]
  show _ = nI (cnt P i + cI (P i) 1 0)
  rw [cI_t h]
theorem cnt_f {P : Nat → Prop} {i : Nat} (h : ¬ P i) : nI (cnt P i) + 0 = nI (cnt P (i + 1)) := by
  rw [show (0 : Int32) = nI 0 from rfl, nI_add]
  show _ = nI (cnt P i + cI (P i) 1 0)
  rw [cI_f h]
theorem cnt_le (P : Nat → Prop) (n : Nat) : cnt P n ≤ n := by
  induction n with
  | zero => exact Nat.le_refl 0
  | succ n ih =>
    show cnt P n + cI (P n) 1 0 ≤ n + 1
    by_cases h : P n
    · rw [cI_t h]; omega
    · rw [cI_f h]; omega
theorem b2_mono {P Q : Nat → Prop} {i : Nat} : True := trivial
/-- being w holds the key of door e -/
def keyH (A : ST) (w e : Nat) : Prop := ∃ k, k < 2 ^ 31 ∧ A 7 e = nI k ∧ hol A w k
theorem keyH_k {A : ST} {w e k : Nat} (h : A 7 e = nI k) (hk : k < 2 ^ 31) : keyH A w e ↔ hol A w k := by
  constructor
  · rintro ⟨k2, h2, h3, h4⟩
    have := nI_inj h2 hk (h3.symm.trans h)
    subst this
    exact h4
  · exact fun q => ⟨k, hk, h, q⟩
theorem keyH_neg {A : ST} {w e : Nat} (h : A 7 e = -1) : ¬ keyH A w e := by
  rintro ⟨k2, h2, h3, -⟩
  exact nI_neg h2 (h3.symm.trans h)
noncomputable def ldT (A : ST) (i j : Nat) : Int32 :=
  cI (A 2 (8 * i + j) < nI 100) (A 2 (8 * i + j)) (cI (A 2 (8 * i + j) < nI 200) (cI (A 8 (A 2 (8 * i + j) - 100).toNatClampNeg = 1) (cI (A 5 (A 2 (8 * i + j) - 100).toNatClampNeg = nI i) (A 6 (A 2 (8 * i + j) - 100).toNatClampNeg) (A 5 (A 2 (8 * i + j) - 100).toNatClampNeg)) (-1)) (cI (A 2 (8 * i + j) < nI 300) (-1) (cI (A 23 (A 2 (8 * i + j) - 300).toNatClampNeg = 0) (-1) (A 22 (4 * (A 2 (8 * i + j) - 300).toNatClampNeg + (A 24 (A 2 (8 * i + j) - 300).toNatClampNeg).toNatClampNeg)))))
theorem nlt {a b : Nat} (ha : a < 2 ^ 31) (hb : b < 2 ^ 31) (h : ¬ a < b) : ¬ nI a < nI b := fun q => h ((nI_ltI ha hb).mp q)
theorem ylt {a b : Nat} (ha : a < 2 ^ 31) (hb : b < 2 ^ 31) (h : a < b) : nI a < nI b := (nI_ltI ha hb).mpr h
theorem ldT_neg {A : ST} {i j : Nat} (h : A 2 (8 * i + j) = -1) : ldT A i j = -1 := by
  unfold ldT
  rw [h, cI_t (by decide)]
theorem ldT_room {A : ST} {i j k : Nat} (h : A 2 (8 * i + j) = nI k) (hk : k < 100) : ldT A i j = nI k := by
  unfold ldT
  rw [h, cI_t (ylt (b := 100) (by omega) (by omega) hk)]
theorem ldT_door {A : ST} {i j k : Nat} (h : A 2 (8 * i + j) = nI (100 + k)) (hk : k < 100) : ldT A i j = cI (A 8 k = 1) (cI (A 5 k = nI i) (A 6 k) (A 5 k)) (-1) := by
  unfold ldT
  rw [h, cI_f (nlt (b := 100) (by omega) (by omega) (by omega)), cI_t (ylt (b := 200) (by omega) (by omega) (by omega)), show nI (100 + k) - 100 = nI k from nsub 100 k, nI_clamp (by omega)]
theorem ldT_blk {A : ST} {i j k : Nat} (h : A 2 (8 * i + j) = nI (200 + k)) (hk : k < 50) : ldT A i j = -1 := by
  unfold ldT
  rw [h, cI_f (nlt (b := 100) (by omega) (by omega) (by omega)), cI_f (nlt (b := 200) (by omega) (by omega) (by omega)), cI_t (ylt (b := 300) (by omega) (by omega) (by omega))]
theorem ldT_rule {A : ST} {i j k q : Nat} (h : A 2 (8 * i + j) = nI (300 + k)) (hk : k < 5) (hq : A 24 k = nI q) (hq2 : q < 2 ^ 31) : ldT A i j = cI (A 23 k = 0) (-1) (A 22 (4 * k + q)) := by
  unfold ldT
  rw [h, cI_f (nlt (b := 100) (by omega) (by omega) (by omega)), cI_f (nlt (b := 200) (by omega) (by omega) (by omega)), cI_f (nlt (b := 300) (by omega) (by omega) (by omega)), show nI (300 + k) - 300 = nI k from nsub 300 k, nI_clamp (by omega), hq, nI_clamp hq2]
theorem ldT_ok {r d t b : Nat} {A : ST} (hI : Inv r d t b A) {i j : Nat} (hi : i < r) (hj : j < 8) : ldT A i j = -1 ∨ ∃ x, x < r ∧ ldT A i j = nI x := by
  have hN := hI.cn
  rcases hI.cw hi hj with hw | ⟨k, hk, hw⟩ | ⟨k, hk, hw, hs⟩ | ⟨k, hk, hw⟩ | ⟨k, hk, hw⟩
  · exact Or.inl (ldT_neg hw)
  · exact Or.inr ⟨k, hk, ldT_room hw (by omega)⟩
  · rw [ldT_door hw (by omega)]
    obtain ⟨⟨a, ha, ea⟩, h6, -⟩ := hI.cd hk
    by_cases h8 : A 8 k = 1
    · rw [cI_t h8]
      by_cases h5 : A 5 k = nI i
      · rw [cI_t h5]
        rcases h6 with h6 | ⟨c, hc, ec⟩
        · exact Or.inl h6
        · exact Or.inr ⟨c, hc, ec⟩
      · rw [cI_f h5]
        exact Or.inr ⟨a, ha, ea⟩
    · rw [cI_f h8]; exact Or.inl rfl
  · exact Or.inl (ldT_blk hw hk)
  · obtain ⟨m, q, hm, e1, e2, hq, hx⟩ := hI.cr hk
    rw [ldT_rule hw hk e2 (by omega)]
    by_cases h0 : A 23 k = 0
    · rw [cI_t h0]; exact Or.inl rfl
    · rw [cI_f h0]
      rcases hq with hq | ⟨hq, -⟩
      · obtain ⟨x, hx1, hx2⟩ := hx q hq
        exact Or.inr ⟨x, hx1, hx2⟩
      · subst hq; exact absurd e1 h0
noncomputable def wyT (A : ST) (i j : Nat) (s : Int32) : Int32 :=
  cI (A 2 (8 * i + j) = -1) 25 (cI (200 ≤ A 2 (8 * i + j) ∧ A 2 (8 * i + j) ≤ 249) (50 + A 2 (8 * i + j) - 200) (cI ((100 ≤ A 2 (8 * i + j) ∧ A 2 (8 * i + j) ≤ 199) ∧ ¬ A 8 (A 2 (8 * i + j) - 100).toNatClampNeg = 1) (cI (A 9 (A 2 (8 * i + j) - 100).toNatClampNeg = 1) 27 26) (cI (ldT A i j < 0) 28 (cI (A 3 (8 * i + j) < s) 29 0))))
end
section
theorem ev_X6_in0 {g : GD} {L : List AE} (v : Int32) (n : Nat) (hn : 1 ≤ n ∧ n < 2 ^ 31) : EvP g mX6_in [aI v, aI 0, aI (nI (n - 1))] L (some (aI (b2 (isN v n)))) := by
  have h := ev_X6_in (g := g) (L := L) v 0 (nI (n - 1))
  have e : (0 ≤ v ∧ v ≤ nI (n - 1)) ↔ isN v n := by
    rw [i32_le, i32_le, nI_toInt (by omega), k0]
    unfold isN
    omega
  rw [b2_iff e] at h
  exact h
theorem ev_X6_held {g : GD} {r d t b : Nat} {A : ST} {L : List AE} (hM : MR r d t b A L) (hI : Inv r d t b A) {w : Nat} (hw : w < b) : EvP g mX6_held [aR 23, aI (nI w)] L (some (aI (nI (cnt (hol A w) t)))) := by
  refine Ev.of [some (aR 23), some (aI (nI w)), none, none] (by decide) rfl (Nat.le_of_ble_eq_true rfl) fun Z H0 C X => ?_
  have hN := hI.cn
  refine V.iconst C (x := 0) dX6_held_0 (by decide) ?_
  refine V.ist_n C dX6_held_1 (Nat.le_of_ble_eq_true rfl) rfl ?_
  refine V.iconst C (x := 0) dX6_held_2 (by decide) ?_
  refine V.ist_n C dX6_held_3 (Nat.le_of_ble_eq_true rfl) rfl ?_
  have key4 : ∀ (n : Nat) (i : Nat), i ≤ t → t - i < n → V g Z H0 4 L 0 0 4 [some (aR 23), some (aI (nI w)), some (aI (nI (cnt (hol A w) i))), some (aI (nI i))] [] := by
    intro n
    induction n with
    | zero => intro i h1 h2; exact absurd h2 (by omega)
    | succ n ih =>
      intro i h1 h2
      refine V.ild_n C dX6_held_4 rfl ?_
      refine V.ald_n C dX6_held_5 rfl ?_
      refine V.get C fg_RX6_91 dX6_held_6 hM.1 rfl ?_
      refine V.icmpN_ge C (i) (t) (tgt := 35) dX6_held_9 (by decide) (by omega) (by omega) (fun h9 => ?_) (fun h9 => ?_)
      · skip
        refine V.ild_n C dX6_held_35 rfl ?_
        exact V.iret X dX6_held_36 rfl (by decide) (by decide) (pq (by rw [show i = t by omega]))
      · skip
        refine V.ild_n C dX6_held_12 rfl ?_
        refine V.ald_n C dX6_held_13 rfl ?_
        refine V.ild_n C dX6_held_14 rfl ?_
        refine V.ild_n C dX6_held_15 rfl ?_
        refine V.callVp C mo_X6_holds im_X6_holds se_X6_holds ml_RX6_114 (ev_X6_holds hM hI (by omega) (by omega)) dX6_held_16 rfl rfl hM.1 rfl rfl (Nat.le_of_ble_eq_true rfl) (RmOk.mk' (by decide) (by decide) (by decide) (by decide)) ⟨rfl, rfl⟩ ?_
        refine V.ifb_eq C (tgt := 26) dX6_held_19 (by decide) (fun h19 => ?_) (fun h19 => ?_)
        · skip
          refine V.iconst C (x := 0) dX6_held_26 (by decide) ?_
          refine V.iadd C dX6_held_27 ?_
          refine V.top (cnt_f h19) ?_
          refine V.ist_n C dX6_held_28 (Nat.le_of_ble_eq_true rfl) rfl ?_
          refine V.iinc C (y := nI (i + 1)) dX6_held_29 rfl (nI_1 i) rfl ?_
          refine V.goto C (tgt := 4) dX6_held_32 (by decide) ?_
          exact ih (i + 1) (by omega) (by omega)
        · skip
          refine V.iconst C (x := 1) dX6_held_22 (by decide) ?_
          refine V.goto C (tgt := 27) dX6_held_23 (by decide) ?_
          refine V.iadd C dX6_held_27 ?_
          refine V.top (cnt_t h19) ?_
          refine V.ist_n C dX6_held_28 (Nat.le_of_ble_eq_true rfl) rfl ?_
          refine V.iinc C (y := nI (i + 1)) dX6_held_29 rfl (nI_1 i) rfl ?_
          refine V.goto C (tgt := 4) dX6_held_32 (by decide) ?_
          exact ih (i + 1) (by omega) (by omega)
  exact key4 (t + 1) 0 (by omega) (by omega)
theorem b2_ex_t {P : Nat → Prop} {i : Nat} (h : (∃ e, e < i ∧ P e) ∨ P i) : (1 : Int32) = b2 (∃ e, e < i + 1 ∧ P e) := by
  rw [b2_t]
  rcases h with ⟨e, h1, h2⟩ | h
  · exact ⟨e, by omega, h2⟩
  · exact ⟨i, by omega, h⟩
theorem b2_ex_f {P : Nat → Prop} {i : Nat} (h : ¬ ∃ e, e < i ∧ P e) (h2 : ¬ P i) : (0 : Int32) = b2 (∃ e, e < i + 1 ∧ P e) := by
  rw [b2_f]
  rintro ⟨e, h3, h4⟩
  by_cases he : e = i
  · subst he; exact h2 h4
  · exact h ⟨e, by omega, h4⟩
theorem ev_X6_holdsOther {g : GD} {r d t b : Nat} {A : ST} {L : List AE} (hM : MR r d t b A L) (hI : Inv r d t b A) {w j : Nat} (hw : w < b) (hj : j < d) : EvP g mX6_holdsOther [aR 23, aI (nI w), aI (nI j)] L (some (aI (b2 (∃ e, e < d ∧ (fun e => e ≠ j ∧ keyH A w e) e)))) := by
  refine Ev.of [some (aR 23), some (aI (nI w)), some (aI (nI j)), none, none] (by decide) rfl (Nat.le_of_ble_eq_true rfl) fun Z H0 C X => ?_
  have hN := hI.cn
  refine V.iconst C (x := 0) dX6_holdsOther_0 (by decide) ?_
  refine V.ist_n C dX6_holdsOther_1 (Nat.le_of_ble_eq_true rfl) rfl ?_
  refine V.iconst C (x := 0) dX6_holdsOther_2 (by decide) ?_
  refine V.ist C dX6_holdsOther_3 (Nat.le_of_ble_eq_true rfl) rfl ?_
  have key5 : ∀ (n : Nat) (i : Nat), i ≤ d → d - i < n → V g Z H0 5 L 0 0 5 [some (aR 23), some (aI (nI w)), some (aI (nI j)), some (aI (b2 (∃ e, e < i ∧ (fun e => e ≠ j ∧ keyH A w e) e))), some (aI (nI i))] [] := by
    intro n
    induction n with
    | zero => intro i h1 h2; exact absurd h2 (by omega)
    | succ n ih =>
      intro i h1 h2
      refine V.ild C dX6_holdsOther_5 rfl ?_
      refine V.ald_n C dX6_holdsOther_7 rfl ?_
      refine V.get C fg_RX6_88 dX6_holdsOther_8 hM.1 rfl ?_
      refine V.icmpN_ge C (i) (d) (tgt := 61) dX6_holdsOther_11 (by decide) (by omega) (by omega) (fun h11 => ?_) (fun h11 => ?_)
      · skip
        refine V.ild_n C dX6_holdsOther_61 rfl ?_
        exact V.iret X dX6_holdsOther_62 (b2_nar _) (by decide) (by decide) (pq (by rw [show i = d by omega]))
      · skip
        refine V.ild_n C dX6_holdsOther_14 rfl ?_
        refine V.ifb_ne C (tgt := 49) dX6_holdsOther_15 (by decide) (fun h15 => ?_) (fun h15 => ?_)
        · skip
          refine V.iconst C (x := 1) dX6_holdsOther_49 (by decide) ?_
          refine V.goto C (tgt := 54) dX6_holdsOther_50 (by decide) ?_
          refine V.top (b2_ex_t (Or.inl h15)) ?_
          refine V.ist_n C dX6_holdsOther_54 (Nat.le_of_ble_eq_true rfl) rfl ?_
          refine V.iinc C (y := nI (i + 1)) dX6_holdsOther_55 rfl (nI_1 i) rfl ?_
          refine V.goto C (tgt := 5) dX6_holdsOther_58 (by decide) ?_
          exact ih (i + 1) (by omega) (by omega)
        · skip
          refine V.ild C dX6_holdsOther_18 rfl ?_
          refine V.ild_n C dX6_holdsOther_20 rfl ?_
          refine V.icmpN_eq C (i) (j) (tgt := 53) dX6_holdsOther_21 (by decide) (by omega) (by omega) (fun h21 => ?_) (fun h21 => ?_)
          · skip
            refine V.iconst C (x := 0) dX6_holdsOther_53 (by decide) ?_
            refine V.top (b2_ex_f h15 (fun q => q.1 h21)) ?_
            refine V.ist_n C dX6_holdsOther_54 (Nat.le_of_ble_eq_true rfl) rfl ?_
            refine V.iinc C (y := nI (i + 1)) dX6_holdsOther_55 rfl (nI_1 i) rfl ?_
            refine V.goto C (tgt := 5) dX6_holdsOther_58 (by decide) ?_
            exact ih (i + 1) (by omega) (by omega)
          · skip
            rcases (hI.cd (show i < d by omega)).2.2.2.1 with hk | ⟨k, hk0, hk, -⟩
            · skip
              refine V.ald_n C dX6_holdsOther_24 rfl ?_
              refine V.get C fg_RX6_22 dX6_holdsOther_25 hM.1 rfl ?_
              refine V.ild C dX6_holdsOther_28 rfl ?_
              refine V.ialdN C (N := 15) dX6_holdsOther_30 (hM.2 7 (by decide)) (by omega) (by decide) ?_
              refine V.top hk ?_
              refine V.if_lt C (tgt := 53) dX6_holdsOther_31 (by decide) (fun h31 => ?_) (fun h31 => absurd h31 (by decide))
              refine V.iconst C (x := 0) dX6_holdsOther_53 (by decide) ?_
              refine V.top (b2_ex_f h15 (fun q => keyH_neg hk q.2)) ?_
              refine V.ist_n C dX6_holdsOther_54 (Nat.le_of_ble_eq_true rfl) rfl ?_
              refine V.iinc C (y := nI (i + 1)) dX6_holdsOther_55 rfl (nI_1 i) rfl ?_
              refine V.goto C (tgt := 5) dX6_holdsOther_58 (by decide) ?_
              exact ih (i + 1) (by omega) (by omega)
            · skip
              refine V.ald_n C dX6_holdsOther_24 rfl ?_
              refine V.get C fg_RX6_22 dX6_holdsOther_25 hM.1 rfl ?_
              refine V.ild C dX6_holdsOther_28 rfl ?_
              refine V.ialdN C (N := 15) dX6_holdsOther_30 (hM.2 7 (by decide)) (by omega) (by decide) ?_
              refine V.top hk ?_
              refine V.if_lt C (tgt := 53) dX6_holdsOther_31 (by decide) (fun h31 => absurd h31 (nI_pos (by omega))) (fun h31 => ?_)
              refine V.ald_n C dX6_holdsOther_34 rfl ?_
              refine V.ild_n C dX6_holdsOther_35 rfl ?_
              refine V.ald_n C dX6_holdsOther_36 rfl ?_
              refine V.get C fg_RX6_22 dX6_holdsOther_37 hM.1 rfl ?_
              refine V.ild C dX6_holdsOther_40 rfl ?_
              refine V.ialdN C (N := 15) dX6_holdsOther_42 (hM.2 7 (by decide)) (by omega) (by decide) ?_
              refine V.top hk ?_
              refine V.callVp C mo_X6_holds im_X6_holds se_X6_holds ml_RX6_114 (ev_X6_holds hM hI (by omega) (by omega)) dX6_holdsOther_43 rfl rfl hM.1 rfl rfl (Nat.le_of_ble_eq_true rfl) (RmOk.mk' (by decide) (by decide) (by decide) (by decide)) ⟨rfl, rfl⟩ ?_
              refine V.ifb_eq C (tgt := 53) dX6_holdsOther_46 (by decide) (fun h46 => ?_) (fun h46 => ?_)
              · skip
                refine V.iconst C (x := 0) dX6_holdsOther_53 (by decide) ?_
                refine V.top (b2_ex_f h15 (fun q => h46 ((keyH_k hk (by omega)).mp q.2))) ?_
                refine V.ist_n C dX6_holdsOther_54 (Nat.le_of_ble_eq_true rfl) rfl ?_
                refine V.iinc C (y := nI (i + 1)) dX6_holdsOther_55 rfl (nI_1 i) rfl ?_
                refine V.goto C (tgt := 5) dX6_holdsOther_58 (by decide) ?_
                exact ih (i + 1) (by omega) (by omega)
              · skip
                refine V.iconst C (x := 1) dX6_holdsOther_49 (by decide) ?_
                refine V.goto C (tgt := 54) dX6_holdsOther_50 (by decide) ?_
                refine V.top (b2_ex_t (P := fun e => e ≠ j ∧ keyH A w e) (Or.inr ⟨h21, (keyH_k hk (by omega)).mpr h46⟩)) ?_
                refine V.ist_n C dX6_holdsOther_54 (Nat.le_of_ble_eq_true rfl) rfl ?_
                refine V.iinc C (y := nI (i + 1)) dX6_holdsOther_55 rfl (nI_1 i) rfl ?_
                refine V.goto C (tgt := 5) dX6_holdsOther_58 (by decide) ?_
                exact ih (i + 1) (by omega) (by omega)
  have e0 : (0 : Int32) = b2 (∃ e, e < 0 ∧ (fun e => e ≠ j ∧ keyH A w e) e) := by rw [b2_f]; rintro ⟨e, h, -⟩; omega
  have hk0 := key5 (d + 1) 0 (by omega) (by omega)
  rw [← e0] at hk0
  exact hk0
theorem ev_X6_otherSide {g : GD} {r d t b : Nat} {A : ST} {L : List AE} (hM : MR r d t b A L) (hI : Inv r d t b A) {j : Nat} (hj : j < d) (x : Int32) : EvP g mX6_otherSide [aR 23, aI (nI j), aI x] L (some (aI (cI (A 5 j = x) (A 6 j) (A 5 j)))) := by
  refine Ev.of [some (aR 23), some (aI (nI j)), some (aI x)] (by decide) rfl (Nat.le_of_ble_eq_true rfl) fun Z H0 C X => ?_
  have hN := hI.cn
  refine V.ald_n C dX6_otherSide_0 rfl ?_
  refine V.get C fg_RX6_16 dX6_otherSide_1 hM.1 rfl ?_
  refine V.ild_n C dX6_otherSide_4 rfl ?_
  refine V.ialdN C (N := 15) dX6_otherSide_5 (hM.2 5 (by decide)) (by omega) (by decide) ?_
  refine V.ild_n C dX6_otherSide_6 rfl ?_
  refine V.icmp_ne C (tgt := 19) dX6_otherSide_7 (by decide) (fun h7 => ?_) (fun h7 => ?_)
  · skip
    refine V.ald_n C dX6_otherSide_19 rfl ?_
    refine V.get C fg_RX6_16 dX6_otherSide_20 hM.1 rfl ?_
    refine V.ild_n C dX6_otherSide_23 rfl ?_
    refine V.ialdN C (N := 15) dX6_otherSide_24 (hM.2 5 (by decide)) (by omega) (by decide) ?_
    exact V.iret X dX6_otherSide_25 rfl (by decide) (by decide) (pq (cI_f h7).symm)
  · skip
    refine V.ald_n C dX6_otherSide_10 rfl ?_
    refine V.get C fg_RX6_19 dX6_otherSide_11 hM.1 rfl ?_
    refine V.ild_n C dX6_otherSide_14 rfl ?_
    refine V.ialdN C (N := 15) dX6_otherSide_15 (hM.2 6 (by decide)) (by omega) (by decide) ?_
    refine V.goto C (tgt := 25) dX6_otherSide_16 (by decide) ?_
    exact V.iret X dX6_otherSide_25 rfl (by decide) (by decide) (pq (cI_t h7).symm)
theorem ev_X6_leadsTo {g : GD} {r d t b : Nat} {A : ST} {L : List AE} (hM : MR r d t b A L) (hI : Inv r d t b A) {i j : Nat} (hi : i < r) (hj : j < 8) : EvP g mX6_leadsTo [aR 23, aI (nI i), aI (nI j)] L (some (aI (ldT A i j))) := by
  refine Ev.of [some (aR 23), some (aI (nI i)), some (aI (nI j)), none] (by decide) rfl (Nat.le_of_ble_eq_true rfl) fun Z H0 C X => ?_
  have hN := hI.cn
  rcases hI.cw hi hj with hw | ⟨k, hk, hw⟩ | ⟨k, hk, hw, hs⟩ | ⟨k, hk, hw⟩ | ⟨k, hk, hw⟩
  · skip
    refine V.ald_n C dX6_leadsTo_0 rfl ?_
    refine V.get C fg_RX6_7 dX6_leadsTo_1 hM.1 rfl ?_
    refine V.bipush C (x := 8) dX6_leadsTo_4 (by decide) ?_
    refine V.ild_n C dX6_leadsTo_6 rfl ?_
    refine V.imul C dX6_leadsTo_7 ?_
    refine V.top (pk_mul 8 i) ?_
    refine V.ild_n C dX6_leadsTo_8 rfl ?_
    refine V.iadd C dX6_leadsTo_9 ?_
    refine V.top (nI_add (8 * i) j) ?_
    refine V.ialdN C (N := 160) dX6_leadsTo_10 (hM.2 2 (by decide)) (by omega) (by decide) ?_
    refine V.top hw ?_
    refine V.ist_n C dX6_leadsTo_11 (Nat.le_of_ble_eq_true rfl) rfl ?_
    refine V.ild_n C dX6_leadsTo_12 rfl ?_
    refine V.bipush C (x := 100) dX6_leadsTo_13 (by decide) ?_
    refine V.icmp_ge C (tgt := 20) dX6_leadsTo_15 (by decide) (fun h15 => absurd h15 (by decide)) (fun h15 => ?_)
    refine V.ild_n C dX6_leadsTo_18 rfl ?_
    exact V.iret X dX6_leadsTo_19 rfl (by decide) (by decide) (pq (ldT_neg hw).symm)
  · skip
    refine V.ald_n C dX6_leadsTo_0 rfl ?_
    refine V.get C fg_RX6_7 dX6_leadsTo_1 hM.1 rfl ?_
    refine V.bipush C (x := 8) dX6_leadsTo_4 (by decide) ?_
    refine V.ild_n C dX6_leadsTo_6 rfl ?_
    refine V.imul C dX6_leadsTo_7 ?_
    refine V.top (pk_mul 8 i) ?_
    refine V.ild_n C dX6_leadsTo_8 rfl ?_
    refine V.iadd C dX6_leadsTo_9 ?_
    refine V.top (nI_add (8 * i) j) ?_
    refine V.ialdN C (N := 160) dX6_leadsTo_10 (hM.2 2 (by decide)) (by omega) (by decide) ?_
    refine V.top hw ?_
    refine V.ist_n C dX6_leadsTo_11 (Nat.le_of_ble_eq_true rfl) rfl ?_
    refine V.ild_n C dX6_leadsTo_12 rfl ?_
    refine V.bipush C (x := 100) dX6_leadsTo_13 (by decide) ?_
    refine V.icmpN_ge C (k) (100) (tgt := 20) dX6_leadsTo_15 (by decide) (by omega) (by omega) (fun h15 => absurd h15 (by omega)) (fun h15 => ?_)
    refine V.ild_n C dX6_leadsTo_18 rfl ?_
    exact V.iret X dX6_leadsTo_19 rfl (by decide) (by decide) (pq (ldT_room hw (by omega)).symm)
  · skip
    refine V.ald_n C dX6_leadsTo_0 rfl ?_
    refine V.get C fg_RX6_7 dX6_leadsTo_1 hM.1 rfl ?_
    refine V.bipush C (x := 8) dX6_leadsTo_4 (by decide) ?_
    refine V.ild_n C dX6_leadsTo_6 rfl ?_
    refine V.imul C dX6_leadsTo_7 ?_
    refine V.top (pk_mul 8 i) ?_
    refine V.ild_n C dX6_leadsTo_8 rfl ?_
    refine V.iadd C dX6_leadsTo_9 ?_
    refine V.top (nI_add (8 * i) j) ?_
    refine V.ialdN C (N := 160) dX6_leadsTo_10 (hM.2 2 (by decide)) (by omega) (by decide) ?_
    refine V.top hw ?_
    refine V.ist_n C dX6_leadsTo_11 (Nat.le_of_ble_eq_true rfl) rfl ?_
    refine V.ild_n C dX6_leadsTo_12 rfl ?_
    refine V.bipush C (x := 100) dX6_leadsTo_13 (by decide) ?_
    refine V.icmpN_ge C (100 + k) (100) (tgt := 20) dX6_leadsTo_15 (by decide) (by omega) (by omega) (fun h15 => ?_) (fun h15 => absurd h15 (by omega))
    refine V.ild_n C dX6_leadsTo_20 rfl ?_
    refine V.sipush C (x := 200) dX6_leadsTo_21 (by decide) ?_
    refine V.icmpN_ge C (100 + k) (200) (tgt := 53) dX6_leadsTo_24 (by decide) (by omega) (by omega) (fun h24 => absurd h24 (by omega)) (fun h24 => ?_)
    refine V.ald_n C dX6_leadsTo_27 rfl ?_
    refine V.get C fg_RX6_25 dX6_leadsTo_28 hM.1 rfl ?_
    refine V.ild_n C dX6_leadsTo_31 rfl ?_
    refine V.bipush C (x := 100) dX6_leadsTo_32 (by decide) ?_
    refine V.isub C dX6_leadsTo_34 ?_
    refine V.top (nsub 100 k) ?_
    refine V.zaldN C (N := 15) dX6_leadsTo_35 (hM.2 8 (by decide)) (by omega) (by decide) ?_
    refine V.if_eq C (tgt := 51) dX6_leadsTo_36 (by decide) (fun h36 => ?_) (fun h36 => ?_)
    · skip
      refine V.iconst C (x := -1) dX6_leadsTo_51 (by decide) ?_
      exact V.iret X dX6_leadsTo_52 rfl (by decide) (by decide) (pq (by rw [ldT_door hw (by omega), cI_f (by rw [h36]; decide)]))
    · skip
      refine V.ald_n C dX6_leadsTo_39 rfl ?_
      refine V.ild_n C dX6_leadsTo_40 rfl ?_
      refine V.bipush C (x := 100) dX6_leadsTo_41 (by decide) ?_
      refine V.isub C dX6_leadsTo_43 ?_
      refine V.top (nsub 100 k) ?_
      refine V.ild_n C dX6_leadsTo_44 rfl ?_
      refine V.callVp C mo_X6_otherSide im_X6_otherSide se_X6_otherSide ml_RX6_146 (ev_X6_otherSide hM hI (by omega) _) dX6_leadsTo_45 rfl rfl hM.1 rfl rfl (Nat.le_of_ble_eq_true rfl) (RmOk.mk' (by decide) (by decide) (by decide) (by decide)) ⟨rfl, rfl⟩ ?_
      refine V.goto C (tgt := 52) dX6_leadsTo_48 (by decide) ?_
      exact V.iret X dX6_leadsTo_52 rfl (by decide) (by decide) (pq (by rw [ldT_door hw (by omega), cI_t ((hI.cd hk).2.2.2.2.1.resolve_left h36)]))
  · skip
    refine V.ald_n C dX6_leadsTo_0 rfl ?_
    refine V.get C fg_RX6_7 dX6_leadsTo_1 hM.1 rfl ?_
    refine V.bipush C (x := 8) dX6_leadsTo_4 (by decide) ?_
    refine V.ild_n C dX6_leadsTo_6 rfl ?_
    refine V.imul C dX6_leadsTo_7 ?_
    refine V.top (pk_mul 8 i) ?_
    refine V.ild_n C dX6_leadsTo_8 rfl ?_
    refine V.iadd C dX6_leadsTo_9 ?_
    refine V.top (nI_add (8 * i) j) ?_
    refine V.ialdN C (N := 160) dX6_leadsTo_10 (hM.2 2 (by decide)) (by omega) (by decide) ?_
    refine V.top hw ?_
    refine V.ist_n C dX6_leadsTo_11 (Nat.le_of_ble_eq_true rfl) rfl ?_
    refine V.ild_n C dX6_leadsTo_12 rfl ?_
    refine V.bipush C (x := 100) dX6_leadsTo_13 (by decide) ?_
    refine V.icmpN_ge C (200 + k) (100) (tgt := 20) dX6_leadsTo_15 (by decide) (by omega) (by omega) (fun h15 => ?_) (fun h15 => absurd h15 (by omega))
    refine V.ild_n C dX6_leadsTo_20 rfl ?_
    refine V.sipush C (x := 200) dX6_leadsTo_21 (by decide) ?_
    refine V.icmpN_ge C (200 + k) (200) (tgt := 53) dX6_leadsTo_24 (by decide) (by omega) (by omega) (fun h24 => ?_) (fun h24 => absurd h24 (by omega))
    refine V.ild_n C dX6_leadsTo_53 rfl ?_
    refine V.sipush C (x := 300) dX6_leadsTo_54 (by decide) ?_
    refine V.icmpN_lt C (200 + k) (300) (tgt := 73) dX6_leadsTo_57 (by decide) (by omega) (by omega) (fun h57 => ?_) (fun h57 => absurd h57 (by omega))
    refine V.iconst C (x := -1) dX6_leadsTo_73 (by decide) ?_
    refine V.goto C (tgt := 100) dX6_leadsTo_74 (by decide) ?_
    exact V.iret X dX6_leadsTo_100 rfl (by decide) (by decide) (pq (ldT_blk hw hk).symm)
  · skip
    refine V.ald_n C dX6_leadsTo_0 rfl ?_
    refine V.get C fg_RX6_7 dX6_leadsTo_1 hM.1 rfl ?_
    refine V.bipush C (x := 8) dX6_leadsTo_4 (by decide) ?_
    refine V.ild_n C dX6_leadsTo_6 rfl ?_
    refine V.imul C dX6_leadsTo_7 ?_
    refine V.top (pk_mul 8 i) ?_
    refine V.ild_n C dX6_leadsTo_8 rfl ?_
    refine V.iadd C dX6_leadsTo_9 ?_
    refine V.top (nI_add (8 * i) j) ?_
    refine V.ialdN C (N := 160) dX6_leadsTo_10 (hM.2 2 (by decide)) (by omega) (by decide) ?_
    refine V.top hw ?_
    refine V.ist_n C dX6_leadsTo_11 (Nat.le_of_ble_eq_true rfl) rfl ?_
    refine V.ild_n C dX6_leadsTo_12 rfl ?_
    refine V.bipush C (x := 100) dX6_leadsTo_13 (by decide) ?_
    refine V.icmpN_ge C (300 + k) (100) (tgt := 20) dX6_leadsTo_15 (by decide) (by omega) (by omega) (fun h15 => ?_) (fun h15 => absurd h15 (by omega))
    refine V.ild_n C dX6_leadsTo_20 rfl ?_
    refine V.sipush C (x := 200) dX6_leadsTo_21 (by decide) ?_
    refine V.icmpN_ge C (300 + k) (200) (tgt := 53) dX6_leadsTo_24 (by decide) (by omega) (by omega) (fun h24 => ?_) (fun h24 => absurd h24 (by omega))
    refine V.ild_n C dX6_leadsTo_53 rfl ?_
    refine V.sipush C (x := 300) dX6_leadsTo_54 (by decide) ?_
    refine V.icmpN_lt C (300 + k) (300) (tgt := 73) dX6_leadsTo_57 (by decide) (by omega) (by omega) (fun h57 => absurd h57 (by omega)) (fun h57 => ?_)
    obtain ⟨m, q, hm, e1, e2, hq, hx⟩ := hI.cr hk
    refine V.ald_n C dX6_leadsTo_60 rfl ?_
    refine V.get C fg_RX6_65 dX6_leadsTo_61 hM.1 rfl ?_
    refine V.ild_n C dX6_leadsTo_64 rfl ?_
    refine V.sipush C (x := 300) dX6_leadsTo_65 (by decide) ?_
    refine V.isub C dX6_leadsTo_68 ?_
    refine V.top (nsub 300 k) ?_
    refine V.ialdN C (N := 5) dX6_leadsTo_69 (hM.2 23 (by decide)) (by omega) (by decide) ?_
    refine V.if_ne C (tgt := 77) dX6_leadsTo_70 (by decide) (fun h70 => ?_) (fun h70 => ?_)
    · skip
      have hq : q < m := by
        rcases hq with hq | ⟨hq, -⟩
        · exact hq
        · subst hq; exact absurd e1 h70
      refine V.ald_n C dX6_leadsTo_77 rfl ?_
      refine V.get C fg_RX6_62 dX6_leadsTo_78 hM.1 rfl ?_
      refine V.iconst C (x := 4) dX6_leadsTo_81 (by decide) ?_
      refine V.ild_n C dX6_leadsTo_82 rfl ?_
      refine V.sipush C (x := 300) dX6_leadsTo_83 (by decide) ?_
      refine V.isub C dX6_leadsTo_86 ?_
      refine V.top (nsub 300 k) ?_
      refine V.imul C dX6_leadsTo_87 ?_
      refine V.top (pk_mul 4 k) ?_
      refine V.ald_n C dX6_leadsTo_88 rfl ?_
      refine V.get C fg_RX6_68 dX6_leadsTo_89 hM.1 rfl ?_
      refine V.ild_n C dX6_leadsTo_92 rfl ?_
      refine V.sipush C (x := 300) dX6_leadsTo_93 (by decide) ?_
      refine V.isub C dX6_leadsTo_96 ?_
      refine V.top (nsub 300 k) ?_
      refine V.ialdN C (N := 5) dX6_leadsTo_97 (hM.2 24 (by decide)) (by omega) (by decide) ?_
      refine V.top e2 ?_
      refine V.iadd C dX6_leadsTo_98 ?_
      refine V.top (nI_add (4 * k) q) ?_
      refine V.ialdN C (N := 20) dX6_leadsTo_99 (hM.2 22 (by decide)) (by omega) (by decide) ?_
      exact V.iret X dX6_leadsTo_100 rfl (by decide) (by decide) (pq (by rw [ldT_rule hw hk e2 (by omega), cI_f h70]))
    · skip
      refine V.iconst C (x := -1) dX6_leadsTo_73 (by decide) ?_
      refine V.goto C (tgt := 100) dX6_leadsTo_74 (by decide) ?_
      exact V.iret X dX6_leadsTo_100 rfl (by decide) (by decide) (pq (by rw [ldT_rule hw hk e2 (by omega), cI_t h70]))
theorem ev_X6_wayText {g : GD} {r d t b : Nat} {A : ST} {L : List AE} (hM : MR r d t b A L) (hI : Inv r d t b A) {i j : Nat} (hi : i < r) (hj : j < 8) (s : Int32) : EvP g mX6_wayText [aR 23, aI (nI i), aI (nI j), aI s] L (some (aI (wyT A i j s))) := by
  refine Ev.of [some (aR 23), some (aI (nI i)), some (aI (nI j)), some (aI s), none] (by decide) rfl (Nat.le_of_ble_eq_true rfl) fun Z H0 C X => ?_
  have hN := hI.cn
  rcases hI.cw hi hj with hw | ⟨k, hk, hw⟩ | ⟨k, hk, hw, hs⟩ | ⟨k, hk, hw⟩ | ⟨k, hk, hw⟩
  · skip
    refine V.ald_n C dX6_wayText_0 rfl ?_
    refine V.get C fg_RX6_7 dX6_wayText_1 hM.1 rfl ?_
    refine V.bipush C (x := 8) dX6_wayText_4 (by decide) ?_
    refine V.ild_n C dX6_wayText_6 rfl ?_
    refine V.imul C dX6_wayText_7 ?_
    refine V.top (pk_mul 8 i) ?_
    refine V.ild_n C dX6_wayText_8 rfl ?_
    refine V.iadd C dX6_wayText_9 ?_
    refine V.top (nI_add (8 * i) j) ?_
    refine V.ialdN C (N := 160) dX6_wayText_10 (hM.2 2 (by decide)) (by omega) (by decide) ?_
    refine V.top hw ?_
    refine V.ist C dX6_wayText_11 (Nat.le_of_ble_eq_true rfl) rfl ?_
    refine V.ild C dX6_wayText_13 rfl ?_
    refine V.iconst C (x := -1) dX6_wayText_15 (by decide) ?_
    refine V.icmp_ne C (tgt := 22) dX6_wayText_16 (by decide) (fun h16 => absurd h16 (by decide)) (fun h16 => ?_)
    refine V.bipush C (x := 25) dX6_wayText_19 (by decide) ?_
    exact V.iret X dX6_wayText_21 rfl (by decide) (by decide) (pq (by unfold wyT; rw [cI_t hw]))
  · skip
    refine V.ald_n C dX6_wayText_0 rfl ?_
    refine V.get C fg_RX6_7 dX6_wayText_1 hM.1 rfl ?_
    refine V.bipush C (x := 8) dX6_wayText_4 (by decide) ?_
    refine V.ild_n C dX6_wayText_6 rfl ?_
    refine V.imul C dX6_wayText_7 ?_
    refine V.top (pk_mul 8 i) ?_
    refine V.ild_n C dX6_wayText_8 rfl ?_
    refine V.iadd C dX6_wayText_9 ?_
    refine V.top (nI_add (8 * i) j) ?_
    refine V.ialdN C (N := 160) dX6_wayText_10 (hM.2 2 (by decide)) (by omega) (by decide) ?_
    refine V.top hw ?_
    refine V.ist C dX6_wayText_11 (Nat.le_of_ble_eq_true rfl) rfl ?_
    refine V.ild C dX6_wayText_13 rfl ?_
    refine V.iconst C (x := -1) dX6_wayText_15 (by decide) ?_
    refine V.icmp_ne C (tgt := 22) dX6_wayText_16 (by decide) (fun h16 => ?_) (fun h16 => absurd h16 (nI_neg (by omega)))
    refine V.ild C dX6_wayText_22 rfl ?_
    refine V.sipush C (x := 200) dX6_wayText_24 (by decide) ?_
    refine V.sipush C (x := 249) dX6_wayText_27 (by decide) ?_
    refine V.callSp C mo_X6_in sm_X6_in ml_RX6_84 (ev_X6_in _ _ _) dX6_wayText_30 rfl rfl (Nat.le_of_ble_eq_true rfl) (RmOk.mk' (by decide) (by decide) (by decide) (by decide)) ⟨rfl, rfl⟩ ?_
    refine V.ifb_eq C (tgt := 46) dX6_wayText_33 (by decide) (fun h33 => ?_) (fun h33 => absurd h33 (fun q => by have a := (nI_leI (a := 200) (by omega) (by omega)).mp q.1; have c := (nI_leI (b := 249) (by omega) (by omega)).mp q.2; omega))
    refine V.ild C dX6_wayText_46 rfl ?_
    refine V.bipush C (x := 100) dX6_wayText_48 (by decide) ?_
    refine V.sipush C (x := 199) dX6_wayText_50 (by decide) ?_
    refine V.callSp C mo_X6_in sm_X6_in ml_RX6_84 (ev_X6_in _ _ _) dX6_wayText_53 rfl rfl (Nat.le_of_ble_eq_true rfl) (RmOk.mk' (by decide) (by decide) (by decide) (by decide)) ⟨rfl, rfl⟩ ?_
    refine V.ifb_eq C (tgt := 93) dX6_wayText_56 (by decide) (fun h56 => ?_) (fun h56 => absurd h56 (fun q => by have a := (nI_leI (a := 100) (by omega) (by omega)).mp q.1; have c := (nI_leI (b := 199) (by omega) (by omega)).mp q.2; omega))
    refine V.ald_n C dX6_wayText_93 rfl ?_
    refine V.ild_n C dX6_wayText_94 rfl ?_
    refine V.ild_n C dX6_wayText_95 rfl ?_
    refine V.callVp C mo_X6_leadsTo im_X6_leadsTo se_X6_leadsTo ml_RX6_150 (ev_X6_leadsTo hM hI (by omega) (by omega)) dX6_wayText_96 rfl rfl hM.1 rfl rfl (Nat.le_of_ble_eq_true rfl) (RmOk.mk' (by decide) (by decide) (by decide) (by decide)) ⟨rfl, rfl⟩ ?_
    refine V.if_ge C (tgt := 107) dX6_wayText_99 (by decide) (fun h99 => ?_) (fun h99 => ?_)
    · skip
      refine V.ild_n C dX6_wayText_107 rfl ?_
      refine V.ald_n C dX6_wayText_108 rfl ?_
      refine V.get C fg_RX6_13 dX6_wayText_109 hM.1 rfl ?_
      refine V.bipush C (x := 8) dX6_wayText_112 (by decide) ?_
      refine V.ild_n C dX6_wayText_114 rfl ?_
      refine V.imul C dX6_wayText_115 ?_
      refine V.top (pk_mul 8 i) ?_
      refine V.ild_n C dX6_wayText_116 rfl ?_
      refine V.iadd C dX6_wayText_117 ?_
      refine V.top (nI_add (8 * i) j) ?_
      refine V.ialdN C (N := 160) dX6_wayText_118 (hM.2 3 (by decide)) (by omega) (by decide) ?_
      refine V.icmp_le C (tgt := 127) dX6_wayText_119 (by decide) (fun h119 => ?_) (fun h119 => ?_)
      · skip
        refine V.iconst C (x := 0) dX6_wayText_127 (by decide) ?_
        exact V.iret X dX6_wayText_128 rfl (by decide) (by decide) (pq (by unfold wyT; rw [hw, cI_f (nI_neg (by omega)), cI_f h33, cI_f (fun q => h56 q.1), cI_f (Int32.not_lt.mpr h99), cI_f (fun q => Int32.not_lt.mpr h119 q)]))
      · skip
        refine V.bipush C (x := 29) dX6_wayText_122 (by decide) ?_
        refine V.goto C (tgt := 128) dX6_wayText_124 (by decide) ?_
        exact V.iret X dX6_wayText_128 rfl (by decide) (by decide) (pq (by unfold wyT; rw [hw, cI_f (nI_neg (by omega)), cI_f h33, cI_f (fun q => h56 q.1), cI_f (Int32.not_lt.mpr h99), cI_t (Int32.not_le.mp h119)]))
    · skip
      refine V.bipush C (x := 28) dX6_wayText_102 (by decide) ?_
      refine V.goto C (tgt := 128) dX6_wayText_104 (by decide) ?_
      exact V.iret X dX6_wayText_128 rfl (by decide) (by decide) (pq (by unfold wyT; rw [hw, cI_f (nI_neg (by omega)), cI_f h33, cI_f (fun q => h56 q.1), cI_t (Int32.not_le.mp h99)]))
  · skip
    refine V.ald_n C dX6_wayText_0 rfl ?_
    refine V.get C fg_RX6_7 dX6_wayText_1 hM.1 rfl ?_
    refine V.bipush C (x := 8) dX6_wayText_4 (by decide) ?_
    refine V.ild_n C dX6_wayText_6 rfl ?_
    refine V.imul C dX6_wayText_7 ?_
    refine V.top (pk_mul 8 i) ?_
    refine V.ild_n C dX6_wayText_8 rfl ?_
    refine V.iadd C dX6_wayText_9 ?_
    refine V.top (nI_add (8 * i) j) ?_
    refine V.ialdN C (N := 160) dX6_wayText_10 (hM.2 2 (by decide)) (by omega) (by decide) ?_
    refine V.top hw ?_
    refine V.ist C dX6_wayText_11 (Nat.le_of_ble_eq_true rfl) rfl ?_
    refine V.ild C dX6_wayText_13 rfl ?_
    refine V.iconst C (x := -1) dX6_wayText_15 (by decide) ?_
    refine V.icmp_ne C (tgt := 22) dX6_wayText_16 (by decide) (fun h16 => ?_) (fun h16 => absurd h16 (nI_neg (by omega)))
    refine V.ild C dX6_wayText_22 rfl ?_
    refine V.sipush C (x := 200) dX6_wayText_24 (by decide) ?_
    refine V.sipush C (x := 249) dX6_wayText_27 (by decide) ?_
    refine V.callSp C mo_X6_in sm_X6_in ml_RX6_84 (ev_X6_in _ _ _) dX6_wayText_30 rfl rfl (Nat.le_of_ble_eq_true rfl) (RmOk.mk' (by decide) (by decide) (by decide) (by decide)) ⟨rfl, rfl⟩ ?_
    refine V.ifb_eq C (tgt := 46) dX6_wayText_33 (by decide) (fun h33 => ?_) (fun h33 => absurd h33 (fun q => by have a := (nI_leI (a := 200) (by omega) (by omega)).mp q.1; have c := (nI_leI (b := 249) (by omega) (by omega)).mp q.2; omega))
    refine V.ild C dX6_wayText_46 rfl ?_
    refine V.bipush C (x := 100) dX6_wayText_48 (by decide) ?_
    refine V.sipush C (x := 199) dX6_wayText_50 (by decide) ?_
    refine V.callSp C mo_X6_in sm_X6_in ml_RX6_84 (ev_X6_in _ _ _) dX6_wayText_53 rfl rfl (Nat.le_of_ble_eq_true rfl) (RmOk.mk' (by decide) (by decide) (by decide) (by decide)) ⟨rfl, rfl⟩ ?_
    refine V.ifb_eq C (tgt := 93) dX6_wayText_56 (by decide) (fun h56 => absurd (show (100 : Int32) ≤ nI (100 + k) ∧ nI (100 + k) ≤ 199 from ⟨(nI_leI (a := 100) (by omega) (by omega)).mpr (by omega), (nI_leI (b := 199) (by omega) (by omega)).mpr (by omega)⟩) h56) (fun h56 => ?_)
    refine V.ald_n C dX6_wayText_59 rfl ?_
    refine V.get C fg_RX6_25 dX6_wayText_60 hM.1 rfl ?_
    refine V.ild C dX6_wayText_63 rfl ?_
    refine V.bipush C (x := 100) dX6_wayText_65 (by decide) ?_
    refine V.isub C dX6_wayText_67 ?_
    refine V.top (nsub 100 k) ?_
    refine V.zaldN C (N := 15) dX6_wayText_68 (hM.2 8 (by decide)) (by omega) (by decide) ?_
    refine V.if_ne C (tgt := 93) dX6_wayText_69 (by decide) (fun h69 => ?_) (fun h69 => ?_)
    · skip
      refine V.ald_n C dX6_wayText_93 rfl ?_
      refine V.ild_n C dX6_wayText_94 rfl ?_
      refine V.ild_n C dX6_wayText_95 rfl ?_
      refine V.callVp C mo_X6_leadsTo im_X6_leadsTo se_X6_leadsTo ml_RX6_150 (ev_X6_leadsTo hM hI (by omega) (by omega)) dX6_wayText_96 rfl rfl hM.1 rfl rfl (Nat.le_of_ble_eq_true rfl) (RmOk.mk' (by decide) (by decide) (by decide) (by decide)) ⟨rfl, rfl⟩ ?_
      refine V.if_ge C (tgt := 107) dX6_wayText_99 (by decide) (fun h99 => ?_) (fun h99 => ?_)
      · skip
        refine V.ild_n C dX6_wayText_107 rfl ?_
        refine V.ald_n C dX6_wayText_108 rfl ?_
        refine V.get C fg_RX6_13 dX6_wayText_109 hM.1 rfl ?_
        refine V.bipush C (x := 8) dX6_wayText_112 (by decide) ?_
        refine V.ild_n C dX6_wayText_114 rfl ?_
        refine V.imul C dX6_wayText_115 ?_
        refine V.top (pk_mul 8 i) ?_
        refine V.ild_n C dX6_wayText_116 rfl ?_
        refine V.iadd C dX6_wayText_117 ?_
        refine V.top (nI_add (8 * i) j) ?_
        refine V.ialdN C (N := 160) dX6_wayText_118 (hM.2 3 (by decide)) (by omega) (by decide) ?_
        refine V.icmp_le C (tgt := 127) dX6_wayText_119 (by decide) (fun h119 => ?_) (fun h119 => ?_)
        · skip
          refine V.iconst C (x := 0) dX6_wayText_127 (by decide) ?_
          exact V.iret X dX6_wayText_128 rfl (by decide) (by decide) (pq (by unfold wyT; rw [hw, cI_f (nI_neg (by omega)), cI_f h33, show nI (100 + k) - 100 = nI k from nsub 100 k, nI_clamp (show k < 2 ^ 31 by omega), cI_f (fun q => q.2 ((hI.cd hk).2.2.2.2.1.resolve_left h69)), cI_f (Int32.not_lt.mpr h99), cI_f (fun q => Int32.not_lt.mpr h119 q)]))
        · skip
          refine V.bipush C (x := 29) dX6_wayText_122 (by decide) ?_
          refine V.goto C (tgt := 128) dX6_wayText_124 (by decide) ?_
          exact V.iret X dX6_wayText_128 rfl (by decide) (by decide) (pq (by unfold wyT; rw [hw, cI_f (nI_neg (by omega)), cI_f h33, show nI (100 + k) - 100 = nI k from nsub 100 k, nI_clamp (show k < 2 ^ 31 by omega), cI_f (fun q => q.2 ((hI.cd hk).2.2.2.2.1.resolve_left h69)), cI_f (Int32.not_lt.mpr h99), cI_t (Int32.not_le.mp h119)]))
      · skip
        refine V.bipush C (x := 28) dX6_wayText_102 (by decide) ?_
        refine V.goto C (tgt := 128) dX6_wayText_104 (by decide) ?_
        exact V.iret X dX6_wayText_128 rfl (by decide) (by decide) (pq (by unfold wyT; rw [hw, cI_f (nI_neg (by omega)), cI_f h33, show nI (100 + k) - 100 = nI k from nsub 100 k, nI_clamp (show k < 2 ^ 31 by omega), cI_f (fun q => q.2 ((hI.cd hk).2.2.2.2.1.resolve_left h69)), cI_t (Int32.not_le.mp h99)]))
    · skip
      refine V.ald_n C dX6_wayText_72 rfl ?_
      refine V.get C fg_RX6_29 dX6_wayText_73 hM.1 rfl ?_
      refine V.ild C dX6_wayText_76 rfl ?_
      refine V.bipush C (x := 100) dX6_wayText_78 (by decide) ?_
      refine V.isub C dX6_wayText_80 ?_
      refine V.top (nsub 100 k) ?_
      refine V.zaldN C (N := 15) dX6_wayText_81 (hM.2 9 (by decide)) (by omega) (by decide) ?_
      refine V.if_eq C (tgt := 90) dX6_wayText_82 (by decide) (fun h82 => ?_) (fun h82 => ?_)
      · skip
        refine V.bipush C (x := 26) dX6_wayText_90 (by decide) ?_
        exact V.iret X dX6_wayText_92 rfl (by decide) (by decide) (pq (by unfold wyT; rw [hw, cI_f (nI_neg (by omega)), cI_f h33, show nI (100 + k) - 100 = nI k from nsub 100 k, nI_clamp (show k < 2 ^ 31 by omega), cI_t ⟨h56, fun q => by rw [q] at h69; exact absurd h69 (by decide)⟩, cI_f (show ¬ A 9 k = 1 from fun q => by rw [h82] at q; exact absurd q (by decide))]))
      · skip
        refine V.bipush C (x := 27) dX6_wayText_85 (by decide) ?_
        refine V.goto C (tgt := 92) dX6_wayText_87 (by decide) ?_
        exact V.iret X dX6_wayText_92 rfl (by decide) (by decide) (pq (by unfold wyT; rw [hw, cI_f (nI_neg (by omega)), cI_f h33, show nI (100 + k) - 100 = nI k from nsub 100 k, nI_clamp (show k < 2 ^ 31 by omega), cI_t ⟨h56, fun q => by rw [q] at h69; exact absurd h69 (by decide)⟩, cI_t (show A 9 k = 1 from (hI.cd hk).2.2.2.2.2.resolve_left h82)]))
  · skip
    refine V.ald_n C dX6_wayText_0 rfl ?_
    refine V.get C fg_RX6_7 dX6_wayText_1 hM.1 rfl ?_
    refine V.bipush C (x := 8) dX6_wayText_4 (by decide) ?_
    refine V.ild_n C dX6_wayText_6 rfl ?_
    refine V.imul C dX6_wayText_7 ?_
    refine V.top (pk_mul 8 i) ?_
    refine V.ild_n C dX6_wayText_8 rfl ?_
    refine V.iadd C dX6_wayText_9 ?_
    refine V.top (nI_add (8 * i) j) ?_
    refine V.ialdN C (N := 160) dX6_wayText_10 (hM.2 2 (by decide)) (by omega) (by decide) ?_
    refine V.top hw ?_
    refine V.ist C dX6_wayText_11 (Nat.le_of_ble_eq_true rfl) rfl ?_
    refine V.ild C dX6_wayText_13 rfl ?_
    refine V.iconst C (x := -1) dX6_wayText_15 (by decide) ?_
    refine V.icmp_ne C (tgt := 22) dX6_wayText_16 (by decide) (fun h16 => ?_) (fun h16 => absurd h16 (nI_neg (by omega)))
    refine V.ild C dX6_wayText_22 rfl ?_
    refine V.sipush C (x := 200) dX6_wayText_24 (by decide) ?_
    refine V.sipush C (x := 249) dX6_wayText_27 (by decide) ?_
    refine V.callSp C mo_X6_in sm_X6_in ml_RX6_84 (ev_X6_in _ _ _) dX6_wayText_30 rfl rfl (Nat.le_of_ble_eq_true rfl) (RmOk.mk' (by decide) (by decide) (by decide) (by decide)) ⟨rfl, rfl⟩ ?_
    refine V.ifb_eq C (tgt := 46) dX6_wayText_33 (by decide) (fun h33 => absurd (show (200 : Int32) ≤ nI (200 + k) ∧ nI (200 + k) ≤ 249 from ⟨(nI_leI (a := 200) (by omega) (by omega)).mpr (by omega), (nI_leI (b := 249) (by omega) (by omega)).mpr (by omega)⟩) h33) (fun h33 => ?_)
    refine V.bipush C (x := 50) dX6_wayText_36 (by decide) ?_
    refine V.ild C dX6_wayText_38 rfl ?_
    refine V.iadd C dX6_wayText_40 ?_
    refine V.top (nI_add 50 (200 + k)) ?_
    refine V.sipush C (x := 200) dX6_wayText_41 (by decide) ?_
    refine V.isub C dX6_wayText_44 ?_
    exact V.iret X dX6_wayText_45 rfl (by decide) (by decide) (pq (by unfold wyT; rw [hw, cI_f (nI_neg (by omega)), cI_t h33]; exact (by rw [show (50 : Int32) = nI 50 from rfl, nI_add])))
  · skip
    refine V.ald_n C dX6_wayText_0 rfl ?_
    refine V.get C fg_RX6_7 dX6_wayText_1 hM.1 rfl ?_
    refine V.bipush C (x := 8) dX6_wayText_4 (by decide) ?_
    refine V.ild_n C dX6_wayText_6 rfl ?_
    refine V.imul C dX6_wayText_7 ?_
    refine V.top (pk_mul 8 i) ?_
    refine V.ild_n C dX6_wayText_8 rfl ?_
    refine V.iadd C dX6_wayText_9 ?_
    refine V.top (nI_add (8 * i) j) ?_
    refine V.ialdN C (N := 160) dX6_wayText_10 (hM.2 2 (by decide)) (by omega) (by decide) ?_
    refine V.top hw ?_
    refine V.ist C dX6_wayText_11 (Nat.le_of_ble_eq_true rfl) rfl ?_
    refine V.ild C dX6_wayText_13 rfl ?_
    refine V.iconst C (x := -1) dX6_wayText_15 (by decide) ?_
    refine V.icmp_ne C (tgt := 22) dX6_wayText_16 (by decide) (fun h16 => ?_) (fun h16 => absurd h16 (nI_neg (by omega)))
    refine V.ild C dX6_wayText_22 rfl ?_
    refine V.sipush C (x := 200) dX6_wayText_24 (by decide) ?_
    refine V.sipush C (x := 249) dX6_wayText_27 (by decide) ?_
    refine V.callSp C mo_X6_in sm_X6_in ml_RX6_84 (ev_X6_in _ _ _) dX6_wayText_30 rfl rfl (Nat.le_of_ble_eq_true rfl) (RmOk.mk' (by decide) (by decide) (by decide) (by decide)) ⟨rfl, rfl⟩ ?_
    refine V.ifb_eq C (tgt := 46) dX6_wayText_33 (by decide) (fun h33 => ?_) (fun h33 => absurd h33 (fun q => by have a := (nI_leI (a := 200) (by omega) (by omega)).mp q.1; have c := (nI_leI (b := 249) (by omega) (by omega)).mp q.2; omega))
    refine V.ild C dX6_wayText_46 rfl ?_
    refine V.bipush C (x := 100) dX6_wayText_48 (by decide) ?_
    refine V.sipush C (x := 199) dX6_wayText_50 (by decide) ?_
    refine V.callSp C mo_X6_in sm_X6_in ml_RX6_84 (ev_X6_in _ _ _) dX6_wayText_53 rfl rfl (Nat.le_of_ble_eq_true rfl) (RmOk.mk' (by decide) (by decide) (by decide) (by decide)) ⟨rfl, rfl⟩ ?_
    refine V.ifb_eq C (tgt := 93) dX6_wayText_56 (by decide) (fun h56 => ?_) (fun h56 => absurd h56 (fun q => by have a := (nI_leI (a := 100) (by omega) (by omega)).mp q.1; have c := (nI_leI (b := 199) (by omega) (by omega)).mp q.2; omega))
    refine V.ald_n C dX6_wayText_93 rfl ?_
    refine V.ild_n C dX6_wayText_94 rfl ?_
    refine V.ild_n C dX6_wayText_95 rfl ?_
    refine V.callVp C mo_X6_leadsTo im_X6_leadsTo se_X6_leadsTo ml_RX6_150 (ev_X6_leadsTo hM hI (by omega) (by omega)) dX6_wayText_96 rfl rfl hM.1 rfl rfl (Nat.le_of_ble_eq_true rfl) (RmOk.mk' (by decide) (by decide) (by decide) (by decide)) ⟨rfl, rfl⟩ ?_
    refine V.if_ge C (tgt := 107) dX6_wayText_99 (by decide) (fun h99 => ?_) (fun h99 => ?_)
    · skip
      refine V.ild_n C dX6_wayText_107 rfl ?_
      refine V.ald_n C dX6_wayText_108 rfl ?_
      refine V.get C fg_RX6_13 dX6_wayText_109 hM.1 rfl ?_
      refine V.bipush C (x := 8) dX6_wayText_112 (by decide) ?_
      refine V.ild_n C dX6_wayText_114 rfl ?_
      refine V.imul C dX6_wayText_115 ?_
      refine V.top (pk_mul 8 i) ?_
      refine V.ild_n C dX6_wayText_116 rfl ?_
      refine V.iadd C dX6_wayText_117 ?_
      refine V.top (nI_add (8 * i) j) ?_
      refine V.ialdN C (N := 160) dX6_wayText_118 (hM.2 3 (by decide)) (by omega) (by decide) ?_
      refine V.icmp_le C (tgt := 127) dX6_wayText_119 (by decide) (fun h119 => ?_) (fun h119 => ?_)
      · skip
        refine V.iconst C (x := 0) dX6_wayText_127 (by decide) ?_
        exact V.iret X dX6_wayText_128 rfl (by decide) (by decide) (pq (by unfold wyT; rw [hw, cI_f (nI_neg (by omega)), cI_f h33, cI_f (fun q => h56 q.1), cI_f (Int32.not_lt.mpr h99), cI_f (fun q => Int32.not_lt.mpr h119 q)]))
      · skip
        refine V.bipush C (x := 29) dX6_wayText_122 (by decide) ?_
        refine V.goto C (tgt := 128) dX6_wayText_124 (by decide) ?_
        exact V.iret X dX6_wayText_128 rfl (by decide) (by decide) (pq (by unfold wyT; rw [hw, cI_f (nI_neg (by omega)), cI_f h33, cI_f (fun q => h56 q.1), cI_f (Int32.not_lt.mpr h99), cI_t (Int32.not_le.mp h119)]))
    · skip
      refine V.bipush C (x := 28) dX6_wayText_102 (by decide) ?_
      refine V.goto C (tgt := 128) dX6_wayText_104 (by decide) ?_
      exact V.iret X dX6_wayText_128 rfl (by decide) (by decide) (pq (by unfold wyT; rw [hw, cI_f (nI_neg (by omega)), cI_f h33, cI_f (fun q => h56 q.1), cI_t (Int32.not_le.mp h99)]))
end
section
/-- the first of n numbers from i on with P -/
noncomputable def fnd (P : Nat → Prop) (e : Int32) : Nat → Nat → Int32
  | 0, _ => e
  | n + 1, i => cI (P i) (nI i) (fnd P e n (i + 1))
theorem fnd_t {P : Nat → Prop} {e : Int32} {n i : Nat} (h : P i) : fnd P e (n + 1) i = nI i := cI_t h
theorem fnd_f {P : Nat → Prop} {e : Int32} {n i : Nat} (h : ¬ P i) : fnd P e (n + 1) i = fnd P e n (i + 1) := cI_f h
theorem fnd_none {P : Nat → Prop} {e : Int32} {n i : Nat} (h : ∀ j, i ≤ j → j < i + n → ¬ P j) : fnd P e n i = e := by
  induction n generalizing i with
  | zero => rfl
  | succ n ih =>
    rw [fnd_f (h i (by omega) (by omega))]
    exact ih (fun j h1 h2 => h j (by omega) (by omega))
theorem fnd_short {P : Nat → Prop} {e : Int32} {n m i : Nat} (h : ∀ j, i + n ≤ j → j < i + n + m → ¬ P j) : fnd P e (n + m) i = fnd P e n i := by
  induction n generalizing i with
  | zero =>
    rw [Nat.zero_add]
    exact fnd_none (fun j h1 h2 => h j (by omega) (by omega))
  | succ n ih =>
    rw [show n + 1 + m = (n + m) + 1 by omega]
    by_cases hp : P i
    · rw [fnd_t hp, fnd_t hp]
    · rw [fnd_f hp, fnd_f hp]
      exact ih (fun j h1 h2 => h j (by omega) (by omega))
noncomputable def lsO (A : ST) (i : Nat) : Int32 := fnd (fun x => A 25 (20 * i + x) = 1) (-3) 20 0
/-- a set of numbers below n as bits -/
noncomputable def bsn (G : Nat → Prop) : Nat → Nat
  | 0 => 0
  | n + 1 => bsn G n + cI (G n) (2 ^ n) 0
theorem bsn_lt (G : Nat → Prop) (n : Nat) : bsn G n < 2 ^ n := by
  induction n with
  | zero => show 0 < 1; omega
  | succ n ih =>
    show bsn G n + cI (G n) (2 ^ n) 0 < 2 ^ (n + 1)
    rw [Nat.pow_succ]
    by_cases h : G n
    · rw [cI_t h]; omega
    · rw [cI_f h]; omega
theorem or_bit : ∀ n, n < 6 → ∀ a, a < 2 ^ n → nI a ||| ((1 : Int32) <<< (nI n &&& 31)) = nI (a + 2 ^ n) := by decide +kernel
theorem or_bit2 : ∀ k, k < 6 → ∀ m, m < 64 → m / 2 ^ k % 2 = 0 → nI m ||| ((1 : Int32) <<< (nI k &&& 31)) = nI (m + 2 ^ k) := by decide +kernel
theorem sh_bit : ∀ k, k < 6 → ∀ m, m < 64 → (nI m >>> (nI k &&& 31)) &&& 1 = nI (m / 2 ^ k % 2) := by decide +kernel
theorem bit1 : ∀ k, k < 6 → (1 : Int32) <<< (nI k &&& 31) = nI (2 ^ k) := by decide +kernel
theorem bsn_bit {G : Nat → Prop} {n k : Nat} (hk : k < n) : bsn G n / 2 ^ k % 2 = cI (G k) 1 0 := by
  induction n with
  | zero => omega
  | succ n ih =>
    show (bsn G n + cI (G n) (2 ^ n) 0) / 2 ^ k % 2 = _
    by_cases h : k = n
    · subst h
      have h1 := bsn_lt G k
      by_cases hg : G k
      · rw [cI_t hg, cI_t hg, Nat.add_div_right _ (Nat.pow_pos (by omega)), Nat.div_eq_of_lt h1]
      · rw [cI_f hg, cI_f hg, Nat.add_zero, Nat.div_eq_of_lt h1]
    · have hk2 : k < n := by omega
      by_cases hg : G n
      · rw [cI_t hg]
        have h2 : 2 ^ n = 2 ^ k * (2 * 2 ^ (n - k - 1)) := by
          rw [← Nat.pow_succ', ← Nat.pow_add]
          congr 1
          omega
        rw [h2, Nat.add_mul_div_left _ _ (Nat.pow_pos (by omega)), Nat.add_mul_mod_self_left]
        exact ih hk2
      · rw [cI_f hg, Nat.add_zero]
        exact ih hk2
theorem bsn_congr {G G' : Nat → Prop} {n : Nat} (h : ∀ k, k < n → (G k ↔ G' k)) : bsn G n = bsn G' n := by
  induction n with
  | zero => rfl
  | succ n ih =>
    show bsn G n + cI (G n) (2 ^ n) 0 = bsn G' n + cI (G' n) (2 ^ n) 0
    rw [ih (fun k hk => h k (by omega)), cI_iff (h n (by omega))]
theorem bsn_add {G : Nat → Prop} {n w : Nat} (hw : w < n) (hg : ¬ G w) : bsn (fun k => G k ∨ k = w) n = bsn G n + 2 ^ w := by
  induction n with
  | zero => omega
  | succ n ih =>
    show bsn _ n + cI (G n ∨ n = w) (2 ^ n) 0 = bsn G n + cI (G n) (2 ^ n) 0 + 2 ^ w
    by_cases h : n = w
    · subst h
      rw [cI_t (Or.inr rfl), cI_f hg]
      have : bsn (fun k => G k ∨ k = n) n = bsn G n := bsn_congr (fun k hk => ⟨fun q => q.elim id (fun z => by omega), Or.inl⟩)
      rw [this]
      omega
    · rw [ih (by omega), cI_iff (show (G n ∨ n = w) ↔ G n from ⟨fun q => q.elim id (fun z => absurd z h), Or.inl⟩)]
      omega
theorem bsn_one {n w : Nat} (hw : w < n) : bsn (fun k => k = w) n = 2 ^ w := by
  have h := bsn_add (G := fun _ => False) (n := n) hw (fun q => q)
  have h0 : bsn (fun _ => False) n = 0 := by
    clear h hw
    induction n with
    | zero => rfl
    | succ n ih => show bsn _ n + cI False (2 ^ n) 0 = 0; rw [ih, cI_f (fun q => q)]
  rw [h0, Nat.zero_add] at h
  rw [← h]
  exact bsn_congr (fun k _ => ⟨Or.inr, fun q => q.elim False.elim id⟩)
noncomputable def atT (A : ST) (d w c j : Nat) : Int32 := cI (hasD A w j) (cI (c < 2) (cI (A 8 j = b2 (c = 0)) 11 (cI (c = 0 ∧ A 9 j = 1) 12 0)) (cI (A 9 j = b2 (c = 2)) 11 (cI (A 7 j = -1) 13 (cI (keyH A w j) 0 (cI (∃ e, e < d ∧ (fun e => e ≠ j ∧ keyH A w e) e) 15 14))))) 10
noncomputable def hdT (A : ST) (t w c i : Nat) : Int32 := cI (c = 1) (cI (hol A w i) 0 18) (cI (hasT A w i) (cI (c = 0) (cI (hol A w i) 11 (cI (A 11 i = 0) (cI (cnt (hol A w) t = 4) 17 0) 16)) (cI (c = 2) (cI (A 11 i = 2 ∨ A 11 i = 3) (cI (A 18 w = -1) (cI (A 15 i = 1) 21 0) 20) 19) (cI (A 11 i = 3) (cI (A 15 i = b2 (c = 4)) 11 0) 22))) 10)
noncomputable def F_way (r : Nat) (A : ST) (x y : Int32) : Int32 := ok1 x r (fun i => ok1 y 8 (fun j => A 2 (8 * i + j)) (-1)) (-1)
noncomputable def F_leads (r : Nat) (A : ST) (x y : Int32) : Int32 := ok1 x r (fun i => ok1 y 8 (fun j => ldT A i j) (-1)) (-1)
noncomputable def F_state (d : Nat) (A : ST) (x : Int32) : Int32 := ok1 x d (fun j => cI (A 8 j = 1) 1 0 + cI (A 9 j = 1) 2 0 + cI (A 7 j = -1) 0 4 + cI (A 6 j = -1) 0 8) (-1)
noncomputable def thI (A : ST) (i c : Nat) : Int32 := cI (c = 0) (cI (A 14 i = -1) (A 13 i) (lsO A (A 14 i).toNatClampNeg)) (cI (c = 1) (A 11 i) (cI (c = 2) (A 12 i) (cI (c = 3) (A 15 i) (cI (A 14 i = -1) (-3) (A 14 i)))))
noncomputable def F_thingIs (t : Nat) (A : ST) (x y : Int32) : Int32 := ok1 x t (fun i => ok1 y 5 (fun c => thI A i c) (-1)) (-1)
noncomputable def beI (t : Nat) (A : ST) (i c : Nat) : Int32 := cI (c = 0) (A 17 i) (cI (c = 1) (cI (A 18 i = -1) (-3) (A 18 i)) (cI (c = 2) (cI (A 19 i = -1) (-3) (A 19 i)) (cI (c = 3) (nI (cnt (hol A i) t)) (A 21 i))))
noncomputable def F_beingIs (t b : Nat) (A : ST) (x y : Int32) : Int32 := ok1 x b (fun i => ok1 y 5 (fun c => beI t A i c) (-1)) (-1)
noncomputable def F_news (b : Nat) (A : ST) (x y : Int32) : Int32 := ok1 x b (fun i => ok1 y (A 21 i).toNatClampNeg (fun j => A 20 (8 * i + j)) (-1)) (-1)
noncomputable def hrP (d t b : Nat) (A : ST) (i c : Nat) (z : Int32) : Int32 := cI (c = 0) (ok1 z d (fun j => b2 (hasD A i j)) 0) (cI (c = 1) (ok1 z t (fun j => b2 (hasT A i j)) 0) (ok1 z b (fun j => b2 ((shIn A i ∧ A 18 j = A 18 i) ∨ (¬ shIn A i ∧ A 17 j = A 17 i))) 0))
noncomputable def F_here (d t b : Nat) (A : ST) (x y z : Int32) : Int32 := ok1 x b (fun i => ok1 y 3 (fun c => hrP d t b A i c z) 0) 0
def cw4 (A : ST) (k : Nat) : Prop := A 2 k ≠ -1
def cw5 (A : ST) (k : Nat) : Prop := ldT A (k / 8) (k % 8) ≠ -1
noncomputable def ctI (r d t b : Nat) (A : ST) (c : Nat) : Int32 := cI (c = 0) (nI r) (cI (c = 1) (nI d) (cI (c = 2) (nI t) (cI (c = 3) (nI b) (cI (c = 4) (nI (cnt (cw4 A) (8 * r))) (nI (cnt (cw5 A) (8 * r)))))))
noncomputable def F_count (r d t b : Nat) (A : ST) (x : Int32) : Int32 := ok1 x 6 (fun c => ctI r d t b A c) (-1)
end
section
theorem ev_X6_leastOf {g : GD} {r d t b : Nat} {A : ST} {L : List AE} (hM : MR r d t b A L) (hI : Inv r d t b A) {i : Nat} (hi : i < 7) : EvP g mX6_leastOf [aR 23, aI (nI i)] L (some (aI (lsO A i))) := by
  refine Ev.of [some (aR 23), some (aI (nI i)), none] (by decide) rfl (Nat.le_of_ble_eq_true rfl) fun Z H0 C X => ?_
  have hN := hI.cn
  refine V.iconst C (x := 0) dX6_leastOf_0 (by decide) ?_
  refine V.ist_n C dX6_leastOf_1 (Nat.le_of_ble_eq_true rfl) rfl ?_
  have key2 : ∀ (n : Nat) (x : Nat), x ≤ 20 → 20 - x < n → lsO A i = fnd (fun x => A 25 (20 * i + x) = 1) (-3) (20 - x) x → V g Z H0 3 L 0 0 2 [some (aR 23), some (aI (nI i)), some (aI (nI x))] [] := by
    intro n
    induction n with
    | zero => intro x h1 h2; exact absurd h2 (by omega)
    | succ n ih =>
      intro x h1 h2 hf
      refine V.ild_n C dX6_leastOf_2 rfl ?_
      refine V.bipush C (x := 20) dX6_leastOf_3 (by decide) ?_
      refine V.icmpN_ge C (x) (20) (tgt := 30) dX6_leastOf_5 (by decide) (by omega) (by omega) (fun h5 => ?_) (fun h5 => ?_)
      · skip
        refine V.bipush C (x := -3) dX6_leastOf_30 (by decide) ?_
        exact V.iret X dX6_leastOf_32 rfl (by decide) (by decide) (pq (by rw [hf, show 20 - x = 0 by omega]; rfl))
      · skip
        refine V.ald_n C dX6_leastOf_8 rfl ?_
        refine V.get C fg_RX6_71 dX6_leastOf_9 hM.1 rfl ?_
        refine V.bipush C (x := 20) dX6_leastOf_12 (by decide) ?_
        refine V.ild_n C dX6_leastOf_14 rfl ?_
        refine V.imul C dX6_leastOf_15 ?_
        refine V.top (pk_mul 20 i) ?_
        refine V.ild_n C dX6_leastOf_16 rfl ?_
        refine V.iadd C dX6_leastOf_17 ?_
        refine V.top (nI_add (20 * i) x) ?_
        refine V.zaldN C (N := 140) dX6_leastOf_18 (hM.2 25 (by decide)) (by omega) (by decide) ?_
        refine V.if_eq C (tgt := 24) dX6_leastOf_19 (by decide) (fun h19 => ?_) (fun h19 => ?_)
        · skip
          refine V.iinc C (y := nI (x + 1)) dX6_leastOf_24 rfl (nI_1 x) rfl ?_
          refine V.goto C (tgt := 2) dX6_leastOf_27 (by decide) ?_
          exact ih (x + 1) (by omega) (by omega) (by rw [hf, show 20 - x = (20 - (x + 1)) + 1 by omega, fnd_f (fun q => by rw [q] at h19; exact absurd h19 (by decide))])
        · skip
          refine V.ild_n C dX6_leastOf_22 rfl ?_
          exact V.iret X dX6_leastOf_23 rfl (by decide) (by decide) (pq (by rw [hf, show 20 - x = (20 - (x + 1)) + 1 by omega, fnd_t (((hI.cg hi (show x < 20 by omega)).resolve_left h19).1)]))
  exact key2 21 0 (by omega) (by omega) rfl
theorem ev_X6_insideOf {g : GD} {r d t b : Nat} {A : ST} {L : List AE} (hM : MR r d t b A L) (hI : Inv r d t b A) (x : Int32) : EvP g mX6_insideOf [aR 23, aI x] L (some (aI (nI (bsn (fun k => A 18 k = x) b)))) := by
  refine Ev.of [some (aR 23), some (aI x), none, none] (by decide) rfl (Nat.le_of_ble_eq_true rfl) fun Z H0 C X => ?_
  have hN := hI.cn
  refine V.iconst C (x := 0) dX6_insideOf_0 (by decide) ?_
  refine V.ist_n C dX6_insideOf_1 (Nat.le_of_ble_eq_true rfl) rfl ?_
  refine V.iconst C (x := 0) dX6_insideOf_2 (by decide) ?_
  refine V.ist_n C dX6_insideOf_3 (Nat.le_of_ble_eq_true rfl) rfl ?_
  have key4 : ∀ (n : Nat) (i : Nat), i ≤ b → b - i < n → V g Z H0 4 L 0 0 4 [some (aR 23), some (aI x), some (aI (nI (bsn (fun k => A 18 k = x) i))), some (aI (nI i))] [] := by
    intro n
    induction n with
    | zero => intro i h1 h2; exact absurd h2 (by omega)
    | succ n ih =>
      intro i h1 h2
      refine V.ild_n C dX6_insideOf_4 rfl ?_
      refine V.ald_n C dX6_insideOf_5 rfl ?_
      refine V.get C fg_RX6_94 dX6_insideOf_6 hM.1 rfl ?_
      refine V.icmpN_ge C (i) (b) (tgt := 38) dX6_insideOf_9 (by decide) (by omega) (by omega) (fun h9 => ?_) (fun h9 => ?_)
      · skip
        refine V.ild_n C dX6_insideOf_38 rfl ?_
        exact V.iret X dX6_insideOf_39 rfl (by decide) (by decide) (pq (by rw [show i = b by omega]))
      · skip
        refine V.ild_n C dX6_insideOf_12 rfl ?_
        refine V.ald_n C dX6_insideOf_13 rfl ?_
        refine V.get C fg_RX6_50 dX6_insideOf_14 hM.1 rfl ?_
        refine V.ild_n C dX6_insideOf_17 rfl ?_
        refine V.ialdN C (N := 6) dX6_insideOf_18 (hM.2 18 (by decide)) (by omega) (by decide) ?_
        refine V.ild_n C dX6_insideOf_19 rfl ?_
        refine V.icmp_ne C (tgt := 29) dX6_insideOf_20 (by decide) (fun h20 => ?_) (fun h20 => ?_)
        · skip
          refine V.iconst C (x := 0) dX6_insideOf_29 (by decide) ?_
          refine V.ior C dX6_insideOf_30 ?_
          refine V.top (x' := nI (bsn (fun k => A 18 k = x) (i + 1))) ?_ ?_
          · show _ = nI (bsn (fun k => A 18 k = x) i + cI (A 18 i = x) (2 ^ i) 0)
            rw [cI_f h20, Int32.or_zero, Nat.add_zero]
          refine V.ist_n C dX6_insideOf_31 (Nat.le_of_ble_eq_true rfl) rfl ?_
          refine V.iinc C (y := nI (i + 1)) dX6_insideOf_32 rfl (nI_1 i) rfl ?_
          refine V.goto C (tgt := 4) dX6_insideOf_35 (by decide) ?_
          exact ih (i + 1) (by omega) (by omega)
        · skip
          refine V.iconst C (x := 1) dX6_insideOf_23 (by decide) ?_
          refine V.ild_n C dX6_insideOf_24 rfl ?_
          refine V.ishl C dX6_insideOf_25 ?_
          refine V.goto C (tgt := 30) dX6_insideOf_26 (by decide) ?_
          refine V.ior C dX6_insideOf_30 ?_
          refine V.top (x' := nI (bsn (fun k => A 18 k = x) (i + 1))) ?_ ?_
          · show _ = nI (bsn (fun k => A 18 k = x) i + cI (A 18 i = x) (2 ^ i) 0)
            rw [cI_t h20, or_bit i (by omega) _ (bsn_lt _ i)]
          refine V.ist_n C dX6_insideOf_31 (Nat.le_of_ble_eq_true rfl) rfl ?_
          refine V.iinc C (y := nI (i + 1)) dX6_insideOf_32 rfl (nI_1 i) rfl ?_
          refine V.goto C (tgt := 4) dX6_insideOf_35 (by decide) ?_
          exact ih (i + 1) (by omega) (by omega)
  exact key4 (b + 1) 0 (by omega) (by omega)
theorem ev_X6_actText {g : GD} {r d t b : Nat} {A : ST} {L : List AE} (hM : MR r d t b A L) (hI : Inv r d t b A) {w c j : Nat} (hw : w < b) (hc : c < 4) (hj : j < d) : EvP g mX6_actText [aR 23, aI (nI w), aI (nI c), aI (nI j)] L (some (aI (atT A d w c j))) := by
  refine Ev.of [some (aR 23), some (aI (nI w)), some (aI (nI c)), some (aI (nI j)), none] (by decide) rfl (Nat.le_of_ble_eq_true rfl) fun Z H0 C X => ?_
  have hN := hI.cn
  obtain rfl | rfl | rfl | rfl : c = 0 ∨ c = 1 ∨ c = 2 ∨ c = 3 := by omega
  · skip
    refine V.ald_n C dX6_actText_0 rfl ?_
    refine V.ild_n C dX6_actText_1 rfl ?_
    refine V.ild_n C dX6_actText_2 rfl ?_
    refine V.callVp C mo_X6_hasDoor im_X6_hasDoor se_X6_hasDoor ml_RX6_126 (ev_X6_hasDoor hM hI (by omega) (by omega)) dX6_actText_3 rfl rfl hM.1 rfl rfl (Nat.le_of_ble_eq_true rfl) (RmOk.mk' (by decide) (by decide) (by decide) (by decide)) ⟨rfl, rfl⟩ ?_
    refine V.ifb_ne C (tgt := 12) dX6_actText_6 (by decide) (fun h6 => ?_) (fun h6 => ?_)
    · skip
      refine V.ild_n C dX6_actText_12 rfl ?_
      refine V.iconst C (x := 2) dX6_actText_13 (by decide) ?_
      refine V.icmp_ge C (tgt := 72) dX6_actText_14 (by decide) (fun h14 => absurd h14 (by decide)) (fun h14 => ?_)
      refine V.ald_n C dX6_actText_17 rfl ?_
      refine V.get C fg_RX6_25 dX6_actText_18 hM.1 rfl ?_
      refine V.ild_n C dX6_actText_21 rfl ?_
      refine V.zaldN C (N := 15) dX6_actText_22 (hM.2 8 (by decide)) (by omega) (by decide) ?_
      refine V.ild_n C dX6_actText_23 rfl ?_
      refine V.if_ne C (tgt := 31) dX6_actText_24 (by decide) (fun h24 => absurd h24 (by decide)) (fun h24 => ?_)
      refine V.iconst C (x := 1) dX6_actText_27 (by decide) ?_
      refine V.goto C (tgt := 32) dX6_actText_28 (by decide) ?_
      refine V.icmp_ne C (tgt := 39) dX6_actText_32 (by decide) (fun h32 => ?_) (fun h32 => ?_)
      · skip
        refine V.iconst C (x := 0) dX6_actText_39 (by decide) ?_
        refine V.ist C dX6_actText_40 (Nat.le_of_ble_eq_true rfl) rfl ?_
        refine V.ild C dX6_actText_42 rfl ?_
        refine V.if_eq C (tgt := 52) dX6_actText_44 (by decide) (fun h44 => ?_) (fun h44 => absurd h44 (by decide))
        refine V.ild_n C dX6_actText_52 rfl ?_
        refine V.if_ne C (tgt := 70) dX6_actText_53 (by decide) (fun h53 => absurd h53 (by decide)) (fun h53 => ?_)
        refine V.ald_n C dX6_actText_56 rfl ?_
        refine V.get C fg_RX6_29 dX6_actText_57 hM.1 rfl ?_
        refine V.ild_n C dX6_actText_60 rfl ?_
        refine V.zaldN C (N := 15) dX6_actText_61 (hM.2 9 (by decide)) (by omega) (by decide) ?_
        refine V.if_eq C (tgt := 70) dX6_actText_62 (by decide) (fun h62 => ?_) (fun h62 => ?_)
        · skip
          refine V.iconst C (x := 0) dX6_actText_70 (by decide) ?_
          exact V.iret X dX6_actText_71 rfl (by decide) (by decide) (pq (by unfold atT; rw [cI_t h6, cI_t (by decide), show b2 ((0 : Nat) = 0) = 1 from b2_t rfl, cI_f h32, cI_f (fun q => by rw [h62] at q; exact absurd q.2 (by decide))]))
        · skip
          refine V.bipush C (x := 12) dX6_actText_65 (by decide) ?_
          refine V.goto C (tgt := 71) dX6_actText_67 (by decide) ?_
          exact V.iret X dX6_actText_71 rfl (by decide) (by decide) (pq (by unfold atT; rw [cI_t h6, cI_t (by decide), show b2 ((0 : Nat) = 0) = 1 from b2_t rfl, cI_f h32, cI_t ⟨rfl, (hI.cd hj).2.2.2.2.2.resolve_left h62⟩]))
      · skip
        refine V.iconst C (x := 1) dX6_actText_35 (by decide) ?_
        refine V.goto C (tgt := 40) dX6_actText_36 (by decide) ?_
        refine V.ist C dX6_actText_40 (Nat.le_of_ble_eq_true rfl) rfl ?_
        refine V.ild C dX6_actText_42 rfl ?_
        refine V.if_eq C (tgt := 52) dX6_actText_44 (by decide) (fun h44 => absurd h44 (by decide)) (fun h44 => ?_)
        refine V.bipush C (x := 11) dX6_actText_47 (by decide) ?_
        refine V.goto C (tgt := 71) dX6_actText_49 (by decide) ?_
        exact V.iret X dX6_actText_71 rfl (by decide) (by decide) (pq (by unfold atT; rw [cI_t h6, cI_t (by decide), show b2 ((0 : Nat) = 0) = 1 from b2_t rfl, cI_t h32]))
    · skip
      refine V.bipush C (x := 10) dX6_actText_9 (by decide) ?_
      exact V.iret X dX6_actText_11 rfl (by decide) (by decide) (pq (by unfold atT; rw [cI_f h6]))
  · skip
    refine V.ald_n C dX6_actText_0 rfl ?_
    refine V.ild_n C dX6_actText_1 rfl ?_
    refine V.ild_n C dX6_actText_2 rfl ?_
    refine V.callVp C mo_X6_hasDoor im_X6_hasDoor se_X6_hasDoor ml_RX6_126 (ev_X6_hasDoor hM hI (by omega) (by omega)) dX6_actText_3 rfl rfl hM.1 rfl rfl (Nat.le_of_ble_eq_true rfl) (RmOk.mk' (by decide) (by decide) (by decide) (by decide)) ⟨rfl, rfl⟩ ?_
    refine V.ifb_ne C (tgt := 12) dX6_actText_6 (by decide) (fun h6 => ?_) (fun h6 => ?_)
    · skip
      refine V.ild_n C dX6_actText_12 rfl ?_
      refine V.iconst C (x := 2) dX6_actText_13 (by decide) ?_
      refine V.icmp_ge C (tgt := 72) dX6_actText_14 (by decide) (fun h14 => absurd h14 (by decide)) (fun h14 => ?_)
      refine V.ald_n C dX6_actText_17 rfl ?_
      refine V.get C fg_RX6_25 dX6_actText_18 hM.1 rfl ?_
      refine V.ild_n C dX6_actText_21 rfl ?_
      refine V.zaldN C (N := 15) dX6_actText_22 (hM.2 8 (by decide)) (by omega) (by decide) ?_
      refine V.ild_n C dX6_actText_23 rfl ?_
      refine V.if_ne C (tgt := 31) dX6_actText_24 (by decide) (fun h24 => ?_) (fun h24 => absurd h24 (by decide))
      refine V.iconst C (x := 0) dX6_actText_31 (by decide) ?_
      refine V.icmp_ne C (tgt := 39) dX6_actText_32 (by decide) (fun h32 => ?_) (fun h32 => ?_)
      · skip
        refine V.iconst C (x := 0) dX6_actText_39 (by decide) ?_
        refine V.ist C dX6_actText_40 (Nat.le_of_ble_eq_true rfl) rfl ?_
        refine V.ild C dX6_actText_42 rfl ?_
        refine V.if_eq C (tgt := 52) dX6_actText_44 (by decide) (fun h44 => ?_) (fun h44 => absurd h44 (by decide))
        refine V.ild_n C dX6_actText_52 rfl ?_
        refine V.if_ne C (tgt := 70) dX6_actText_53 (by decide) (fun h53 => ?_) (fun h53 => absurd h53 (by decide))
        refine V.iconst C (x := 0) dX6_actText_70 (by decide) ?_
        exact V.iret X dX6_actText_71 rfl (by decide) (by decide) (pq (by unfold atT; rw [cI_t h6, cI_t (by decide), show b2 ((1 : Nat) = 0) = 0 from b2_f (by decide), cI_f h32, cI_f (fun q => absurd q.1 (by decide))]))
      · skip
        refine V.iconst C (x := 1) dX6_actText_35 (by decide) ?_
        refine V.goto C (tgt := 40) dX6_actText_36 (by decide) ?_
        refine V.ist C dX6_actText_40 (Nat.le_of_ble_eq_true rfl) rfl ?_
        refine V.ild C dX6_actText_42 rfl ?_
        refine V.if_eq C (tgt := 52) dX6_actText_44 (by decide) (fun h44 => absurd h44 (by decide)) (fun h44 => ?_)
        refine V.bipush C (x := 11) dX6_actText_47 (by decide) ?_
        refine V.goto C (tgt := 71) dX6_actText_49 (by decide) ?_
        exact V.iret X dX6_actText_71 rfl (by decide) (by decide) (pq (by unfold atT; rw [cI_t h6, cI_t (by decide), show b2 ((1 : Nat) = 0) = 0 from b2_f (by decide), cI_t h32]))
    · skip
      refine V.bipush C (x := 10) dX6_actText_9 (by decide) ?_
      exact V.iret X dX6_actText_11 rfl (by decide) (by decide) (pq (by unfold atT; rw [cI_f h6]))
  · skip
    refine V.ald_n C dX6_actText_0 rfl ?_
    refine V.ild_n C dX6_actText_1 rfl ?_
    refine V.ild_n C dX6_actText_2 rfl ?_
    refine V.callVp C mo_X6_hasDoor im_X6_hasDoor se_X6_hasDoor ml_RX6_126 (ev_X6_hasDoor hM hI (by omega) (by omega)) dX6_actText_3 rfl rfl hM.1 rfl rfl (Nat.le_of_ble_eq_true rfl) (RmOk.mk' (by decide) (by decide) (by decide) (by decide)) ⟨rfl, rfl⟩ ?_
    refine V.ifb_ne C (tgt := 12) dX6_actText_6 (by decide) (fun h6 => ?_) (fun h6 => ?_)
    · skip
      refine V.ild_n C dX6_actText_12 rfl ?_
      refine V.iconst C (x := 2) dX6_actText_13 (by decide) ?_
      refine V.icmp_ge C (tgt := 72) dX6_actText_14 (by decide) (fun h14 => ?_) (fun h14 => absurd h14 (by decide))
      refine V.ald_n C dX6_actText_72 rfl ?_
      refine V.get C fg_RX6_29 dX6_actText_73 hM.1 rfl ?_
      refine V.ild_n C dX6_actText_76 rfl ?_
      refine V.zaldN C (N := 15) dX6_actText_77 (hM.2 9 (by decide)) (by omega) (by decide) ?_
      refine V.ild_n C dX6_actText_78 rfl ?_
      refine V.iconst C (x := 2) dX6_actText_79 (by decide) ?_
      refine V.icmp_ne C (tgt := 87) dX6_actText_80 (by decide) (fun h80 => absurd h80 (by decide)) (fun h80 => ?_)
      refine V.iconst C (x := 1) dX6_actText_83 (by decide) ?_
      refine V.goto C (tgt := 88) dX6_actText_84 (by decide) ?_
      refine V.icmp_ne C (tgt := 94) dX6_actText_88 (by decide) (fun h88 => ?_) (fun h88 => ?_)
      · skip
        rcases (hI.cd hj).2.2.2.1 with hk | ⟨k, hk0, hk, -⟩
        · skip
          refine V.ald_n C dX6_actText_94 rfl ?_
          refine V.get C fg_RX6_22 dX6_actText_95 hM.1 rfl ?_
          refine V.ild_n C dX6_actText_98 rfl ?_
          refine V.ialdN C (N := 15) dX6_actText_99 (hM.2 7 (by decide)) (by omega) (by decide) ?_
          refine V.top hk ?_
          refine V.if_ge C (tgt := 106) dX6_actText_100 (by decide) (fun h100 => absurd h100 (by decide)) (fun h100 => ?_)
          refine V.bipush C (x := 13) dX6_actText_103 (by decide) ?_
          exact V.iret X dX6_actText_105 rfl (by decide) (by decide) (pq (by unfold atT; rw [cI_t h6, cI_f (by decide), show b2 ((2 : Nat) = 2) = 1 from b2_t rfl, cI_f h88, cI_t hk]))
        · skip
          refine V.ald_n C dX6_actText_94 rfl ?_
          refine V.get C fg_RX6_22 dX6_actText_95 hM.1 rfl ?_
          refine V.ild_n C dX6_actText_98 rfl ?_
          refine V.ialdN C (N := 15) dX6_actText_99 (hM.2 7 (by decide)) (by omega) (by decide) ?_
          refine V.top hk ?_
          refine V.if_ge C (tgt := 106) dX6_actText_100 (by decide) (fun h100 => ?_) (fun h100 => absurd (nI_pos' (by omega)) h100)
          refine V.ald_n C dX6_actText_106 rfl ?_
          refine V.ild_n C dX6_actText_107 rfl ?_
          refine V.ald_n C dX6_actText_108 rfl ?_
          refine V.get C fg_RX6_22 dX6_actText_109 hM.1 rfl ?_
          refine V.ild_n C dX6_actText_112 rfl ?_
          refine V.ialdN C (N := 15) dX6_actText_113 (hM.2 7 (by decide)) (by omega) (by decide) ?_
          refine V.top hk ?_
          refine V.callVp C mo_X6_holds im_X6_holds se_X6_holds ml_RX6_114 (ev_X6_holds hM hI (by omega) (by omega)) dX6_actText_114 rfl rfl hM.1 rfl rfl (Nat.le_of_ble_eq_true rfl) (RmOk.mk' (by decide) (by decide) (by decide) (by decide)) ⟨rfl, rfl⟩ ?_
          refine V.ifb_eq C (tgt := 122) dX6_actText_117 (by decide) (fun h117 => ?_) (fun h117 => ?_)
          · skip
            refine V.ald_n C dX6_actText_122 rfl ?_
            refine V.ild_n C dX6_actText_123 rfl ?_
            refine V.ild_n C dX6_actText_124 rfl ?_
            refine V.callVp C mo_X6_holdsOther im_X6_holdsOther se_X6_holdsOther ml_RX6_132 (ev_X6_holdsOther hM hI (by omega) (by omega)) dX6_actText_125 rfl rfl hM.1 rfl rfl (Nat.le_of_ble_eq_true rfl) (RmOk.mk' (by decide) (by decide) (by decide) (by decide)) ⟨rfl, rfl⟩ ?_
            refine V.ifb_eq C (tgt := 136) dX6_actText_128 (by decide) (fun h128 => ?_) (fun h128 => ?_)
            · skip
              refine V.bipush C (x := 14) dX6_actText_136 (by decide) ?_
              exact V.iret X dX6_actText_138 rfl (by decide) (by decide) (pq (by unfold atT; rw [cI_t h6, cI_f (by decide), show b2 ((2 : Nat) = 2) = 1 from b2_t rfl, cI_f h88, cI_f (fun q => nI_neg (show k < 2 ^ 31 by omega) (hk.symm.trans q)), cI_f (fun q => h117 ((keyH_k hk (by omega)).mp q)), cI_f h128]))
            · skip
              refine V.bipush C (x := 15) dX6_actText_131 (by decide) ?_
              refine V.goto C (tgt := 138) dX6_actText_133 (by decide) ?_
              exact V.iret X dX6_actText_138 rfl (by decide) (by decide) (pq (by unfold atT; rw [cI_t h6, cI_f (by decide), show b2 ((2 : Nat) = 2) = 1 from b2_t rfl, cI_f h88, cI_f (fun q => nI_neg (show k < 2 ^ 31 by omega) (hk.symm.trans q)), cI_f (fun q => h117 ((keyH_k hk (by omega)).mp q)), cI_t h128]))
          · skip
            refine V.iconst C (x := 0) dX6_actText_120 (by decide) ?_
            exact V.iret X dX6_actText_121 rfl (by decide) (by decide) (pq (by unfold atT; rw [cI_t h6, cI_f (by decide), show b2 ((2 : Nat) = 2) = 1 from b2_t rfl, cI_f h88, cI_f (fun q => nI_neg (show k < 2 ^ 31 by omega) (hk.symm.trans q)), cI_t ((keyH_k hk (by omega)).mpr h117)]))
      · skip
        refine V.bipush C (x := 11) dX6_actText_91 (by decide) ?_
        exact V.iret X dX6_actText_93 rfl (by decide) (by decide) (pq (by unfold atT; rw [cI_t h6, cI_f (by decide), show b2 ((2 : Nat) = 2) = 1 from b2_t rfl, cI_t h88]))
    · skip
      refine V.bipush C (x := 10) dX6_actText_9 (by decide) ?_
      exact V.iret X dX6_actText_11 rfl (by decide) (by decide) (pq (by unfold atT; rw [cI_f h6]))
  · skip
    refine V.ald_n C dX6_actText_0 rfl ?_
    refine V.ild_n C dX6_actText_1 rfl ?_
    refine V.ild_n C dX6_actText_2 rfl ?_
    refine V.callVp C mo_X6_hasDoor im_X6_hasDoor se_X6_hasDoor ml_RX6_126 (ev_X6_hasDoor hM hI (by omega) (by omega)) dX6_actText_3 rfl rfl hM.1 rfl rfl (Nat.le_of_ble_eq_true rfl) (RmOk.mk' (by decide) (by decide) (by decide) (by decide)) ⟨rfl, rfl⟩ ?_
    refine V.ifb_ne C (tgt := 12) dX6_actText_6 (by decide) (fun h6 => ?_) (fun h6 => ?_)
    · skip
      refine V.ild_n C dX6_actText_12 rfl ?_
      refine V.iconst C (x := 2) dX6_actText_13 (by decide) ?_
      refine V.icmp_ge C (tgt := 72) dX6_actText_14 (by decide) (fun h14 => ?_) (fun h14 => absurd h14 (by decide))
      refine V.ald_n C dX6_actText_72 rfl ?_
      refine V.get C fg_RX6_29 dX6_actText_73 hM.1 rfl ?_
      refine V.ild_n C dX6_actText_76 rfl ?_
      refine V.zaldN C (N := 15) dX6_actText_77 (hM.2 9 (by decide)) (by omega) (by decide) ?_
      refine V.ild_n C dX6_actText_78 rfl ?_
      refine V.iconst C (x := 2) dX6_actText_79 (by decide) ?_
      refine V.icmp_ne C (tgt := 87) dX6_actText_80 (by decide) (fun h80 => ?_) (fun h80 => absurd h80 (by decide))
      refine V.iconst C (x := 0) dX6_actText_87 (by decide) ?_
      refine V.icmp_ne C (tgt := 94) dX6_actText_88 (by decide) (fun h88 => ?_) (fun h88 => ?_)
      · skip
        rcases (hI.cd hj).2.2.2.1 with hk | ⟨k, hk0, hk, -⟩
        · skip
          refine V.ald_n C dX6_actText_94 rfl ?_
          refine V.get C fg_RX6_22 dX6_actText_95 hM.1 rfl ?_
          refine V.ild_n C dX6_actText_98 rfl ?_
          refine V.ialdN C (N := 15) dX6_actText_99 (hM.2 7 (by decide)) (by omega) (by decide) ?_
          refine V.top hk ?_
          refine V.if_ge C (tgt := 106) dX6_actText_100 (by decide) (fun h100 => absurd h100 (by decide)) (fun h100 => ?_)
          refine V.bipush C (x := 13) dX6_actText_103 (by decide) ?_
          exact V.iret X dX6_actText_105 rfl (by decide) (by decide) (pq (by unfold atT; rw [cI_t h6, cI_f (by decide), show b2 ((3 : Nat) = 2) = 0 from b2_f (by decide), cI_f h88, cI_t hk]))
        · skip
          refine V.ald_n C dX6_actText_94 rfl ?_
          refine V.get C fg_RX6_22 dX6_actText_95 hM.1 rfl ?_
          refine V.ild_n C dX6_actText_98 rfl ?_
          refine V.ialdN C (N := 15) dX6_actText_99 (hM.2 7 (by decide)) (by omega) (by decide) ?_
          refine V.top hk ?_
          refine V.if_ge C (tgt := 106) dX6_actText_100 (by decide) (fun h100 => ?_) (fun h100 => absurd (nI_pos' (by omega)) h100)
          refine V.ald_n C dX6_actText_106 rfl ?_
          refine V.ild_n C dX6_actText_107 rfl ?_
          refine V.ald_n C dX6_actText_108 rfl ?_
          refine V.get C fg_RX6_22 dX6_actText_109 hM.1 rfl ?_
          refine V.ild_n C dX6_actText_112 rfl ?_
          refine V.ialdN C (N := 15) dX6_actText_113 (hM.2 7 (by decide)) (by omega) (by decide) ?_
          refine V.top hk ?_
          refine V.callVp C mo_X6_holds im_X6_holds se_X6_holds ml_RX6_114 (ev_X6_holds hM hI (by omega) (by omega)) dX6_actText_114 rfl rfl hM.1 rfl rfl (Nat.le_of_ble_eq_true rfl) (RmOk.mk' (by decide) (by decide) (by decide) (by decide)) ⟨rfl, rfl⟩ ?_
          refine V.ifb_eq C (tgt := 122) dX6_actText_117 (by decide) (fun h117 => ?_) (fun h117 => ?_)
          · skip
            refine V.ald_n C dX6_actText_122 rfl ?_
            refine V.ild_n C dX6_actText_123 rfl ?_
            refine V.ild_n C dX6_actText_124 rfl ?_
            refine V.callVp C mo_X6_holdsOther im_X6_holdsOther se_X6_holdsOther ml_RX6_132 (ev_X6_holdsOther hM hI (by omega) (by omega)) dX6_actText_125 rfl rfl hM.1 rfl rfl (Nat.le_of_ble_eq_true rfl) (RmOk.mk' (by decide) (by decide) (by decide) (by decide)) ⟨rfl, rfl⟩ ?_
            refine V.ifb_eq C (tgt := 136) dX6_actText_128 (by decide) (fun h128 => ?_) (fun h128 => ?_)
            · skip
              refine V.bipush C (x := 14) dX6_actText_136 (by decide) ?_
              exact V.iret X dX6_actText_138 rfl (by decide) (by decide) (pq (by unfold atT; rw [cI_t h6, cI_f (by decide), show b2 ((3 : Nat) = 2) = 0 from b2_f (by decide), cI_f h88, cI_f (fun q => nI_neg (show k < 2 ^ 31 by omega) (hk.symm.trans q)), cI_f (fun q => h117 ((keyH_k hk (by omega)).mp q)), cI_f h128]))
            · skip
              refine V.bipush C (x := 15) dX6_actText_131 (by decide) ?_
              refine V.goto C (tgt := 138) dX6_actText_133 (by decide) ?_
              exact V.iret X dX6_actText_138 rfl (by decide) (by decide) (pq (by unfold atT; rw [cI_t h6, cI_f (by decide), show b2 ((3 : Nat) = 2) = 0 from b2_f (by decide), cI_f h88, cI_f (fun q => nI_neg (show k < 2 ^ 31 by omega) (hk.symm.trans q)), cI_f (fun q => h117 ((keyH_k hk (by omega)).mp q)), cI_t h128]))
          · skip
            refine V.iconst C (x := 0) dX6_actText_120 (by decide) ?_
            exact V.iret X dX6_actText_121 rfl (by decide) (by decide) (pq (by unfold atT; rw [cI_t h6, cI_f (by decide), show b2 ((3 : Nat) = 2) = 0 from b2_f (by decide), cI_f h88, cI_f (fun q => nI_neg (show k < 2 ^ 31 by omega) (hk.symm.trans q)), cI_t ((keyH_k hk (by omega)).mpr h117)]))
      · skip
        refine V.bipush C (x := 11) dX6_actText_91 (by decide) ?_
        exact V.iret X dX6_actText_93 rfl (by decide) (by decide) (pq (by unfold atT; rw [cI_t h6, cI_f (by decide), show b2 ((3 : Nat) = 2) = 0 from b2_f (by decide), cI_t h88]))
    · skip
      refine V.bipush C (x := 10) dX6_actText_9 (by decide) ?_
      exact V.iret X dX6_actText_11 rfl (by decide) (by decide) (pq (by unfold atT; rw [cI_f h6]))
theorem ev_X6_handleText {g : GD} {r d t b : Nat} {A : ST} {L : List AE} (hM : MR r d t b A L) (hI : Inv r d t b A) {w c i : Nat} (hw : w < b) (hc : c < 5) (hi : i < t) : EvP g mX6_handleText [aR 23, aI (nI w), aI (nI c), aI (nI i)] L (some (aI (hdT A t w c i))) := by
  refine Ev.of [some (aR 23), some (aI (nI w)), some (aI (nI c)), some (aI (nI i))] (by decide) rfl (Nat.le_of_ble_eq_true rfl) fun Z H0 C X => ?_
  have hN := hI.cn
  obtain rfl | rfl | rfl | rfl | rfl : c = 0 ∨ c = 1 ∨ c = 2 ∨ c = 3 ∨ c = 4 := by omega
  · skip
    refine V.ild_n C dX6_handleText_0 rfl ?_
    refine V.iconst C (x := 1) dX6_handleText_1 (by decide) ?_
    refine V.icmp_ne C (tgt := 21) dX6_handleText_2 (by decide) (fun h2 => ?_) (fun h2 => absurd h2 (by decide))
    refine V.ald_n C dX6_handleText_21 rfl ?_
    refine V.ild_n C dX6_handleText_22 rfl ?_
    refine V.ild_n C dX6_handleText_23 rfl ?_
    refine V.callVp C mo_X6_hasThing im_X6_hasThing se_X6_hasThing ml_RX6_129 (ev_X6_hasThing hM hI (by omega) (by omega)) dX6_handleText_24 rfl rfl hM.1 rfl rfl (Nat.le_of_ble_eq_true rfl) (RmOk.mk' (by decide) (by decide) (by decide) (by decide)) ⟨rfl, rfl⟩ ?_
    refine V.ifb_ne C (tgt := 33) dX6_handleText_27 (by decide) (fun h27 => ?_) (fun h27 => ?_)
    · skip
      refine V.ild_n C dX6_handleText_33 rfl ?_
      refine V.if_ne C (tgt := 81) dX6_handleText_34 (by decide) (fun h34 => absurd h34 (by decide)) (fun h34 => ?_)
      refine V.ald_n C dX6_handleText_37 rfl ?_
      refine V.ild_n C dX6_handleText_38 rfl ?_
      refine V.ild_n C dX6_handleText_39 rfl ?_
      refine V.callVp C mo_X6_holds im_X6_holds se_X6_holds ml_RX6_114 (ev_X6_holds hM hI (by omega) (by omega)) dX6_handleText_40 rfl rfl hM.1 rfl rfl (Nat.le_of_ble_eq_true rfl) (RmOk.mk' (by decide) (by decide) (by decide) (by decide)) ⟨rfl, rfl⟩ ?_
      refine V.ifb_eq C (tgt := 51) dX6_handleText_43 (by decide) (fun h43 => ?_) (fun h43 => ?_)
      · skip
        refine V.ald_n C dX6_handleText_51 rfl ?_
        refine V.get C fg_RX6_32 dX6_handleText_52 hM.1 rfl ?_
        refine V.ild_n C dX6_handleText_55 rfl ?_
        refine V.ialdN C (N := 30) dX6_handleText_56 (hM.2 11 (by decide)) (by omega) (by decide) ?_
        refine V.if_eq C (tgt := 65) dX6_handleText_57 (by decide) (fun h57 => ?_) (fun h57 => ?_)
        · skip
          refine V.ald_n C dX6_handleText_65 rfl ?_
          refine V.ild_n C dX6_handleText_66 rfl ?_
          refine V.callVp C mo_X6_held im_X6_held se_X6_held ml_RX6_139 (ev_X6_held hM hI (by omega)) dX6_handleText_67 rfl rfl hM.1 rfl rfl (Nat.le_of_ble_eq_true rfl) (RmOk.mk' (by decide) (by decide) (by decide) (by decide)) ⟨rfl, rfl⟩ ?_
          refine V.iconst C (x := 4) dX6_handleText_70 (by decide) ?_
          refine V.icmp_ne C (tgt := 79) dX6_handleText_71 (by decide) (fun h71 => ?_) (fun h71 => ?_)
          · skip
            refine V.iconst C (x := 0) dX6_handleText_79 (by decide) ?_
            exact V.iret X dX6_handleText_80 rfl (by decide) (by decide) (pq (by unfold hdT; rw [cI_f (by decide), cI_t h27, cI_t rfl, cI_f h43, cI_t h57, cI_f (fun q => h71 (by rw [q]; rfl))]))
          · skip
            refine V.bipush C (x := 17) dX6_handleText_74 (by decide) ?_
            refine V.goto C (tgt := 80) dX6_handleText_76 (by decide) ?_
            exact V.iret X dX6_handleText_80 rfl (by decide) (by decide) (pq (by unfold hdT; rw [cI_f (by decide), cI_t h27, cI_t rfl, cI_f h43, cI_t h57, cI_t (nI_inj (b := 4) (by have := cnt_le (hol A w) t; omega) (by omega) h71)]))
        · skip
          refine V.bipush C (x := 16) dX6_handleText_60 (by decide) ?_
          refine V.goto C (tgt := 80) dX6_handleText_62 (by decide) ?_
          exact V.iret X dX6_handleText_80 rfl (by decide) (by decide) (pq (by unfold hdT; rw [cI_f (by decide), cI_t h27, cI_t rfl, cI_f h43, cI_f h57]))
      · skip
        refine V.bipush C (x := 11) dX6_handleText_46 (by decide) ?_
        refine V.goto C (tgt := 80) dX6_handleText_48 (by decide) ?_
        exact V.iret X dX6_handleText_80 rfl (by decide) (by decide) (pq (by unfold hdT; rw [cI_f (by decide), cI_t h27, cI_t rfl, cI_t h43]))
    · skip
      refine V.bipush C (x := 10) dX6_handleText_30 (by decide) ?_
      exact V.iret X dX6_handleText_32 rfl (by decide) (by decide) (pq (by unfold hdT; rw [cI_f (by decide), cI_f h27]))
  · skip
    refine V.ild_n C dX6_handleText_0 rfl ?_
    refine V.iconst C (x := 1) dX6_handleText_1 (by decide) ?_
    refine V.icmp_ne C (tgt := 21) dX6_handleText_2 (by decide) (fun h2 => absurd h2 (by decide)) (fun h2 => ?_)
    refine V.ald_n C dX6_handleText_5 rfl ?_
    refine V.ild_n C dX6_handleText_6 rfl ?_
    refine V.ild_n C dX6_handleText_7 rfl ?_
    refine V.callVp C mo_X6_holds im_X6_holds se_X6_holds ml_RX6_114 (ev_X6_holds hM hI (by omega) (by omega)) dX6_handleText_8 rfl rfl hM.1 rfl rfl (Nat.le_of_ble_eq_true rfl) (RmOk.mk' (by decide) (by decide) (by decide) (by decide)) ⟨rfl, rfl⟩ ?_
    refine V.ifb_eq C (tgt := 18) dX6_handleText_11 (by decide) (fun h11 => ?_) (fun h11 => ?_)
    · skip
      refine V.bipush C (x := 18) dX6_handleText_18 (by decide) ?_
      exact V.iret X dX6_handleText_20 rfl (by decide) (by decide) (pq (by unfold hdT; rw [cI_t rfl, cI_f h11]))
    · skip
      refine V.iconst C (x := 0) dX6_handleText_14 (by decide) ?_
      refine V.goto C (tgt := 20) dX6_handleText_15 (by decide) ?_
      exact V.iret X dX6_handleText_20 rfl (by decide) (by decide) (pq (by unfold hdT; rw [cI_t rfl, cI_t h11]))
  · skip
    refine V.ild_n C dX6_handleText_0 rfl ?_
    refine V.iconst C (x := 1) dX6_handleText_1 (by decide) ?_
    refine V.icmp_ne C (tgt := 21) dX6_handleText_2 (by decide) (fun h2 => ?_) (fun h2 => absurd h2 (by decide))
    refine V.ald_n C dX6_handleText_21 rfl ?_
    refine V.ild_n C dX6_handleText_22 rfl ?_
    refine V.ild_n C dX6_handleText_23 rfl ?_
    refine V.callVp C mo_X6_hasThing im_X6_hasThing se_X6_hasThing ml_RX6_129 (ev_X6_hasThing hM hI (by omega) (by omega)) dX6_handleText_24 rfl rfl hM.1 rfl rfl (Nat.le_of_ble_eq_true rfl) (RmOk.mk' (by decide) (by decide) (by decide) (by decide)) ⟨rfl, rfl⟩ ?_
    refine V.ifb_ne C (tgt := 33) dX6_handleText_27 (by decide) (fun h27 => ?_) (fun h27 => ?_)
    · skip
      refine V.ild_n C dX6_handleText_33 rfl ?_
      refine V.if_ne C (tgt := 81) dX6_handleText_34 (by decide) (fun h34 => ?_) (fun h34 => absurd h34 (by decide))
      refine V.ild_n C dX6_handleText_81 rfl ?_
      refine V.iconst C (x := 2) dX6_handleText_82 (by decide) ?_
      refine V.icmp_ne C (tgt := 131) dX6_handleText_83 (by decide) (fun h83 => absurd h83 (by decide)) (fun h83 => ?_)
      refine V.ald_n C dX6_handleText_86 rfl ?_
      refine V.get C fg_RX6_32 dX6_handleText_87 hM.1 rfl ?_
      refine V.ild_n C dX6_handleText_90 rfl ?_
      refine V.ialdN C (N := 30) dX6_handleText_91 (hM.2 11 (by decide)) (by omega) (by decide) ?_
      refine V.iconst C (x := 2) dX6_handleText_92 (by decide) ?_
      refine V.icmp_ge C (tgt := 101) dX6_handleText_93 (by decide) (fun h93 => ?_) (fun h93 => ?_)
      · skip
        have hs2 : A 11 i = 2 ∨ A 11 i = 3 := by
          obtain ⟨z, hz, ez⟩ := (hI.ct hi).1
          rw [ez] at h93 ⊢
          obtain rfl | rfl | rfl | rfl : z = 0 ∨ z = 1 ∨ z = 2 ∨ z = 3 := by omega
          · exact absurd h93 (by decide)
          · exact absurd h93 (by decide)
          · exact Or.inl rfl
          · exact Or.inr rfl
        refine V.ald_n C dX6_handleText_101 rfl ?_
        refine V.get C fg_RX6_50 dX6_handleText_102 hM.1 rfl ?_
        refine V.ild_n C dX6_handleText_105 rfl ?_
        refine V.ialdN C (N := 6) dX6_handleText_106 (hM.2 18 (by decide)) (by omega) (by decide) ?_
        refine V.if_lt C (tgt := 115) dX6_handleText_107 (by decide) (fun h107 => ?_) (fun h107 => ?_)
        · skip
          have hw1 : A 18 w = -1 := by
            rcases (hI.cb hw).2.1 with q | ⟨k, hk, q, -⟩
            · exact q
            · rw [q] at h107; exact absurd h107 (nI_pos (by omega))
          refine V.ald_n C dX6_handleText_115 rfl ?_
          refine V.get C fg_RX6_44 dX6_handleText_116 hM.1 rfl ?_
          refine V.ild_n C dX6_handleText_119 rfl ?_
          refine V.zaldN C (N := 30) dX6_handleText_120 (hM.2 15 (by decide)) (by omega) (by decide) ?_
          refine V.if_eq C (tgt := 129) dX6_handleText_121 (by decide) (fun h121 => ?_) (fun h121 => ?_)
          · skip
            refine V.iconst C (x := 0) dX6_handleText_129 (by decide) ?_
            exact V.iret X dX6_handleText_130 rfl (by decide) (by decide) (pq (by unfold hdT; rw [cI_f (by decide), cI_t h27, cI_f (by decide), cI_t rfl, cI_t hs2, cI_t hw1, cI_f (fun q => by rw [h121] at q; exact absurd q (by decide))]))
          · skip
            refine V.bipush C (x := 21) dX6_handleText_124 (by decide) ?_
            refine V.goto C (tgt := 130) dX6_handleText_126 (by decide) ?_
            exact V.iret X dX6_handleText_130 rfl (by decide) (by decide) (pq (by unfold hdT; rw [cI_f (by decide), cI_t h27, cI_f (by decide), cI_t rfl, cI_t hs2, cI_t hw1, cI_t ((hI.ct hi).2.2.2.1.resolve_left h121)]))
        · skip
          refine V.bipush C (x := 20) dX6_handleText_110 (by decide) ?_
          refine V.goto C (tgt := 130) dX6_handleText_112 (by decide) ?_
          exact V.iret X dX6_handleText_130 rfl (by decide) (by decide) (pq (by unfold hdT; rw [cI_f (by decide), cI_t h27, cI_f (by decide), cI_t rfl, cI_t hs2, cI_f (fun q => by rw [q] at h107; exact absurd h107 (by decide))]))
      · skip
        refine V.bipush C (x := 19) dX6_handleText_96 (by decide) ?_
        refine V.goto C (tgt := 130) dX6_handleText_98 (by decide) ?_
        exact V.iret X dX6_handleText_130 rfl (by decide) (by decide) (pq (by unfold hdT; rw [cI_f (by decide), cI_t h27, cI_f (by decide), cI_t rfl, cI_f (fun q => h93 (by rcases q with q | q <;> rw [q] <;> decide))]))
    · skip
      refine V.bipush C (x := 10) dX6_handleText_30 (by decide) ?_
      exact V.iret X dX6_handleText_32 rfl (by decide) (by decide) (pq (by unfold hdT; rw [cI_f (by decide), cI_f h27]))
  · skip
    refine V.ild_n C dX6_handleText_0 rfl ?_
    refine V.iconst C (x := 1) dX6_handleText_1 (by decide) ?_
    refine V.icmp_ne C (tgt := 21) dX6_handleText_2 (by decide) (fun h2 => ?_) (fun h2 => absurd h2 (by decide))
    refine V.ald_n C dX6_handleText_21 rfl ?_
    refine V.ild_n C dX6_handleText_22 rfl ?_
    refine V.ild_n C dX6_handleText_23 rfl ?_
    refine V.callVp C mo_X6_hasThing im_X6_hasThing se_X6_hasThing ml_RX6_129 (ev_X6_hasThing hM hI (by omega) (by omega)) dX6_handleText_24 rfl rfl hM.1 rfl rfl (Nat.le_of_ble_eq_true rfl) (RmOk.mk' (by decide) (by decide) (by decide) (by decide)) ⟨rfl, rfl⟩ ?_
    refine V.ifb_ne C (tgt := 33) dX6_handleText_27 (by decide) (fun h27 => ?_) (fun h27 => ?_)
    · skip
      refine V.ild_n C dX6_handleText_33 rfl ?_
      refine V.if_ne C (tgt := 81) dX6_handleText_34 (by decide) (fun h34 => ?_) (fun h34 => absurd h34 (by decide))
      refine V.ild_n C dX6_handleText_81 rfl ?_
      refine V.iconst C (x := 2) dX6_handleText_82 (by decide) ?_
      refine V.icmp_ne C (tgt := 131) dX6_handleText_83 (by decide) (fun h83 => ?_) (fun h83 => absurd h83 (by decide))
      refine V.ald_n C dX6_handleText_131 rfl ?_
      refine V.get C fg_RX6_32 dX6_handleText_132 hM.1 rfl ?_
      refine V.ild_n C dX6_handleText_135 rfl ?_
      refine V.ialdN C (N := 30) dX6_handleText_136 (hM.2 11 (by decide)) (by omega) (by decide) ?_
      refine V.iconst C (x := 3) dX6_handleText_137 (by decide) ?_
      refine V.icmp_eq C (tgt := 146) dX6_handleText_138 (by decide) (fun h138 => ?_) (fun h138 => ?_)
      · skip
        refine V.ald_n C dX6_handleText_146 rfl ?_
        refine V.get C fg_RX6_44 dX6_handleText_147 hM.1 rfl ?_
        refine V.ild_n C dX6_handleText_150 rfl ?_
        refine V.zaldN C (N := 30) dX6_handleText_151 (hM.2 15 (by decide)) (by omega) (by decide) ?_
        refine V.ild_n C dX6_handleText_152 rfl ?_
        refine V.iconst C (x := 4) dX6_handleText_153 (by decide) ?_
        refine V.icmp_ne C (tgt := 161) dX6_handleText_154 (by decide) (fun h154 => ?_) (fun h154 => absurd h154 (by decide))
        refine V.iconst C (x := 0) dX6_handleText_161 (by decide) ?_
        refine V.icmp_ne C (tgt := 170) dX6_handleText_162 (by decide) (fun h162 => ?_) (fun h162 => ?_)
        · skip
          refine V.iconst C (x := 0) dX6_handleText_170 (by decide) ?_
          exact V.iret X dX6_handleText_171 rfl (by decide) (by decide) (pq (by unfold hdT; rw [cI_f (by decide), cI_t h27, cI_f (by decide), cI_f (by decide), cI_t h138, show b2 ((3 : Nat) = 4) = 0 from b2_f (by decide), cI_f h162]))
        · skip
          refine V.bipush C (x := 11) dX6_handleText_165 (by decide) ?_
          refine V.goto C (tgt := 171) dX6_handleText_167 (by decide) ?_
          exact V.iret X dX6_handleText_171 rfl (by decide) (by decide) (pq (by unfold hdT; rw [cI_f (by decide), cI_t h27, cI_f (by decide), cI_f (by decide), cI_t h138, show b2 ((3 : Nat) = 4) = 0 from b2_f (by decide), cI_t h162]))
      · skip
        refine V.bipush C (x := 22) dX6_handleText_141 (by decide) ?_
        refine V.goto C (tgt := 171) dX6_handleText_143 (by decide) ?_
        exact V.iret X dX6_handleText_171 rfl (by decide) (by decide) (pq (by unfold hdT; rw [cI_f (by decide), cI_t h27, cI_f (by decide), cI_f (by decide), cI_f h138]))
    · skip
      refine V.bipush C (x := 10) dX6_handleText_30 (by decide) ?_
      exact V.iret X dX6_handleText_32 rfl (by decide) (by decide) (pq (by unfold hdT; rw [cI_f (by decide), cI_f h27]))
  · skip
    refine V.ild_n C dX6_handleText_0 rfl ?_
    refine V.iconst C (x := 1) dX6_handleText_1 (by decide) ?_
    refine V.icmp_ne C (tgt := 21) dX6_handleText_2 (by decide) (fun h2 => ?_) (fun h2 => absurd h2 (by decide))
    refine V.ald_n C dX6_handleText_21 rfl ?_
    refine V.ild_n C dX6_handleText_22 rfl ?_
    refine V.ild_n C dX6_handleText_23 rfl ?_
    refine V.callVp C mo_X6_hasThing im_X6_hasThing se_X6_hasThing ml_RX6_129 (ev_X6_hasThing hM hI (by omega) (by omega)) dX6_handleText_24 rfl rfl hM.1 rfl rfl (Nat.le_of_ble_eq_true rfl) (RmOk.mk' (by decide) (by decide) (by decide) (by decide)) ⟨rfl, rfl⟩ ?_
    refine V.ifb_ne C (tgt := 33) dX6_handleText_27 (by decide) (fun h27 => ?_) (fun h27 => ?_)
    · skip
      refine V.ild_n C dX6_handleText_33 rfl ?_
      refine V.if_ne C (tgt := 81) dX6_handleText_34 (by decide) (fun h34 => ?_) (fun h34 => absurd h34 (by decide))
      refine V.ild_n C dX6_handleText_81 rfl ?_
      refine V.iconst C (x := 2) dX6_handleText_82 (by decide) ?_
      refine V.icmp_ne C (tgt := 131) dX6_handleText_83 (by decide) (fun h83 => ?_) (fun h83 => absurd h83 (by decide))
      refine V.ald_n C dX6_handleText_131 rfl ?_
      refine V.get C fg_RX6_32 dX6_handleText_132 hM.1 rfl ?_
      refine V.ild_n C dX6_handleText_135 rfl ?_
      refine V.ialdN C (N := 30) dX6_handleText_136 (hM.2 11 (by decide)) (by omega) (by decide) ?_
      refine V.iconst C (x := 3) dX6_handleText_137 (by decide) ?_
      refine V.icmp_eq C (tgt := 146) dX6_handleText_138 (by decide) (fun h138 => ?_) (fun h138 => ?_)
      · skip
        refine V.ald_n C dX6_handleText_146 rfl ?_
        refine V.get C fg_RX6_44 dX6_handleText_147 hM.1 rfl ?_
        refine V.ild_n C dX6_handleText_150 rfl ?_
        refine V.zaldN C (N := 30) dX6_handleText_151 (hM.2 15 (by decide)) (by omega) (by decide) ?_
        refine V.ild_n C dX6_handleText_152 rfl ?_
        refine V.iconst C (x := 4) dX6_handleText_153 (by decide) ?_
        refine V.icmp_ne C (tgt := 161) dX6_handleText_154 (by decide) (fun h154 => absurd h154 (by decide)) (fun h154 => ?_)
        refine V.iconst C (x := 1) dX6_handleText_157 (by decide) ?_
        refine V.goto C (tgt := 162) dX6_handleText_158 (by decide) ?_
        refine V.icmp_ne C (tgt := 170) dX6_handleText_162 (by decide) (fun h162 => ?_) (fun h162 => ?_)
        · skip
          refine V.iconst C (x := 0) dX6_handleText_170 (by decide) ?_
          exact V.iret X dX6_handleText_171 rfl (by decide) (by decide) (pq (by unfold hdT; rw [cI_f (by decide), cI_t h27, cI_f (by decide), cI_f (by decide), cI_t h138, show b2 ((4 : Nat) = 4) = 1 from b2_t rfl, cI_f h162]))
        · skip
          refine V.bipush C (x := 11) dX6_handleText_165 (by decide) ?_
          refine V.goto C (tgt := 171) dX6_handleText_167 (by decide) ?_
          exact V.iret X dX6_handleText_171 rfl (by decide) (by decide) (pq (by unfold hdT; rw [cI_f (by decide), cI_t h27, cI_f (by decide), cI_f (by decide), cI_t h138, show b2 ((4 : Nat) = 4) = 1 from b2_t rfl, cI_t h162]))
      · skip
        refine V.bipush C (x := 22) dX6_handleText_141 (by decide) ?_
        refine V.goto C (tgt := 171) dX6_handleText_143 (by decide) ?_
        exact V.iret X dX6_handleText_171 rfl (by decide) (by decide) (pq (by unfold hdT; rw [cI_f (by decide), cI_t h27, cI_f (by decide), cI_f (by decide), cI_f h138]))
    · skip
      refine V.bipush C (x := 10) dX6_handleText_30 (by decide) ?_
      exact V.iret X dX6_handleText_32 rfl (by decide) (by decide) (pq (by unfold hdT; rw [cI_f (by decide), cI_f h27]))
theorem ev_X6_way {g : GD} {r d t b : Nat} {A : ST} {L : List AE} (hM : MR r d t b A L) (hI : Inv r d t b A) (x y : Int32) : EvP g mX6_way [aR 23, aI x, aI y] L (some (aI (F_way r A x y))) := by
  refine Ev.of [some (aR 23), some (aI x), some (aI y)] (by decide) rfl (Nat.le_of_ble_eq_true rfl) fun Z H0 C X => ?_
  have hN := hI.cn
  rcases isN_cases x r (by omega) with ⟨i, hi, rfl⟩ | hi
  · skip
    rcases isN_cases y 8 (by omega) with ⟨j, hj, rfl⟩ | hj
    · skip
      refine V.ald_n C dX6_way_0 rfl ?_
      refine V.iconst C (x := 0) dX6_way_1 (by decide) ?_
      refine V.put C fl_RX6_77 dX6_way_2 hM.1 ⟨rfl, rfl⟩ (Nat.le_of_ble_eq_true rfl) (fun h => by cases h) (set_same hM.1) ?_
      refine V.ald_n C dX6_way_5 rfl ?_
      refine V.ild_n C dX6_way_6 rfl ?_
      refine V.callVp C mo_X6_isRoom im_X6_isRoom se_X6_isRoom ml_RX6_97 (ev_X6_isRoom hM hI _) dX6_way_7 rfl rfl hM.1 rfl rfl (Nat.le_of_ble_eq_true rfl) (RmOk.mk' (by decide) (by decide) (by decide) (by decide)) ⟨rfl, rfl⟩ ?_
      refine V.ifb_eq C (tgt := 37) dX6_way_10 (by decide) (fun h10 => absurd (isN_nI (show i < r by omega) (by omega)) h10) (fun h10 => ?_)
      refine V.ild_n C dX6_way_13 rfl ?_
      refine V.iconst C (x := 0) dX6_way_14 (by decide) ?_
      refine V.bipush C (x := 7) dX6_way_15 (by decide) ?_
      refine V.callSp C mo_X6_in sm_X6_in ml_RX6_84 (ev_X6_in0 _ 8 (by decide)) dX6_way_17 rfl rfl (Nat.le_of_ble_eq_true rfl) (RmOk.mk' (by decide) (by decide) (by decide) (by decide)) ⟨rfl, rfl⟩ ?_
      refine V.ifb_eq C (tgt := 37) dX6_way_20 (by decide) (fun h20 => absurd (isN_nI (show j < 8 by omega) (by omega)) h20) (fun h20 => ?_)
      refine V.ald_n C dX6_way_23 rfl ?_
      refine V.get C fg_RX6_7 dX6_way_24 hM.1 rfl ?_
      refine V.bipush C (x := 8) dX6_way_27 (by decide) ?_
      refine V.ild_n C dX6_way_29 rfl ?_
      refine V.imul C dX6_way_30 ?_
      refine V.top (pk_mul 8 i) ?_
      refine V.ild_n C dX6_way_31 rfl ?_
      refine V.iadd C dX6_way_32 ?_
      refine V.top (nI_add (8 * i) j) ?_
      refine V.ialdN C (N := 160) dX6_way_33 (hM.2 2 (by decide)) (by omega) (by decide) ?_
      refine V.goto C (tgt := 38) dX6_way_34 (by decide) ?_
      exact V.iret X dX6_way_38 rfl (by decide) (by decide) (pq (by unfold F_way; rw [ok1_t hi (by omega), ok1_t hj (by omega)]))
    · skip
      refine V.ald_n C dX6_way_0 rfl ?_
      refine V.iconst C (x := 0) dX6_way_1 (by decide) ?_
      refine V.put C fl_RX6_77 dX6_way_2 hM.1 ⟨rfl, rfl⟩ (Nat.le_of_ble_eq_true rfl) (fun h => by cases h) (set_same hM.1) ?_
      refine V.ald_n C dX6_way_5 rfl ?_
      refine V.ild_n C dX6_way_6 rfl ?_
      refine V.callVp C mo_X6_isRoom im_X6_isRoom se_X6_isRoom ml_RX6_97 (ev_X6_isRoom hM hI _) dX6_way_7 rfl rfl hM.1 rfl rfl (Nat.le_of_ble_eq_true rfl) (RmOk.mk' (by decide) (by decide) (by decide) (by decide)) ⟨rfl, rfl⟩ ?_
      refine V.ifb_eq C (tgt := 37) dX6_way_10 (by decide) (fun h10 => absurd (isN_nI (show i < r by omega) (by omega)) h10) (fun h10 => ?_)
      refine V.ild_n C dX6_way_13 rfl ?_
      refine V.iconst C (x := 0) dX6_way_14 (by decide) ?_
      refine V.bipush C (x := 7) dX6_way_15 (by decide) ?_
      refine V.callSp C mo_X6_in sm_X6_in ml_RX6_84 (ev_X6_in0 _ 8 (by decide)) dX6_way_17 rfl rfl (Nat.le_of_ble_eq_true rfl) (RmOk.mk' (by decide) (by decide) (by decide) (by decide)) ⟨rfl, rfl⟩ ?_
      refine V.ifb_eq C (tgt := 37) dX6_way_20 (by decide) (fun h20 => ?_) (fun h20 => absurd h20 hj)
      refine V.iconst C (x := -1) dX6_way_37 (by decide) ?_
      exact V.iret X dX6_way_38 rfl (by decide) (by decide) (pq (by unfold F_way; rw [ok1_t hi (by omega), ok1_f hj]))
  · skip
    refine V.ald_n C dX6_way_0 rfl ?_
    refine V.iconst C (x := 0) dX6_way_1 (by decide) ?_
    refine V.put C fl_RX6_77 dX6_way_2 hM.1 ⟨rfl, rfl⟩ (Nat.le_of_ble_eq_true rfl) (fun h => by cases h) (set_same hM.1) ?_
    refine V.ald_n C dX6_way_5 rfl ?_
    refine V.ild_n C dX6_way_6 rfl ?_
    refine V.callVp C mo_X6_isRoom im_X6_isRoom se_X6_isRoom ml_RX6_97 (ev_X6_isRoom hM hI _) dX6_way_7 rfl rfl hM.1 rfl rfl (Nat.le_of_ble_eq_true rfl) (RmOk.mk' (by decide) (by decide) (by decide) (by decide)) ⟨rfl, rfl⟩ ?_
    refine V.ifb_eq C (tgt := 37) dX6_way_10 (by decide) (fun h10 => ?_) (fun h10 => absurd h10 hi)
    refine V.iconst C (x := -1) dX6_way_37 (by decide) ?_
    exact V.iret X dX6_way_38 rfl (by decide) (by decide) (pq (by unfold F_way; rw [ok1_f hi]))
theorem ev_X6_leads {g : GD} {r d t b : Nat} {A : ST} {L : List AE} (hM : MR r d t b A L) (hI : Inv r d t b A) (x y : Int32) : EvP g mX6_leads [aR 23, aI x, aI y] L (some (aI (F_leads r A x y))) := by
  refine Ev.of [some (aR 23), some (aI x), some (aI y)] (by decide) rfl (Nat.le_of_ble_eq_true rfl) fun Z H0 C X => ?_
  have hN := hI.cn
  rcases isN_cases x r (by omega) with ⟨i, hi, rfl⟩ | hi
  · skip
    rcases isN_cases y 8 (by omega) with ⟨j, hj, rfl⟩ | hj
    · skip
      refine V.ald_n C dX6_leads_0 rfl ?_
      refine V.iconst C (x := 0) dX6_leads_1 (by decide) ?_
      refine V.put C fl_RX6_77 dX6_leads_2 hM.1 ⟨rfl, rfl⟩ (Nat.le_of_ble_eq_true rfl) (fun h => by cases h) (set_same hM.1) ?_
      refine V.ald_n C dX6_leads_5 rfl ?_
      refine V.ild_n C dX6_leads_6 rfl ?_
      refine V.callVp C mo_X6_isRoom im_X6_isRoom se_X6_isRoom ml_RX6_97 (ev_X6_isRoom hM hI _) dX6_leads_7 rfl rfl hM.1 rfl rfl (Nat.le_of_ble_eq_true rfl) (RmOk.mk' (by decide) (by decide) (by decide) (by decide)) ⟨rfl, rfl⟩ ?_
      refine V.ifb_eq C (tgt := 32) dX6_leads_10 (by decide) (fun h10 => absurd (isN_nI (show i < r by omega) (by omega)) h10) (fun h10 => ?_)
      refine V.ild_n C dX6_leads_13 rfl ?_
      refine V.iconst C (x := 0) dX6_leads_14 (by decide) ?_
      refine V.bipush C (x := 7) dX6_leads_15 (by decide) ?_
      refine V.callSp C mo_X6_in sm_X6_in ml_RX6_84 (ev_X6_in0 _ 8 (by decide)) dX6_leads_17 rfl rfl (Nat.le_of_ble_eq_true rfl) (RmOk.mk' (by decide) (by decide) (by decide) (by decide)) ⟨rfl, rfl⟩ ?_
      refine V.ifb_eq C (tgt := 32) dX6_leads_20 (by decide) (fun h20 => absurd (isN_nI (show j < 8 by omega) (by omega)) h20) (fun h20 => ?_)
      refine V.ald_n C dX6_leads_23 rfl ?_
      refine V.ild_n C dX6_leads_24 rfl ?_
      refine V.ild_n C dX6_leads_25 rfl ?_
      refine V.callVp C mo_X6_leadsTo im_X6_leadsTo se_X6_leadsTo ml_RX6_150 (ev_X6_leadsTo hM hI (by omega) (by omega)) dX6_leads_26 rfl rfl hM.1 rfl rfl (Nat.le_of_ble_eq_true rfl) (RmOk.mk' (by decide) (by decide) (by decide) (by decide)) ⟨rfl, rfl⟩ ?_
      refine V.goto C (tgt := 33) dX6_leads_29 (by decide) ?_
      exact V.iret X dX6_leads_33 rfl (by decide) (by decide) (pq (by unfold F_leads; rw [ok1_t hi (by omega), ok1_t hj (by omega)]))
    · skip
      refine V.ald_n C dX6_leads_0 rfl ?_
      refine V.iconst C (x := 0) dX6_leads_1 (by decide) ?_
      refine V.put C fl_RX6_77 dX6_leads_2 hM.1 ⟨rfl, rfl⟩ (Nat.le_of_ble_eq_true rfl) (fun h => by cases h) (set_same hM.1) ?_
      refine V.ald_n C dX6_leads_5 rfl ?_
      refine V.ild_n C dX6_leads_6 rfl ?_
      refine V.callVp C mo_X6_isRoom im_X6_isRoom se_X6_isRoom ml_RX6_97 (ev_X6_isRoom hM hI _) dX6_leads_7 rfl rfl hM.1 rfl rfl (Nat.le_of_ble_eq_true rfl) (RmOk.mk' (by decide) (by decide) (by decide) (by decide)) ⟨rfl, rfl⟩ ?_
      refine V.ifb_eq C (tgt := 32) dX6_leads_10 (by decide) (fun h10 => absurd (isN_nI (show i < r by omega) (by omega)) h10) (fun h10 => ?_)
      refine V.ild_n C dX6_leads_13 rfl ?_
      refine V.iconst C (x := 0) dX6_leads_14 (by decide) ?_
      refine V.bipush C (x := 7) dX6_leads_15 (by decide) ?_
      refine V.callSp C mo_X6_in sm_X6_in ml_RX6_84 (ev_X6_in0 _ 8 (by decide)) dX6_leads_17 rfl rfl (Nat.le_of_ble_eq_true rfl) (RmOk.mk' (by decide) (by decide) (by decide) (by decide)) ⟨rfl, rfl⟩ ?_
      refine V.ifb_eq C (tgt := 32) dX6_leads_20 (by decide) (fun h20 => ?_) (fun h20 => absurd h20 hj)
      refine V.iconst C (x := -1) dX6_leads_32 (by decide) ?_
      exact V.iret X dX6_leads_33 rfl (by decide) (by decide) (pq (by unfold F_leads; rw [ok1_t hi (by omega), ok1_f hj]))
  · skip
    refine V.ald_n C dX6_leads_0 rfl ?_
    refine V.iconst C (x := 0) dX6_leads_1 (by decide) ?_
    refine V.put C fl_RX6_77 dX6_leads_2 hM.1 ⟨rfl, rfl⟩ (Nat.le_of_ble_eq_true rfl) (fun h => by cases h) (set_same hM.1) ?_
    refine V.ald_n C dX6_leads_5 rfl ?_
    refine V.ild_n C dX6_leads_6 rfl ?_
    refine V.callVp C mo_X6_isRoom im_X6_isRoom se_X6_isRoom ml_RX6_97 (ev_X6_isRoom hM hI _) dX6_leads_7 rfl rfl hM.1 rfl rfl (Nat.le_of_ble_eq_true rfl) (RmOk.mk' (by decide) (by decide) (by decide) (by decide)) ⟨rfl, rfl⟩ ?_
    refine V.ifb_eq C (tgt := 32) dX6_leads_10 (by decide) (fun h10 => ?_) (fun h10 => absurd h10 hi)
    refine V.iconst C (x := -1) dX6_leads_32 (by decide) ?_
    exact V.iret X dX6_leads_33 rfl (by decide) (by decide) (pq (by unfold F_leads; rw [ok1_f hi]))
theorem ev_X6_state {g : GD} {r d t b : Nat} {A : ST} {L : List AE} (hM : MR r d t b A L) (hI : Inv r d t b A) (x : Int32) : EvP g mX6_state [aR 23, aI x] L (some (aI (F_state d A x))) := by
  refine Ev.of [some (aR 23), some (aI x)] (by decide) rfl (Nat.le_of_ble_eq_true rfl) fun Z H0 C X => ?_
  have hN := hI.cn
  rcases isN_cases x d (by omega) with ⟨j, hj, rfl⟩ | hj
  · skip
    refine V.ald_n C dX6_state_0 rfl ?_
    refine V.iconst C (x := 0) dX6_state_1 (by decide) ?_
    refine V.put C fl_RX6_77 dX6_state_2 hM.1 ⟨rfl, rfl⟩ (Nat.le_of_ble_eq_true rfl) (fun h => by cases h) (set_same hM.1) ?_
    refine V.ald_n C dX6_state_5 rfl ?_
    refine V.ild_n C dX6_state_6 rfl ?_
    refine V.callVp C mo_X6_isDoor im_X6_isDoor se_X6_isDoor ml_RX6_101 (ev_X6_isDoor hM hI _) dX6_state_7 rfl rfl hM.1 rfl rfl (Nat.le_of_ble_eq_true rfl) (RmOk.mk' (by decide) (by decide) (by decide) (by decide)) ⟨rfl, rfl⟩ ?_
    refine V.ifb_ne C (tgt := 15) dX6_state_10 (by decide) (fun h10 => ?_) (fun h10 => absurd (isN_nI (show j < d by omega) (by omega)) h10)
    refine V.ald_n C dX6_state_15 rfl ?_
    refine V.get C fg_RX6_25 dX6_state_16 hM.1 rfl ?_
    refine V.ild_n C dX6_state_19 rfl ?_
    refine V.zaldN C (N := 15) dX6_state_20 (hM.2 8 (by decide)) (by omega) (by decide) ?_
    refine V.if_eq C (tgt := 28) dX6_state_21 (by decide) (fun h21 => ?_) (fun h21 => ?_)
    · skip
      refine V.iconst C (x := 0) dX6_state_28 (by decide) ?_
      refine V.ald_n C dX6_state_29 rfl ?_
      refine V.get C fg_RX6_29 dX6_state_30 hM.1 rfl ?_
      refine V.ild_n C dX6_state_33 rfl ?_
      refine V.zaldN C (N := 15) dX6_state_34 (hM.2 9 (by decide)) (by omega) (by decide) ?_
      refine V.if_eq C (tgt := 42) dX6_state_35 (by decide) (fun h35 => ?_) (fun h35 => ?_)
      · skip
        refine V.iconst C (x := 0) dX6_state_42 (by decide) ?_
        refine V.iadd C dX6_state_43 ?_
        rcases (hI.cd hj).2.2.2.1 with hk | ⟨k, hk0, hk, -⟩
        · skip
          refine V.ald_n C dX6_state_44 rfl ?_
          refine V.get C fg_RX6_22 dX6_state_45 hM.1 rfl ?_
          refine V.ild_n C dX6_state_48 rfl ?_
          refine V.ialdN C (N := 15) dX6_state_49 (hM.2 7 (by decide)) (by omega) (by decide) ?_
          refine V.top hk ?_
          refine V.if_lt C (tgt := 57) dX6_state_50 (by decide) (fun h50 => ?_) (fun h50 => absurd h50 (by decide))
          refine V.iconst C (x := 0) dX6_state_57 (by decide) ?_
          refine V.iadd C dX6_state_58 ?_
          rcases (hI.cd hj).2.1 with hs | ⟨s, hs0, hs⟩
          · skip
            refine V.ald_n C dX6_state_59 rfl ?_
            refine V.get C fg_RX6_19 dX6_state_60 hM.1 rfl ?_
            refine V.ild_n C dX6_state_63 rfl ?_
            refine V.ialdN C (N := 15) dX6_state_64 (hM.2 6 (by decide)) (by omega) (by decide) ?_
            refine V.top hs ?_
            refine V.if_lt C (tgt := 73) dX6_state_65 (by decide) (fun h65 => ?_) (fun h65 => absurd h65 (by decide))
            refine V.iconst C (x := 0) dX6_state_73 (by decide) ?_
            refine V.iadd C dX6_state_74 ?_
            exact V.iret X dX6_state_75 rfl (by decide) (by decide) (pq (by unfold F_state; rw [ok1_t hj (by omega), cI_f (show ¬ A 8 j = 1 from fun q => by rw [h21] at q; exact absurd q (by decide)), cI_f (show ¬ A 9 j = 1 from fun q => by rw [h35] at q; exact absurd q (by decide)), cI_t hk, cI_t hs]))
          · skip
            refine V.ald_n C dX6_state_59 rfl ?_
            refine V.get C fg_RX6_19 dX6_state_60 hM.1 rfl ?_
            refine V.ild_n C dX6_state_63 rfl ?_
            refine V.ialdN C (N := 15) dX6_state_64 (hM.2 6 (by decide)) (by omega) (by decide) ?_
            refine V.top hs ?_
            refine V.if_lt C (tgt := 73) dX6_state_65 (by decide) (fun h65 => absurd h65 (nI_pos (by omega))) (fun h65 => ?_)
            refine V.bipush C (x := 8) dX6_state_68 (by decide) ?_
            refine V.goto C (tgt := 74) dX6_state_70 (by decide) ?_
            refine V.iadd C dX6_state_74 ?_
            exact V.iret X dX6_state_75 rfl (by decide) (by decide) (pq (by unfold F_state; rw [ok1_t hj (by omega), cI_f (show ¬ A 8 j = 1 from fun q => by rw [h21] at q; exact absurd q (by decide)), cI_f (show ¬ A 9 j = 1 from fun q => by rw [h35] at q; exact absurd q (by decide)), cI_t hk, cI_f (show ¬ A 6 j = -1 from fun q => nI_neg (show s < 2 ^ 31 by omega) (hs.symm.trans q))]))
        · skip
          refine V.ald_n C dX6_state_44 rfl ?_
          refine V.get C fg_RX6_22 dX6_state_45 hM.1 rfl ?_
          refine V.ild_n C dX6_state_48 rfl ?_
          refine V.ialdN C (N := 15) dX6_state_49 (hM.2 7 (by decide)) (by omega) (by decide) ?_
          refine V.top hk ?_
          refine V.if_lt C (tgt := 57) dX6_state_50 (by decide) (fun h50 => absurd h50 (nI_pos (by omega))) (fun h50 => ?_)
          refine V.iconst C (x := 4) dX6_state_53 (by decide) ?_
          refine V.goto C (tgt := 58) dX6_state_54 (by decide) ?_
          refine V.iadd C dX6_state_58 ?_
          rcases (hI.cd hj).2.1 with hs | ⟨s, hs0, hs⟩
          · skip
            refine V.ald_n C dX6_state_59 rfl ?_
            refine V.get C fg_RX6_19 dX6_state_60 hM.1 rfl ?_
            refine V.ild_n C dX6_state_63 rfl ?_
            refine V.ialdN C (N := 15) dX6_state_64 (hM.2 6 (by decide)) (by omega) (by decide) ?_
            refine V.top hs ?_
            refine V.if_lt C (tgt := 73) dX6_state_65 (by decide) (fun h65 => ?_) (fun h65 => absurd h65 (by decide))
            refine V.iconst C (x := 0) dX6_state_73 (by decide) ?_
            refine V.iadd C dX6_state_74 ?_
            exact V.iret X dX6_state_75 rfl (by decide) (by decide) (pq (by unfold F_state; rw [ok1_t hj (by omega), cI_f (show ¬ A 8 j = 1 from fun q => by rw [h21] at q; exact absurd q (by decide)), cI_f (show ¬ A 9 j = 1 from fun q => by rw [h35] at q; exact absurd q (by decide)), cI_f (show ¬ A 7 j = -1 from fun q => nI_neg (show k < 2 ^ 31 by omega) (hk.symm.trans q)), cI_t hs]))
          · skip
            refine V.ald_n C dX6_state_59 rfl ?_
            refine V.get C fg_RX6_19 dX6_state_60 hM.1 rfl ?_
            refine V.ild_n C dX6_state_63 rfl ?_
            refine V.ialdN C (N := 15) dX6_state_64 (hM.2 6 (by decide)) (by omega) (by decide) ?_
            refine V.top hs ?_
            refine V.if_lt C (tgt := 73) dX6_state_65 (by decide) (fun h65 => absurd h65 (nI_pos (by omega))) (fun h65 => ?_)
            refine V.bipush C (x := 8) dX6_state_68 (by decide) ?_
            refine V.goto C (tgt := 74) dX6_state_70 (by decide) ?_
            refine V.iadd C dX6_state_74 ?_
            exact V.iret X dX6_state_75 rfl (by decide) (by decide) (pq (by unfold F_state; rw [ok1_t hj (by omega), cI_f (show ¬ A 8 j = 1 from fun q => by rw [h21] at q; exact absurd q (by decide)), cI_f (show ¬ A 9 j = 1 from fun q => by rw [h35] at q; exact absurd q (by decide)), cI_f (show ¬ A 7 j = -1 from fun q => nI_neg (show k < 2 ^ 31 by omega) (hk.symm.trans q)), cI_f (show ¬ A 6 j = -1 from fun q => nI_neg (show s < 2 ^ 31 by omega) (hs.symm.trans q))]))
      · skip
        refine V.iconst C (x := 2) dX6_state_38 (by decide) ?_
        refine V.goto C (tgt := 43) dX6_state_39 (by decide) ?_
        refine V.iadd C dX6_state_43 ?_
        rcases (hI.cd hj).2.2.2.1 with hk | ⟨k, hk0, hk, -⟩
        · skip
          refine V.ald_n C dX6_state_44 rfl ?_
          refine V.get C fg_RX6_22 dX6_state_45 hM.1 rfl ?_
          refine V.ild_n C dX6_state_48 rfl ?_
          refine V.ialdN C (N := 15) dX6_state_49 (hM.2 7 (by decide)) (by omega) (by decide) ?_
          refine V.top hk ?_
          refine V.if_lt C (tgt := 57) dX6_state_50 (by decide) (fun h50 => ?_) (fun h50 => absurd h50 (by decide))
          refine V.iconst C (x := 0) dX6_state_57 (by decide) ?_
          refine V.iadd C dX6_state_58 ?_
          rcases (hI.cd hj).2.1 with hs | ⟨s, hs0, hs⟩
          · skip
            refine V.ald_n C dX6_state_59 rfl ?_
            refine V.get C fg_RX6_19 dX6_state_60 hM.1 rfl ?_
            refine V.ild_n C dX6_state_63 rfl ?_
            refine V.ialdN C (N := 15) dX6_state_64 (hM.2 6 (by decide)) (by omega) (by decide) ?_
            refine V.top hs ?_
            refine V.if_lt C (tgt := 73) dX6_state_65 (by decide) (fun h65 => ?_) (fun h65 => absurd h65 (by decide))
            refine V.iconst C (x := 0) dX6_state_73 (by decide) ?_
            refine V.iadd C dX6_state_74 ?_
            exact V.iret X dX6_state_75 rfl (by decide) (by decide) (pq (by unfold F_state; rw [ok1_t hj (by omega), cI_f (show ¬ A 8 j = 1 from fun q => by rw [h21] at q; exact absurd q (by decide)), cI_t (show A 9 j = 1 from (hI.cd hj).2.2.2.2.2.resolve_left h35), cI_t hk, cI_t hs]))
          · skip
            refine V.ald_n C dX6_state_59 rfl ?_
            refine V.get C fg_RX6_19 dX6_state_60 hM.1 rfl ?_
            refine V.ild_n C dX6_state_63 rfl ?_
            refine V.ialdN C (N := 15) dX6_state_64 (hM.2 6 (by decide)) (by omega) (by decide) ?_
            refine V.top hs ?_
            refine V.if_lt C (tgt := 73) dX6_state_65 (by decide) (fun h65 => absurd h65 (nI_pos (by omega))) (fun h65 => ?_)
            refine V.bipush C (x := 8) dX6_state_68 (by decide) ?_
            refine V.goto C (tgt := 74) dX6_state_70 (by decide) ?_
            refine V.iadd C dX6_state_74 ?_
            exact V.iret X dX6_state_75 rfl (by decide) (by decide) (pq (by unfold F_state; rw [ok1_t hj (by omega), cI_f (show ¬ A 8 j = 1 from fun q => by rw [h21] at q; exact absurd q (by decide)), cI_t (show A 9 j = 1 from (hI.cd hj).2.2.2.2.2.resolve_left h35), cI_t hk, cI_f (show ¬ A 6 j = -1 from fun q => nI_neg (show s < 2 ^ 31 by omega) (hs.symm.trans q))]))
        · skip
          refine V.ald_n C dX6_state_44 rfl ?_
          refine V.get C fg_RX6_22 dX6_state_45 hM.1 rfl ?_
          refine V.ild_n C dX6_state_48 rfl ?_
          refine V.ialdN C (N := 15) dX6_state_49 (hM.2 7 (by decide)) (by omega) (by decide) ?_
          refine V.top hk ?_
          refine V.if_lt C (tgt := 57) dX6_state_50 (by decide) (fun h50 => absurd h50 (nI_pos (by omega))) (fun h50 => ?_)
          refine V.iconst C (x := 4) dX6_state_53 (by decide) ?_
          refine V.goto C (tgt := 58) dX6_state_54 (by decide) ?_
          refine V.iadd C dX6_state_58 ?_
          rcases (hI.cd hj).2.1 with hs | ⟨s, hs0, hs⟩
          · skip
            refine V.ald_n C dX6_state_59 rfl ?_
            refine V.get C fg_RX6_19 dX6_state_60 hM.1 rfl ?_
            refine V.ild_n C dX6_state_63 rfl ?_
            refine V.ialdN C (N := 15) dX6_state_64 (hM.2 6 (by decide)) (by omega) (by decide) ?_
            refine V.top hs ?_
            refine V.if_lt C (tgt := 73) dX6_state_65 (by decide) (fun h65 => ?_) (fun h65 => absurd h65 (by decide))
            refine V.iconst C (x := 0) dX6_state_73 (by decide) ?_
            refine V.iadd C dX6_state_74 ?_
            exact V.iret X dX6_state_75 rfl (by decide) (by decide) (pq (by unfold F_state; rw [ok1_t hj (by omega), cI_f (show ¬ A 8 j = 1 from fun q => by rw [h21] at q; exact absurd q (by decide)), cI_t (show A 9 j = 1 from (hI.cd hj).2.2.2.2.2.resolve_left h35), cI_f (show ¬ A 7 j = -1 from fun q => nI_neg (show k < 2 ^ 31 by omega) (hk.symm.trans q)), cI_t hs]))
          · skip
            refine V.ald_n C dX6_state_59 rfl ?_
            refine V.get C fg_RX6_19 dX6_state_60 hM.1 rfl ?_
            refine V.ild_n C dX6_state_63 rfl ?_
            refine V.ialdN C (N := 15) dX6_state_64 (hM.2 6 (by decide)) (by omega) (by decide) ?_
            refine V.top hs ?_
            refine V.if_lt C (tgt := 73) dX6_state_65 (by decide) (fun h65 => absurd h65 (nI_pos (by omega))) (fun h65 => ?_)
            refine V.bipush C (x := 8) dX6_state_68 (by decide) ?_
            refine V.goto C (tgt := 74) dX6_state_70 (by decide) ?_
            refine V.iadd C dX6_state_74 ?_
            exact V.iret X dX6_state_75 rfl (by decide) (by decide) (pq (by unfold F_state; rw [ok1_t hj (by omega), cI_f (show ¬ A 8 j = 1 from fun q => by rw [h21] at q; exact absurd q (by decide)), cI_t (show A 9 j = 1 from (hI.cd hj).2.2.2.2.2.resolve_left h35), cI_f (show ¬ A 7 j = -1 from fun q => nI_neg (show k < 2 ^ 31 by omega) (hk.symm.trans q)), cI_f (show ¬ A 6 j = -1 from fun q => nI_neg (show s < 2 ^ 31 by omega) (hs.symm.trans q))]))
    · skip
      refine V.iconst C (x := 1) dX6_state_24 (by decide) ?_
      refine V.goto C (tgt := 29) dX6_state_25 (by decide) ?_
      refine V.ald_n C dX6_state_29 rfl ?_
      refine V.get C fg_RX6_29 dX6_state_30 hM.1 rfl ?_
      refine V.ild_n C dX6_state_33 rfl ?_
      refine V.zaldN C (N := 15) dX6_state_34 (hM.2 9 (by decide)) (by omega) (by decide) ?_
      refine V.if_eq C (tgt := 42) dX6_state_35 (by decide) (fun h35 => ?_) (fun h35 => ?_)
      · skip
        refine V.iconst C (x := 0) dX6_state_42 (by decide) ?_
        refine V.iadd C dX6_state_43 ?_
        rcases (hI.cd hj).2.2.2.1 with hk | ⟨k, hk0, hk, -⟩
        · skip
          refine V.ald_n C dX6_state_44 rfl ?_
          refine V.get C fg_RX6_22 dX6_state_45 hM.1 rfl ?_
          refine V.ild_n C dX6_state_48 rfl ?_
          refine V.ialdN C (N := 15) dX6_state_49 (hM.2 7 (by decide)) (by omega) (by decide) ?_
          refine V.top hk ?_
          refine V.if_lt C (tgt := 57) dX6_state_50 (by decide) (fun h50 => ?_) (fun h50 => absurd h50 (by decide))
          refine V.iconst C (x := 0) dX6_state_57 (by decide) ?_
          refine V.iadd C dX6_state_58 ?_
          rcases (hI.cd hj).2.1 with hs | ⟨s, hs0, hs⟩
          · skip
            refine V.ald_n C dX6_state_59 rfl ?_
            refine V.get C fg_RX6_19 dX6_state_60 hM.1 rfl ?_
            refine V.ild_n C dX6_state_63 rfl ?_
            refine V.ialdN C (N := 15) dX6_state_64 (hM.2 6 (by decide)) (by omega) (by decide) ?_
            refine V.top hs ?_
            refine V.if_lt C (tgt := 73) dX6_state_65 (by decide) (fun h65 => ?_) (fun h65 => absurd h65 (by decide))
            refine V.iconst C (x := 0) dX6_state_73 (by decide) ?_
            refine V.iadd C dX6_state_74 ?_
            exact V.iret X dX6_state_75 rfl (by decide) (by decide) (pq (by unfold F_state; rw [ok1_t hj (by omega), cI_t (show A 8 j = 1 from (hI.cd hj).2.2.2.2.1.resolve_left h21), cI_f (show ¬ A 9 j = 1 from fun q => by rw [h35] at q; exact absurd q (by decide)), cI_t hk, cI_t hs]))
          · skip
            refine V.ald_n C dX6_state_59 rfl ?_
            refine V.get C fg_RX6_19 dX6_state_60 hM.1 rfl ?_
            refine V.ild_n C dX6_state_63 rfl ?_
            refine V.ialdN C (N := 15) dX6_state_64 (hM.2 6 (by decide)) (by omega) (by decide) ?_
            refine V.top hs ?_
            refine V.if_lt C (tgt := 73) dX6_state_65 (by decide) (fun h65 => absurd h65 (nI_pos (by omega))) (fun h65 => ?_)
            refine V.bipush C (x := 8) dX6_state_68 (by decide) ?_
            refine V.goto C (tgt := 74) dX6_state_70 (by decide) ?_
            refine V.iadd C dX6_state_74 ?_
            exact V.iret X dX6_state_75 rfl (by decide) (by decide) (pq (by unfold F_state; rw [ok1_t hj (by omega), cI_t (show A 8 j = 1 from (hI.cd hj).2.2.2.2.1.resolve_left h21), cI_f (show ¬ A 9 j = 1 from fun q => by rw [h35] at q; exact absurd q (by decide)), cI_t hk, cI_f (show ¬ A 6 j = -1 from fun q => nI_neg (show s < 2 ^ 31 by omega) (hs.symm.trans q))]))
        · skip
          refine V.ald_n C dX6_state_44 rfl ?_
          refine V.get C fg_RX6_22 dX6_state_45 hM.1 rfl ?_
          refine V.ild_n C dX6_state_48 rfl ?_
          refine V.ialdN C (N := 15) dX6_state_49 (hM.2 7 (by decide)) (by omega) (by decide) ?_
          refine V.top hk ?_
          refine V.if_lt C (tgt := 57) dX6_state_50 (by decide) (fun h50 => absurd h50 (nI_pos (by omega))) (fun h50 => ?_)
          refine V.iconst C (x := 4) dX6_state_53 (by decide) ?_
          refine V.goto C (tgt := 58) dX6_state_54 (by decide) ?_
          refine V.iadd C dX6_state_58 ?_
          rcases (hI.cd hj).2.1 with hs | ⟨s, hs0, hs⟩
          · skip
            refine V.ald_n C dX6_state_59 rfl ?_
            refine V.get C fg_RX6_19 dX6_state_60 hM.1 rfl ?_
            refine V.ild_n C dX6_state_63 rfl ?_
            refine V.ialdN C (N := 15) dX6_state_64 (hM.2 6 (by decide)) (by omega) (by decide) ?_
            refine V.top hs ?_
            refine V.if_lt C (tgt := 73) dX6_state_65 (by decide) (fun h65 => ?_) (fun h65 => absurd h65 (by decide))
            refine V.iconst C (x := 0) dX6_state_73 (by decide) ?_
            refine V.iadd C dX6_state_74 ?_
            exact V.iret X dX6_state_75 rfl (by decide) (by decide) (pq (by unfold F_state; rw [ok1_t hj (by omega), cI_t (show A 8 j = 1 from (hI.cd hj).2.2.2.2.1.resolve_left h21), cI_f (show ¬ A 9 j = 1 from fun q => by rw [h35] at q; exact absurd q (by decide)), cI_f (show ¬ A 7 j = -1 from fun q => nI_neg (show k < 2 ^ 31 by omega) (hk.symm.trans q)), cI_t hs]))
          · skip
            refine V.ald_n C dX6_state_59 rfl ?_
            refine V.get C fg_RX6_19 dX6_state_60 hM.1 rfl ?_
            refine V.ild_n C dX6_state_63 rfl ?_
            refine V.ialdN C (N := 15) dX6_state_64 (hM.2 6 (by decide)) (by omega) (by decide) ?_
            refine V.top hs ?_
            refine V.if_lt C (tgt := 73) dX6_state_65 (by decide) (fun h65 => absurd h65 (nI_pos (by omega))) (fun h65 => ?_)
            refine V.bipush C (x := 8) dX6_state_68 (by decide) ?_
            refine V.goto C (tgt := 74) dX6_state_70 (by decide) ?_
            refine V.iadd C dX6_state_74 ?_
            exact V.iret X dX6_state_75 rfl (by decide) (by decide) (pq (by unfold F_state; rw [ok1_t hj (by omega), cI_t (show A 8 j = 1 from (hI.cd hj).2.2.2.2.1.resolve_left h21), cI_f (show ¬ A 9 j = 1 from fun q => by rw [h35] at q; exact absurd q (by decide)), cI_f (show ¬ A 7 j = -1 from fun q => nI_neg (show k < 2 ^ 31 by omega) (hk.symm.trans q)), cI_f (show ¬ A 6 j = -1 from fun q => nI_neg (show s < 2 ^ 31 by omega) (hs.symm.trans q))]))
      · skip
        refine V.iconst C (x := 2) dX6_state_38 (by decide) ?_
        refine V.goto C (tgt := 43) dX6_state_39 (by decide) ?_
        refine V.iadd C dX6_state_43 ?_
        rcases (hI.cd hj).2.2.2.1 with hk | ⟨k, hk0, hk, -⟩
        · skip
          refine V.ald_n C dX6_state_44 rfl ?_
          refine V.get C fg_RX6_22 dX6_state_45 hM.1 rfl ?_
          refine V.ild_n C dX6_state_48 rfl ?_
          refine V.ialdN C (N := 15) dX6_state_49 (hM.2 7 (by decide)) (by omega) (by decide) ?_
          refine V.top hk ?_
          refine V.if_lt C (tgt := 57) dX6_state_50 (by decide) (fun h50 => ?_) (fun h50 => absurd h50 (by decide))
          refine V.iconst C (x := 0) dX6_state_57 (by decide) ?_
          refine V.iadd C dX6_state_58 ?_
          rcases (hI.cd hj).2.1 with hs | ⟨s, hs0, hs⟩
          · skip
            refine V.ald_n C dX6_state_59 rfl ?_
            refine V.get C fg_RX6_19 dX6_state_60 hM.1 rfl ?_
            refine V.ild_n C dX6_state_63 rfl ?_
            refine V.ialdN C (N := 15) dX6_state_64 (hM.2 6 (by decide)) (by omega) (by decide) ?_
            refine V.top hs ?_
            refine V.if_lt C (tgt := 73) dX6_state_65 (by decide) (fun h65 => ?_) (fun h65 => absurd h65 (by decide))
            refine V.iconst C (x := 0) dX6_state_73 (by decide) ?_
            refine V.iadd C dX6_state_74 ?_
            exact V.iret X dX6_state_75 rfl (by decide) (by decide) (pq (by unfold F_state; rw [ok1_t hj (by omega), cI_t (show A 8 j = 1 from (hI.cd hj).2.2.2.2.1.resolve_left h21), cI_t (show A 9 j = 1 from (hI.cd hj).2.2.2.2.2.resolve_left h35), cI_t hk, cI_t hs]))
          · skip
            refine V.ald_n C dX6_state_59 rfl ?_
            refine V.get C fg_RX6_19 dX6_state_60 hM.1 rfl ?_
            refine V.ild_n C dX6_state_63 rfl ?_
            refine V.ialdN C (N := 15) dX6_state_64 (hM.2 6 (by decide)) (by omega) (by decide) ?_
            refine V.top hs ?_
            refine V.if_lt C (tgt := 73) dX6_state_65 (by decide) (fun h65 => absurd h65 (nI_pos (by omega))) (fun h65 => ?_)
            refine V.bipush C (x := 8) dX6_state_68 (by decide) ?_
            refine V.goto C (tgt := 74) dX6_state_70 (by decide) ?_
            refine V.iadd C dX6_state_74 ?_
            exact V.iret X dX6_state_75 rfl (by decide) (by decide) (pq (by unfold F_state; rw [ok1_t hj (by omega), cI_t (show A 8 j = 1 from (hI.cd hj).2.2.2.2.1.resolve_left h21), cI_t (show A 9 j = 1 from (hI.cd hj).2.2.2.2.2.resolve_left h35), cI_t hk, cI_f (show ¬ A 6 j = -1 from fun q => nI_neg (show s < 2 ^ 31 by omega) (hs.symm.trans q))]))
        · skip
          refine V.ald_n C dX6_state_44 rfl ?_
          refine V.get C fg_RX6_22 dX6_state_45 hM.1 rfl ?_
          refine V.ild_n C dX6_state_48 rfl ?_
          refine V.ialdN C (N := 15) dX6_state_49 (hM.2 7 (by decide)) (by omega) (by decide) ?_
          refine V.top hk ?_
          refine V.if_lt C (tgt := 57) dX6_state_50 (by decide) (fun h50 => absurd h50 (nI_pos (by omega))) (fun h50 => ?_)
          refine V.iconst C (x := 4) dX6_state_53 (by decide) ?_
          refine V.goto C (tgt := 58) dX6_state_54 (by decide) ?_
          refine V.iadd C dX6_state_58 ?_
          rcases (hI.cd hj).2.1 with hs | ⟨s, hs0, hs⟩
          · skip
            refine V.ald_n C dX6_state_59 rfl ?_
            refine V.get C fg_RX6_19 dX6_state_60 hM.1 rfl ?_
            refine V.ild_n C dX6_state_63 rfl ?_
            refine V.ialdN C (N := 15) dX6_state_64 (hM.2 6 (by decide)) (by omega) (by decide) ?_
            refine V.top hs ?_
            refine V.if_lt C (tgt := 73) dX6_state_65 (by decide) (fun h65 => ?_) (fun h65 => absurd h65 (by decide))
            refine V.iconst C (x := 0) dX6_state_73 (by decide) ?_
            refine V.iadd C dX6_state_74 ?_
            exact V.iret X dX6_state_75 rfl (by decide) (by decide) (pq (by unfold F_state; rw [ok1_t hj (by omega), cI_t (show A 8 j = 1 from (hI.cd hj).2.2.2.2.1.resolve_left h21), cI_t (show A 9 j = 1 from (hI.cd hj).2.2.2.2.2.resolve_left h35), cI_f (show ¬ A 7 j = -1 from fun q => nI_neg (show k < 2 ^ 31 by omega) (hk.symm.trans q)), cI_t hs]))
          · skip
            refine V.ald_n C dX6_state_59 rfl ?_
            refine V.get C fg_RX6_19 dX6_state_60 hM.1 rfl ?_
            refine V.ild_n C dX6_state_63 rfl ?_
            refine V.ialdN C (N := 15) dX6_state_64 (hM.2 6 (by decide)) (by omega) (by decide) ?_
            refine V.top hs ?_
            refine V.if_lt C (tgt := 73) dX6_state_65 (by decide) (fun h65 => absurd h65 (nI_pos (by omega))) (fun h65 => ?_)
            refine V.bipush C (x := 8) dX6_state_68 (by decide) ?_
            refine V.goto C (tgt := 74) dX6_state_70 (by decide) ?_
            refine V.iadd C dX6_state_74 ?_
            exact V.iret X dX6_state_75 rfl (by decide) (by decide) (pq (by unfold F_state; rw [ok1_t hj (by omega), cI_t (show A 8 j = 1 from (hI.cd hj).2.2.2.2.1.resolve_left h21), cI_t (show A 9 j = 1 from (hI.cd hj).2.2.2.2.2.resolve_left h35), cI_f (show ¬ A 7 j = -1 from fun q => nI_neg (show k < 2 ^ 31 by omega) (hk.symm.trans q)), cI_f (show ¬ A 6 j = -1 from fun q => nI_neg (show s < 2 ^ 31 by omega) (hs.symm.trans q))]))
  · skip
    refine V.ald_n C dX6_state_0 rfl ?_
    refine V.iconst C (x := 0) dX6_state_1 (by decide) ?_
    refine V.put C fl_RX6_77 dX6_state_2 hM.1 ⟨rfl, rfl⟩ (Nat.le_of_ble_eq_true rfl) (fun h => by cases h) (set_same hM.1) ?_
    refine V.ald_n C dX6_state_5 rfl ?_
    refine V.ild_n C dX6_state_6 rfl ?_
    refine V.callVp C mo_X6_isDoor im_X6_isDoor se_X6_isDoor ml_RX6_101 (ev_X6_isDoor hM hI _) dX6_state_7 rfl rfl hM.1 rfl rfl (Nat.le_of_ble_eq_true rfl) (RmOk.mk' (by decide) (by decide) (by decide) (by decide)) ⟨rfl, rfl⟩ ?_
    refine V.ifb_ne C (tgt := 15) dX6_state_10 (by decide) (fun h10 => absurd h10 hj) (fun h10 => ?_)
    refine V.iconst C (x := -1) dX6_state_13 (by decide) ?_
    exact V.iret X dX6_state_14 rfl (by decide) (by decide) (pq (by unfold F_state; rw [ok1_f hj]))
theorem ev_X6_thingIs {g : GD} {r d t b : Nat} {A : ST} {L : List AE} (hM : MR r d t b A L) (hI : Inv r d t b A) (x y : Int32) : EvP g mX6_thingIs [aR 23, aI x, aI y] L (some (aI (F_thingIs t A x y))) := by
  refine Ev.of [some (aR 23), some (aI x), some (aI y), none] (by decide) rfl (Nat.le_of_ble_eq_true rfl) fun Z H0 C X => ?_
  have hN := hI.cn
  rcases isN_cases x t (by omega) with ⟨i, hi, rfl⟩ | hi
  · skip
    rcases isN_cases y 5 (by omega) with ⟨c, hc, rfl⟩ | hc
    · skip
      refine V.ald_n C dX6_thingIs_0 rfl ?_
      refine V.iconst C (x := 0) dX6_thingIs_1 (by decide) ?_
      refine V.put C fl_RX6_77 dX6_thingIs_2 hM.1 ⟨rfl, rfl⟩ (Nat.le_of_ble_eq_true rfl) (fun h => by cases h) (set_same hM.1) ?_
      refine V.ald_n C dX6_thingIs_5 rfl ?_
      refine V.ild_n C dX6_thingIs_6 rfl ?_
      refine V.callVp C mo_X6_isThing im_X6_isThing se_X6_isThing ml_RX6_111 (ev_X6_isThing hM hI _) dX6_thingIs_7 rfl rfl hM.1 rfl rfl (Nat.le_of_ble_eq_true rfl) (RmOk.mk' (by decide) (by decide) (by decide) (by decide)) ⟨rfl, rfl⟩ ?_
      refine V.ifb_eq C (tgt := 22) dX6_thingIs_10 (by decide) (fun h10 => absurd (isN_nI (show i < t by omega) (by omega)) h10) (fun h10 => ?_)
      refine V.ild_n C dX6_thingIs_13 rfl ?_
      refine V.iconst C (x := 0) dX6_thingIs_14 (by decide) ?_
      refine V.iconst C (x := 4) dX6_thingIs_15 (by decide) ?_
      refine V.callSp C mo_X6_in sm_X6_in ml_RX6_84 (ev_X6_in0 _ 5 (by decide)) dX6_thingIs_16 rfl rfl (Nat.le_of_ble_eq_true rfl) (RmOk.mk' (by decide) (by decide) (by decide) (by decide)) ⟨rfl, rfl⟩ ?_
      refine V.ifb_ne C (tgt := 24) dX6_thingIs_19 (by decide) (fun h19 => ?_) (fun h19 => absurd (isN_nI (show c < 5 by omega) (by omega)) h19)
      rcases (hI.ct hi).2.2.1 with hf | ⟨k, hk, hf, -⟩
      · skip
        obtain rfl | rfl | rfl | rfl | rfl : c = 0 ∨ c = 1 ∨ c = 2 ∨ c = 3 ∨ c = 4 := by omega
        · skip
          refine V.ald_n C dX6_thingIs_24 rfl ?_
          refine V.get C fg_RX6_41 dX6_thingIs_25 hM.1 rfl ?_
          refine V.ild_n C dX6_thingIs_28 rfl ?_
          refine V.ialdN C (N := 30) dX6_thingIs_29 (hM.2 14 (by decide)) (by omega) (by decide) ?_
          refine V.top hf ?_
          refine V.if_lt C (tgt := 37) dX6_thingIs_30 (by decide) (fun h30 => ?_) (fun h30 => absurd h30 (by decide))
          refine V.iconst C (x := 0) dX6_thingIs_37 (by decide) ?_
          refine V.ist_n C dX6_thingIs_38 (Nat.le_of_ble_eq_true rfl) rfl ?_
          refine V.ild_n C dX6_thingIs_39 rfl ?_
          refine V.if_ne C (tgt := 69) dX6_thingIs_40 (by decide) (fun h40 => absurd h40 (by decide)) (fun h40 => ?_)
          refine V.ild_n C dX6_thingIs_43 rfl ?_
          refine V.if_eq C (tgt := 60) dX6_thingIs_44 (by decide) (fun h44 => ?_) (fun h44 => absurd h44 (by decide))
          refine V.ald_n C dX6_thingIs_60 rfl ?_
          refine V.get C fg_RX6_38 dX6_thingIs_61 hM.1 rfl ?_
          refine V.ild_n C dX6_thingIs_64 rfl ?_
          refine V.ialdN C (N := 30) dX6_thingIs_65 (hM.2 13 (by decide)) (by omega) (by decide) ?_
          refine V.goto C (tgt := 134) dX6_thingIs_66 (by decide) ?_
          exact V.iret X dX6_thingIs_134 rfl (by decide) (by decide) (pq (by unfold F_thingIs; rw [ok1_t hi (by omega), ok1_t hc (by omega)]; unfold thI; rw [cI_t rfl, cI_t hf]))
        · skip
          refine V.ald_n C dX6_thingIs_24 rfl ?_
          refine V.get C fg_RX6_41 dX6_thingIs_25 hM.1 rfl ?_
          refine V.ild_n C dX6_thingIs_28 rfl ?_
          refine V.ialdN C (N := 30) dX6_thingIs_29 (hM.2 14 (by decide)) (by omega) (by decide) ?_
          refine V.top hf ?_
          refine V.if_lt C (tgt := 37) dX6_thingIs_30 (by decide) (fun h30 => ?_) (fun h30 => absurd h30 (by decide))
          refine V.iconst C (x := 0) dX6_thingIs_37 (by decide) ?_
          refine V.ist_n C dX6_thingIs_38 (Nat.le_of_ble_eq_true rfl) rfl ?_
          refine V.ild_n C dX6_thingIs_39 rfl ?_
          refine V.if_ne C (tgt := 69) dX6_thingIs_40 (by decide) (fun h40 => ?_) (fun h40 => absurd h40 (by decide))
          refine V.ild_n C dX6_thingIs_69 rfl ?_
          refine V.iconst C (x := 1) dX6_thingIs_70 (by decide) ?_
          refine V.icmp_ne C (tgt := 83) dX6_thingIs_71 (by decide) (fun h71 => absurd h71 (by decide)) (fun h71 => ?_)
          refine V.ald_n C dX6_thingIs_74 rfl ?_
          refine V.get C fg_RX6_32 dX6_thingIs_75 hM.1 rfl ?_
          refine V.ild_n C dX6_thingIs_78 rfl ?_
          refine V.ialdN C (N := 30) dX6_thingIs_79 (hM.2 11 (by decide)) (by omega) (by decide) ?_
          refine V.goto C (tgt := 134) dX6_thingIs_80 (by decide) ?_
          exact V.iret X dX6_thingIs_134 rfl (by decide) (by decide) (pq (by unfold F_thingIs; rw [ok1_t hi (by omega), ok1_t hc (by omega)]; unfold thI; rw [cI_f (by decide), cI_t rfl]))
        · skip
          refine V.ald_n C dX6_thingIs_24 rfl ?_
          refine V.get C fg_RX6_41 dX6_thingIs_25 hM.1 rfl ?_
          refine V.ild_n C dX6_thingIs_28 rfl ?_
          refine V.ialdN C (N := 30) dX6_thingIs_29 (hM.2 14 (by decide)) (by omega) (by decide) ?_
          refine V.top hf ?_
          refine V.if_lt C (tgt := 37) dX6_thingIs_30 (by decide) (fun h30 => ?_) (fun h30 => absurd h30 (by decide))
          refine V.iconst C (x := 0) dX6_thingIs_37 (by decide) ?_
          refine V.ist_n C dX6_thingIs_38 (Nat.le_of_ble_eq_true rfl) rfl ?_
          refine V.ild_n C dX6_thingIs_39 rfl ?_
          refine V.if_ne C (tgt := 69) dX6_thingIs_40 (by decide) (fun h40 => ?_) (fun h40 => absurd h40 (by decide))
          refine V.ild_n C dX6_thingIs_69 rfl ?_
          refine V.iconst C (x := 1) dX6_thingIs_70 (by decide) ?_
          refine V.icmp_ne C (tgt := 83) dX6_thingIs_71 (by decide) (fun h71 => ?_) (fun h71 => absurd h71 (by decide))
          refine V.ild_n C dX6_thingIs_83 rfl ?_
          refine V.iconst C (x := 2) dX6_thingIs_84 (by decide) ?_
          refine V.icmp_ne C (tgt := 97) dX6_thingIs_85 (by decide) (fun h85 => absurd h85 (by decide)) (fun h85 => ?_)
          refine V.ald_n C dX6_thingIs_88 rfl ?_
          refine V.get C fg_RX6_35 dX6_thingIs_89 hM.1 rfl ?_
          refine V.ild_n C dX6_thingIs_92 rfl ?_
          refine V.ialdN C (N := 30) dX6_thingIs_93 (hM.2 12 (by decide)) (by omega) (by decide) ?_
          refine V.goto C (tgt := 134) dX6_thingIs_94 (by decide) ?_
          exact V.iret X dX6_thingIs_134 rfl (by decide) (by decide) (pq (by unfold F_thingIs; rw [ok1_t hi (by omega), ok1_t hc (by omega)]; unfold thI; rw [cI_f (by decide), cI_f (by decide), cI_t rfl]))
        · skip
          refine V.ald_n C dX6_thingIs_24 rfl ?_
          refine V.get C fg_RX6_41 dX6_thingIs_25 hM.1 rfl ?_
          refine V.ild_n C dX6_thingIs_28 rfl ?_
          refine V.ialdN C (N := 30) dX6_thingIs_29 (hM.2 14 (by decide)) (by omega) (by decide) ?_
          refine V.top hf ?_
          refine V.if_lt C (tgt := 37) dX6_thingIs_30 (by decide) (fun h30 => ?_) (fun h30 => absurd h30 (by decide))
          refine V.iconst C (x := 0) dX6_thingIs_37 (by decide) ?_
          refine V.ist_n C dX6_thingIs_38 (Nat.le_of_ble_eq_true rfl) rfl ?_
          refine V.ild_n C dX6_thingIs_39 rfl ?_
          refine V.if_ne C (tgt := 69) dX6_thingIs_40 (by decide) (fun h40 => ?_) (fun h40 => absurd h40 (by decide))
          refine V.ild_n C dX6_thingIs_69 rfl ?_
          refine V.iconst C (x := 1) dX6_thingIs_70 (by decide) ?_
          refine V.icmp_ne C (tgt := 83) dX6_thingIs_71 (by decide) (fun h71 => ?_) (fun h71 => absurd h71 (by decide))
          refine V.ild_n C dX6_thingIs_83 rfl ?_
          refine V.iconst C (x := 2) dX6_thingIs_84 (by decide) ?_
          refine V.icmp_ne C (tgt := 97) dX6_thingIs_85 (by decide) (fun h85 => ?_) (fun h85 => absurd h85 (by decide))
          refine V.ild_n C dX6_thingIs_97 rfl ?_
          refine V.iconst C (x := 3) dX6_thingIs_98 (by decide) ?_
          refine V.icmp_ne C (tgt := 119) dX6_thingIs_99 (by decide) (fun h99 => absurd h99 (by decide)) (fun h99 => ?_)
          refine V.ald_n C dX6_thingIs_102 rfl ?_
          refine V.get C fg_RX6_44 dX6_thingIs_103 hM.1 rfl ?_
          refine V.ild_n C dX6_thingIs_106 rfl ?_
          refine V.zaldN C (N := 30) dX6_thingIs_107 (hM.2 15 (by decide)) (by omega) (by decide) ?_
          refine V.if_eq C (tgt := 115) dX6_thingIs_108 (by decide) (fun h108 => ?_) (fun h108 => ?_)
          · skip
            refine V.iconst C (x := 0) dX6_thingIs_115 (by decide) ?_
            refine V.goto C (tgt := 134) dX6_thingIs_116 (by decide) ?_
            exact V.iret X dX6_thingIs_134 rfl (by decide) (by decide) (pq (by unfold F_thingIs; rw [ok1_t hi (by omega), ok1_t hc (by omega)]; unfold thI; rw [cI_f (by decide), cI_f (by decide), cI_f (by decide), cI_t rfl]; exact h108.symm))
          · skip
            refine V.iconst C (x := 1) dX6_thingIs_111 (by decide) ?_
            refine V.goto C (tgt := 134) dX6_thingIs_112 (by decide) ?_
            exact V.iret X dX6_thingIs_134 rfl (by decide) (by decide) (pq (by unfold F_thingIs; rw [ok1_t hi (by omega), ok1_t hc (by omega)]; unfold thI; rw [cI_f (by decide), cI_f (by decide), cI_f (by decide), cI_t rfl]; exact ((hI.ct hi).2.2.2.1.resolve_left h108).symm))
        · skip
          refine V.ald_n C dX6_thingIs_24 rfl ?_
          refine V.get C fg_RX6_41 dX6_thingIs_25 hM.1 rfl ?_
          refine V.ild_n C dX6_thingIs_28 rfl ?_
          refine V.ialdN C (N := 30) dX6_thingIs_29 (hM.2 14 (by decide)) (by omega) (by decide) ?_
          refine V.top hf ?_
          refine V.if_lt C (tgt := 37) dX6_thingIs_30 (by decide) (fun h30 => ?_) (fun h30 => absurd h30 (by decide))
          refine V.iconst C (x := 0) dX6_thingIs_37 (by decide) ?_
          refine V.ist_n C dX6_thingIs_38 (Nat.le_of_ble_eq_true rfl) rfl ?_
          refine V.ild_n C dX6_thingIs_39 rfl ?_
          refine V.if_ne C (tgt := 69) dX6_thingIs_40 (by decide) (fun h40 => ?_) (fun h40 => absurd h40 (by decide))
          refine V.ild_n C dX6_thingIs_69 rfl ?_
          refine V.iconst C (x := 1) dX6_thingIs_70 (by decide) ?_
          refine V.icmp_ne C (tgt := 83) dX6_thingIs_71 (by decide) (fun h71 => ?_) (fun h71 => absurd h71 (by decide))
          refine V.ild_n C dX6_thingIs_83 rfl ?_
          refine V.iconst C (x := 2) dX6_thingIs_84 (by decide) ?_
          refine V.icmp_ne C (tgt := 97) dX6_thingIs_85 (by decide) (fun h85 => ?_) (fun h85 => absurd h85 (by decide))
          refine V.ild_n C dX6_thingIs_97 rfl ?_
          refine V.iconst C (x := 3) dX6_thingIs_98 (by decide) ?_
          refine V.icmp_ne C (tgt := 119) dX6_thingIs_99 (by decide) (fun h99 => ?_) (fun h99 => absurd h99 (by decide))
          refine V.ild_n C dX6_thingIs_119 rfl ?_
          refine V.if_eq C (tgt := 132) dX6_thingIs_120 (by decide) (fun h120 => ?_) (fun h120 => absurd h120 (by decide))
          refine V.bipush C (x := -3) dX6_thingIs_132 (by decide) ?_
          exact V.iret X dX6_thingIs_134 rfl (by decide) (by decide) (pq (by unfold F_thingIs; rw [ok1_t hi (by omega), ok1_t hc (by omega)]; unfold thI; rw [cI_f (by decide), cI_f (by decide), cI_f (by decide), cI_f (by decide), cI_t hf]))
      · skip
        obtain rfl | rfl | rfl | rfl | rfl : c = 0 ∨ c = 1 ∨ c = 2 ∨ c = 3 ∨ c = 4 := by omega
        · skip
          refine V.ald_n C dX6_thingIs_24 rfl ?_
          refine V.get C fg_RX6_41 dX6_thingIs_25 hM.1 rfl ?_
          refine V.ild_n C dX6_thingIs_28 rfl ?_
          refine V.ialdN C (N := 30) dX6_thingIs_29 (hM.2 14 (by decide)) (by omega) (by decide) ?_
          refine V.top hf ?_
          refine V.if_lt C (tgt := 37) dX6_thingIs_30 (by decide) (fun h30 => absurd h30 (nI_pos (by omega))) (fun h30 => ?_)
          refine V.iconst C (x := 1) dX6_thingIs_33 (by decide) ?_
          refine V.goto C (tgt := 38) dX6_thingIs_34 (by decide) ?_
          refine V.ist_n C dX6_thingIs_38 (Nat.le_of_ble_eq_true rfl) rfl ?_
          refine V.ild_n C dX6_thingIs_39 rfl ?_
          refine V.if_ne C (tgt := 69) dX6_thingIs_40 (by decide) (fun h40 => absurd h40 (by decide)) (fun h40 => ?_)
          refine V.ild_n C dX6_thingIs_43 rfl ?_
          refine V.if_eq C (tgt := 60) dX6_thingIs_44 (by decide) (fun h44 => absurd h44 (by decide)) (fun h44 => ?_)
          refine V.ald_n C dX6_thingIs_47 rfl ?_
          refine V.ald_n C dX6_thingIs_48 rfl ?_
          refine V.get C fg_RX6_41 dX6_thingIs_49 hM.1 rfl ?_
          refine V.ild_n C dX6_thingIs_52 rfl ?_
          refine V.ialdN C (N := 30) dX6_thingIs_53 (hM.2 14 (by decide)) (by omega) (by decide) ?_
          refine V.top hf ?_
          refine V.callVp C mo_X6_leastOf im_X6_leastOf se_X6_leastOf ml_RX6_181 (ev_X6_leastOf hM hI (by omega)) dX6_thingIs_54 rfl rfl hM.1 rfl rfl (Nat.le_of_ble_eq_true rfl) (RmOk.mk' (by decide) (by decide) (by decide) (by decide)) ⟨rfl, rfl⟩ ?_
          refine V.goto C (tgt := 134) dX6_thingIs_57 (by decide) ?_
          exact V.iret X dX6_thingIs_134 rfl (by decide) (by decide) (pq (by unfold F_thingIs; rw [ok1_t hi (by omega), ok1_t hc (by omega)]; unfold thI; rw [cI_t rfl, cI_f (fun q => nI_neg (show k < 2 ^ 31 by omega) (hf.symm.trans q)), hf, nI_clamp (show k < 2 ^ 31 by omega)]))
        · skip
          refine V.ald_n C dX6_thingIs_24 rfl ?_
          refine V.get C fg_RX6_41 dX6_thingIs_25 hM.1 rfl ?_
          refine V.ild_n C dX6_thingIs_28 rfl ?_
          refine V.ialdN C (N := 30) dX6_thingIs_29 (hM.2 14 (by decide)) (by omega) (by decide) ?_
          refine V.top hf ?_
          refine V.if_lt C (tgt := 37) dX6_thingIs_30 (by decide) (fun h30 => absurd h30 (nI_pos (by omega))) (fun h30 => ?_)
          refine V.iconst C (x := 1) dX6_thingIs_33 (by decide) ?_
          refine V.goto C (tgt := 38) dX6_thingIs_34 (by decide) ?_
          refine V.ist_n C dX6_thingIs_38 (Nat.le_of_ble_eq_true rfl) rfl ?_
          refine V.ild_n C dX6_thingIs_39 rfl ?_
          refine V.if_ne C (tgt := 69) dX6_thingIs_40 (by decide) (fun h40 => ?_) (fun h40 => absurd h40 (by decide))
          refine V.ild_n C dX6_thingIs_69 rfl ?_
          refine V.iconst C (x := 1) dX6_thingIs_70 (by decide) ?_
          refine V.icmp_ne C (tgt := 83) dX6_thingIs_71 (by decide) (fun h71 => absurd h71 (by decide)) (fun h71 => ?_)
          refine V.ald_n C dX6_thingIs_74 rfl ?_
          refine V.get C fg_RX6_32 dX6_thingIs_75 hM.1 rfl ?_
          refine V.ild_n C dX6_thingIs_78 rfl ?_
          refine V.ialdN C (N := 30) dX6_thingIs_79 (hM.2 11 (by decide)) (by omega) (by decide) ?_
          refine V.goto C (tgt := 134) dX6_thingIs_80 (by decide) ?_
          exact V.iret X dX6_thingIs_134 rfl (by decide) (by decide) (pq (by unfold F_thingIs; rw [ok1_t hi (by omega), ok1_t hc (by omega)]; unfold thI; rw [cI_f (by decide), cI_t rfl]))
        · skip
          refine V.ald_n C dX6_thingIs_24 rfl ?_
          refine V.get C fg_RX6_41 dX6_thingIs_25 hM.1 rfl ?_
          refine V.ild_n C dX6_thingIs_28 rfl ?_
          refine V.ialdN C (N := 30) dX6_thingIs_29 (hM.2 14 (by decide)) (by omega) (by decide) ?_
          refine V.top hf ?_
          refine V.if_lt C (tgt := 37) dX6_thingIs_30 (by decide) (fun h30 => absurd h30 (nI_pos (by omega))) (fun h30 => ?_)
          refine V.iconst C (x := 1) dX6_thingIs_33 (by decide) ?_
          refine V.goto C (tgt := 38) dX6_thingIs_34 (by decide) ?_
          refine V.ist_n C dX6_thingIs_38 (Nat.le_of_ble_eq_true rfl) rfl ?_
          refine V.ild_n C dX6_thingIs_39 rfl ?_
          refine V.if_ne C (tgt := 69) dX6_thingIs_40 (by decide) (fun h40 => ?_) (fun h40 => absurd h40 (by decide))
          refine V.ild_n C dX6_thingIs_69 rfl ?_
          refine V.iconst C (x := 1) dX6_thingIs_70 (by decide) ?_
          refine V.icmp_ne C (tgt := 83) dX6_thingIs_71 (by decide) (fun h71 => ?_) (fun h71 => absurd h71 (by decide))
          refine V.ild_n C dX6_thingIs_83 rfl ?_
          refine V.iconst C (x := 2) dX6_thingIs_84 (by decide) ?_
          refine V.icmp_ne C (tgt := 97) dX6_thingIs_85 (by decide) (fun h85 => absurd h85 (by decide)) (fun h85 => ?_)
          refine V.ald_n C dX6_thingIs_88 rfl ?_
          refine V.get C fg_RX6_35 dX6_thingIs_89 hM.1 rfl ?_
          refine V.ild_n C dX6_thingIs_92 rfl ?_
          refine V.ialdN C (N := 30) dX6_thingIs_93 (hM.2 12 (by decide)) (by omega) (by decide) ?_
          refine V.goto C (tgt := 134) dX6_thingIs_94 (by decide) ?_
          exact V.iret X dX6_thingIs_134 rfl (by decide) (by decide) (pq (by unfold F_thingIs; rw [ok1_t hi (by omega), ok1_t hc (by omega)]; unfold thI; rw [cI_f (by decide), cI_f (by decide), cI_t rfl]))
        · skip
          refine V.ald_n C dX6_thingIs_24 rfl ?_
          refine V.get C fg_RX6_41 dX6_thingIs_25 hM.1 rfl ?_
          refine V.ild_n C dX6_thingIs_28 rfl ?_
          refine V.ialdN C (N := 30) dX6_thingIs_29 (hM.2 14 (by decide)) (by omega) (by decide) ?_
          refine V.top hf ?_
          refine V.if_lt C (tgt := 37) dX6_thingIs_30 (by decide) (fun h30 => absurd h30 (nI_pos (by omega))) (fun h30 => ?_)
          refine V.iconst C (x := 1) dX6_thingIs_33 (by decide) ?_
          refine V.goto C (tgt := 38) dX6_thingIs_34 (by decide) ?_
          refine V.ist_n C dX6_thingIs_38 (Nat.le_of_ble_eq_true rfl) rfl ?_
          refine V.ild_n C dX6_thingIs_39 rfl ?_
          refine V.if_ne C (tgt := 69) dX6_thingIs_40 (by decide) (fun h40 => ?_) (fun h40 => absurd h40 (by decide))
          refine V.ild_n C dX6_thingIs_69 rfl ?_
          refine V.iconst C (x := 1) dX6_thingIs_70 (by decide) ?_
          refine V.icmp_ne C (tgt := 83) dX6_thingIs_71 (by decide) (fun h71 => ?_) (fun h71 => absurd h71 (by decide))
          refine V.ild_n C dX6_thingIs_83 rfl ?_
          refine V.iconst C (x := 2) dX6_thingIs_84 (by decide) ?_
          refine V.icmp_ne C (tgt := 97) dX6_thingIs_85 (by decide) (fun h85 => ?_) (fun h85 => absurd h85 (by decide))
          refine V.ild_n C dX6_thingIs_97 rfl ?_
          refine V.iconst C (x := 3) dX6_thingIs_98 (by decide) ?_
          refine V.icmp_ne C (tgt := 119) dX6_thingIs_99 (by decide) (fun h99 => absurd h99 (by decide)) (fun h99 => ?_)
          refine V.ald_n C dX6_thingIs_102 rfl ?_
          refine V.get C fg_RX6_44 dX6_thingIs_103 hM.1 rfl ?_
          refine V.ild_n C dX6_thingIs_106 rfl ?_
          refine V.zaldN C (N := 30) dX6_thingIs_107 (hM.2 15 (by decide)) (by omega) (by decide) ?_
          refine V.if_eq C (tgt := 115) dX6_thingIs_108 (by decide) (fun h108 => ?_) (fun h108 => ?_)
          · skip
            refine V.iconst C (x := 0) dX6_thingIs_115 (by decide) ?_
            refine V.goto C (tgt := 134) dX6_thingIs_116 (by decide) ?_
            exact V.iret X dX6_thingIs_134 rfl (by decide) (by decide) (pq (by unfold F_thingIs; rw [ok1_t hi (by omega), ok1_t hc (by omega)]; unfold thI; rw [cI_f (by decide), cI_f (by decide), cI_f (by decide), cI_t rfl]; exact h108.symm))
          · skip
            refine V.iconst C (x := 1) dX6_thingIs_111 (by decide) ?_
            refine V.goto C (tgt := 134) dX6_thingIs_112 (by decide) ?_
            exact V.iret X dX6_thingIs_134 rfl (by decide) (by decide) (pq (by unfold F_thingIs; rw [ok1_t hi (by omega), ok1_t hc (by omega)]; unfold thI; rw [cI_f (by decide), cI_f (by decide), cI_f (by decide), cI_t rfl]; exact ((hI.ct hi).2.2.2.1.resolve_left h108).symm))
        · skip
          refine V.ald_n C dX6_thingIs_24 rfl ?_
          refine V.get C fg_RX6_41 dX6_thingIs_25 hM.1 rfl ?_
          refine V.ild_n C dX6_thingIs_28 rfl ?_
          refine V.ialdN C (N := 30) dX6_thingIs_29 (hM.2 14 (by decide)) (by omega) (by decide) ?_
          refine V.top hf ?_
          refine V.if_lt C (tgt := 37) dX6_thingIs_30 (by decide) (fun h30 => absurd h30 (nI_pos (by omega))) (fun h30 => ?_)
          refine V.iconst C (x := 1) dX6_thingIs_33 (by decide) ?_
          refine V.goto C (tgt := 38) dX6_thingIs_34 (by decide) ?_
          refine V.ist_n C dX6_thingIs_38 (Nat.le_of_ble_eq_true rfl) rfl ?_
          refine V.ild_n C dX6_thingIs_39 rfl ?_
          refine V.if_ne C (tgt := 69) dX6_thingIs_40 (by decide) (fun h40 => ?_) (fun h40 => absurd h40 (by decide))
          refine V.ild_n C dX6_thingIs_69 rfl ?_
          refine V.iconst C (x := 1) dX6_thingIs_70 (by decide) ?_
          refine V.icmp_ne C (tgt := 83) dX6_thingIs_71 (by decide) (fun h71 => ?_) (fun h71 => absurd h71 (by decide))
          refine V.ild_n C dX6_thingIs_83 rfl ?_
          refine V.iconst C (x := 2) dX6_thingIs_84 (by decide) ?_
          refine V.icmp_ne C (tgt := 97) dX6_thingIs_85 (by decide) (fun h85 => ?_) (fun h85 => absurd h85 (by decide))
          refine V.ild_n C dX6_thingIs_97 rfl ?_
          refine V.iconst C (x := 3) dX6_thingIs_98 (by decide) ?_
          refine V.icmp_ne C (tgt := 119) dX6_thingIs_99 (by decide) (fun h99 => ?_) (fun h99 => absurd h99 (by decide))
          refine V.ild_n C dX6_thingIs_119 rfl ?_
          refine V.if_eq C (tgt := 132) dX6_thingIs_120 (by decide) (fun h120 => absurd h120 (by decide)) (fun h120 => ?_)
          refine V.ald_n C dX6_thingIs_123 rfl ?_
          refine V.get C fg_RX6_41 dX6_thingIs_124 hM.1 rfl ?_
          refine V.ild_n C dX6_thingIs_127 rfl ?_
          refine V.ialdN C (N := 30) dX6_thingIs_128 (hM.2 14 (by decide)) (by omega) (by decide) ?_
          refine V.goto C (tgt := 134) dX6_thingIs_129 (by decide) ?_
          exact V.iret X dX6_thingIs_134 rfl (by decide) (by decide) (pq (by unfold F_thingIs; rw [ok1_t hi (by omega), ok1_t hc (by omega)]; unfold thI; rw [cI_f (by decide), cI_f (by decide), cI_f (by decide), cI_f (by decide), cI_f (fun q => nI_neg (show k < 2 ^ 31 by omega) (hf.symm.trans q))]))
    · skip
      refine V.ald_n C dX6_thingIs_0 rfl ?_
      refine V.iconst C (x := 0) dX6_thingIs_1 (by decide) ?_
      refine V.put C fl_RX6_77 dX6_thingIs_2 hM.1 ⟨rfl, rfl⟩ (Nat.le_of_ble_eq_true rfl) (fun h => by cases h) (set_same hM.1) ?_
      refine V.ald_n C dX6_thingIs_5 rfl ?_
      refine V.ild_n C dX6_thingIs_6 rfl ?_
      refine V.callVp C mo_X6_isThing im_X6_isThing se_X6_isThing ml_RX6_111 (ev_X6_isThing hM hI _) dX6_thingIs_7 rfl rfl hM.1 rfl rfl (Nat.le_of_ble_eq_true rfl) (RmOk.mk' (by decide) (by decide) (by decide) (by decide)) ⟨rfl, rfl⟩ ?_
      refine V.ifb_eq C (tgt := 22) dX6_thingIs_10 (by decide) (fun h10 => absurd (isN_nI (show i < t by omega) (by omega)) h10) (fun h10 => ?_)
      refine V.ild_n C dX6_thingIs_13 rfl ?_
      refine V.iconst C (x := 0) dX6_thingIs_14 (by decide) ?_
      refine V.iconst C (x := 4) dX6_thingIs_15 (by decide) ?_
      refine V.callSp C mo_X6_in sm_X6_in ml_RX6_84 (ev_X6_in0 _ 5 (by decide)) dX6_thingIs_16 rfl rfl (Nat.le_of_ble_eq_true rfl) (RmOk.mk' (by decide) (by decide) (by decide) (by decide)) ⟨rfl, rfl⟩ ?_
      refine V.ifb_ne C (tgt := 24) dX6_thingIs_19 (by decide) (fun h19 => absurd h19 hc) (fun h19 => ?_)
      refine V.iconst C (x := -1) dX6_thingIs_22 (by decide) ?_
      exact V.iret X dX6_thingIs_23 rfl (by decide) (by decide) (pq (by unfold F_thingIs; rw [ok1_t hi (by omega), ok1_f hc]))
  · skip
    refine V.ald_n C dX6_thingIs_0 rfl ?_
    refine V.iconst C (x := 0) dX6_thingIs_1 (by decide) ?_
    refine V.put C fl_RX6_77 dX6_thingIs_2 hM.1 ⟨rfl, rfl⟩ (Nat.le_of_ble_eq_true rfl) (fun h => by cases h) (set_same hM.1) ?_
    refine V.ald_n C dX6_thingIs_5 rfl ?_
    refine V.ild_n C dX6_thingIs_6 rfl ?_
    refine V.callVp C mo_X6_isThing im_X6_isThing se_X6_isThing ml_RX6_111 (ev_X6_isThing hM hI _) dX6_thingIs_7 rfl rfl hM.1 rfl rfl (Nat.le_of_ble_eq_true rfl) (RmOk.mk' (by decide) (by decide) (by decide) (by decide)) ⟨rfl, rfl⟩ ?_
    refine V.ifb_eq C (tgt := 22) dX6_thingIs_10 (by decide) (fun h10 => ?_) (fun h10 => absurd h10 hi)
    refine V.iconst C (x := -1) dX6_thingIs_22 (by decide) ?_
    exact V.iret X dX6_thingIs_23 rfl (by decide) (by decide) (pq (by unfold F_thingIs; rw [ok1_f hi]))
theorem ev_X6_beingIs {g : GD} {r d t b : Nat} {A : ST} {L : List AE} (hM : MR r d t b A L) (hI : Inv r d t b A) (x y : Int32) : EvP g mX6_beingIs [aR 23, aI x, aI y] L (some (aI (F_beingIs t b A x y))) := by
  refine Ev.of [some (aR 23), some (aI x), some (aI y)] (by decide) rfl (Nat.le_of_ble_eq_true rfl) fun Z H0 C X => ?_
  have hN := hI.cn
  rcases isN_cases x b (by omega) with ⟨i, hi, rfl⟩ | hi
  · skip
    rcases isN_cases y 5 (by omega) with ⟨c, hc, rfl⟩ | hc
    · skip
      refine V.ald_n C dX6_beingIs_0 rfl ?_
      refine V.iconst C (x := 0) dX6_beingIs_1 (by decide) ?_
      refine V.put C fl_RX6_77 dX6_beingIs_2 hM.1 ⟨rfl, rfl⟩ (Nat.le_of_ble_eq_true rfl) (fun h => by cases h) (set_same hM.1) ?_
      refine V.ald_n C dX6_beingIs_5 rfl ?_
      refine V.ild_n C dX6_beingIs_6 rfl ?_
      refine V.callVp C mo_X6_isBeing im_X6_isBeing se_X6_isBeing ml_RX6_123 (ev_X6_isBeing hM hI _) dX6_beingIs_7 rfl rfl hM.1 rfl rfl (Nat.le_of_ble_eq_true rfl) (RmOk.mk' (by decide) (by decide) (by decide) (by decide)) ⟨rfl, rfl⟩ ?_
      refine V.ifb_eq C (tgt := 22) dX6_beingIs_10 (by decide) (fun h10 => absurd (isN_nI (show i < b by omega) (by omega)) h10) (fun h10 => ?_)
      refine V.ild_n C dX6_beingIs_13 rfl ?_
      refine V.iconst C (x := 0) dX6_beingIs_14 (by decide) ?_
      refine V.iconst C (x := 4) dX6_beingIs_15 (by decide) ?_
      refine V.callSp C mo_X6_in sm_X6_in ml_RX6_84 (ev_X6_in0 _ 5 (by decide)) dX6_beingIs_16 rfl rfl (Nat.le_of_ble_eq_true rfl) (RmOk.mk' (by decide) (by decide) (by decide) (by decide)) ⟨rfl, rfl⟩ ?_
      refine V.ifb_ne C (tgt := 24) dX6_beingIs_19 (by decide) (fun h19 => ?_) (fun h19 => absurd (isN_nI (show c < 5 by omega) (by omega)) h19)
      obtain rfl | rfl | rfl | rfl | rfl : c = 0 ∨ c = 1 ∨ c = 2 ∨ c = 3 ∨ c = 4 := by omega
      · skip
        refine V.ild_n C dX6_beingIs_24 rfl ?_
        refine V.if_ne C (tgt := 37) dX6_beingIs_25 (by decide) (fun h25 => absurd h25 (by decide)) (fun h25 => ?_)
        refine V.ald_n C dX6_beingIs_28 rfl ?_
        refine V.get C fg_RX6_47 dX6_beingIs_29 hM.1 rfl ?_
        refine V.ild_n C dX6_beingIs_32 rfl ?_
        refine V.ialdN C (N := 6) dX6_beingIs_33 (hM.2 17 (by decide)) (by omega) (by decide) ?_
        refine V.goto C (tgt := 112) dX6_beingIs_34 (by decide) ?_
        exact V.iret X dX6_beingIs_112 rfl (by decide) (by decide) (pq (by unfold F_beingIs; rw [ok1_t hi (by omega), ok1_t hc (by omega)]; unfold beI; rw [cI_t rfl]))
      · skip
        refine V.ild_n C dX6_beingIs_24 rfl ?_
        refine V.if_ne C (tgt := 37) dX6_beingIs_25 (by decide) (fun h25 => ?_) (fun h25 => absurd h25 (by decide))
        refine V.ild_n C dX6_beingIs_37 rfl ?_
        refine V.iconst C (x := 1) dX6_beingIs_38 (by decide) ?_
        refine V.icmp_ne C (tgt := 65) dX6_beingIs_39 (by decide) (fun h39 => absurd h39 (by decide)) (fun h39 => ?_)
        rcases (hI.cb hi).2.1 with hf | ⟨k, hk, hf, -⟩
        · skip
          refine V.ald_n C dX6_beingIs_42 rfl ?_
          refine V.get C fg_RX6_50 dX6_beingIs_43 hM.1 rfl ?_
          refine V.ild_n C dX6_beingIs_46 rfl ?_
          refine V.ialdN C (N := 6) dX6_beingIs_47 (hM.2 18 (by decide)) (by omega) (by decide) ?_
          refine V.top hf ?_
          refine V.if_ge C (tgt := 56) dX6_beingIs_48 (by decide) (fun h48 => absurd h48 (by decide)) (fun h48 => ?_)
          refine V.bipush C (x := -3) dX6_beingIs_51 (by decide) ?_
          refine V.goto C (tgt := 112) dX6_beingIs_53 (by decide) ?_
          exact V.iret X dX6_beingIs_112 rfl (by decide) (by decide) (pq (by unfold F_beingIs; rw [ok1_t hi (by omega), ok1_t hc (by omega)]; unfold beI; rw [cI_f (by decide), cI_t rfl, cI_t hf]))
        · skip
          refine V.ald_n C dX6_beingIs_42 rfl ?_
          refine V.get C fg_RX6_50 dX6_beingIs_43 hM.1 rfl ?_
          refine V.ild_n C dX6_beingIs_46 rfl ?_
          refine V.ialdN C (N := 6) dX6_beingIs_47 (hM.2 18 (by decide)) (by omega) (by decide) ?_
          refine V.top hf ?_
          refine V.if_ge C (tgt := 56) dX6_beingIs_48 (by decide) (fun h48 => ?_) (fun h48 => absurd (nI_pos' (by omega)) h48)
          refine V.ald_n C dX6_beingIs_56 rfl ?_
          refine V.get C fg_RX6_50 dX6_beingIs_57 hM.1 rfl ?_
          refine V.ild_n C dX6_beingIs_60 rfl ?_
          refine V.ialdN C (N := 6) dX6_beingIs_61 (hM.2 18 (by decide)) (by omega) (by decide) ?_
          refine V.top hf ?_
          refine V.goto C (tgt := 112) dX6_beingIs_62 (by decide) ?_
          exact V.iret X dX6_beingIs_112 rfl (by decide) (by decide) (pq (by unfold F_beingIs; rw [ok1_t hi (by omega), ok1_t hc (by omega)]; unfold beI; rw [cI_f (by decide), cI_t rfl, cI_f (fun q => nI_neg (show k < 2 ^ 31 by omega) (hf.symm.trans q)), hf]))
      · skip
        refine V.ild_n C dX6_beingIs_24 rfl ?_
        refine V.if_ne C (tgt := 37) dX6_beingIs_25 (by decide) (fun h25 => ?_) (fun h25 => absurd h25 (by decide))
        refine V.ild_n C dX6_beingIs_37 rfl ?_
        refine V.iconst C (x := 1) dX6_beingIs_38 (by decide) ?_
        refine V.icmp_ne C (tgt := 65) dX6_beingIs_39 (by decide) (fun h39 => ?_) (fun h39 => absurd h39 (by decide))
        refine V.ild_n C dX6_beingIs_65 rfl ?_
        refine V.iconst C (x := 2) dX6_beingIs_66 (by decide) ?_
        refine V.icmp_ne C (tgt := 93) dX6_beingIs_67 (by decide) (fun h67 => absurd h67 (by decide)) (fun h67 => ?_)
        rcases (hI.cb hi).2.2.1 with hf | ⟨k, hk, hf⟩
        · skip
          refine V.ald_n C dX6_beingIs_70 rfl ?_
          refine V.get C fg_RX6_53 dX6_beingIs_71 hM.1 rfl ?_
          refine V.ild_n C dX6_beingIs_74 rfl ?_
          refine V.ialdN C (N := 6) dX6_beingIs_75 (hM.2 19 (by decide)) (by omega) (by decide) ?_
          refine V.top hf ?_
          refine V.if_ge C (tgt := 84) dX6_beingIs_76 (by decide) (fun h76 => absurd h76 (by decide)) (fun h76 => ?_)
          refine V.bipush C (x := -3) dX6_beingIs_79 (by decide) ?_
          refine V.goto C (tgt := 112) dX6_beingIs_81 (by decide) ?_
          exact V.iret X dX6_beingIs_112 rfl (by decide) (by decide) (pq (by unfold F_beingIs; rw [ok1_t hi (by omega), ok1_t hc (by omega)]; unfold beI; rw [cI_f (by decide), cI_f (by decide), cI_t rfl, cI_t hf]))
        · skip
          refine V.ald_n C dX6_beingIs_70 rfl ?_
          refine V.get C fg_RX6_53 dX6_beingIs_71 hM.1 rfl ?_
          refine V.ild_n C dX6_beingIs_74 rfl ?_
          refine V.ialdN C (N := 6) dX6_beingIs_75 (hM.2 19 (by decide)) (by omega) (by decide) ?_
          refine V.top hf ?_
          refine V.if_ge C (tgt := 84) dX6_beingIs_76 (by decide) (fun h76 => ?_) (fun h76 => absurd (nI_pos' (by omega)) h76)
          refine V.ald_n C dX6_beingIs_84 rfl ?_
          refine V.get C fg_RX6_53 dX6_beingIs_85 hM.1 rfl ?_
          refine V.ild_n C dX6_beingIs_88 rfl ?_
          refine V.ialdN C (N := 6) dX6_beingIs_89 (hM.2 19 (by decide)) (by omega) (by decide) ?_
          refine V.top hf ?_
          refine V.goto C (tgt := 112) dX6_beingIs_90 (by decide) ?_
          exact V.iret X dX6_beingIs_112 rfl (by decide) (by decide) (pq (by unfold F_beingIs; rw [ok1_t hi (by omega), ok1_t hc (by omega)]; unfold beI; rw [cI_f (by decide), cI_f (by decide), cI_t rfl, cI_f (fun q => nI_neg (show k < 2 ^ 31 by omega) (hf.symm.trans q)), hf]))
      · skip
        refine V.ild_n C dX6_beingIs_24 rfl ?_
        refine V.if_ne C (tgt := 37) dX6_beingIs_25 (by decide) (fun h25 => ?_) (fun h25 => absurd h25 (by decide))
        refine V.ild_n C dX6_beingIs_37 rfl ?_
        refine V.iconst C (x := 1) dX6_beingIs_38 (by decide) ?_
        refine V.icmp_ne C (tgt := 65) dX6_beingIs_39 (by decide) (fun h39 => ?_) (fun h39 => absurd h39 (by decide))
        refine V.ild_n C dX6_beingIs_65 rfl ?_
        refine V.iconst C (x := 2) dX6_beingIs_66 (by decide) ?_
        refine V.icmp_ne C (tgt := 93) dX6_beingIs_67 (by decide) (fun h67 => ?_) (fun h67 => absurd h67 (by decide))
        refine V.ild_n C dX6_beingIs_93 rfl ?_
        refine V.iconst C (x := 3) dX6_beingIs_94 (by decide) ?_
        refine V.icmp_ne C (tgt := 106) dX6_beingIs_95 (by decide) (fun h95 => absurd h95 (by decide)) (fun h95 => ?_)
        refine V.ald_n C dX6_beingIs_98 rfl ?_
        refine V.ild_n C dX6_beingIs_99 rfl ?_
        refine V.callVp C mo_X6_held im_X6_held se_X6_held ml_RX6_139 (ev_X6_held hM hI (by omega)) dX6_beingIs_100 rfl rfl hM.1 rfl rfl (Nat.le_of_ble_eq_true rfl) (RmOk.mk' (by decide) (by decide) (by decide) (by decide)) ⟨rfl, rfl⟩ ?_
        refine V.goto C (tgt := 112) dX6_beingIs_103 (by decide) ?_
        exact V.iret X dX6_beingIs_112 rfl (by decide) (by decide) (pq (by unfold F_beingIs; rw [ok1_t hi (by omega), ok1_t hc (by omega)]; unfold beI; rw [cI_f (by decide), cI_f (by decide), cI_f (by decide), cI_t rfl]))
      · skip
        refine V.ild_n C dX6_beingIs_24 rfl ?_
        refine V.if_ne C (tgt := 37) dX6_beingIs_25 (by decide) (fun h25 => ?_) (fun h25 => absurd h25 (by decide))
        refine V.ild_n C dX6_beingIs_37 rfl ?_
        refine V.iconst C (x := 1) dX6_beingIs_38 (by decide) ?_
        refine V.icmp_ne C (tgt := 65) dX6_beingIs_39 (by decide) (fun h39 => ?_) (fun h39 => absurd h39 (by decide))
        refine V.ild_n C dX6_beingIs_65 rfl ?_
        refine V.iconst C (x := 2) dX6_beingIs_66 (by decide) ?_
        refine V.icmp_ne C (tgt := 93) dX6_beingIs_67 (by decide) (fun h67 => ?_) (fun h67 => absurd h67 (by decide))
        refine V.ild_n C dX6_beingIs_93 rfl ?_
        refine V.iconst C (x := 3) dX6_beingIs_94 (by decide) ?_
        refine V.icmp_ne C (tgt := 106) dX6_beingIs_95 (by decide) (fun h95 => ?_) (fun h95 => absurd h95 (by decide))
        refine V.ald_n C dX6_beingIs_106 rfl ?_
        refine V.get C fg_RX6_59 dX6_beingIs_107 hM.1 rfl ?_
        refine V.ild_n C dX6_beingIs_110 rfl ?_
        refine V.ialdN C (N := 6) dX6_beingIs_111 (hM.2 21 (by decide)) (by omega) (by decide) ?_
        exact V.iret X dX6_beingIs_112 rfl (by decide) (by decide) (pq (by unfold F_beingIs; rw [ok1_t hi (by omega), ok1_t hc (by omega)]; unfold beI; rw [cI_f (by decide), cI_f (by decide), cI_f (by decide), cI_f (by decide)]))
    · skip
      refine V.ald_n C dX6_beingIs_0 rfl ?_
      refine V.iconst C (x := 0) dX6_beingIs_1 (by decide) ?_
      refine V.put C fl_RX6_77 dX6_beingIs_2 hM.1 ⟨rfl, rfl⟩ (Nat.le_of_ble_eq_true rfl) (fun h => by cases h) (set_same hM.1) ?_
      refine V.ald_n C dX6_beingIs_5 rfl ?_
      refine V.ild_n C dX6_beingIs_6 rfl ?_
      refine V.callVp C mo_X6_isBeing im_X6_isBeing se_X6_isBeing ml_RX6_123 (ev_X6_isBeing hM hI _) dX6_beingIs_7 rfl rfl hM.1 rfl rfl (Nat.le_of_ble_eq_true rfl) (RmOk.mk' (by decide) (by decide) (by decide) (by decide)) ⟨rfl, rfl⟩ ?_
      refine V.ifb_eq C (tgt := 22) dX6_beingIs_10 (by decide) (fun h10 => absurd (isN_nI (show i < b by omega) (by omega)) h10) (fun h10 => ?_)
      refine V.ild_n C dX6_beingIs_13 rfl ?_
      refine V.iconst C (x := 0) dX6_beingIs_14 (by decide) ?_
      refine V.iconst C (x := 4) dX6_beingIs_15 (by decide) ?_
      refine V.callSp C mo_X6_in sm_X6_in ml_RX6_84 (ev_X6_in0 _ 5 (by decide)) dX6_beingIs_16 rfl rfl (Nat.le_of_ble_eq_true rfl) (RmOk.mk' (by decide) (by decide) (by decide) (by decide)) ⟨rfl, rfl⟩ ?_
      refine V.ifb_ne C (tgt := 24) dX6_beingIs_19 (by decide) (fun h19 => absurd h19 hc) (fun h19 => ?_)
      refine V.iconst C (x := -1) dX6_beingIs_22 (by decide) ?_
      exact V.iret X dX6_beingIs_23 rfl (by decide) (by decide) (pq (by unfold F_beingIs; rw [ok1_t hi (by omega), ok1_f hc]))
  · skip
    refine V.ald_n C dX6_beingIs_0 rfl ?_
    refine V.iconst C (x := 0) dX6_beingIs_1 (by decide) ?_
    refine V.put C fl_RX6_77 dX6_beingIs_2 hM.1 ⟨rfl, rfl⟩ (Nat.le_of_ble_eq_true rfl) (fun h => by cases h) (set_same hM.1) ?_
    refine V.ald_n C dX6_beingIs_5 rfl ?_
    refine V.ild_n C dX6_beingIs_6 rfl ?_
    refine V.callVp C mo_X6_isBeing im_X6_isBeing se_X6_isBeing ml_RX6_123 (ev_X6_isBeing hM hI _) dX6_beingIs_7 rfl rfl hM.1 rfl rfl (Nat.le_of_ble_eq_true rfl) (RmOk.mk' (by decide) (by decide) (by decide) (by decide)) ⟨rfl, rfl⟩ ?_
    refine V.ifb_eq C (tgt := 22) dX6_beingIs_10 (by decide) (fun h10 => ?_) (fun h10 => absurd h10 hi)
    refine V.iconst C (x := -1) dX6_beingIs_22 (by decide) ?_
    exact V.iret X dX6_beingIs_23 rfl (by decide) (by decide) (pq (by unfold F_beingIs; rw [ok1_f hi]))
theorem ev_X6_news {g : GD} {r d t b : Nat} {A : ST} {L : List AE} (hM : MR r d t b A L) (hI : Inv r d t b A) (x y : Int32) : EvP g mX6_news [aR 23, aI x, aI y] L (some (aI (F_news b A x y))) := by
  refine Ev.of [some (aR 23), some (aI x), some (aI y)] (by decide) rfl (Nat.le_of_ble_eq_true rfl) fun Z H0 C X => ?_
  have hN := hI.cn
  rcases isN_cases x b (by omega) with ⟨i, hi, rfl⟩ | hi
  · skip
    refine V.ald_n C dX6_news_0 rfl ?_
    refine V.iconst C (x := 0) dX6_news_1 (by decide) ?_
    refine V.put C fl_RX6_77 dX6_news_2 hM.1 ⟨rfl, rfl⟩ (Nat.le_of_ble_eq_true rfl) (fun h => by cases h) (set_same hM.1) ?_
    refine V.ald_n C dX6_news_5 rfl ?_
    refine V.ild_n C dX6_news_6 rfl ?_
    refine V.callVp C mo_X6_isBeing im_X6_isBeing se_X6_isBeing ml_RX6_123 (ev_X6_isBeing hM hI _) dX6_news_7 rfl rfl hM.1 rfl rfl (Nat.le_of_ble_eq_true rfl) (RmOk.mk' (by decide) (by decide) (by decide) (by decide)) ⟨rfl, rfl⟩ ?_
    refine V.ifb_eq C (tgt := 43) dX6_news_10 (by decide) (fun h10 => absurd (isN_nI (show i < b by omega) (by omega)) h10) (fun h10 => ?_)
    obtain ⟨m, hm8, hm⟩ := (hI.cb hi).2.2.2
    rcases isN_cases y m (by omega) with ⟨j, hj, rfl⟩ | hj
    · skip
      refine V.ild_n C dX6_news_13 rfl ?_
      refine V.iconst C (x := 0) dX6_news_14 (by decide) ?_
      refine V.ald_n C dX6_news_15 rfl ?_
      refine V.get C fg_RX6_59 dX6_news_16 hM.1 rfl ?_
      refine V.ild_n C dX6_news_19 rfl ?_
      refine V.ialdN C (N := 6) dX6_news_20 (hM.2 21 (by decide)) (by omega) (by decide) ?_
      refine V.top hm ?_
      refine V.iconst C (x := 1) dX6_news_21 (by decide) ?_
      refine V.isub C dX6_news_22 ?_
      refine V.callSp C mo_X6_in sm_X6_in ml_RX6_84 (ev_X6_in _ _ _) dX6_news_23 rfl rfl (Nat.le_of_ble_eq_true rfl) (RmOk.mk' (by decide) (by decide) (by decide) (by decide)) ⟨rfl, rfl⟩ ?_
      refine V.ifb_eq C (tgt := 43) dX6_news_26 (by decide) (fun h26 => absurd ((in_isN (by omega)).mpr (isN_nI hj (by omega))) h26) (fun h26 => ?_)
      refine V.ald_n C dX6_news_29 rfl ?_
      refine V.get C fg_RX6_56 dX6_news_30 hM.1 rfl ?_
      refine V.bipush C (x := 8) dX6_news_33 (by decide) ?_
      refine V.ild_n C dX6_news_35 rfl ?_
      refine V.imul C dX6_news_36 ?_
      refine V.top (pk_mul 8 i) ?_
      refine V.ild_n C dX6_news_37 rfl ?_
      refine V.iadd C dX6_news_38 ?_
      refine V.top (nI_add (8 * i) j) ?_
      refine V.ialdN C (N := 48) dX6_news_39 (hM.2 20 (by decide)) (by omega) (by decide) ?_
      refine V.goto C (tgt := 44) dX6_news_40 (by decide) ?_
      exact V.iret X dX6_news_44 rfl (by decide) (by decide) (pq (by unfold F_news; rw [ok1_t hi (by omega), hm, nI_clamp (show m < 2 ^ 31 by omega), ok1_t hj (by omega)]))
    · skip
      refine V.ild_n C dX6_news_13 rfl ?_
      refine V.iconst C (x := 0) dX6_news_14 (by decide) ?_
      refine V.ald_n C dX6_news_15 rfl ?_
      refine V.get C fg_RX6_59 dX6_news_16 hM.1 rfl ?_
      refine V.ild_n C dX6_news_19 rfl ?_
      refine V.ialdN C (N := 6) dX6_news_20 (hM.2 21 (by decide)) (by omega) (by decide) ?_
      refine V.top hm ?_
      refine V.iconst C (x := 1) dX6_news_21 (by decide) ?_
      refine V.isub C dX6_news_22 ?_
      refine V.callSp C mo_X6_in sm_X6_in ml_RX6_84 (ev_X6_in _ _ _) dX6_news_23 rfl rfl (Nat.le_of_ble_eq_true rfl) (RmOk.mk' (by decide) (by decide) (by decide) (by decide)) ⟨rfl, rfl⟩ ?_
      refine V.ifb_eq C (tgt := 43) dX6_news_26 (by decide) (fun h26 => ?_) (fun h26 => absurd ((in_isN (by omega)).mp h26) hj)
      refine V.iconst C (x := -1) dX6_news_43 (by decide) ?_
      exact V.iret X dX6_news_44 rfl (by decide) (by decide) (pq (by unfold F_news; rw [ok1_t hi (by omega), hm, nI_clamp (show m < 2 ^ 31 by omega), ok1_f hj]))
  · skip
    refine V.ald_n C dX6_news_0 rfl ?_
    refine V.iconst C (x := 0) dX6_news_1 (by decide) ?_
    refine V.put C fl_RX6_77 dX6_news_2 hM.1 ⟨rfl, rfl⟩ (Nat.le_of_ble_eq_true rfl) (fun h => by cases h) (set_same hM.1) ?_
    refine V.ald_n C dX6_news_5 rfl ?_
    refine V.ild_n C dX6_news_6 rfl ?_
    refine V.callVp C mo_X6_isBeing im_X6_isBeing se_X6_isBeing ml_RX6_123 (ev_X6_isBeing hM hI _) dX6_news_7 rfl rfl hM.1 rfl rfl (Nat.le_of_ble_eq_true rfl) (RmOk.mk' (by decide) (by decide) (by decide) (by decide)) ⟨rfl, rfl⟩ ?_
    refine V.ifb_eq C (tgt := 43) dX6_news_10 (by decide) (fun h10 => ?_) (fun h10 => absurd h10 hi)
    refine V.iconst C (x := -1) dX6_news_43 (by decide) ?_
    exact V.iret X dX6_news_44 rfl (by decide) (by decide) (pq (by unfold F_news; rw [ok1_f hi]))
theorem ev_X6_here {g : GD} {r d t b : Nat} {A : ST} {L : List AE} (hM : MR r d t b A L) (hI : Inv r d t b A) (x y z : Int32) : EvP g mX6_here [aR 23, aI x, aI y, aI z] L (some (aI (F_here d t b A x y z))) := by
  refine Ev.of [some (aR 23), some (aI x), some (aI y), some (aI z)] (by decide) rfl (Nat.le_of_ble_eq_true rfl) fun Z H0 C X => ?_
  have hN := hI.cn
  rcases isN_cases x b (by omega) with ⟨i, hi, rfl⟩ | hi
  · skip
    rcases isN_cases y 3 (by omega) with ⟨c, hc, rfl⟩ | hc
    · skip
      refine V.ald_n C dX6_here_0 rfl ?_
      refine V.iconst C (x := 0) dX6_here_1 (by decide) ?_
      refine V.put C fl_RX6_77 dX6_here_2 hM.1 ⟨rfl, rfl⟩ (Nat.le_of_ble_eq_true rfl) (fun h => by cases h) (set_same hM.1) ?_
      refine V.ald_n C dX6_here_5 rfl ?_
      refine V.ild_n C dX6_here_6 rfl ?_
      refine V.callVp C mo_X6_isBeing im_X6_isBeing se_X6_isBeing ml_RX6_123 (ev_X6_isBeing hM hI _) dX6_here_7 rfl rfl hM.1 rfl rfl (Nat.le_of_ble_eq_true rfl) (RmOk.mk' (by decide) (by decide) (by decide) (by decide)) ⟨rfl, rfl⟩ ?_
      refine V.ifb_eq C (tgt := 22) dX6_here_10 (by decide) (fun h10 => absurd (isN_nI (show i < b by omega) (by omega)) h10) (fun h10 => ?_)
      refine V.ild_n C dX6_here_13 rfl ?_
      refine V.iconst C (x := 0) dX6_here_14 (by decide) ?_
      refine V.iconst C (x := 2) dX6_here_15 (by decide) ?_
      refine V.callSp C mo_X6_in sm_X6_in ml_RX6_84 (ev_X6_in0 _ 3 (by decide)) dX6_here_16 rfl rfl (Nat.le_of_ble_eq_true rfl) (RmOk.mk' (by decide) (by decide) (by decide) (by decide)) ⟨rfl, rfl⟩ ?_
      refine V.ifb_ne C (tgt := 24) dX6_here_19 (by decide) (fun h19 => ?_) (fun h19 => absurd (isN_nI (show c < 3 by omega) (by omega)) h19)
      obtain rfl | rfl | rfl : c = 0 ∨ c = 1 ∨ c = 2 := by omega
      · skip
        rcases isN_cases z d (by omega) with ⟨j, hj, rfl⟩ | hj
        · skip
          refine V.ild_n C dX6_here_24 rfl ?_
          refine V.if_ne C (tgt := 51) dX6_here_25 (by decide) (fun h25 => absurd h25 (by decide)) (fun h25 => ?_)
          refine V.ald_n C dX6_here_28 rfl ?_
          refine V.ild_n C dX6_here_29 rfl ?_
          refine V.callVp C mo_X6_isDoor im_X6_isDoor se_X6_isDoor ml_RX6_101 (ev_X6_isDoor hM hI _) dX6_here_30 rfl rfl hM.1 rfl rfl (Nat.le_of_ble_eq_true rfl) (RmOk.mk' (by decide) (by decide) (by decide) (by decide)) ⟨rfl, rfl⟩ ?_
          refine V.ifb_eq C (tgt := 49) dX6_here_33 (by decide) (fun h33 => absurd (isN_nI (show j < d by omega) (by omega)) h33) (fun h33 => ?_)
          refine V.ald_n C dX6_here_36 rfl ?_
          refine V.ild_n C dX6_here_37 rfl ?_
          refine V.ild_n C dX6_here_38 rfl ?_
          refine V.callVp C mo_X6_hasDoor im_X6_hasDoor se_X6_hasDoor ml_RX6_126 (ev_X6_hasDoor hM hI (by omega) (by omega)) dX6_here_39 rfl rfl hM.1 rfl rfl (Nat.le_of_ble_eq_true rfl) (RmOk.mk' (by decide) (by decide) (by decide) (by decide)) ⟨rfl, rfl⟩ ?_
          refine V.ifb_eq C (tgt := 49) dX6_here_42 (by decide) (fun h42 => ?_) (fun h42 => ?_)
          · skip
            refine V.iconst C (x := 0) dX6_here_49 (by decide) ?_
            exact V.iret X dX6_here_50 rfl (by decide) (by decide) (pq (by unfold F_here; rw [ok1_t hi (by omega), ok1_t hc (by omega)]; unfold hrP; rw [cI_t rfl, ok1_t hj (by omega), b2_f h42]))
          · skip
            refine V.iconst C (x := 1) dX6_here_45 (by decide) ?_
            refine V.goto C (tgt := 50) dX6_here_46 (by decide) ?_
            exact V.iret X dX6_here_50 rfl (by decide) (by decide) (pq (by unfold F_here; rw [ok1_t hi (by omega), ok1_t hc (by omega)]; unfold hrP; rw [cI_t rfl, ok1_t hj (by omega), b2_t h42]))
        · skip
          refine V.ild_n C dX6_here_24 rfl ?_
          refine V.if_ne C (tgt := 51) dX6_here_25 (by decide) (fun h25 => absurd h25 (by decide)) (fun h25 => ?_)
          refine V.ald_n C dX6_here_28 rfl ?_
          refine V.ild_n C dX6_here_29 rfl ?_
          refine V.callVp C mo_X6_isDoor im_X6_isDoor se_X6_isDoor ml_RX6_101 (ev_X6_isDoor hM hI _) dX6_here_30 rfl rfl hM.1 rfl rfl (Nat.le_of_ble_eq_true rfl) (RmOk.mk' (by decide) (by decide) (by decide) (by decide)) ⟨rfl, rfl⟩ ?_
          refine V.ifb_eq C (tgt := 49) dX6_here_33 (by decide) (fun h33 => ?_) (fun h33 => absurd h33 hj)
          refine V.iconst C (x := 0) dX6_here_49 (by decide) ?_
          exact V.iret X dX6_here_50 rfl (by decide) (by decide) (pq (by unfold F_here; rw [ok1_t hi (by omega), ok1_t hc (by omega)]; unfold hrP; rw [cI_t rfl, ok1_f hj]))
      · skip
        rcases isN_cases z t (by omega) with ⟨j, hj, rfl⟩ | hj
        · skip
          refine V.ild_n C dX6_here_24 rfl ?_
          refine V.if_ne C (tgt := 51) dX6_here_25 (by decide) (fun h25 => ?_) (fun h25 => absurd h25 (by decide))
          refine V.ild_n C dX6_here_51 rfl ?_
          refine V.iconst C (x := 1) dX6_here_52 (by decide) ?_
          refine V.icmp_ne C (tgt := 79) dX6_here_53 (by decide) (fun h53 => absurd h53 (by decide)) (fun h53 => ?_)
          refine V.ald_n C dX6_here_56 rfl ?_
          refine V.ild_n C dX6_here_57 rfl ?_
          refine V.callVp C mo_X6_isThing im_X6_isThing se_X6_isThing ml_RX6_111 (ev_X6_isThing hM hI _) dX6_here_58 rfl rfl hM.1 rfl rfl (Nat.le_of_ble_eq_true rfl) (RmOk.mk' (by decide) (by decide) (by decide) (by decide)) ⟨rfl, rfl⟩ ?_
          refine V.ifb_eq C (tgt := 77) dX6_here_61 (by decide) (fun h61 => absurd (isN_nI (show j < t by omega) (by omega)) h61) (fun h61 => ?_)
          refine V.ald_n C dX6_here_64 rfl ?_
          refine V.ild_n C dX6_here_65 rfl ?_
          refine V.ild_n C dX6_here_66 rfl ?_
          refine V.callVp C mo_X6_hasThing im_X6_hasThing se_X6_hasThing ml_RX6_129 (ev_X6_hasThing hM hI (by omega) (by omega)) dX6_here_67 rfl rfl hM.1 rfl rfl (Nat.le_of_ble_eq_true rfl) (RmOk.mk' (by decide) (by decide) (by decide) (by decide)) ⟨rfl, rfl⟩ ?_
          refine V.ifb_eq C (tgt := 77) dX6_here_70 (by decide) (fun h70 => ?_) (fun h70 => ?_)
          · skip
            refine V.iconst C (x := 0) dX6_here_77 (by decide) ?_
            exact V.iret X dX6_here_78 rfl (by decide) (by decide) (pq (by unfold F_here; rw [ok1_t hi (by omega), ok1_t hc (by omega)]; unfold hrP; rw [cI_f (by decide), cI_t rfl, ok1_t hj (by omega), b2_f h70]))
          · skip
            refine V.iconst C (x := 1) dX6_here_73 (by decide) ?_
            refine V.goto C (tgt := 78) dX6_here_74 (by decide) ?_
            exact V.iret X dX6_here_78 rfl (by decide) (by decide) (pq (by unfold F_here; rw [ok1_t hi (by omega), ok1_t hc (by omega)]; unfold hrP; rw [cI_f (by decide), cI_t rfl, ok1_t hj (by omega), b2_t h70]))
        · skip
          refine V.ild_n C dX6_here_24 rfl ?_
          refine V.if_ne C (tgt := 51) dX6_here_25 (by decide) (fun h25 => ?_) (fun h25 => absurd h25 (by decide))
          refine V.ild_n C dX6_here_51 rfl ?_
          refine V.iconst C (x := 1) dX6_here_52 (by decide) ?_
          refine V.icmp_ne C (tgt := 79) dX6_here_53 (by decide) (fun h53 => absurd h53 (by decide)) (fun h53 => ?_)
          refine V.ald_n C dX6_here_56 rfl ?_
          refine V.ild_n C dX6_here_57 rfl ?_
          refine V.callVp C mo_X6_isThing im_X6_isThing se_X6_isThing ml_RX6_111 (ev_X6_isThing hM hI _) dX6_here_58 rfl rfl hM.1 rfl rfl (Nat.le_of_ble_eq_true rfl) (RmOk.mk' (by decide) (by decide) (by decide) (by decide)) ⟨rfl, rfl⟩ ?_
          refine V.ifb_eq C (tgt := 77) dX6_here_61 (by decide) (fun h61 => ?_) (fun h61 => absurd h61 hj)
          refine V.iconst C (x := 0) dX6_here_77 (by decide) ?_
          exact V.iret X dX6_here_78 rfl (by decide) (by decide) (pq (by unfold F_here; rw [ok1_t hi (by omega), ok1_t hc (by omega)]; unfold hrP; rw [cI_f (by decide), cI_t rfl, ok1_f hj]))
      · skip
        rcases isN_cases z b (by omega) with ⟨j, hj, rfl⟩ | hj
        · skip
          refine V.ild_n C dX6_here_24 rfl ?_
          refine V.if_ne C (tgt := 51) dX6_here_25 (by decide) (fun h25 => ?_) (fun h25 => absurd h25 (by decide))
          refine V.ild_n C dX6_here_51 rfl ?_
          refine V.iconst C (x := 1) dX6_here_52 (by decide) ?_
          refine V.icmp_ne C (tgt := 79) dX6_here_53 (by decide) (fun h53 => ?_) (fun h53 => absurd h53 (by decide))
          refine V.ald_n C dX6_here_79 rfl ?_
          refine V.ild_n C dX6_here_80 rfl ?_
          refine V.callVp C mo_X6_isBeing im_X6_isBeing se_X6_isBeing ml_RX6_123 (ev_X6_isBeing hM hI _) dX6_here_81 rfl rfl hM.1 rfl rfl (Nat.le_of_ble_eq_true rfl) (RmOk.mk' (by decide) (by decide) (by decide) (by decide)) ⟨rfl, rfl⟩ ?_
          refine V.ifb_eq C (tgt := 132) dX6_here_84 (by decide) (fun h84 => absurd (isN_nI (show j < b by omega) (by omega)) h84) (fun h84 => ?_)
          refine V.ald_n C dX6_here_87 rfl ?_
          refine V.ild_n C dX6_here_88 rfl ?_
          refine V.callVp C mo_X6_isShutIn im_X6_isShutIn se_X6_isShutIn ml_RX6_117 (ev_X6_isShutIn hM hI (by omega)) dX6_here_89 rfl rfl hM.1 rfl rfl (Nat.le_of_ble_eq_true rfl) (RmOk.mk' (by decide) (by decide) (by decide) (by decide)) ⟨rfl, rfl⟩ ?_
          refine V.ifb_eq C (tgt := 113) dX6_here_92 (by decide) (fun h92 => ?_) (fun h92 => ?_)
          · skip
            refine V.ald_n C dX6_here_113 rfl ?_
            refine V.get C fg_RX6_47 dX6_here_114 hM.1 rfl ?_
            refine V.ild_n C dX6_here_117 rfl ?_
            refine V.ialdN C (N := 6) dX6_here_118 (hM.2 17 (by decide)) (by omega) (by decide) ?_
            refine V.ald_n C dX6_here_119 rfl ?_
            refine V.get C fg_RX6_47 dX6_here_120 hM.1 rfl ?_
            refine V.ild_n C dX6_here_123 rfl ?_
            refine V.ialdN C (N := 6) dX6_here_124 (hM.2 17 (by decide)) (by omega) (by decide) ?_
            refine V.icmp_ne C (tgt := 132) dX6_here_125 (by decide) (fun h125 => ?_) (fun h125 => ?_)
            · skip
              refine V.iconst C (x := 0) dX6_here_132 (by decide) ?_
              exact V.iret X dX6_here_133 rfl (by decide) (by decide) (pq (by unfold F_here; rw [ok1_t hi (by omega), ok1_t hc (by omega)]; unfold hrP; rw [cI_f (by decide), cI_f (by decide), ok1_t hj (by omega), b2_f (fun q => q.elim (fun z => h92 z.1) (fun z => h125 z.2))]))
            · skip
              refine V.iconst C (x := 1) dX6_here_128 (by decide) ?_
              refine V.goto C (tgt := 133) dX6_here_129 (by decide) ?_
              exact V.iret X dX6_here_133 rfl (by decide) (by decide) (pq (by unfold F_here; rw [ok1_t hi (by omega), ok1_t hc (by omega)]; unfold hrP; rw [cI_f (by decide), cI_f (by decide), ok1_t hj (by omega), b2_t (Or.inr ⟨h92, h125⟩)]))
          · skip
            refine V.ald_n C dX6_here_95 rfl ?_
            refine V.get C fg_RX6_50 dX6_here_96 hM.1 rfl ?_
            refine V.ild_n C dX6_here_99 rfl ?_
            refine V.ialdN C (N := 6) dX6_here_100 (hM.2 18 (by decide)) (by omega) (by decide) ?_
            refine V.ald_n C dX6_here_101 rfl ?_
            refine V.get C fg_RX6_50 dX6_here_102 hM.1 rfl ?_
            refine V.ild_n C dX6_here_105 rfl ?_
            refine V.ialdN C (N := 6) dX6_here_106 (hM.2 18 (by decide)) (by omega) (by decide) ?_
            refine V.icmp_ne C (tgt := 132) dX6_here_107 (by decide) (fun h107 => ?_) (fun h107 => ?_)
            · skip
              refine V.iconst C (x := 0) dX6_here_132 (by decide) ?_
              exact V.iret X dX6_here_133 rfl (by decide) (by decide) (pq (by unfold F_here; rw [ok1_t hi (by omega), ok1_t hc (by omega)]; unfold hrP; rw [cI_f (by decide), cI_f (by decide), ok1_t hj (by omega), b2_f (fun q => q.elim (fun z => h107 z.2) (fun z => z.1 h92))]))
            · skip
              refine V.goto C (tgt := 128) dX6_here_110 (by decide) ?_
              refine V.iconst C (x := 1) dX6_here_128 (by decide) ?_
              refine V.goto C (tgt := 133) dX6_here_129 (by decide) ?_
              exact V.iret X dX6_here_133 rfl (by decide) (by decide) (pq (by unfold F_here; rw [ok1_t hi (by omega), ok1_t hc (by omega)]; unfold hrP; rw [cI_f (by decide), cI_f (by decide), ok1_t hj (by omega), b2_t (Or.inl ⟨h92, h107⟩)]))
        · skip
          refine V.ild_n C dX6_here_24 rfl ?_
          refine V.if_ne C (tgt := 51) dX6_here_25 (by decide) (fun h25 => ?_) (fun h25 => absurd h25 (by decide))
          refine V.ild_n C dX6_here_51 rfl ?_
          refine V.iconst C (x := 1) dX6_here_52 (by decide) ?_
          refine V.icmp_ne C (tgt := 79) dX6_here_53 (by decide) (fun h53 => ?_) (fun h53 => absurd h53 (by decide))
          refine V.ald_n C dX6_here_79 rfl ?_
          refine V.ild_n C dX6_here_80 rfl ?_
          refine V.callVp C mo_X6_isBeing im_X6_isBeing se_X6_isBeing ml_RX6_123 (ev_X6_isBeing hM hI _) dX6_here_81 rfl rfl hM.1 rfl rfl (Nat.le_of_ble_eq_true rfl) (RmOk.mk' (by decide) (by decide) (by decide) (by decide)) ⟨rfl, rfl⟩ ?_
          refine V.ifb_eq C (tgt := 132) dX6_here_84 (by decide) (fun h84 => ?_) (fun h84 => absurd h84 hj)
          refine V.iconst C (x := 0) dX6_here_132 (by decide) ?_
          exact V.iret X dX6_here_133 rfl (by decide) (by decide) (pq (by unfold F_here; rw [ok1_t hi (by omega), ok1_t hc (by omega)]; unfold hrP; rw [cI_f (by decide), cI_f (by decide), ok1_f hj]))
    · skip
      refine V.ald_n C dX6_here_0 rfl ?_
      refine V.iconst C (x := 0) dX6_here_1 (by decide) ?_
      refine V.put C fl_RX6_77 dX6_here_2 hM.1 ⟨rfl, rfl⟩ (Nat.le_of_ble_eq_true rfl) (fun h => by cases h) (set_same hM.1) ?_
      refine V.ald_n C dX6_here_5 rfl ?_
      refine V.ild_n C dX6_here_6 rfl ?_
      refine V.callVp C mo_X6_isBeing im_X6_isBeing se_X6_isBeing ml_RX6_123 (ev_X6_isBeing hM hI _) dX6_here_7 rfl rfl hM.1 rfl rfl (Nat.le_of_ble_eq_true rfl) (RmOk.mk' (by decide) (by decide) (by decide) (by decide)) ⟨rfl, rfl⟩ ?_
      refine V.ifb_eq C (tgt := 22) dX6_here_10 (by decide) (fun h10 => absurd (isN_nI (show i < b by omega) (by omega)) h10) (fun h10 => ?_)
      refine V.ild_n C dX6_here_13 rfl ?_
      refine V.iconst C (x := 0) dX6_here_14 (by decide) ?_
      refine V.iconst C (x := 2) dX6_here_15 (by decide) ?_
      refine V.callSp C mo_X6_in sm_X6_in ml_RX6_84 (ev_X6_in0 _ 3 (by decide)) dX6_here_16 rfl rfl (Nat.le_of_ble_eq_true rfl) (RmOk.mk' (by decide) (by decide) (by decide) (by decide)) ⟨rfl, rfl⟩ ?_
      refine V.ifb_ne C (tgt := 24) dX6_here_19 (by decide) (fun h19 => absurd h19 hc) (fun h19 => ?_)
      refine V.iconst C (x := 0) dX6_here_22 (by decide) ?_
      exact V.iret X dX6_here_23 rfl (by decide) (by decide) (pq (by unfold F_here; rw [ok1_t hi (by omega), ok1_f hc]))
  · skip
    refine V.ald_n C dX6_here_0 rfl ?_
    refine V.iconst C (x := 0) dX6_here_1 (by decide) ?_
    refine V.put C fl_RX6_77 dX6_here_2 hM.1 ⟨rfl, rfl⟩ (Nat.le_of_ble_eq_true rfl) (fun h => by cases h) (set_same hM.1) ?_
    refine V.ald_n C dX6_here_5 rfl ?_
    refine V.ild_n C dX6_here_6 rfl ?_
    refine V.callVp C mo_X6_isBeing im_X6_isBeing se_X6_isBeing ml_RX6_123 (ev_X6_isBeing hM hI _) dX6_here_7 rfl rfl hM.1 rfl rfl (Nat.le_of_ble_eq_true rfl) (RmOk.mk' (by decide) (by decide) (by decide) (by decide)) ⟨rfl, rfl⟩ ?_
    refine V.ifb_eq C (tgt := 22) dX6_here_10 (by decide) (fun h10 => ?_) (fun h10 => absurd h10 hi)
    refine V.iconst C (x := 0) dX6_here_22 (by decide) ?_
    exact V.iret X dX6_here_23 rfl (by decide) (by decide) (pq (by unfold F_here; rw [ok1_f hi]))
theorem ev_X6_count {g : GD} {r d t b : Nat} {A : ST} {L : List AE} (hM : MR r d t b A L) (hI : Inv r d t b A) (x : Int32) : EvP g mX6_count [aR 23, aI x] L (some (aI (F_count r d t b A x))) := by
  refine Ev.of [some (aR 23), some (aI x), none, none] (by decide) rfl (Nat.le_of_ble_eq_true rfl) fun Z H0 C X => ?_
  have hN := hI.cn
  rcases isN_cases x 6 (by omega) with ⟨c, hc, rfl⟩ | hc
  · skip
    refine V.ald_n C dX6_count_0 rfl ?_
    refine V.iconst C (x := 0) dX6_count_1 (by decide) ?_
    refine V.put C fl_RX6_77 dX6_count_2 hM.1 ⟨rfl, rfl⟩ (Nat.le_of_ble_eq_true rfl) (fun h => by cases h) (set_same hM.1) ?_
    refine V.ild_n C dX6_count_5 rfl ?_
    refine V.iconst C (x := 0) dX6_count_6 (by decide) ?_
    refine V.iconst C (x := 5) dX6_count_7 (by decide) ?_
    refine V.callSp C mo_X6_in sm_X6_in ml_RX6_84 (ev_X6_in0 _ 6 (by decide)) dX6_count_8 rfl rfl (Nat.le_of_ble_eq_true rfl) (RmOk.mk' (by decide) (by decide) (by decide) (by decide)) ⟨rfl, rfl⟩ ?_
    refine V.ifb_ne C (tgt := 16) dX6_count_11 (by decide) (fun h11 => ?_) (fun h11 => absurd (isN_nI (show c < 6 by omega) (by omega)) h11)
    obtain rfl | rfl | rfl | rfl | rfl | rfl : c = 0 ∨ c = 1 ∨ c = 2 ∨ c = 3 ∨ c = 4 ∨ c = 5 := by omega
    · skip
      refine V.iconst C (x := 0) dX6_count_16 (by decide) ?_
      refine V.ist_n C dX6_count_17 (Nat.le_of_ble_eq_true rfl) rfl ?_
      refine V.iconst C (x := 0) dX6_count_18 (by decide) ?_
      refine V.ist_n C dX6_count_19 (Nat.le_of_ble_eq_true rfl) rfl ?_
      refine V.ild_n C dX6_count_20 rfl ?_
      refine V.bipush C (x := 8) dX6_count_21 (by decide) ?_
      refine V.ald_n C dX6_count_23 rfl ?_
      refine V.get C fg_RX6_81 dX6_count_24 hM.1 rfl ?_
      refine V.imul C dX6_count_27 ?_
      refine V.top (pk_mul 8 r) ?_
      refine V.icmpN_ge C (0) (8 * r) (tgt := 83) dX6_count_28 (by decide) (by omega) (by omega) (fun h28 => ?_) (fun h28 => ?_)
      · skip
        refine V.ild_n C dX6_count_83 rfl ?_
        refine V.if_ne C (tgt := 94) dX6_count_84 (by decide) (fun h84 => absurd h84 (by decide)) (fun h84 => ?_)
        refine V.ald_n C dX6_count_87 rfl ?_
        refine V.get C fg_RX6_81 dX6_count_88 hM.1 rfl ?_
        refine V.goto C (tgt := 131) dX6_count_91 (by decide) ?_
        exact V.iret X dX6_count_131 rfl (by decide) (by decide) (pq (by unfold F_count; rw [ok1_t hc (by omega)]; unfold ctI; rw [cI_t rfl]))
      · skip
        refine V.ild_n C dX6_count_31 rfl ?_
        refine V.iconst C (x := 3) dX6_count_32 (by decide) ?_
        refine V.icmp_le C (tgt := 83) dX6_count_33 (by decide) (fun h33 => ?_) (fun h33 => absurd h33 (by decide))
        refine V.ild_n C dX6_count_83 rfl ?_
        refine V.if_ne C (tgt := 94) dX6_count_84 (by decide) (fun h84 => absurd h84 (by decide)) (fun h84 => ?_)
        refine V.ald_n C dX6_count_87 rfl ?_
        refine V.get C fg_RX6_81 dX6_count_88 hM.1 rfl ?_
        refine V.goto C (tgt := 131) dX6_count_91 (by decide) ?_
        exact V.iret X dX6_count_131 rfl (by decide) (by decide) (pq (by unfold F_count; rw [ok1_t hc (by omega)]; unfold ctI; rw [cI_t rfl]))
    · skip
      refine V.iconst C (x := 0) dX6_count_16 (by decide) ?_
      refine V.ist_n C dX6_count_17 (Nat.le_of_ble_eq_true rfl) rfl ?_
      refine V.iconst C (x := 0) dX6_count_18 (by decide) ?_
      refine V.ist_n C dX6_count_19 (Nat.le_of_ble_eq_true rfl) rfl ?_
      refine V.ild_n C dX6_count_20 rfl ?_
      refine V.bipush C (x := 8) dX6_count_21 (by decide) ?_
      refine V.ald_n C dX6_count_23 rfl ?_
      refine V.get C fg_RX6_81 dX6_count_24 hM.1 rfl ?_
      refine V.imul C dX6_count_27 ?_
      refine V.top (pk_mul 8 r) ?_
      refine V.icmpN_ge C (0) (8 * r) (tgt := 83) dX6_count_28 (by decide) (by omega) (by omega) (fun h28 => ?_) (fun h28 => ?_)
      · skip
        refine V.ild_n C dX6_count_83 rfl ?_
        refine V.if_ne C (tgt := 94) dX6_count_84 (by decide) (fun h84 => ?_) (fun h84 => absurd h84 (by decide))
        refine V.ild_n C dX6_count_94 rfl ?_
        refine V.iconst C (x := 1) dX6_count_95 (by decide) ?_
        refine V.icmp_ne C (tgt := 106) dX6_count_96 (by decide) (fun h96 => absurd h96 (by decide)) (fun h96 => ?_)
        refine V.ald_n C dX6_count_99 rfl ?_
        refine V.get C fg_RX6_88 dX6_count_100 hM.1 rfl ?_
        refine V.goto C (tgt := 131) dX6_count_103 (by decide) ?_
        exact V.iret X dX6_count_131 rfl (by decide) (by decide) (pq (by unfold F_count; rw [ok1_t hc (by omega)]; unfold ctI; rw [cI_f (by decide), cI_t rfl]))
      · skip
        refine V.ild_n C dX6_count_31 rfl ?_
        refine V.iconst C (x := 3) dX6_count_32 (by decide) ?_
        refine V.icmp_le C (tgt := 83) dX6_count_33 (by decide) (fun h33 => ?_) (fun h33 => absurd h33 (by decide))
        refine V.ild_n C dX6_count_83 rfl ?_
        refine V.if_ne C (tgt := 94) dX6_count_84 (by decide) (fun h84 => ?_) (fun h84 => absurd h84 (by decide))
        refine V.ild_n C dX6_count_94 rfl ?_
        refine V.iconst C (x := 1) dX6_count_95 (by decide) ?_
        refine V.icmp_ne C (tgt := 106) dX6_count_96 (by decide) (fun h96 => absurd h96 (by decide)) (fun h96 => ?_)
        refine V.ald_n C dX6_count_99 rfl ?_
        refine V.get C fg_RX6_88 dX6_count_100 hM.1 rfl ?_
        refine V.goto C (tgt := 131) dX6_count_103 (by decide) ?_
        exact V.iret X dX6_count_131 rfl (by decide) (by decide) (pq (by unfold F_count; rw [ok1_t hc (by omega)]; unfold ctI; rw [cI_f (by decide), cI_t rfl]))
    · skip
      refine V.iconst C (x := 0) dX6_count_16 (by decide) ?_
      refine V.ist_n C dX6_count_17 (Nat.le_of_ble_eq_true rfl) rfl ?_
      refine V.iconst C (x := 0) dX6_count_18 (by decide) ?_
      refine V.ist_n C dX6_count_19 (Nat.le_of_ble_eq_true rfl) rfl ?_
      refine V.ild_n C dX6_count_20 rfl ?_
      refine V.bipush C (x := 8) dX6_count_21 (by decide) ?_
      refine V.ald_n C dX6_count_23 rfl ?_
      refine V.get C fg_RX6_81 dX6_count_24 hM.1 rfl ?_
      refine V.imul C dX6_count_27 ?_
      refine V.top (pk_mul 8 r) ?_
      refine V.icmpN_ge C (0) (8 * r) (tgt := 83) dX6_count_28 (by decide) (by omega) (by omega) (fun h28 => ?_) (fun h28 => ?_)
      · skip
        refine V.ild_n C dX6_count_83 rfl ?_
        refine V.if_ne C (tgt := 94) dX6_count_84 (by decide) (fun h84 => ?_) (fun h84 => absurd h84 (by decide))
        refine V.ild_n C dX6_count_94 rfl ?_
        refine V.iconst C (x := 1) dX6_count_95 (by decide) ?_
        refine V.icmp_ne C (tgt := 106) dX6_count_96 (by decide) (fun h96 => ?_) (fun h96 => absurd h96 (by decide))
        refine V.ild_n C dX6_count_106 rfl ?_
        refine V.iconst C (x := 2) dX6_count_107 (by decide) ?_
        refine V.icmp_ne C (tgt := 118) dX6_count_108 (by decide) (fun h108 => absurd h108 (by decide)) (fun h108 => ?_)
        refine V.ald_n C dX6_count_111 rfl ?_
        refine V.get C fg_RX6_91 dX6_count_112 hM.1 rfl ?_
        refine V.goto C (tgt := 131) dX6_count_115 (by decide) ?_
        exact V.iret X dX6_count_131 rfl (by decide) (by decide) (pq (by unfold F_count; rw [ok1_t hc (by omega)]; unfold ctI; rw [cI_f (by decide), cI_f (by decide), cI_t rfl]))
      · skip
        refine V.ild_n C dX6_count_31 rfl ?_
        refine V.iconst C (x := 3) dX6_count_32 (by decide) ?_
        refine V.icmp_le C (tgt := 83) dX6_count_33 (by decide) (fun h33 => ?_) (fun h33 => absurd h33 (by decide))
        refine V.ild_n C dX6_count_83 rfl ?_
        refine V.if_ne C (tgt := 94) dX6_count_84 (by decide) (fun h84 => ?_) (fun h84 => absurd h84 (by decide))
        refine V.ild_n C dX6_count_94 rfl ?_
        refine V.iconst C (x := 1) dX6_count_95 (by decide) ?_
        refine V.icmp_ne C (tgt := 106) dX6_count_96 (by decide) (fun h96 => ?_) (fun h96 => absurd h96 (by decide))
        refine V.ild_n C dX6_count_106 rfl ?_
        refine V.iconst C (x := 2) dX6_count_107 (by decide) ?_
        refine V.icmp_ne C (tgt := 118) dX6_count_108 (by decide) (fun h108 => absurd h108 (by decide)) (fun h108 => ?_)
        refine V.ald_n C dX6_count_111 rfl ?_
        refine V.get C fg_RX6_91 dX6_count_112 hM.1 rfl ?_
        refine V.goto C (tgt := 131) dX6_count_115 (by decide) ?_
        exact V.iret X dX6_count_131 rfl (by decide) (by decide) (pq (by unfold F_count; rw [ok1_t hc (by omega)]; unfold ctI; rw [cI_f (by decide), cI_f (by decide), cI_t rfl]))
    · skip
      refine V.iconst C (x := 0) dX6_count_16 (by decide) ?_
      refine V.ist_n C dX6_count_17 (Nat.le_of_ble_eq_true rfl) rfl ?_
      refine V.iconst C (x := 0) dX6_count_18 (by decide) ?_
      refine V.ist_n C dX6_count_19 (Nat.le_of_ble_eq_true rfl) rfl ?_
      refine V.ild_n C dX6_count_20 rfl ?_
      refine V.bipush C (x := 8) dX6_count_21 (by decide) ?_
      refine V.ald_n C dX6_count_23 rfl ?_
      refine V.get C fg_RX6_81 dX6_count_24 hM.1 rfl ?_
      refine V.imul C dX6_count_27 ?_
      refine V.top (pk_mul 8 r) ?_
      refine V.icmpN_ge C (0) (8 * r) (tgt := 83) dX6_count_28 (by decide) (by omega) (by omega) (fun h28 => ?_) (fun h28 => ?_)
      · skip
        refine V.ild_n C dX6_count_83 rfl ?_
        refine V.if_ne C (tgt := 94) dX6_count_84 (by decide) (fun h84 => ?_) (fun h84 => absurd h84 (by decide))
        refine V.ild_n C dX6_count_94 rfl ?_
        refine V.iconst C (x := 1) dX6_count_95 (by decide) ?_
        refine V.icmp_ne C (tgt := 106) dX6_count_96 (by decide) (fun h96 => ?_) (fun h96 => absurd h96 (by decide))
        refine V.ild_n C dX6_count_106 rfl ?_
        refine V.iconst C (x := 2) dX6_count_107 (by decide) ?_
        refine V.icmp_ne C (tgt := 118) dX6_count_108 (by decide) (fun h108 => ?_) (fun h108 => absurd h108 (by decide))
        refine V.ild_n C dX6_count_118 rfl ?_
        refine V.iconst C (x := 3) dX6_count_119 (by decide) ?_
        refine V.icmp_ne C (tgt := 130) dX6_count_120 (by decide) (fun h120 => absurd h120 (by decide)) (fun h120 => ?_)
        refine V.ald_n C dX6_count_123 rfl ?_
        refine V.get C fg_RX6_94 dX6_count_124 hM.1 rfl ?_
        refine V.goto C (tgt := 131) dX6_count_127 (by decide) ?_
        exact V.iret X dX6_count_131 rfl (by decide) (by decide) (pq (by unfold F_count; rw [ok1_t hc (by omega)]; unfold ctI; rw [cI_f (by decide), cI_f (by decide), cI_f (by decide), cI_t rfl]))
      · skip
        refine V.ild_n C dX6_count_31 rfl ?_
        refine V.iconst C (x := 3) dX6_count_32 (by decide) ?_
        refine V.icmp_le C (tgt := 83) dX6_count_33 (by decide) (fun h33 => ?_) (fun h33 => absurd h33 (by decide))
        refine V.ild_n C dX6_count_83 rfl ?_
        refine V.if_ne C (tgt := 94) dX6_count_84 (by decide) (fun h84 => ?_) (fun h84 => absurd h84 (by decide))
        refine V.ild_n C dX6_count_94 rfl ?_
        refine V.iconst C (x := 1) dX6_count_95 (by decide) ?_
        refine V.icmp_ne C (tgt := 106) dX6_count_96 (by decide) (fun h96 => ?_) (fun h96 => absurd h96 (by decide))
        refine V.ild_n C dX6_count_106 rfl ?_
        refine V.iconst C (x := 2) dX6_count_107 (by decide) ?_
        refine V.icmp_ne C (tgt := 118) dX6_count_108 (by decide) (fun h108 => ?_) (fun h108 => absurd h108 (by decide))
        refine V.ild_n C dX6_count_118 rfl ?_
        refine V.iconst C (x := 3) dX6_count_119 (by decide) ?_
        refine V.icmp_ne C (tgt := 130) dX6_count_120 (by decide) (fun h120 => absurd h120 (by decide)) (fun h120 => ?_)
        refine V.ald_n C dX6_count_123 rfl ?_
        refine V.get C fg_RX6_94 dX6_count_124 hM.1 rfl ?_
        refine V.goto C (tgt := 131) dX6_count_127 (by decide) ?_
        exact V.iret X dX6_count_131 rfl (by decide) (by decide) (pq (by unfold F_count; rw [ok1_t hc (by omega)]; unfold ctI; rw [cI_f (by decide), cI_f (by decide), cI_f (by decide), cI_t rfl]))
    · skip
      refine V.iconst C (x := 0) dX6_count_16 (by decide) ?_
      refine V.ist_n C dX6_count_17 (Nat.le_of_ble_eq_true rfl) rfl ?_
      refine V.iconst C (x := 0) dX6_count_18 (by decide) ?_
      refine V.ist_n C dX6_count_19 (Nat.le_of_ble_eq_true rfl) rfl ?_
      have key20 : ∀ (n : Nat) (k : Nat), k ≤ 8 * r → 8 * r - k < n → V g Z H0 4 L 0 0 20 [some (aR 23), some (aI (nI 4)), some (aI (nI (cnt (cw4 A) k))), some (aI (nI k))] [] := by
        intro n
        induction n with
        | zero => intro k h1 h2; exact absurd h2 (by omega)
        | succ n ih =>
          intro k h1 h2
          refine V.ild_n C dX6_count_20 rfl ?_
          refine V.bipush C (x := 8) dX6_count_21 (by decide) ?_
          refine V.ald_n C dX6_count_23 rfl ?_
          refine V.get C fg_RX6_81 dX6_count_24 hM.1 rfl ?_
          refine V.imul C dX6_count_27 ?_
          refine V.top (pk_mul 8 r) ?_
          refine V.icmpN_ge C (k) (8 * r) (tgt := 83) dX6_count_28 (by decide) (by omega) (by omega) (fun h28 => ?_) (fun h28 => ?_)
          · skip
            refine V.ild_n C dX6_count_83 rfl ?_
            refine V.if_ne C (tgt := 94) dX6_count_84 (by decide) (fun h84 => ?_) (fun h84 => absurd h84 (by decide))
            refine V.ild_n C dX6_count_94 rfl ?_
            refine V.iconst C (x := 1) dX6_count_95 (by decide) ?_
            refine V.icmp_ne C (tgt := 106) dX6_count_96 (by decide) (fun h96 => ?_) (fun h96 => absurd h96 (by decide))
            refine V.ild_n C dX6_count_106 rfl ?_
            refine V.iconst C (x := 2) dX6_count_107 (by decide) ?_
            refine V.icmp_ne C (tgt := 118) dX6_count_108 (by decide) (fun h108 => ?_) (fun h108 => absurd h108 (by decide))
            refine V.ild_n C dX6_count_118 rfl ?_
            refine V.iconst C (x := 3) dX6_count_119 (by decide) ?_
            refine V.icmp_ne C (tgt := 130) dX6_count_120 (by decide) (fun h120 => ?_) (fun h120 => absurd h120 (by decide))
            refine V.ild_n C dX6_count_130 rfl ?_
            exact V.iret X dX6_count_131 rfl (by decide) (by decide) (pq (by unfold F_count; rw [ok1_t hc (by omega)]; unfold ctI; rw [cI_f (by decide), cI_f (by decide), cI_f (by decide), cI_f (by decide), cI_t rfl, show k = 8 * r by omega]))
          · skip
            refine V.ild_n C dX6_count_31 rfl ?_
            refine V.iconst C (x := 3) dX6_count_32 (by decide) ?_
            refine V.icmp_le C (tgt := 83) dX6_count_33 (by decide) (fun h33 => absurd h33 (by decide)) (fun h33 => ?_)
            refine V.ild_n C dX6_count_36 rfl ?_
            refine V.ild_n C dX6_count_37 rfl ?_
            refine V.iconst C (x := 4) dX6_count_38 (by decide) ?_
            refine V.icmp_ne C (tgt := 55) dX6_count_39 (by decide) (fun h39 => absurd h39 (by decide)) (fun h39 => ?_)
            refine V.ald_n C dX6_count_42 rfl ?_
            refine V.get C fg_RX6_7 dX6_count_43 hM.1 rfl ?_
            refine V.ild_n C dX6_count_46 rfl ?_
            refine V.ialdN C (N := 160) dX6_count_47 (hM.2 2 (by decide)) (by omega) (by decide) ?_
            refine V.iconst C (x := -1) dX6_count_48 (by decide) ?_
            refine V.icmp_eq C (tgt := 74) dX6_count_49 (by decide) (fun h49 => ?_) (fun h49 => ?_)
            · skip
              refine V.iconst C (x := 0) dX6_count_74 (by decide) ?_
              refine V.iadd C dX6_count_75 ?_
              refine V.top (cnt_f (P := cw4 A) (fun q => q h49)) ?_
              refine V.ist_n C dX6_count_76 (Nat.le_of_ble_eq_true rfl) rfl ?_
              refine V.iinc C (y := nI (k + 1)) dX6_count_77 rfl (nI_1 k) rfl ?_
              refine V.goto C (tgt := 20) dX6_count_80 (by decide) ?_
              exact ih (k + 1) (by omega) (by omega)
            · skip
              refine V.goto C (tgt := 70) dX6_count_52 (by decide) ?_
              refine V.iconst C (x := 1) dX6_count_70 (by decide) ?_
              refine V.goto C (tgt := 75) dX6_count_71 (by decide) ?_
              refine V.iadd C dX6_count_75 ?_
              refine V.top (cnt_t (P := cw4 A) h49) ?_
              refine V.ist_n C dX6_count_76 (Nat.le_of_ble_eq_true rfl) rfl ?_
              refine V.iinc C (y := nI (k + 1)) dX6_count_77 rfl (nI_1 k) rfl ?_
              refine V.goto C (tgt := 20) dX6_count_80 (by decide) ?_
              exact ih (k + 1) (by omega) (by omega)
      exact key20 (8 * r + 1) 0 (by omega) (by omega)
    · skip
      refine V.iconst C (x := 0) dX6_count_16 (by decide) ?_
      refine V.ist_n C dX6_count_17 (Nat.le_of_ble_eq_true rfl) rfl ?_
      refine V.iconst C (x := 0) dX6_count_18 (by decide) ?_
      refine V.ist_n C dX6_count_19 (Nat.le_of_ble_eq_true rfl) rfl ?_
      have key20 : ∀ (n : Nat) (k : Nat), k ≤ 8 * r → 8 * r - k < n → V g Z H0 4 L 0 0 20 [some (aR 23), some (aI (nI 5)), some (aI (nI (cnt (cw5 A) k))), some (aI (nI k))] [] := by
        intro n
        induction n with
        | zero => intro k h1 h2; exact absurd h2 (by omega)
        | succ n ih =>
          intro k h1 h2
          refine V.ild_n C dX6_count_20 rfl ?_
          refine V.bipush C (x := 8) dX6_count_21 (by decide) ?_
          refine V.ald_n C dX6_count_23 rfl ?_
          refine V.get C fg_RX6_81 dX6_count_24 hM.1 rfl ?_
          refine V.imul C dX6_count_27 ?_
          refine V.top (pk_mul 8 r) ?_
          refine V.icmpN_ge C (k) (8 * r) (tgt := 83) dX6_count_28 (by decide) (by omega) (by omega) (fun h28 => ?_) (fun h28 => ?_)
          · skip
            refine V.ild_n C dX6_count_83 rfl ?_
            refine V.if_ne C (tgt := 94) dX6_count_84 (by decide) (fun h84 => ?_) (fun h84 => absurd h84 (by decide))
            refine V.ild_n C dX6_count_94 rfl ?_
            refine V.iconst C (x := 1) dX6_count_95 (by decide) ?_
            refine V.icmp_ne C (tgt := 106) dX6_count_96 (by decide) (fun h96 => ?_) (fun h96 => absurd h96 (by decide))
            refine V.ild_n C dX6_count_106 rfl ?_
            refine V.iconst C (x := 2) dX6_count_107 (by decide) ?_
            refine V.icmp_ne C (tgt := 118) dX6_count_108 (by decide) (fun h108 => ?_) (fun h108 => absurd h108 (by decide))
            refine V.ild_n C dX6_count_118 rfl ?_
            refine V.iconst C (x := 3) dX6_count_119 (by decide) ?_
            refine V.icmp_ne C (tgt := 130) dX6_count_120 (by decide) (fun h120 => ?_) (fun h120 => absurd h120 (by decide))
            refine V.ild_n C dX6_count_130 rfl ?_
            exact V.iret X dX6_count_131 rfl (by decide) (by decide) (pq (by unfold F_count; rw [ok1_t hc (by omega)]; unfold ctI; rw [cI_f (by decide), cI_f (by decide), cI_f (by decide), cI_f (by decide), cI_f (by decide), show k = 8 * r by omega]))
          · skip
            refine V.ild_n C dX6_count_31 rfl ?_
            refine V.iconst C (x := 3) dX6_count_32 (by decide) ?_
            refine V.icmp_le C (tgt := 83) dX6_count_33 (by decide) (fun h33 => absurd h33 (by decide)) (fun h33 => ?_)
            refine V.ild_n C dX6_count_36 rfl ?_
            refine V.ild_n C dX6_count_37 rfl ?_
            refine V.iconst C (x := 4) dX6_count_38 (by decide) ?_
            refine V.icmp_ne C (tgt := 55) dX6_count_39 (by decide) (fun h39 => ?_) (fun h39 => absurd h39 (by decide))
            rcases ldT_ok hI (show k / 8 < r by omega) (show k % 8 < 8 by omega) with hl | ⟨x, hx, hl⟩
            · skip
              refine V.ald_n C dX6_count_55 rfl ?_
              refine V.ild_n C dX6_count_56 rfl ?_
              refine V.bipush C (x := 8) dX6_count_57 (by decide) ?_
              refine V.idiv C dX6_count_59 (by decide) ?_
              refine V.top (pk_div (a := k) (d := 8) (by omega) (by omega) (by omega)) ?_
              refine V.ild_n C dX6_count_60 rfl ?_
              refine V.bipush C (x := 8) dX6_count_61 (by decide) ?_
              refine V.irem C dX6_count_63 (by decide) ?_
              refine V.top (pk_rem (a := k) (d := 8) (by omega) (by omega) (by omega)) ?_
              refine V.callVp C mo_X6_leadsTo im_X6_leadsTo se_X6_leadsTo ml_RX6_150 (ev_X6_leadsTo hM hI (by omega) (by omega)) dX6_count_64 rfl rfl hM.1 rfl rfl (Nat.le_of_ble_eq_true rfl) (RmOk.mk' (by decide) (by decide) (by decide) (by decide)) ⟨rfl, rfl⟩ ?_
              refine V.top hl ?_
              refine V.if_lt C (tgt := 74) dX6_count_67 (by decide) (fun h67 => ?_) (fun h67 => absurd h67 (by decide))
              refine V.iconst C (x := 0) dX6_count_74 (by decide) ?_
              refine V.iadd C dX6_count_75 ?_
              refine V.top (cnt_f (P := cw5 A) (fun q => q hl)) ?_
              refine V.ist_n C dX6_count_76 (Nat.le_of_ble_eq_true rfl) rfl ?_
              refine V.iinc C (y := nI (k + 1)) dX6_count_77 rfl (nI_1 k) rfl ?_
              refine V.goto C (tgt := 20) dX6_count_80 (by decide) ?_
              exact ih (k + 1) (by omega) (by omega)
            · skip
              refine V.ald_n C dX6_count_55 rfl ?_
              refine V.ild_n C dX6_count_56 rfl ?_
              refine V.bipush C (x := 8) dX6_count_57 (by decide) ?_
              refine V.idiv C dX6_count_59 (by decide) ?_
              refine V.top (pk_div (a := k) (d := 8) (by omega) (by omega) (by omega)) ?_
              refine V.ild_n C dX6_count_60 rfl ?_
              refine V.bipush C (x := 8) dX6_count_61 (by decide) ?_
              refine V.irem C dX6_count_63 (by decide) ?_
              refine V.top (pk_rem (a := k) (d := 8) (by omega) (by omega) (by omega)) ?_
              refine V.callVp C mo_X6_leadsTo im_X6_leadsTo se_X6_leadsTo ml_RX6_150 (ev_X6_leadsTo hM hI (by omega) (by omega)) dX6_count_64 rfl rfl hM.1 rfl rfl (Nat.le_of_ble_eq_true rfl) (RmOk.mk' (by decide) (by decide) (by decide) (by decide)) ⟨rfl, rfl⟩ ?_
              refine V.top hl ?_
              refine V.if_lt C (tgt := 74) dX6_count_67 (by decide) (fun h67 => absurd h67 (nI_pos (by omega))) (fun h67 => ?_)
              refine V.iconst C (x := 1) dX6_count_70 (by decide) ?_
              refine V.goto C (tgt := 75) dX6_count_71 (by decide) ?_
              refine V.iadd C dX6_count_75 ?_
              refine V.top (cnt_t (P := cw5 A) (fun q => nI_neg (show x < 2 ^ 31 by omega) (hl.symm.trans q))) ?_
              refine V.ist_n C dX6_count_76 (Nat.le_of_ble_eq_true rfl) rfl ?_
              refine V.iinc C (y := nI (k + 1)) dX6_count_77 rfl (nI_1 k) rfl ?_
              refine V.goto C (tgt := 20) dX6_count_80 (by decide) ?_
              exact ih (k + 1) (by omega) (by omega)
      exact key20 (8 * r + 1) 0 (by omega) (by omega)
  · skip
    refine V.ald_n C dX6_count_0 rfl ?_
    refine V.iconst C (x := 0) dX6_count_1 (by decide) ?_
    refine V.put C fl_RX6_77 dX6_count_2 hM.1 ⟨rfl, rfl⟩ (Nat.le_of_ble_eq_true rfl) (fun h => by cases h) (set_same hM.1) ?_
    refine V.ild_n C dX6_count_5 rfl ?_
    refine V.iconst C (x := 0) dX6_count_6 (by decide) ?_
    refine V.iconst C (x := 5) dX6_count_7 (by decide) ?_
    refine V.callSp C mo_X6_in sm_X6_in ml_RX6_84 (ev_X6_in0 _ 6 (by decide)) dX6_count_8 rfl rfl (Nat.le_of_ble_eq_true rfl) (RmOk.mk' (by decide) (by decide) (by decide) (by decide)) ⟨rfl, rfl⟩ ?_
    refine V.ifb_ne C (tgt := 16) dX6_count_11 (by decide) (fun h11 => absurd h11 hc) (fun h11 => ?_)
    refine V.iconst C (x := -1) dX6_count_14 (by decide) ?_
    exact V.iret X dX6_count_15 rfl (by decide) (by decide) (pq (by unfold F_count; rw [ok1_f hc]))
end
