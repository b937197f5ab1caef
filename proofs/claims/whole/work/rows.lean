section
-- ===== PART A: goes FIRST, ahead of the names: the tables' words, and 'selects' of the private methods out of them =====
/-- a private method of a class that the tables say can be made, by its rows of tables_1 -/
def lw_okq (q : MethodName × Nat) : Prop := (q.1.cls ≠ "java/lang/invoke/MethodHandle" ∧ q.1.cls ≠ "java/lang/invoke/VarHandle") ∧ Cond.instantiable q.1.cls q.2 ∈ tables_1 ∧ Cond.privateMethod q.1 ∈ tables_1 ∧ Cond.instanceMethod q.1 ∈ tables_1
theorem lw_p0 : lw_okq (⟨"RoomRing$Ring", "setMarks", "()V"⟩, 8) := ⟨⟨by decide +kernel, by decide +kernel⟩, List.mem_of_getElem? (i := 18) (by decide +kernel), List.mem_of_getElem? (i := 69) (by decide +kernel), List.mem_of_getElem? (i := 70) (by decide +kernel)⟩
theorem lw_p1 : lw_okq (⟨"RoomRing$Ring", "freePlaceFrom", "(I)I"⟩, 8) := ⟨⟨by decide +kernel, by decide +kernel⟩, List.mem_of_getElem? (i := 18) (by decide +kernel), List.mem_of_getElem? (i := 73) (by decide +kernel), List.mem_of_getElem? (i := 74) (by decide +kernel)⟩
theorem lw_p2 : lw_okq (⟨"RoomRing$Ring", "setBounds", "()V"⟩, 8) := ⟨⟨by decide +kernel, by decide +kernel⟩, List.mem_of_getElem? (i := 18) (by decide +kernel), List.mem_of_getElem? (i := 80) (by decide +kernel), List.mem_of_getElem? (i := 81) (by decide +kernel)⟩
theorem lw_p3 : lw_okq (⟨"RoomRing$Ring", "layKey", "(I)V"⟩, 8) := ⟨⟨by decide +kernel, by decide +kernel⟩, List.mem_of_getElem? (i := 18) (by decide +kernel), List.mem_of_getElem? (i := 88) (by decide +kernel), List.mem_of_getElem? (i := 89) (by decide +kernel)⟩
theorem lw_p4 : lw_okq (⟨"RoomRing$Ring", "placeOfKey", "(I)I"⟩, 8) := ⟨⟨by decide +kernel, by decide +kernel⟩, List.mem_of_getElem? (i := 18) (by decide +kernel), List.mem_of_getElem? (i := 92) (by decide +kernel), List.mem_of_getElem? (i := 93) (by decide +kernel)⟩
theorem lw_p5 : lw_okq (⟨"RoomRing", "tellOne", "(III)I"⟩, 7) := ⟨⟨by decide +kernel, by decide +kernel⟩, List.mem_of_getElem? (i := 10) (by decide +kernel), List.mem_of_getElem? (i := 209) (by decide +kernel), List.mem_of_getElem? (i := 210) (by decide +kernel)⟩
theorem lw_p6 : lw_okq (⟨"RoomRing$Stock", "addHost", "(II)I"⟩, 7) := ⟨⟨by decide +kernel, by decide +kernel⟩, List.mem_of_getElem? (i := 24) (by decide +kernel), List.mem_of_getElem? (i := 224) (by decide +kernel), List.mem_of_getElem? (i := 225) (by decide +kernel)⟩
theorem lw_p7 : lw_okq (⟨"RoomRing$Stock", "weighAnew", "(II)I"⟩, 7) := ⟨⟨by decide +kernel, by decide +kernel⟩, List.mem_of_getElem? (i := 24) (by decide +kernel), List.mem_of_getElem? (i := 238) (by decide +kernel), List.mem_of_getElem? (i := 239) (by decide +kernel)⟩
theorem lw_p8 : lw_okq (⟨"RoomRing$Stock", "removeHost", "(I)I"⟩, 7) := ⟨⟨by decide +kernel, by decide +kernel⟩, List.mem_of_getElem? (i := 24) (by decide +kernel), List.mem_of_getElem? (i := 242) (by decide +kernel), List.mem_of_getElem? (i := 243) (by decide +kernel)⟩
theorem lw_p9 : lw_okq (⟨"RoomRing$Stock", "addKey", "(I)I"⟩, 7) := ⟨⟨by decide +kernel, by decide +kernel⟩, List.mem_of_getElem? (i := 24) (by decide +kernel), List.mem_of_getElem? (i := 246) (by decide +kernel), List.mem_of_getElem? (i := 247) (by decide +kernel)⟩
theorem lw_p10 : lw_okq (⟨"RoomRing$Stock", "removeKey", "(I)I"⟩, 7) := ⟨⟨by decide +kernel, by decide +kernel⟩, List.mem_of_getElem? (i := 24) (by decide +kernel), List.mem_of_getElem? (i := 257) (by decide +kernel), List.mem_of_getElem? (i := 258) (by decide +kernel)⟩
theorem lw_p11 : lw_okq (⟨"RoomRing$Stock", "changeExtra", "(I)I"⟩, 7) := ⟨⟨by decide +kernel, by decide +kernel⟩, List.mem_of_getElem? (i := 24) (by decide +kernel), List.mem_of_getElem? (i := 261) (by decide +kernel), List.mem_of_getElem? (i := 262) (by decide +kernel)⟩
theorem lw_p12 : lw_okq (⟨"RoomRing", "refuse", "(I)I"⟩, 7) := ⟨⟨by decide +kernel, by decide +kernel⟩, List.mem_of_getElem? (i := 10) (by decide +kernel), List.mem_of_getElem? (i := 265) (by decide +kernel), List.mem_of_getElem? (i := 266) (by decide +kernel)⟩
theorem lw_p13 : lw_okq (⟨"RoomRing", "keepDraft", "()V"⟩, 7) := ⟨⟨by decide +kernel, by decide +kernel⟩, List.mem_of_getElem? (i := 10) (by decide +kernel), List.mem_of_getElem? (i := 269) (by decide +kernel), List.mem_of_getElem? (i := 270) (by decide +kernel)⟩
theorem lw_p14 : lw_okq (⟨"RoomRing$History", "forgetOldest", "()V"⟩, 2) := ⟨⟨by decide +kernel, by decide +kernel⟩, List.mem_of_getElem? (i := 124) (by decide +kernel), List.mem_of_getElem? (i := 291) (by decide +kernel), List.mem_of_getElem? (i := 292) (by decide +kernel)⟩
theorem lw_p15 : lw_okq (⟨"RoomRing$Ring", "keyOfHost", "(II)I"⟩, 8) := ⟨⟨by decide +kernel, by decide +kernel⟩, List.mem_of_getElem? (i := 18) (by decide +kernel), List.mem_of_getElem? (i := 327) (by decide +kernel), List.mem_of_getElem? (i := 328) (by decide +kernel)⟩
def lw_privs_1 : List (MethodName × Nat) := [(⟨"RoomRing$Ring", "setMarks", "()V"⟩, 8), (⟨"RoomRing$Ring", "freePlaceFrom", "(I)I"⟩, 8), (⟨"RoomRing$Ring", "setBounds", "()V"⟩, 8), (⟨"RoomRing$Ring", "layKey", "(I)V"⟩, 8), (⟨"RoomRing$Ring", "placeOfKey", "(I)I"⟩, 8), (⟨"RoomRing", "tellOne", "(III)I"⟩, 7), (⟨"RoomRing$Stock", "addHost", "(II)I"⟩, 7), (⟨"RoomRing$Stock", "weighAnew", "(II)I"⟩, 7), (⟨"RoomRing$Stock", "removeHost", "(I)I"⟩, 7), (⟨"RoomRing$Stock", "addKey", "(I)I"⟩, 7), (⟨"RoomRing$Stock", "removeKey", "(I)I"⟩, 7), (⟨"RoomRing$Stock", "changeExtra", "(I)I"⟩, 7), (⟨"RoomRing", "refuse", "(I)I"⟩, 7), (⟨"RoomRing", "keepDraft", "()V"⟩, 7), (⟨"RoomRing$History", "forgetOldest", "()V"⟩, 2), (⟨"RoomRing$Ring", "keyOfHost", "(II)I"⟩, 8)]
theorem lw_r1 : ∀ q ∈ lw_privs_1, lw_okq q := List.forall_mem_cons.mpr ⟨lw_p0, List.forall_mem_cons.mpr ⟨lw_p1, List.forall_mem_cons.mpr ⟨lw_p2, List.forall_mem_cons.mpr ⟨lw_p3, List.forall_mem_cons.mpr ⟨lw_p4, List.forall_mem_cons.mpr ⟨lw_p5, List.forall_mem_cons.mpr ⟨lw_p6, List.forall_mem_cons.mpr ⟨lw_p7, List.forall_mem_cons.mpr ⟨lw_p8, List.forall_mem_cons.mpr ⟨lw_p9, List.forall_mem_cons.mpr ⟨lw_p10, List.forall_mem_cons.mpr ⟨lw_p11, List.forall_mem_cons.mpr ⟨lw_p12, List.forall_mem_cons.mpr ⟨lw_p13, List.forall_mem_cons.mpr ⟨lw_p14, List.forall_mem_cons.mpr ⟨lw_p15, fun _ h => absurd h List.not_mem_nil⟩⟩⟩⟩⟩⟩⟩⟩⟩⟩⟩⟩⟩⟩⟩⟩
theorem lw_p16 : lw_okq (⟨"RoomRing$Ring", "firstOwner", "()I"⟩, 8) := ⟨⟨by decide +kernel, by decide +kernel⟩, List.mem_of_getElem? (i := 18) (by decide +kernel), List.mem_of_getElem? (i := 356) (by decide +kernel), List.mem_of_getElem? (i := 357) (by decide +kernel)⟩
theorem lw_p17 : lw_okq (⟨"RoomRing", "tryOne", "(II)I"⟩, 7) := ⟨⟨by decide +kernel, by decide +kernel⟩, List.mem_of_getElem? (i := 10) (by decide +kernel), List.mem_of_getElem? (i := 378) (by decide +kernel), List.mem_of_getElem? (i := 379) (by decide +kernel)⟩
theorem lw_p18 : lw_okq (⟨"RoomRing$Script", "accepts", "(I)Z"⟩, 10) := ⟨⟨by decide +kernel, by decide +kernel⟩, List.mem_of_getElem? (i := 141) (by decide +kernel), List.mem_of_getElem? (i := 426) (by decide +kernel), List.mem_of_getElem? (i := 427) (by decide +kernel)⟩
theorem lw_p19 : lw_okq (⟨"RoomRing$Script", "addsFigure", "(I)Z"⟩, 10) := ⟨⟨by decide +kernel, by decide +kernel⟩, List.mem_of_getElem? (i := 141) (by decide +kernel), List.mem_of_getElem? (i := 433) (by decide +kernel), List.mem_of_getElem? (i := 434) (by decide +kernel)⟩
theorem lw_p20 : lw_okq (⟨"RoomRing$Script", "endNumber", "()V"⟩, 10) := ⟨⟨by decide +kernel, by decide +kernel⟩, List.mem_of_getElem? (i := 141) (by decide +kernel), List.mem_of_getElem? (i := 437) (by decide +kernel), List.mem_of_getElem? (i := 438) (by decide +kernel)⟩
theorem lw_p21 : lw_okq (⟨"RoomRing$Script", "startsOrder", "(I)Z"⟩, 10) := ⟨⟨by decide +kernel, by decide +kernel⟩, List.mem_of_getElem? (i := 141) (by decide +kernel), List.mem_of_getElem? (i := 444) (by decide +kernel), List.mem_of_getElem? (i := 445) (by decide +kernel)⟩
theorem lw_p22 : lw_okq (⟨"RoomRing$Script", "startsNumber", "(I)Z"⟩, 10) := ⟨⟨by decide +kernel, by decide +kernel⟩, List.mem_of_getElem? (i := 141) (by decide +kernel), List.mem_of_getElem? (i := 448) (by decide +kernel), List.mem_of_getElem? (i := 449) (by decide +kernel)⟩
theorem lw_p23 : lw_okq (⟨"RoomRing$Script", "endsOrder", "(I)Z"⟩, 10) := ⟨⟨by decide +kernel, by decide +kernel⟩, List.mem_of_getElem? (i := 141) (by decide +kernel), List.mem_of_getElem? (i := 452) (by decide +kernel), List.mem_of_getElem? (i := 453) (by decide +kernel)⟩
theorem lw_p24 : lw_okq (⟨"RoomRing", "digestHosts", "(J)J"⟩, 7) := ⟨⟨by decide +kernel, by decide +kernel⟩, List.mem_of_getElem? (i := 10) (by decide +kernel), List.mem_of_getElem? (i := 477) (by decide +kernel), List.mem_of_getElem? (i := 478) (by decide +kernel)⟩
theorem lw_p25 : lw_okq (⟨"RoomRing", "digestKeys", "(J)J"⟩, 7) := ⟨⟨by decide +kernel, by decide +kernel⟩, List.mem_of_getElem? (i := 10) (by decide +kernel), List.mem_of_getElem? (i := 481) (by decide +kernel), List.mem_of_getElem? (i := 482) (by decide +kernel)⟩
theorem lw_p26 : lw_okq (⟨"RoomRingModel", "lay", "()V"⟩, 19) := ⟨⟨by decide +kernel, by decide +kernel⟩, List.mem_of_getElem? (i := 485) (by decide +kernel), List.mem_of_getElem? (i := 491) (by decide +kernel), List.mem_of_getElem? (i := 492) (by decide +kernel)⟩
theorem lw_p27 : lw_okq (⟨"RoomRingModel", "layMarks", "()V"⟩, 19) := ⟨⟨by decide +kernel, by decide +kernel⟩, List.mem_of_getElem? (i := 485) (by decide +kernel), List.mem_of_getElem? (i := 495) (by decide +kernel), List.mem_of_getElem? (i := 496) (by decide +kernel)⟩
theorem lw_p28 : lw_okq (⟨"RoomRingModel", "weights", "()I"⟩, 19) := ⟨⟨by decide +kernel, by decide +kernel⟩, List.mem_of_getElem? (i := 485) (by decide +kernel), List.mem_of_getElem? (i := 502) (by decide +kernel), List.mem_of_getElem? (i := 503) (by decide +kernel)⟩
theorem lw_p29 : lw_okq (⟨"RoomRingModel", "isRoom", "(I)Z"⟩, 19) := ⟨⟨by decide +kernel, by decide +kernel⟩, List.mem_of_getElem? (i := 485) (by decide +kernel), List.mem_of_getElem? (i := 509) (by decide +kernel), List.mem_of_getElem? (i := 510) (by decide +kernel)⟩
theorem lw_p30 : lw_okq (⟨"RoomRingModel", "bound", "(I)I"⟩, 19) := ⟨⟨by decide +kernel, by decide +kernel⟩, List.mem_of_getElem? (i := 485) (by decide +kernel), List.mem_of_getElem? (i := 513) (by decide +kernel), List.mem_of_getElem? (i := 514) (by decide +kernel)⟩
theorem lw_p31 : lw_okq (⟨"RoomRingModel", "refuses", "(I)I"⟩, 19) := ⟨⟨by decide +kernel, by decide +kernel⟩, List.mem_of_getElem? (i := 485) (by decide +kernel), List.mem_of_getElem? (i := 580) (by decide +kernel), List.mem_of_getElem? (i := 581) (by decide +kernel)⟩
def lw_privs_2 : List (MethodName × Nat) := [(⟨"RoomRing$Ring", "firstOwner", "()I"⟩, 8), (⟨"RoomRing", "tryOne", "(II)I"⟩, 7), (⟨"RoomRing$Script", "accepts", "(I)Z"⟩, 10), (⟨"RoomRing$Script", "addsFigure", "(I)Z"⟩, 10), (⟨"RoomRing$Script", "endNumber", "()V"⟩, 10), (⟨"RoomRing$Script", "startsOrder", "(I)Z"⟩, 10), (⟨"RoomRing$Script", "startsNumber", "(I)Z"⟩, 10), (⟨"RoomRing$Script", "endsOrder", "(I)Z"⟩, 10), (⟨"RoomRing", "digestHosts", "(J)J"⟩, 7), (⟨"RoomRing", "digestKeys", "(J)J"⟩, 7), (⟨"RoomRingModel", "lay", "()V"⟩, 19), (⟨"RoomRingModel", "layMarks", "()V"⟩, 19), (⟨"RoomRingModel", "weights", "()I"⟩, 19), (⟨"RoomRingModel", "isRoom", "(I)Z"⟩, 19), (⟨"RoomRingModel", "bound", "(I)I"⟩, 19), (⟨"RoomRingModel", "refuses", "(I)I"⟩, 19)]
theorem lw_r2 : ∀ q ∈ lw_privs_2, lw_okq q := List.forall_mem_cons.mpr ⟨lw_p16, List.forall_mem_cons.mpr ⟨lw_p17, List.forall_mem_cons.mpr ⟨lw_p18, List.forall_mem_cons.mpr ⟨lw_p19, List.forall_mem_cons.mpr ⟨lw_p20, List.forall_mem_cons.mpr ⟨lw_p21, List.forall_mem_cons.mpr ⟨lw_p22, List.forall_mem_cons.mpr ⟨lw_p23, List.forall_mem_cons.mpr ⟨lw_p24, List.forall_mem_cons.mpr ⟨lw_p25, List.forall_mem_cons.mpr ⟨lw_p26, List.forall_mem_cons.mpr ⟨lw_p27, List.forall_mem_cons.mpr ⟨lw_p28, List.forall_mem_cons.mpr ⟨lw_p29, List.forall_mem_cons.mpr ⟨lw_p30, List.forall_mem_cons.mpr ⟨lw_p31, fun _ h => absurd h List.not_mem_nil⟩⟩⟩⟩⟩⟩⟩⟩⟩⟩⟩⟩⟩⟩⟩⟩
theorem lw_p32 : lw_okq (⟨"RoomRingModel", "hold", "()V"⟩, 19) := ⟨⟨by decide +kernel, by decide +kernel⟩, List.mem_of_getElem? (i := 485) (by decide +kernel), List.mem_of_getElem? (i := 588) (by decide +kernel), List.mem_of_getElem? (i := 589) (by decide +kernel)⟩
theorem lw_p33 : lw_okq (⟨"RoomRingModel", "doHost", "(II)I"⟩, 19) := ⟨⟨by decide +kernel, by decide +kernel⟩, List.mem_of_getElem? (i := 485) (by decide +kernel), List.mem_of_getElem? (i := 592) (by decide +kernel), List.mem_of_getElem? (i := 593) (by decide +kernel)⟩
theorem lw_p34 : lw_okq (⟨"RoomRingModel", "isHost", "(I)Z"⟩, 19) := ⟨⟨by decide +kernel, by decide +kernel⟩, List.mem_of_getElem? (i := 485) (by decide +kernel), List.mem_of_getElem? (i := 602) (by decide +kernel), List.mem_of_getElem? (i := 603) (by decide +kernel)⟩
theorem lw_p35 : lw_okq (⟨"RoomRingModel", "hostMany", "()I"⟩, 19) := ⟨⟨by decide +kernel, by decide +kernel⟩, List.mem_of_getElem? (i := 485) (by decide +kernel), List.mem_of_getElem? (i := 606) (by decide +kernel), List.mem_of_getElem? (i := 607) (by decide +kernel)⟩
theorem lw_p36 : lw_okq (⟨"RoomRingModel", "ends", "(I)I"⟩, 19) := ⟨⟨by decide +kernel, by decide +kernel⟩, List.mem_of_getElem? (i := 485) (by decide +kernel), List.mem_of_getElem? (i := 610) (by decide +kernel), List.mem_of_getElem? (i := 611) (by decide +kernel)⟩
theorem lw_p37 : lw_okq (⟨"RoomRingModel", "push", "()V"⟩, 19) := ⟨⟨by decide +kernel, by decide +kernel⟩, List.mem_of_getElem? (i := 485) (by decide +kernel), List.mem_of_getElem? (i := 614) (by decide +kernel), List.mem_of_getElem? (i := 615) (by decide +kernel)⟩
theorem lw_p38 : lw_okq (⟨"RoomRingModel", "moved", "()I"⟩, 19) := ⟨⟨by decide +kernel, by decide +kernel⟩, List.mem_of_getElem? (i := 485) (by decide +kernel), List.mem_of_getElem? (i := 618) (by decide +kernel), List.mem_of_getElem? (i := 619) (by decide +kernel)⟩
theorem lw_p39 : lw_okq (⟨"RoomRingModel", "doWeighs", "(II)I"⟩, 19) := ⟨⟨by decide +kernel, by decide +kernel⟩, List.mem_of_getElem? (i := 485) (by decide +kernel), List.mem_of_getElem? (i := 626) (by decide +kernel), List.mem_of_getElem? (i := 627) (by decide +kernel)⟩
theorem lw_p40 : lw_okq (⟨"RoomRingModel", "doGoes", "(I)I"⟩, 19) := ⟨⟨by decide +kernel, by decide +kernel⟩, List.mem_of_getElem? (i := 485) (by decide +kernel), List.mem_of_getElem? (i := 634) (by decide +kernel), List.mem_of_getElem? (i := 635) (by decide +kernel)⟩
theorem lw_p41 : lw_okq (⟨"RoomRingModel", "doKey", "(I)I"⟩, 19) := ⟨⟨by decide +kernel, by decide +kernel⟩, List.mem_of_getElem? (i := 485) (by decide +kernel), List.mem_of_getElem? (i := 642) (by decide +kernel), List.mem_of_getElem? (i := 643) (by decide +kernel)⟩
theorem lw_p42 : lw_okq (⟨"RoomRingModel", "mayCome", "(I)I"⟩, 19) := ⟨⟨by decide +kernel, by decide +kernel⟩, List.mem_of_getElem? (i := 485) (by decide +kernel), List.mem_of_getElem? (i := 646) (by decide +kernel), List.mem_of_getElem? (i := 647) (by decide +kernel)⟩
theorem lw_p43 : lw_okq (⟨"RoomRingModel", "rowOf", "(I)I"⟩, 19) := ⟨⟨by decide +kernel, by decide +kernel⟩, List.mem_of_getElem? (i := 485) (by decide +kernel), List.mem_of_getElem? (i := 653) (by decide +kernel), List.mem_of_getElem? (i := 654) (by decide +kernel)⟩
theorem lw_p44 : lw_okq (⟨"RoomRingModel", "doDrops", "(I)I"⟩, 19) := ⟨⟨by decide +kernel, by decide +kernel⟩, List.mem_of_getElem? (i := 485) (by decide +kernel), List.mem_of_getElem? (i := 661) (by decide +kernel), List.mem_of_getElem? (i := 662) (by decide +kernel)⟩
theorem lw_p45 : lw_okq (⟨"RoomRingModel", "doExtra", "(I)I"⟩, 19) := ⟨⟨by decide +kernel, by decide +kernel⟩, List.mem_of_getElem? (i := 485) (by decide +kernel), List.mem_of_getElem? (i := 669) (by decide +kernel), List.mem_of_getElem? (i := 670) (by decide +kernel)⟩
theorem lw_p46 : lw_okq (⟨"RoomRingModel", "ofHost", "(II)I"⟩, 19) := ⟨⟨by decide +kernel, by decide +kernel⟩, List.mem_of_getElem? (i := 485) (by decide +kernel), List.mem_of_getElem? (i := 677) (by decide +kernel), List.mem_of_getElem? (i := 678) (by decide +kernel)⟩
theorem lw_p47 : lw_okq (⟨"RoomRingModel", "markOf", "(II)I"⟩, 19) := ⟨⟨by decide +kernel, by decide +kernel⟩, List.mem_of_getElem? (i := 485) (by decide +kernel), List.mem_of_getElem? (i := 685) (by decide +kernel), List.mem_of_getElem? (i := 686) (by decide +kernel)⟩
def lw_privs_3 : List (MethodName × Nat) := [(⟨"RoomRingModel", "hold", "()V"⟩, 19), (⟨"RoomRingModel", "doHost", "(II)I"⟩, 19), (⟨"RoomRingModel", "isHost", "(I)Z"⟩, 19), (⟨"RoomRingModel", "hostMany", "()I"⟩, 19), (⟨"RoomRingModel", "ends", "(I)I"⟩, 19), (⟨"RoomRingModel", "push", "()V"⟩, 19), (⟨"RoomRingModel", "moved", "()I"⟩, 19), (⟨"RoomRingModel", "doWeighs", "(II)I"⟩, 19), (⟨"RoomRingModel", "doGoes", "(I)I"⟩, 19), (⟨"RoomRingModel", "doKey", "(I)I"⟩, 19), (⟨"RoomRingModel", "mayCome", "(I)I"⟩, 19), (⟨"RoomRingModel", "rowOf", "(I)I"⟩, 19), (⟨"RoomRingModel", "doDrops", "(I)I"⟩, 19), (⟨"RoomRingModel", "doExtra", "(I)I"⟩, 19), (⟨"RoomRingModel", "ofHost", "(II)I"⟩, 19), (⟨"RoomRingModel", "markOf", "(II)I"⟩, 19)]
theorem lw_r3 : ∀ q ∈ lw_privs_3, lw_okq q := List.forall_mem_cons.mpr ⟨lw_p32, List.forall_mem_cons.mpr ⟨lw_p33, List.forall_mem_cons.mpr ⟨lw_p34, List.forall_mem_cons.mpr ⟨lw_p35, List.forall_mem_cons.mpr ⟨lw_p36, List.forall_mem_cons.mpr ⟨lw_p37, List.forall_mem_cons.mpr ⟨lw_p38, List.forall_mem_cons.mpr ⟨lw_p39, List.forall_mem_cons.mpr ⟨lw_p40, List.forall_mem_cons.mpr ⟨lw_p41, List.forall_mem_cons.mpr ⟨lw_p42, List.forall_mem_cons.mpr ⟨lw_p43, List.forall_mem_cons.mpr ⟨lw_p44, List.forall_mem_cons.mpr ⟨lw_p45, List.forall_mem_cons.mpr ⟨lw_p46, List.forall_mem_cons.mpr ⟨lw_p47, fun _ h => absurd h List.not_mem_nil⟩⟩⟩⟩⟩⟩⟩⟩⟩⟩⟩⟩⟩⟩⟩⟩
theorem lw_p48 : lw_okq (⟨"RoomRingModel", "shareOf", "(I)I"⟩, 19) := ⟨⟨by decide +kernel, by decide +kernel⟩, List.mem_of_getElem? (i := 485) (by decide +kernel), List.mem_of_getElem? (i := 701) (by decide +kernel), List.mem_of_getElem? (i := 702) (by decide +kernel)⟩
theorem lw_p49 : lw_okq (⟨"RoomRingModel", "aboutKey", "(II)I"⟩, 19) := ⟨⟨by decide +kernel, by decide +kernel⟩, List.mem_of_getElem? (i := 485) (by decide +kernel), List.mem_of_getElem? (i := 713) (by decide +kernel), List.mem_of_getElem? (i := 714) (by decide +kernel)⟩
theorem lw_p50 : lw_okq (⟨"RoomRingModel", "release", "()V"⟩, 19) := ⟨⟨by decide +kernel, by decide +kernel⟩, List.mem_of_getElem? (i := 485) (by decide +kernel), List.mem_of_getElem? (i := 721) (by decide +kernel), List.mem_of_getElem? (i := 722) (by decide +kernel)⟩
theorem lw_p51 : lw_okq (⟨"RoomRingModel", "counted", "(I)I"⟩, 19) := ⟨⟨by decide +kernel, by decide +kernel⟩, List.mem_of_getElem? (i := 485) (by decide +kernel), List.mem_of_getElem? (i := 733) (by decide +kernel), List.mem_of_getElem? (i := 734) (by decide +kernel)⟩
theorem lw_p52 : lw_okq (⟨"RoomRingModel", "marks", "()I"⟩, 19) := ⟨⟨by decide +kernel, by decide +kernel⟩, List.mem_of_getElem? (i := 485) (by decide +kernel), List.mem_of_getElem? (i := 737) (by decide +kernel), List.mem_of_getElem? (i := 738) (by decide +kernel)⟩
theorem lw_p53 : lw_okq (⟨"RoomRingModel", "byHosts", "(Z)I"⟩, 19) := ⟨⟨by decide +kernel, by decide +kernel⟩, List.mem_of_getElem? (i := 485) (by decide +kernel), List.mem_of_getElem? (i := 741) (by decide +kernel), List.mem_of_getElem? (i := 742) (by decide +kernel)⟩
theorem lw_p54 : lw_okq (⟨"RoomRingModel", "passedAll", "()I"⟩, 19) := ⟨⟨by decide +kernel, by decide +kernel⟩, List.mem_of_getElem? (i := 485) (by decide +kernel), List.mem_of_getElem? (i := 745) (by decide +kernel), List.mem_of_getElem? (i := 746) (by decide +kernel)⟩
theorem lw_p55 : lw_okq (⟨"RoomRingModel", "here", "()I"⟩, 19) := ⟨⟨by decide +kernel, by decide +kernel⟩, List.mem_of_getElem? (i := 485) (by decide +kernel), List.mem_of_getElem? (i := 761) (by decide +kernel), List.mem_of_getElem? (i := 762) (by decide +kernel)⟩
theorem lw_p56 : lw_okq (⟨"RoomRingModel", "readOrder", "()V"⟩, 19) := ⟨⟨by decide +kernel, by decide +kernel⟩, List.mem_of_getElem? (i := 485) (by decide +kernel), List.mem_of_getElem? (i := 765) (by decide +kernel), List.mem_of_getElem? (i := 766) (by decide +kernel)⟩
theorem lw_p57 : lw_okq (⟨"RoomRingModel", "must", "(Z)V"⟩, 19) := ⟨⟨by decide +kernel, by decide +kernel⟩, List.mem_of_getElem? (i := 485) (by decide +kernel), List.mem_of_getElem? (i := 772) (by decide +kernel), List.mem_of_getElem? (i := 773) (by decide +kernel)⟩
theorem lw_p58 : lw_okq (⟨"RoomRingModel", "number", "()I"⟩, 19) := ⟨⟨by decide +kernel, by decide +kernel⟩, List.mem_of_getElem? (i := 485) (by decide +kernel), List.mem_of_getElem? (i := 776) (by decide +kernel), List.mem_of_getElem? (i := 777) (by decide +kernel)⟩
theorem lw_p59 : lw_okq (⟨"RoomRingModel", "isFigure", "()Z"⟩, 19) := ⟨⟨by decide +kernel, by decide +kernel⟩, List.mem_of_getElem? (i := 485) (by decide +kernel), List.mem_of_getElem? (i := 780) (by decide +kernel), List.mem_of_getElem? (i := 781) (by decide +kernel)⟩
theorem lw_p60 : lw_okq (⟨"RoomRingModel", "doOrder", "(I)I"⟩, 19) := ⟨⟨by decide +kernel, by decide +kernel⟩, List.mem_of_getElem? (i := 485) (by decide +kernel), List.mem_of_getElem? (i := 784) (by decide +kernel), List.mem_of_getElem? (i := 785) (by decide +kernel)⟩
theorem lw_p61 : lw_okq (⟨"RoomRingModel", "toldOf", "(I)I"⟩, 19) := ⟨⟨by decide +kernel, by decide +kernel⟩, List.mem_of_getElem? (i := 485) (by decide +kernel), List.mem_of_getElem? (i := 792) (by decide +kernel), List.mem_of_getElem? (i := 793) (by decide +kernel)⟩
theorem lw_p62 : lw_okq (⟨"RoomRingModel", "mix", "(I)V"⟩, 19) := ⟨⟨by decide +kernel, by decide +kernel⟩, List.mem_of_getElem? (i := 485) (by decide +kernel), List.mem_of_getElem? (i := 801) (by decide +kernel), List.mem_of_getElem? (i := 802) (by decide +kernel)⟩
def lw_privs_4 : List (MethodName × Nat) := [(⟨"RoomRingModel", "shareOf", "(I)I"⟩, 19), (⟨"RoomRingModel", "aboutKey", "(II)I"⟩, 19), (⟨"RoomRingModel", "release", "()V"⟩, 19), (⟨"RoomRingModel", "counted", "(I)I"⟩, 19), (⟨"RoomRingModel", "marks", "()I"⟩, 19), (⟨"RoomRingModel", "byHosts", "(Z)I"⟩, 19), (⟨"RoomRingModel", "passedAll", "()I"⟩, 19), (⟨"RoomRingModel", "here", "()I"⟩, 19), (⟨"RoomRingModel", "readOrder", "()V"⟩, 19), (⟨"RoomRingModel", "must", "(Z)V"⟩, 19), (⟨"RoomRingModel", "number", "()I"⟩, 19), (⟨"RoomRingModel", "isFigure", "()Z"⟩, 19), (⟨"RoomRingModel", "doOrder", "(I)I"⟩, 19), (⟨"RoomRingModel", "toldOf", "(I)I"⟩, 19), (⟨"RoomRingModel", "mix", "(I)V"⟩, 19)]
theorem lw_r4 : ∀ q ∈ lw_privs_4, lw_okq q := List.forall_mem_cons.mpr ⟨lw_p48, List.forall_mem_cons.mpr ⟨lw_p49, List.forall_mem_cons.mpr ⟨lw_p50, List.forall_mem_cons.mpr ⟨lw_p51, List.forall_mem_cons.mpr ⟨lw_p52, List.forall_mem_cons.mpr ⟨lw_p53, List.forall_mem_cons.mpr ⟨lw_p54, List.forall_mem_cons.mpr ⟨lw_p55, List.forall_mem_cons.mpr ⟨lw_p56, List.forall_mem_cons.mpr ⟨lw_p57, List.forall_mem_cons.mpr ⟨lw_p58, List.forall_mem_cons.mpr ⟨lw_p59, List.forall_mem_cons.mpr ⟨lw_p60, List.forall_mem_cons.mpr ⟨lw_p61, List.forall_mem_cons.mpr ⟨lw_p62, fun _ h => absurd h List.not_mem_nil⟩⟩⟩⟩⟩⟩⟩⟩⟩⟩⟩⟩⟩⟩⟩
def lw_privs : List (MethodName × Nat) := lw_privs_1 ++ (lw_privs_2 ++ (lw_privs_3 ++ (lw_privs_4)))
def lw_tbl : List Cond := k2_sels lw_privs ++ tables_1
theorem lw_privs_ok : ∀ q ∈ lw_privs, lw_okq q := by
  show ∀ q ∈ lw_privs_1 ++ (lw_privs_2 ++ (lw_privs_3 ++ (lw_privs_4))), lw_okq q
  exact List.forall_mem_append.mpr ⟨lw_r1, List.forall_mem_append.mpr ⟨lw_r2, List.forall_mem_append.mpr ⟨lw_r3, lw_r4⟩⟩⟩
-- ===== end of PART A; then your names; then what follows =====
end
section
/-! ===== BEGIN words of one list among another's, by their places ===== -/
theorem goodIn_r {big : List Cond} (ws : List Cond) (ps : List Nat) (hp : ws = ps.filterMap (fun i => big[i]?)) (h : ws.all goodWord = true) : GoodIn big ws := by
  intro w hw
  have h1 := List.all_eq_true.mp h w hw
  rw [hp] at hw
  obtain ⟨i, -, hi⟩ := List.mem_filterMap.mp hw
  have hm : w ∈ big := by first | exact List.mem_of_getElem? hi | exact List.getElem?_mem hi
  exact ⟨hm, good_of_word h1⟩
theorem goodIn_app {big a b : List Cond} (ha : GoodIn big a) (hb : GoodIn big b) : GoodIn big (a ++ b) := fun w h => (List.mem_append.mp h).elim (ha w) (hb w)
theorem goodIn_ca {big a b : List Cond} {c : Cond} (ha : GoodIn big (c :: a)) (hb : GoodIn big b) : GoodIn big (c :: (a ++ b)) := fun w h => (List.mem_cons.mp h).elim (fun e => ha w (List.mem_cons.mpr (Or.inl e))) (fun h => (List.mem_append.mp h).elim (fun h => ha w (List.mem_cons.mpr (Or.inr h))) (hb w))
theorem goodIn_sub {big ws : List Cond} (hm : ∀ w ∈ ws, w ∈ big) (h : ws.all goodWord = true) : GoodIn big ws := fun w hw => ⟨hm w hw, good_of_word (List.all_eq_true.mp h w hw)⟩
/-! ===== END ===== -/

/-! ===== BEGIN printed: names, fields, word lists, decode rows ===== -/
def RX0 : String := "RoomRing$History"
def TX0 : u_T := fun k => match k with
  | 0 => ("RoomRing$History", "states", "[LRoomRing$Stock;", true)
  | _ => ("RoomRing$History", "size", "I", false)
def tyX0 : Nat → FieldType := fun k => match k with
  | 0 => .array (.object "RoomRing$Stock")
  | _ => .int
abbrev wsX00 : List Cond := u_ws RX0 TX0 2
theorem nmX0 : ∀ a, a < 2 → ∀ b, b < 2 → a ≠ b → (TX0 a).2.1 ≠ (TX0 b).2.1 := by decide +kernel
theorem tyX0_ok : ∀ k, k < 2 → parseFieldDescriptor (TX0 k).2.2.1 = some (tyX0 k) := by decide +kernel
abbrev cX0_init : ByteArray := prog_2_method_1_code
def yX0_init : MethodName := ⟨RX0, "<init>", "()V"⟩
abbrev cX0_keep : ByteArray := prog_2_method_2_code
def yX0_keep : MethodName := ⟨RX0, "keep", "(LRoomRing$Stock;)V"⟩
abbrev cX0_forgetOldest : ByteArray := prog_2_method_3_code
def yX0_forgetOldest : MethodName := ⟨RX0, "forgetOldest", "()V"⟩
abbrev cX0_takeBack : ByteArray := prog_2_method_4_code
def yX0_takeBack : MethodName := ⟨RX0, "takeBack", "(LRoomRing$Stock;)V"⟩
def RX1 : String := "RoomRing$Ring"
def TX1 : u_T := fun k => match k with
  | 0 => ("RoomRing$Ring", "stock", "LRoomRing$Stock;", true)
  | 1 => ("RoomRing$Ring", "owners", "[I", true)
  | 2 => ("RoomRing$Ring", "markPlaces", "[I", true)
  | 3 => ("RoomRing$Ring", "bounds", "[I", true)
  | 4 => ("RoomRing$Ring", "loads", "[I", true)
  | 5 => ("RoomRing$Ring", "keyHosts", "[I", true)
  | 6 => ("RoomRing$Ring", "passed", "[I", true)
  | _ => ("RoomRing$Ring", "far", "[I", true)
def tyX1 : Nat → FieldType := fun k => match k with
  | 0 => .object "RoomRing$Stock"
  | 1 => .array .int
  | 2 => .array .int
  | 3 => .array .int
  | 4 => .array .int
  | 5 => .array .int
  | 6 => .array .int
  | _ => .array .int
abbrev wsX10 : List Cond := u_ws RX1 TX1 8
theorem nmX1 : ∀ a, a < 8 → ∀ b, b < 8 → a ≠ b → (TX1 a).2.1 ≠ (TX1 b).2.1 := by decide +kernel
theorem tyX1_ok : ∀ k, k < 8 → parseFieldDescriptor (TX1 k).2.2.1 = some (tyX1 k) := by decide +kernel
abbrev cX1_init : ByteArray := prog_3_method_1_code
def yX1_init : MethodName := ⟨RX1, "<init>", "()V"⟩
abbrev cX1_lay : ByteArray := prog_3_method_2_code
def yX1_lay : MethodName := ⟨RX1, "lay", "()V"⟩
abbrev cX1_setMarks : ByteArray := prog_3_method_3_code
def yX1_setMarks : MethodName := ⟨RX1, "setMarks", "()V"⟩
abbrev cX1_freePlaceFrom : ByteArray := prog_3_method_4_code
def yX1_freePlaceFrom : MethodName := ⟨RX1, "freePlaceFrom", "(I)I"⟩
abbrev cX1_setBounds : ByteArray := prog_3_method_5_code
def yX1_setBounds : MethodName := ⟨RX1, "setBounds", "()V"⟩
abbrev cX1_layKey : ByteArray := prog_3_method_6_code
def yX1_layKey : MethodName := ⟨RX1, "layKey", "(I)V"⟩
abbrev cX1_placeBehind : ByteArray := prog_3_method_7_code
def yX1_placeBehind : MethodName := ⟨RX1, "placeBehind", "(I)I"⟩
abbrev cX1_placeOfKey : ByteArray := prog_3_method_8_code
def yX1_placeOfKey : MethodName := ⟨RX1, "placeOfKey", "(I)I"⟩
abbrev cX1_hostNameOfKey : ByteArray := prog_3_method_9_code
def yX1_hostNameOfKey : MethodName := ⟨RX1, "hostNameOfKey", "(I)I"⟩
abbrev cX1_movedSince : ByteArray := prog_3_method_10_code
def yX1_movedSince : MethodName := ⟨RX1, "movedSince", "(LRoomRing$Ring;)I"⟩
abbrev cX1_hostFact : ByteArray := prog_3_method_11_code
def yX1_hostFact : MethodName := ⟨RX1, "hostFact", "(II)I"⟩
abbrev cX1_keyOfHost : ByteArray := prog_3_method_12_code
def yX1_keyOfHost : MethodName := ⟨RX1, "keyOfHost", "(II)I"⟩
abbrev cX1_keyFact : ByteArray := prog_3_method_13_code
def yX1_keyFact : MethodName := ⟨RX1, "keyFact", "(II)I"⟩
abbrev cX1_placeOfMark : ByteArray := prog_3_method_14_code
def yX1_placeOfMark : MethodName := ⟨RX1, "placeOfMark", "(II)I"⟩
abbrev cX1_placesLeadingTo : ByteArray := prog_3_method_15_code
def yX1_placesLeadingTo : MethodName := ⟨RX1, "placesLeadingTo", "(I)I"⟩
abbrev cX1_firstOwner : ByteArray := prog_3_method_16_code
def yX1_firstOwner : MethodName := ⟨RX1, "firstOwner", "()I"⟩
abbrev cX1_fullHosts : ByteArray := prog_3_method_17_code
def yX1_fullHosts : MethodName := ⟨RX1, "fullHosts", "()I"⟩
abbrev cX1_allPassed : ByteArray := prog_3_method_18_code
def yX1_allPassed : MethodName := ⟨RX1, "allPassed", "()I"⟩
abbrev cX1_mostLoad : ByteArray := prog_3_method_19_code
def yX1_mostLoad : MethodName := ⟨RX1, "mostLoad", "()I"⟩
def RX2 : String := "RoomRing$Script"
def TX2 : u_T := fun k => match k with
  | 0 => ("RoomRing$Script", "bytes", "[I", true)
  | 1 => ("RoomRing$Script", "length", "I", false)
  | 2 => ("RoomRing$Script", "letters", "[I", true)
  | 3 => ("RoomRing$Script", "firsts", "[I", true)
  | 4 => ("RoomRing$Script", "seconds", "[I", true)
  | 5 => ("RoomRing$Script", "orderCount", "I", false)
  | 6 => ("RoomRing$Script", "awaited", "I", false)
  | 7 => ("RoomRing$Script", "numbersRead", "I", false)
  | 8 => ("RoomRing$Script", "figures", "I", false)
  | _ => ("RoomRing$Script", "number", "I", false)
def tyX2 : Nat → FieldType := fun k => match k with
  | 0 => .array .int
  | 1 => .int
  | 2 => .array .int
  | 3 => .array .int
  | 4 => .array .int
  | 5 => .int
  | 6 => .int
  | 7 => .int
  | 8 => .int
  | _ => .int
abbrev wsX20 : List Cond := u_ws RX2 TX2 10
theorem nmX2 : ∀ a, a < 10 → ∀ b, b < 10 → a ≠ b → (TX2 a).2.1 ≠ (TX2 b).2.1 := by decide +kernel
theorem tyX2_ok : ∀ k, k < 10 → parseFieldDescriptor (TX2 k).2.2.1 = some (tyX2 k) := by decide +kernel
abbrev cX2_init : ByteArray := prog_4_method_1_code
def yX2_init : MethodName := ⟨RX2, "<init>", "()V"⟩
abbrev cX2_append : ByteArray := prog_4_method_2_code
def yX2_append : MethodName := ⟨RX2, "append", "(I)Z"⟩
abbrev cX2_read : ByteArray := prog_4_method_3_code
def yX2_read : MethodName := ⟨RX2, "read", "()I"⟩
abbrev cX2_accepts : ByteArray := prog_4_method_4_code
def yX2_accepts : MethodName := ⟨RX2, "accepts", "(I)Z"⟩
abbrev cX2_startsOrder : ByteArray := prog_4_method_5_code
def yX2_startsOrder : MethodName := ⟨RX2, "startsOrder", "(I)Z"⟩
abbrev cX2_startsNumber : ByteArray := prog_4_method_6_code
def yX2_startsNumber : MethodName := ⟨RX2, "startsNumber", "(I)Z"⟩
abbrev cX2_addsFigure : ByteArray := prog_4_method_7_code
def yX2_addsFigure : MethodName := ⟨RX2, "addsFigure", "(I)Z"⟩
abbrev cX2_endNumber : ByteArray := prog_4_method_8_code
def yX2_endNumber : MethodName := ⟨RX2, "endNumber", "()V"⟩
abbrev cX2_endsOrder : ByteArray := prog_4_method_9_code
def yX2_endsOrder : MethodName := ⟨RX2, "endsOrder", "(I)Z"⟩
abbrev cX2_isFigure : ByteArray := prog_4_method_10_code
def yX2_isFigure : MethodName := ⟨RX2, "isFigure", "(I)Z"⟩
abbrev cX2_numbersOf : ByteArray := prog_4_method_11_code
def yX2_numbersOf : MethodName := ⟨RX2, "numbersOf", "(I)I"⟩
def RX3 : String := "RoomRing$Stock"
def TX3 : u_T := fun k => match k with
  | 0 => ("RoomRing$Stock", "names", "[I", true)
  | 1 => ("RoomRing$Stock", "weights", "[I", true)
  | 2 => ("RoomRing$Stock", "keys", "[I", true)
  | 3 => ("RoomRing$Stock", "hostCount", "I", false)
  | 4 => ("RoomRing$Stock", "keyCount", "I", false)
  | 5 => ("RoomRing$Stock", "extraShare", "I", false)
  | _ => ("RoomRing$Stock", "moved", "I", false)
def tyX3 : Nat → FieldType := fun k => match k with
  | 0 => .array .int
  | 1 => .array .int
  | 2 => .array .int
  | 3 => .int
  | 4 => .int
  | 5 => .int
  | _ => .int
abbrev wsX30 : List Cond := u_ws RX3 TX3 7
theorem nmX3 : ∀ a, a < 7 → ∀ b, b < 7 → a ≠ b → (TX3 a).2.1 ≠ (TX3 b).2.1 := by decide +kernel
theorem tyX3_ok : ∀ k, k < 7 → parseFieldDescriptor (TX3 k).2.2.1 = some (tyX3 k) := by decide +kernel
abbrev cX3_init : ByteArray := prog_5_method_1_code
def yX3_init : MethodName := ⟨RX3, "<init>", "()V"⟩
abbrev cX3_copyFrom : ByteArray := prog_5_method_2_code
def yX3_copyFrom : MethodName := ⟨RX3, "copyFrom", "(LRoomRing$Stock;)V"⟩
abbrev cX3_findHost : ByteArray := prog_5_method_3_code
def yX3_findHost : MethodName := ⟨RX3, "findHost", "(I)I"⟩
abbrev cX3_findKey : ByteArray := prog_5_method_4_code
def yX3_findKey : MethodName := ⟨RX3, "findKey", "(I)I"⟩
abbrev cX3_nameOf : ByteArray := prog_5_method_5_code
def yX3_nameOf : MethodName := ⟨RX3, "nameOf", "(I)I"⟩
abbrev cX3_allWeights : ByteArray := prog_5_method_6_code
def yX3_allWeights : MethodName := ⟨RX3, "allWeights", "()I"⟩
abbrev cX3_take : ByteArray := prog_5_method_7_code
def yX3_take : MethodName := ⟨RX3, "take", "(III)I"⟩
abbrev cX3_addHost : ByteArray := prog_5_method_8_code
def yX3_addHost : MethodName := ⟨RX3, "addHost", "(II)I"⟩
abbrev cX3_weighAnew : ByteArray := prog_5_method_9_code
def yX3_weighAnew : MethodName := ⟨RX3, "weighAnew", "(II)I"⟩
abbrev cX3_removeHost : ByteArray := prog_5_method_10_code
def yX3_removeHost : MethodName := ⟨RX3, "removeHost", "(I)I"⟩
abbrev cX3_addKey : ByteArray := prog_5_method_11_code
def yX3_addKey : MethodName := ⟨RX3, "addKey", "(I)I"⟩
abbrev cX3_removeKey : ByteArray := prog_5_method_12_code
def yX3_removeKey : MethodName := ⟨RX3, "removeKey", "(I)I"⟩
abbrev cX3_changeExtra : ByteArray := prog_5_method_13_code
def yX3_changeExtra : MethodName := ⟨RX3, "changeExtra", "(I)I"⟩
def RX4 : String := "RoomRing"
def TX4 : u_T := fun k => match k with
  | 0 => ("RoomRing", "now", "LRoomRing$Ring;", false)
  | 1 => ("RoomRing", "draft", "LRoomRing$Ring;", false)
  | 2 => ("RoomRing", "history", "LRoomRing$History;", true)
  | 3 => ("RoomRing", "script", "LRoomRing$Script;", true)
  | 4 => ("RoomRing", "refusedBad", "I", false)
  | 5 => ("RoomRing", "refusedNo", "I", false)
  | _ => ("RoomRing", "refusedFull", "I", false)
def tyX4 : Nat → FieldType := fun k => match k with
  | 0 => .object "RoomRing$Ring"
  | 1 => .object "RoomRing$Ring"
  | 2 => .object "RoomRing$History"
  | 3 => .object "RoomRing$Script"
  | 4 => .int
  | 5 => .int
  | _ => .int
abbrev wsX40 : List Cond := u_ws RX4 TX4 7
theorem nmX4 : ∀ a, a < 7 → ∀ b, b < 7 → a ≠ b → (TX4 a).2.1 ≠ (TX4 b).2.1 := by decide +kernel
theorem tyX4_ok : ∀ k, k < 7 → parseFieldDescriptor (TX4 k).2.2.1 = some (tyX4 k) := by decide +kernel
abbrev cX4_init : ByteArray := prog_1_method_1_code
def yX4_init : MethodName := ⟨RX4, "<init>", "()V"⟩
abbrev cX4_host : ByteArray := prog_1_method_2_code
def yX4_host : MethodName := ⟨RX4, "host", "(II)I"⟩
abbrev cX4_weighs : ByteArray := prog_1_method_3_code
def yX4_weighs : MethodName := ⟨RX4, "weighs", "(II)I"⟩
abbrev cX4_goes : ByteArray := prog_1_method_4_code
def yX4_goes : MethodName := ⟨RX4, "goes", "(I)I"⟩
abbrev cX4_key : ByteArray := prog_1_method_5_code
def yX4_key : MethodName := ⟨RX4, "key", "(I)I"⟩
abbrev cX4_drops : ByteArray := prog_1_method_6_code
def yX4_drops : MethodName := ⟨RX4, "drops", "(I)I"⟩
abbrev cX4_extra : ByteArray := prog_1_method_7_code
def yX4_extra : MethodName := ⟨RX4, "extra", "(I)I"⟩
abbrev cX4_of : ByteArray := prog_1_method_8_code
def yX4_of : MethodName := ⟨RX4, "of", "(II)I"⟩
abbrev cX4_mark : ByteArray := prog_1_method_9_code
def yX4_mark : MethodName := ⟨RX4, "mark", "(II)I"⟩
abbrev cX4_at : ByteArray := prog_1_method_10_code
def yX4_at : MethodName := ⟨RX4, "at", "(I)I"⟩
abbrev cX4_name : ByteArray := prog_1_method_11_code
def yX4_name : MethodName := ⟨RX4, "name", "(I)I"⟩
abbrev cX4_share : ByteArray := prog_1_method_12_code
def yX4_share : MethodName := ⟨RX4, "share", "(I)I"⟩
abbrev cX4_has : ByteArray := prog_1_method_13_code
def yX4_has : MethodName := ⟨RX4, "has", "(I)I"⟩
abbrev cX4_about : ByteArray := prog_1_method_14_code
def yX4_about : MethodName := ⟨RX4, "about", "(II)I"⟩
abbrev cX4_would : ByteArray := prog_1_method_15_code
def yX4_would : MethodName := ⟨RX4, "would", "(I)I"⟩
abbrev cX4_without : ByteArray := prog_1_method_16_code
def yX4_without : MethodName := ⟨RX4, "without", "(I)I"⟩
abbrev cX4_count : ByteArray := prog_1_method_17_code
def yX4_count : MethodName := ⟨RX4, "count", "(I)I"⟩
abbrev cX4_type : ByteArray := prog_1_method_18_code
def yX4_type : MethodName := ⟨RX4, "type", "(I)I"⟩
abbrev cX4_clear : ByteArray := prog_1_method_19_code
def yX4_clear : MethodName := ⟨RX4, "clear", "()I"⟩
abbrev cX4_does : ByteArray := prog_1_method_20_code
def yX4_does : MethodName := ⟨RX4, "does", "()I"⟩
abbrev cX4_back : ByteArray := prog_1_method_21_code
def yX4_back : MethodName := ⟨RX4, "back", "()I"⟩
abbrev cX4_told : ByteArray := prog_1_method_22_code
def yX4_told : MethodName := ⟨RX4, "told", "(I)I"⟩
abbrev cX4_digest : ByteArray := prog_1_method_23_code
def yX4_digest : MethodName := ⟨RX4, "digest", "()J"⟩
abbrev cX4_digestHosts : ByteArray := prog_1_method_24_code
def yX4_digestHosts : MethodName := ⟨RX4, "digestHosts", "(J)J"⟩
abbrev cX4_digestKeys : ByteArray := prog_1_method_25_code
def yX4_digestKeys : MethodName := ⟨RX4, "digestKeys", "(J)J"⟩
abbrev cX4_tellOne : ByteArray := prog_1_method_26_code
def yX4_tellOne : MethodName := ⟨RX4, "tellOne", "(III)I"⟩
abbrev cX4_tryOne : ByteArray := prog_1_method_27_code
def yX4_tryOne : MethodName := ⟨RX4, "tryOne", "(II)I"⟩
abbrev cX4_keepDraft : ByteArray := prog_1_method_28_code
def yX4_keepDraft : MethodName := ⟨RX4, "keepDraft", "()V"⟩
abbrev cX4_refuse : ByteArray := prog_1_method_29_code
def yX4_refuse : MethodName := ⟨RX4, "refuse", "(I)I"⟩
abbrev cX4_isName : ByteArray := prog_1_method_30_code
def yX4_isName : MethodName := ⟨RX4, "isName", "(I)Z"⟩
abbrev cX4_isWeight : ByteArray := prog_1_method_31_code
def yX4_isWeight : MethodName := ⟨RX4, "isWeight", "(I)Z"⟩
abbrev cX4_isKey : ByteArray := prog_1_method_32_code
def yX4_isKey : MethodName := ⟨RX4, "isKey", "(I)Z"⟩
def RX5 : String := "RoomRingModel"
def TX5 : u_T := fun k => match k with
  | 0 => ("RoomRingModel", "now", "[I", true)
  | 1 => ("RoomRingModel", "held", "[I", true)
  | 2 => ("RoomRingModel", "past", "[I", true)
  | 3 => ("RoomRingModel", "pasts", "I", false)
  | 4 => ("RoomRingModel", "refused", "[I", true)
  | 5 => ("RoomRingModel", "owner", "[I", true)
  | 6 => ("RoomRingModel", "keyHost", "[I", true)
  | 7 => ("RoomRingModel", "keyMark", "[I", true)
  | 8 => ("RoomRingModel", "load", "[I", true)
  | 9 => ("RoomRingModel", "heldHost", "[I", true)
  | 10 => ("RoomRingModel", "taken", "[Z", true)
  | 11 => ("RoomRingModel", "text", "[I", true)
  | 12 => ("RoomRingModel", "typed", "I", false)
  | 13 => ("RoomRingModel", "at", "I", false)
  | 14 => ("RoomRingModel", "fault", "I", false)
  | 15 => ("RoomRingModel", "orders", "I", false)
  | 16 => ("RoomRingModel", "letters", "[I", true)
  | 17 => ("RoomRingModel", "numbers", "[I", true)
  | _ => ("RoomRingModel", "h", "J", false)
def tyX5 : Nat → FieldType := fun k => match k with
  | 0 => .array .int
  | 1 => .array .int
  | 2 => .array .int
  | 3 => .int
  | 4 => .array .int
  | 5 => .array .int
  | 6 => .array .int
  | 7 => .array .int
  | 8 => .array .int
  | 9 => .array .int
  | 10 => .array .boolean
  | 11 => .array .int
  | 12 => .int
  | 13 => .int
  | 14 => .int
  | 15 => .int
  | 16 => .array .int
  | 17 => .array .int
  | _ => .long
abbrev wsX50 : List Cond := u_ws RX5 TX5 19
theorem nmX5 : ∀ a, a < 19 → ∀ b, b < 19 → a ≠ b → (TX5 a).2.1 ≠ (TX5 b).2.1 := by decide +kernel
theorem tyX5_ok : ∀ k, k < 19 → parseFieldDescriptor (TX5 k).2.2.1 = some (tyX5 k) := by decide +kernel
abbrev cX5_init : ByteArray := prog_7_method_1_code
def yX5_init : MethodName := ⟨RX5, "<init>", "()V"⟩
abbrev cX5_in : ByteArray := prog_7_method_2_code
def yX5_in : MethodName := ⟨RX5, "in", "(III)Z"⟩
abbrev cX5_refuses : ByteArray := prog_7_method_3_code
def yX5_refuses : MethodName := ⟨RX5, "refuses", "(I)I"⟩
abbrev cX5_weights : ByteArray := prog_7_method_4_code
def yX5_weights : MethodName := ⟨RX5, "weights", "()I"⟩
abbrev cX5_bound : ByteArray := prog_7_method_5_code
def yX5_bound : MethodName := ⟨RX5, "bound", "(I)I"⟩
abbrev cX5_first : ByteArray := prog_7_method_6_code
def yX5_first : MethodName := ⟨RX5, "first", "(II)I"⟩
abbrev cX5_layMarks : ByteArray := prog_7_method_7_code
def yX5_layMarks : MethodName := ⟨RX5, "layMarks", "()V"⟩
abbrev cX5_placeOf : ByteArray := prog_7_method_8_code
def yX5_placeOf : MethodName := ⟨RX5, "placeOf", "(I)I"⟩
abbrev cX5_lay : ByteArray := prog_7_method_9_code
def yX5_lay : MethodName := ⟨RX5, "lay", "()V"⟩
abbrev cX5_isRoom : ByteArray := prog_7_method_10_code
def yX5_isRoom : MethodName := ⟨RX5, "isRoom", "(I)Z"⟩
abbrev cX5_hold : ByteArray := prog_7_method_11_code
def yX5_hold : MethodName := ⟨RX5, "hold", "()V"⟩
abbrev cX5_release : ByteArray := prog_7_method_12_code
def yX5_release : MethodName := ⟨RX5, "release", "()V"⟩
abbrev cX5_moved : ByteArray := prog_7_method_13_code
def yX5_moved : MethodName := ⟨RX5, "moved", "()I"⟩
abbrev cX5_push : ByteArray := prog_7_method_14_code
def yX5_push : MethodName := ⟨RX5, "push", "()V"⟩
abbrev cX5_ends : ByteArray := prog_7_method_15_code
def yX5_ends : MethodName := ⟨RX5, "ends", "(I)I"⟩
abbrev cX5_back : ByteArray := prog_7_method_16_code
def yX5_back : MethodName := ⟨RX5, "back", "()I"⟩
abbrev cX5_isName : ByteArray := prog_7_method_17_code
def yX5_isName : MethodName := ⟨RX5, "isName", "(I)Z"⟩
abbrev cX5_isHost : ByteArray := prog_7_method_18_code
def yX5_isHost : MethodName := ⟨RX5, "isHost", "(I)Z"⟩
abbrev cX5_hostMany : ByteArray := prog_7_method_19_code
def yX5_hostMany : MethodName := ⟨RX5, "hostMany", "()I"⟩
abbrev cX5_isKey : ByteArray := prog_7_method_20_code
def yX5_isKey : MethodName := ⟨RX5, "isKey", "(I)Z"⟩
abbrev cX5_rowOf : ByteArray := prog_7_method_21_code
def yX5_rowOf : MethodName := ⟨RX5, "rowOf", "(I)I"⟩
abbrev cX5_doHost : ByteArray := prog_7_method_22_code
def yX5_doHost : MethodName := ⟨RX5, "doHost", "(II)I"⟩
abbrev cX5_doWeighs : ByteArray := prog_7_method_23_code
def yX5_doWeighs : MethodName := ⟨RX5, "doWeighs", "(II)I"⟩
abbrev cX5_doGoes : ByteArray := prog_7_method_24_code
def yX5_doGoes : MethodName := ⟨RX5, "doGoes", "(I)I"⟩
abbrev cX5_mayCome : ByteArray := prog_7_method_25_code
def yX5_mayCome : MethodName := ⟨RX5, "mayCome", "(I)I"⟩
abbrev cX5_doKey : ByteArray := prog_7_method_26_code
def yX5_doKey : MethodName := ⟨RX5, "doKey", "(I)I"⟩
abbrev cX5_doDrops : ByteArray := prog_7_method_27_code
def yX5_doDrops : MethodName := ⟨RX5, "doDrops", "(I)I"⟩
abbrev cX5_doExtra : ByteArray := prog_7_method_28_code
def yX5_doExtra : MethodName := ⟨RX5, "doExtra", "(I)I"⟩
abbrev cX5_host : ByteArray := prog_7_method_29_code
def yX5_host : MethodName := ⟨RX5, "host", "(II)I"⟩
abbrev cX5_weighs : ByteArray := prog_7_method_30_code
def yX5_weighs : MethodName := ⟨RX5, "weighs", "(II)I"⟩
abbrev cX5_goes : ByteArray := prog_7_method_31_code
def yX5_goes : MethodName := ⟨RX5, "goes", "(I)I"⟩
abbrev cX5_key : ByteArray := prog_7_method_32_code
def yX5_key : MethodName := ⟨RX5, "key", "(I)I"⟩
abbrev cX5_drops : ByteArray := prog_7_method_33_code
def yX5_drops : MethodName := ⟨RX5, "drops", "(I)I"⟩
abbrev cX5_extra : ByteArray := prog_7_method_34_code
def yX5_extra : MethodName := ⟨RX5, "extra", "(I)I"⟩
abbrev cX5_ofHost : ByteArray := prog_7_method_35_code
def yX5_ofHost : MethodName := ⟨RX5, "ofHost", "(II)I"⟩
abbrev cX5_of : ByteArray := prog_7_method_36_code
def yX5_of : MethodName := ⟨RX5, "of", "(II)I"⟩
abbrev cX5_mark : ByteArray := prog_7_method_37_code
def yX5_mark : MethodName := ⟨RX5, "mark", "(II)I"⟩
abbrev cX5_markOf : ByteArray := prog_7_method_38_code
def yX5_markOf : MethodName := ⟨RX5, "markOf", "(II)I"⟩
abbrev cX5_at : ByteArray := prog_7_method_39_code
def yX5_at : MethodName := ⟨RX5, "at", "(I)I"⟩
abbrev cX5_name : ByteArray := prog_7_method_40_code
def yX5_name : MethodName := ⟨RX5, "name", "(I)I"⟩
abbrev cX5_shareOf : ByteArray := prog_7_method_41_code
def yX5_shareOf : MethodName := ⟨RX5, "shareOf", "(I)I"⟩
abbrev cX5_share : ByteArray := prog_7_method_42_code
def yX5_share : MethodName := ⟨RX5, "share", "(I)I"⟩
abbrev cX5_has : ByteArray := prog_7_method_43_code
def yX5_has : MethodName := ⟨RX5, "has", "(I)I"⟩
abbrev cX5_aboutKey : ByteArray := prog_7_method_44_code
def yX5_aboutKey : MethodName := ⟨RX5, "aboutKey", "(II)I"⟩
abbrev cX5_about : ByteArray := prog_7_method_45_code
def yX5_about : MethodName := ⟨RX5, "about", "(II)I"⟩
abbrev cX5_would : ByteArray := prog_7_method_46_code
def yX5_would : MethodName := ⟨RX5, "would", "(I)I"⟩
abbrev cX5_without : ByteArray := prog_7_method_47_code
def yX5_without : MethodName := ⟨RX5, "without", "(I)I"⟩
abbrev cX5_marks : ByteArray := prog_7_method_48_code
def yX5_marks : MethodName := ⟨RX5, "marks", "()I"⟩
abbrev cX5_byHosts : ByteArray := prog_7_method_49_code
def yX5_byHosts : MethodName := ⟨RX5, "byHosts", "(Z)I"⟩
abbrev cX5_passedAll : ByteArray := prog_7_method_50_code
def yX5_passedAll : MethodName := ⟨RX5, "passedAll", "()I"⟩
abbrev cX5_counted : ByteArray := prog_7_method_51_code
def yX5_counted : MethodName := ⟨RX5, "counted", "(I)I"⟩
abbrev cX5_count : ByteArray := prog_7_method_52_code
def yX5_count : MethodName := ⟨RX5, "count", "(I)I"⟩
abbrev cX5_type : ByteArray := prog_7_method_53_code
def yX5_type : MethodName := ⟨RX5, "type", "(I)I"⟩
abbrev cX5_clear : ByteArray := prog_7_method_54_code
def yX5_clear : MethodName := ⟨RX5, "clear", "()I"⟩
abbrev cX5_here : ByteArray := prog_7_method_55_code
def yX5_here : MethodName := ⟨RX5, "here", "()I"⟩
abbrev cX5_must : ByteArray := prog_7_method_56_code
def yX5_must : MethodName := ⟨RX5, "must", "(Z)V"⟩
abbrev cX5_isFigure : ByteArray := prog_7_method_57_code
def yX5_isFigure : MethodName := ⟨RX5, "isFigure", "()Z"⟩
abbrev cX5_number : ByteArray := prog_7_method_58_code
def yX5_number : MethodName := ⟨RX5, "number", "()I"⟩
abbrev cX5_numbersOf : ByteArray := prog_7_method_59_code
def yX5_numbersOf : MethodName := ⟨RX5, "numbersOf", "(I)I"⟩
abbrev cX5_readOrder : ByteArray := prog_7_method_60_code
def yX5_readOrder : MethodName := ⟨RX5, "readOrder", "()V"⟩
abbrev cX5_doOrder : ByteArray := prog_7_method_61_code
def yX5_doOrder : MethodName := ⟨RX5, "doOrder", "(I)I"⟩
abbrev cX5_does : ByteArray := prog_7_method_62_code
def yX5_does : MethodName := ⟨RX5, "does", "()I"⟩
abbrev cX5_toldOf : ByteArray := prog_7_method_63_code
def yX5_toldOf : MethodName := ⟨RX5, "toldOf", "(I)I"⟩
abbrev cX5_told : ByteArray := prog_7_method_64_code
def yX5_told : MethodName := ⟨RX5, "told", "(I)I"⟩
abbrev cX5_mix : ByteArray := prog_7_method_65_code
def yX5_mix : MethodName := ⟨RX5, "mix", "(I)V"⟩
abbrev cX5_digest : ByteArray := prog_7_method_66_code
def yX5_digest : MethodName := ⟨RX5, "digest", "()J"⟩
def RJ9 : String := "java/lang/Math"
def TJ9 : u_T := fun k => match k with
  | _ => ("", "", "", false)
def tyJ9 : Nat → FieldType := fun k => match k with
  | _ => .int
abbrev wsJ90 : List Cond := u_ws RJ9 TJ9 0
theorem nmJ9 : ∀ a, a < 0 → ∀ b, b < 0 → a ≠ b → (TJ9 a).2.1 ≠ (TJ9 b).2.1 := by decide +kernel
theorem tyJ9_ok : ∀ k, k < 0 → parseFieldDescriptor (TJ9 k).2.2.1 = some (tyJ9 k) := by decide +kernel
abbrev cJ9_max_7cf53 : ByteArray := prog_8_method_65_code
def yJ9_max_7cf53 : MethodName := ⟨RJ9, "max", "(II)I"⟩
def RJ10 : String := "java/lang/System"
def TJ10 : u_T := fun k => match k with
  | _ => ("", "", "", false)
def tyJ10 : Nat → FieldType := fun k => match k with
  | _ => .int
abbrev wsJ100 : List Cond := u_ws RJ10 TJ10 0
theorem nmJ10 : ∀ a, a < 0 → ∀ b, b < 0 → a ≠ b → (TJ10 a).2.1 ≠ (TJ10 b).2.1 := by decide +kernel
theorem tyJ10_ok : ∀ k, k < 0 → parseFieldDescriptor (TJ10 k).2.2.1 = some (tyJ10 k) := by decide +kernel
def RL : String := "RoomRingLaw"
abbrev cL_law : ByteArray := code
def yL_law : MethodName := ⟨RL, "law", "([I)Z"⟩
def wsX3_init : List Cond := .code yX3_init cX3_init 1 none :: ([.methodLink RX3 3 objectInit, .instanceMethod objectInit, .code objectInit ⟨#[0xb1]⟩ 1 none, .arrayClass .int, .fieldLink RX3 9 "RoomRing$Stock" "names" "[I", .fieldLink RX3 15 "RoomRing$Stock" "weights" "[I", .fieldLink RX3 18 "RoomRing$Stock" "keys" "[I", .fieldLink RX3 21 "RoomRing$Stock" "hostCount" "I", .fieldLink RX3 25 "RoomRing$Stock" "keyCount" "I", .fieldLink RX3 28 "RoomRing$Stock" "extraShare" "I", .fieldLink RX3 31 "RoomRing$Stock" "moved" "I"] ++ wsX30)
def wsX0_init : List Cond := .code yX0_init cX0_init 2 none :: ([.methodLink RX0 3 objectInit, .instanceMethod objectInit, .code objectInit ⟨#[0xb1]⟩ 1 none, .classLink RX0 9 RX3, .fieldLink RX0 11 "RoomRing$History" "states" "[LRoomRing$Stock;", .fieldLink RX0 17 "RoomRing$History" "size" "I", .instantiable RX3 7, .initialized RX3, .instanceMethod yX3_init, .code yX3_init cX3_init 1 none, .methodLink RX3 3 objectInit, .arrayClass .int, .fieldLink RX3 9 "RoomRing$Stock" "names" "[I", .fieldLink RX3 15 "RoomRing$Stock" "weights" "[I", .fieldLink RX3 18 "RoomRing$Stock" "keys" "[I", .fieldLink RX3 21 "RoomRing$Stock" "hostCount" "I", .fieldLink RX3 25 "RoomRing$Stock" "keyCount" "I", .fieldLink RX3 28 "RoomRing$Stock" "extraShare" "I", .fieldLink RX3 31 "RoomRing$Stock" "moved" "I"] ++ wsX00 ++ wsX30)
def wsX0_forgetOldest : List Cond := .code yX0_forgetOldest cX0_forgetOldest 3 none :: ([.fieldLink RX0 11 "RoomRing$History" "states" "[LRoomRing$Stock;", .fieldLink RX0 17 "RoomRing$History" "size" "I"] ++ wsX00)
def wsX3_copyFrom : List Cond := .code yX3_copyFrom cX3_copyFrom 2 none :: ([.fieldLink RX3 9 "RoomRing$Stock" "names" "[I", .methodLink RX3 34 arraycopyName, .native arraycopyName, .static arraycopyName, .initialized "java/lang/System", .fieldLink RX3 15 "RoomRing$Stock" "weights" "[I", .fieldLink RX3 18 "RoomRing$Stock" "keys" "[I", .fieldLink RX3 21 "RoomRing$Stock" "hostCount" "I", .fieldLink RX3 25 "RoomRing$Stock" "keyCount" "I", .fieldLink RX3 28 "RoomRing$Stock" "extraShare" "I", .fieldLink RX3 31 "RoomRing$Stock" "moved" "I"] ++ wsX30)
def wsX0_keep : List Cond := .code yX0_keep cX0_keep 2 none :: ([.fieldLink RX0 17 "RoomRing$History" "size" "I", .fieldLink RX0 11 "RoomRing$History" "states" "[LRoomRing$Stock;", .methodLink RX0 22 yX0_forgetOldest, .instanceMethod yX0_forgetOldest, .selects RX0 yX0_forgetOldest yX0_forgetOldest, .initialized RX0, .code yX0_forgetOldest cX0_forgetOldest 3 none, .methodLink RX0 25 yX3_copyFrom, .instanceMethod yX3_copyFrom, .selects RX3 yX3_copyFrom yX3_copyFrom, .initialized RX3, .code yX3_copyFrom cX3_copyFrom 2 none, .fieldLink RX3 9 "RoomRing$Stock" "names" "[I", .methodLink RX3 34 arraycopyName, .native arraycopyName, .static arraycopyName, .initialized "java/lang/System", .fieldLink RX3 15 "RoomRing$Stock" "weights" "[I", .fieldLink RX3 18 "RoomRing$Stock" "keys" "[I", .fieldLink RX3 21 "RoomRing$Stock" "hostCount" "I", .fieldLink RX3 25 "RoomRing$Stock" "keyCount" "I", .fieldLink RX3 28 "RoomRing$Stock" "extraShare" "I", .fieldLink RX3 31 "RoomRing$Stock" "moved" "I"] ++ wsX00 ++ wsX30)
def wsX0_takeBack : List Cond := .code yX0_takeBack cX0_takeBack 2 none :: ([.fieldLink RX0 17 "RoomRing$History" "size" "I", .fieldLink RX0 11 "RoomRing$History" "states" "[LRoomRing$Stock;", .methodLink RX0 25 yX3_copyFrom, .instanceMethod yX3_copyFrom, .selects RX3 yX3_copyFrom yX3_copyFrom, .initialized RX3, .code yX3_copyFrom cX3_copyFrom 2 none, .fieldLink RX3 9 "RoomRing$Stock" "names" "[I", .methodLink RX3 34 arraycopyName, .native arraycopyName, .static arraycopyName, .initialized "java/lang/System", .fieldLink RX3 15 "RoomRing$Stock" "weights" "[I", .fieldLink RX3 18 "RoomRing$Stock" "keys" "[I", .fieldLink RX3 21 "RoomRing$Stock" "hostCount" "I", .fieldLink RX3 25 "RoomRing$Stock" "keyCount" "I", .fieldLink RX3 28 "RoomRing$Stock" "extraShare" "I", .fieldLink RX3 31 "RoomRing$Stock" "moved" "I"] ++ wsX00 ++ wsX30)
def wsX1_placeBehind : List Cond := .code yX1_placeBehind cX1_placeBehind 1 (some .int) :: ([])
def wsX1_freePlaceFrom : List Cond := .code yX1_freePlaceFrom cX1_freePlaceFrom 4 (some .int) :: ([.fieldLink RX1 18 "RoomRing$Ring" "owners" "[I", .methodLink RX1 70 yX1_placeBehind, .static yX1_placeBehind, .initialized RX1, .code yX1_placeBehind cX1_placeBehind 1 (some .int)] ++ wsX10)
def wsX1_setMarks : List Cond := .code yX1_setMarks cX1_setMarks 5 none :: ([.fieldLink RX1 18 "RoomRing$Ring" "owners" "[I", .fieldLink RX1 12 "RoomRing$Ring" "stock" "LRoomRing$Stock;", .fieldLink RX1 57 "RoomRing$Stock" "hostCount" "I", .fieldLink RX1 60 "RoomRing$Stock" "weights" "[I", .fieldLink RX1 63 "RoomRing$Stock" "names" "[I", .fieldLink RX1 22 "RoomRing$Ring" "markPlaces" "[I", .methodLink RX1 66 yX1_freePlaceFrom, .instanceMethod yX1_freePlaceFrom, .selects RX1 yX1_freePlaceFrom yX1_freePlaceFrom, .initialized RX1, .code yX1_freePlaceFrom cX1_freePlaceFrom 4 (some .int), .methodLink RX1 70 yX1_placeBehind, .static yX1_placeBehind, .code yX1_placeBehind cX1_placeBehind 1 (some .int)] ++ wsX10 ++ wsX30)
def wsX3_allWeights : List Cond := .code yX3_allWeights cX3_allWeights 3 (some .int) :: ([.fieldLink RX3 21 "RoomRing$Stock" "hostCount" "I", .fieldLink RX3 15 "RoomRing$Stock" "weights" "[I"] ++ wsX30)
def wsX1_setBounds : List Cond := .code yX1_setBounds cX1_setBounds 4 none :: ([.fieldLink RX1 12 "RoomRing$Ring" "stock" "LRoomRing$Stock;", .fieldLink RX1 57 "RoomRing$Stock" "hostCount" "I", .fieldLink RX1 49 "RoomRing$Stock" "keyCount" "I", .fieldLink RX1 60 "RoomRing$Stock" "weights" "[I", .fieldLink RX1 77 "RoomRing$Stock" "extraShare" "I", .fieldLink RX1 25 "RoomRing$Ring" "bounds" "[I", .fieldLink RX1 28 "RoomRing$Ring" "loads" "[I", .methodLink RX1 73 yX3_allWeights, .instanceMethod yX3_allWeights, .selects RX3 yX3_allWeights yX3_allWeights, .initialized RX3, .code yX3_allWeights cX3_allWeights 3 (some .int), .fieldLink RX3 21 "RoomRing$Stock" "hostCount" "I", .fieldLink RX3 15 "RoomRing$Stock" "weights" "[I"] ++ wsX10 ++ wsX30)
def wsX1_placeOfKey : List Cond := .code yX1_placeOfKey cX1_placeOfKey 2 (some .int) :: ([.fieldLink RX1 12 "RoomRing$Ring" "stock" "LRoomRing$Stock;", .fieldLink RX1 83 "RoomRing$Stock" "keys" "[I"] ++ wsX10 ++ wsX30)
def wsX1_layKey : List Cond := .code yX1_layKey cX1_layKey 6 none :: ([.fieldLink RX1 31 "RoomRing$Ring" "keyHosts" "[I", .fieldLink RX1 34 "RoomRing$Ring" "passed" "[I", .fieldLink RX1 37 "RoomRing$Ring" "far" "[I", .fieldLink RX1 18 "RoomRing$Ring" "owners" "[I", .fieldLink RX1 28 "RoomRing$Ring" "loads" "[I", .fieldLink RX1 25 "RoomRing$Ring" "bounds" "[I", .methodLink RX1 80 yX1_placeOfKey, .instanceMethod yX1_placeOfKey, .selects RX1 yX1_placeOfKey yX1_placeOfKey, .initialized RX1, .code yX1_placeOfKey cX1_placeOfKey 2 (some .int), .fieldLink RX1 12 "RoomRing$Ring" "stock" "LRoomRing$Stock;", .fieldLink RX1 83 "RoomRing$Stock" "keys" "[I", .methodLink RX1 70 yX1_placeBehind, .static yX1_placeBehind, .code yX1_placeBehind cX1_placeBehind 1 (some .int)] ++ wsX10 ++ wsX30)
def wsX1_lay_r1 : List Cond := [Cond.fieldLink RX1 12 "RoomRing$Ring" "stock" "LRoomRing$Stock;", Cond.fieldLink RX1 49 "RoomRing$Stock" "keyCount" "I", Cond.methodLink RX1 43 yX1_setMarks, Cond.instanceMethod yX1_setMarks, Cond.selects RX1 yX1_setMarks yX1_setMarks, Cond.initialized RX1, Cond.code yX1_setMarks cX1_setMarks 5 none, Cond.fieldLink RX1 18 "RoomRing$Ring" "owners" "[I", Cond.fieldLink RX1 57 "RoomRing$Stock" "hostCount" "I", Cond.fieldLink RX1 60 "RoomRing$Stock" "weights" "[I", Cond.fieldLink RX1 63 "RoomRing$Stock" "names" "[I", Cond.fieldLink RX1 22 "RoomRing$Ring" "markPlaces" "[I", Cond.methodLink RX1 66 yX1_freePlaceFrom, Cond.instanceMethod yX1_freePlaceFrom, Cond.selects RX1 yX1_freePlaceFrom yX1_freePlaceFrom, Cond.code yX1_freePlaceFrom cX1_freePlaceFrom 4 (some .int), Cond.methodLink RX1 70 yX1_placeBehind, Cond.static yX1_placeBehind, Cond.code yX1_placeBehind cX1_placeBehind 1 (some .int), Cond.methodLink RX1 46 yX1_setBounds, Cond.instanceMethod yX1_setBounds, Cond.selects RX1 yX1_setBounds yX1_setBounds, Cond.code yX1_setBounds cX1_setBounds 4 none, Cond.fieldLink RX1 77 "RoomRing$Stock" "extraShare" "I"]
def wsX1_lay_r2 : List Cond := [Cond.fieldLink RX1 25 "RoomRing$Ring" "bounds" "[I", Cond.fieldLink RX1 28 "RoomRing$Ring" "loads" "[I", Cond.methodLink RX1 73 yX3_allWeights, Cond.instanceMethod yX3_allWeights, Cond.selects RX3 yX3_allWeights yX3_allWeights, Cond.initialized RX3, Cond.code yX3_allWeights cX3_allWeights 3 (some .int), Cond.fieldLink RX3 21 "RoomRing$Stock" "hostCount" "I", Cond.fieldLink RX3 15 "RoomRing$Stock" "weights" "[I", Cond.methodLink RX1 53 yX1_layKey, Cond.instanceMethod yX1_layKey, Cond.selects RX1 yX1_layKey yX1_layKey, Cond.code yX1_layKey cX1_layKey 6 none, Cond.fieldLink RX1 31 "RoomRing$Ring" "keyHosts" "[I", Cond.fieldLink RX1 34 "RoomRing$Ring" "passed" "[I", Cond.fieldLink RX1 37 "RoomRing$Ring" "far" "[I", Cond.methodLink RX1 80 yX1_placeOfKey, Cond.instanceMethod yX1_placeOfKey, Cond.selects RX1 yX1_placeOfKey yX1_placeOfKey, Cond.code yX1_placeOfKey cX1_placeOfKey 2 (some .int), Cond.fieldLink RX1 83 "RoomRing$Stock" "keys" "[I"]
def wsX1_lay : List Cond := .code yX1_lay cX1_lay 2 none :: ((wsX1_lay_r1 ++ wsX1_lay_r2) ++ wsX10 ++ wsX30)
def wsX1_init_r1 : List Cond := [Cond.methodLink RX1 3 objectInit, Cond.instanceMethod objectInit, Cond.code objectInit ⟨#[0xb1]⟩ 1 none, Cond.classLink RX1 9 RX3, Cond.instantiable RX3 7, Cond.initialized RX3, Cond.fieldLink RX1 12 "RoomRing$Ring" "stock" "LRoomRing$Stock;", Cond.arrayClass .int, Cond.fieldLink RX1 18 "RoomRing$Ring" "owners" "[I", Cond.fieldLink RX1 22 "RoomRing$Ring" "markPlaces" "[I", Cond.fieldLink RX1 25 "RoomRing$Ring" "bounds" "[I", Cond.fieldLink RX1 28 "RoomRing$Ring" "loads" "[I", Cond.fieldLink RX1 31 "RoomRing$Ring" "keyHosts" "[I", Cond.fieldLink RX1 34 "RoomRing$Ring" "passed" "[I", Cond.fieldLink RX1 37 "RoomRing$Ring" "far" "[I", Cond.instanceMethod yX3_init, Cond.code yX3_init cX3_init 1 none, Cond.methodLink RX3 3 objectInit, Cond.fieldLink RX3 9 "RoomRing$Stock" "names" "[I", Cond.fieldLink RX3 15 "RoomRing$Stock" "weights" "[I", Cond.fieldLink RX3 18 "RoomRing$Stock" "keys" "[I", Cond.fieldLink RX3 21 "RoomRing$Stock" "hostCount" "I", Cond.fieldLink RX3 25 "RoomRing$Stock" "keyCount" "I", Cond.fieldLink RX3 28 "RoomRing$Stock" "extraShare" "I"]
def wsX1_init_r2 : List Cond := [Cond.fieldLink RX3 31 "RoomRing$Stock" "moved" "I", Cond.methodLink RX1 40 yX1_lay, Cond.instanceMethod yX1_lay, Cond.selects RX1 yX1_lay yX1_lay, Cond.initialized RX1, Cond.code yX1_lay cX1_lay 2 none, Cond.fieldLink RX1 49 "RoomRing$Stock" "keyCount" "I", Cond.methodLink RX1 43 yX1_setMarks, Cond.instanceMethod yX1_setMarks, Cond.selects RX1 yX1_setMarks yX1_setMarks, Cond.code yX1_setMarks cX1_setMarks 5 none, Cond.fieldLink RX1 57 "RoomRing$Stock" "hostCount" "I", Cond.fieldLink RX1 60 "RoomRing$Stock" "weights" "[I", Cond.fieldLink RX1 63 "RoomRing$Stock" "names" "[I", Cond.methodLink RX1 66 yX1_freePlaceFrom, Cond.instanceMethod yX1_freePlaceFrom, Cond.selects RX1 yX1_freePlaceFrom yX1_freePlaceFrom, Cond.code yX1_freePlaceFrom cX1_freePlaceFrom 4 (some .int), Cond.methodLink RX1 70 yX1_placeBehind, Cond.static yX1_placeBehind, Cond.code yX1_placeBehind cX1_placeBehind 1 (some .int), Cond.methodLink RX1 46 yX1_setBounds, Cond.instanceMethod yX1_setBounds, Cond.selects RX1 yX1_setBounds yX1_setBounds]
def wsX1_init_r3 : List Cond := [Cond.code yX1_setBounds cX1_setBounds 4 none, Cond.fieldLink RX1 77 "RoomRing$Stock" "extraShare" "I", Cond.methodLink RX1 73 yX3_allWeights, Cond.instanceMethod yX3_allWeights, Cond.selects RX3 yX3_allWeights yX3_allWeights, Cond.code yX3_allWeights cX3_allWeights 3 (some .int), Cond.methodLink RX1 53 yX1_layKey, Cond.instanceMethod yX1_layKey, Cond.selects RX1 yX1_layKey yX1_layKey, Cond.code yX1_layKey cX1_layKey 6 none, Cond.methodLink RX1 80 yX1_placeOfKey, Cond.instanceMethod yX1_placeOfKey, Cond.selects RX1 yX1_placeOfKey yX1_placeOfKey, Cond.code yX1_placeOfKey cX1_placeOfKey 2 (some .int), Cond.fieldLink RX1 83 "RoomRing$Stock" "keys" "[I"]
def wsX1_init : List Cond := .code yX1_init cX1_init 1 none :: ((wsX1_init_r1 ++ (wsX1_init_r2 ++ wsX1_init_r3)) ++ wsX30 ++ wsX10)
def wsX3_findKey : List Cond := .code yX3_findKey cX3_findKey 3 (some .int) :: ([.fieldLink RX3 25 "RoomRing$Stock" "keyCount" "I", .fieldLink RX3 18 "RoomRing$Stock" "keys" "[I"] ++ wsX30)
def wsX3_nameOf : List Cond := .code yX3_nameOf cX3_nameOf 2 (some .int) :: ([.fieldLink RX3 21 "RoomRing$Stock" "hostCount" "I", .fieldLink RX3 9 "RoomRing$Stock" "names" "[I"] ++ wsX30)
def wsX1_hostNameOfKey : List Cond := .code yX1_hostNameOfKey cX1_hostNameOfKey 3 (some .int) :: ([.fieldLink RX1 12 "RoomRing$Ring" "stock" "LRoomRing$Stock;", .fieldLink RX1 31 "RoomRing$Ring" "keyHosts" "[I", .methodLink RX1 86 yX3_findKey, .instanceMethod yX3_findKey, .selects RX3 yX3_findKey yX3_findKey, .initialized RX3, .code yX3_findKey cX3_findKey 3 (some .int), .fieldLink RX3 25 "RoomRing$Stock" "keyCount" "I", .fieldLink RX3 18 "RoomRing$Stock" "keys" "[I", .methodLink RX1 89 yX3_nameOf, .instanceMethod yX3_nameOf, .selects RX3 yX3_nameOf yX3_nameOf, .code yX3_nameOf cX3_nameOf 2 (some .int), .fieldLink RX3 21 "RoomRing$Stock" "hostCount" "I", .fieldLink RX3 9 "RoomRing$Stock" "names" "[I"] ++ wsX10 ++ wsX30)
def wsX1_movedSince : List Cond := .code yX1_movedSince cX1_movedSince 6 (some .int) :: ([.fieldLink RX1 12 "RoomRing$Ring" "stock" "LRoomRing$Stock;", .fieldLink RX1 49 "RoomRing$Stock" "keyCount" "I", .fieldLink RX1 83 "RoomRing$Stock" "keys" "[I", .fieldLink RX1 31 "RoomRing$Ring" "keyHosts" "[I", .methodLink RX1 89 yX3_nameOf, .instanceMethod yX3_nameOf, .selects RX3 yX3_nameOf yX3_nameOf, .initialized RX3, .code yX3_nameOf cX3_nameOf 2 (some .int), .fieldLink RX3 21 "RoomRing$Stock" "hostCount" "I", .fieldLink RX3 9 "RoomRing$Stock" "names" "[I", .methodLink RX1 86 yX3_findKey, .instanceMethod yX3_findKey, .selects RX3 yX3_findKey yX3_findKey, .code yX3_findKey cX3_findKey 3 (some .int), .fieldLink RX3 25 "RoomRing$Stock" "keyCount" "I", .fieldLink RX3 18 "RoomRing$Stock" "keys" "[I", .methodLink RX1 92 yX1_hostNameOfKey, .instanceMethod yX1_hostNameOfKey, .selects RX1 yX1_hostNameOfKey yX1_hostNameOfKey, .initialized RX1, .code yX1_hostNameOfKey cX1_hostNameOfKey 3 (some .int)] ++ wsX10 ++ wsX30)
def wsX1_keyOfHost : List Cond := .code yX1_keyOfHost cX1_keyOfHost 5 (some .int) :: ([.fieldLink RX1 12 "RoomRing$Ring" "stock" "LRoomRing$Stock;", .fieldLink RX1 49 "RoomRing$Stock" "keyCount" "I", .fieldLink RX1 31 "RoomRing$Ring" "keyHosts" "[I", .fieldLink RX1 83 "RoomRing$Stock" "keys" "[I"] ++ wsX10 ++ wsX30)
def wsX1_hostFact : List Cond := .code yX1_hostFact cX1_hostFact 3 (some .int) :: ([.fieldLink RX1 12 "RoomRing$Ring" "stock" "LRoomRing$Stock;", .fieldLink RX1 60 "RoomRing$Stock" "weights" "[I", .fieldLink RX1 25 "RoomRing$Ring" "bounds" "[I", .fieldLink RX1 28 "RoomRing$Ring" "loads" "[I", .methodLink RX1 95 yX1_keyOfHost, .instanceMethod yX1_keyOfHost, .selects RX1 yX1_keyOfHost yX1_keyOfHost, .initialized RX1, .code yX1_keyOfHost cX1_keyOfHost 5 (some .int), .fieldLink RX1 49 "RoomRing$Stock" "keyCount" "I", .fieldLink RX1 31 "RoomRing$Ring" "keyHosts" "[I", .fieldLink RX1 83 "RoomRing$Stock" "keys" "[I"] ++ wsX10 ++ wsX30)
def wsX1_keyFact : List Cond := .code yX1_keyFact cX1_keyFact 3 (some .int) :: ([.fieldLink RX1 34 "RoomRing$Ring" "passed" "[I", .fieldLink RX1 37 "RoomRing$Ring" "far" "[I", .methodLink RX1 80 yX1_placeOfKey, .instanceMethod yX1_placeOfKey, .selects RX1 yX1_placeOfKey yX1_placeOfKey, .initialized RX1, .code yX1_placeOfKey cX1_placeOfKey 2 (some .int), .fieldLink RX1 12 "RoomRing$Ring" "stock" "LRoomRing$Stock;", .fieldLink RX1 83 "RoomRing$Stock" "keys" "[I"] ++ wsX10 ++ wsX30)
def wsX1_placeOfMark : List Cond := .code yX1_placeOfMark cX1_placeOfMark 3 (some .int) :: ([.fieldLink RX1 12 "RoomRing$Ring" "stock" "LRoomRing$Stock;", .fieldLink RX1 60 "RoomRing$Stock" "weights" "[I", .fieldLink RX1 22 "RoomRing$Ring" "markPlaces" "[I"] ++ wsX10 ++ wsX30)
def wsX1_firstOwner : List Cond := .code yX1_firstOwner cX1_firstOwner 2 (some .int) :: ([.fieldLink RX1 18 "RoomRing$Ring" "owners" "[I"] ++ wsX10)
def wsX1_placesLeadingTo : List Cond := .code yX1_placesLeadingTo cX1_placesLeadingTo 5 (some .int) :: ([.fieldLink RX1 18 "RoomRing$Ring" "owners" "[I", .methodLink RX1 99 yX1_firstOwner, .instanceMethod yX1_firstOwner, .selects RX1 yX1_firstOwner yX1_firstOwner, .initialized RX1, .code yX1_firstOwner cX1_firstOwner 2 (some .int)] ++ wsX10)
def wsX1_fullHosts : List Cond := .code yX1_fullHosts cX1_fullHosts 3 (some .int) :: ([.fieldLink RX1 12 "RoomRing$Ring" "stock" "LRoomRing$Stock;", .fieldLink RX1 57 "RoomRing$Stock" "hostCount" "I", .fieldLink RX1 28 "RoomRing$Ring" "loads" "[I", .fieldLink RX1 25 "RoomRing$Ring" "bounds" "[I"] ++ wsX10 ++ wsX30)
def wsX1_allPassed : List Cond := .code yX1_allPassed cX1_allPassed 3 (some .int) :: ([.fieldLink RX1 12 "RoomRing$Ring" "stock" "LRoomRing$Stock;", .fieldLink RX1 49 "RoomRing$Stock" "keyCount" "I", .fieldLink RX1 34 "RoomRing$Ring" "passed" "[I"] ++ wsX10 ++ wsX30)
def wsX1_mostLoad : List Cond := .code yX1_mostLoad cX1_mostLoad 3 (some .int) :: ([.fieldLink RX1 12 "RoomRing$Ring" "stock" "LRoomRing$Stock;", .fieldLink RX1 57 "RoomRing$Stock" "hostCount" "I", .fieldLink RX1 28 "RoomRing$Ring" "loads" "[I", .methodLink RX1 102 Lib.Math.max.name, .static Lib.Math.max.name, .initialized "java/lang/Math", .code Lib.Math.max.name Lib.Math.max.code 2 (some .int)] ++ wsX10 ++ wsX30)
def wsX2_init : List Cond := .code yX2_init cX2_init 1 none :: ([.methodLink RX2 3 objectInit, .instanceMethod objectInit, .code objectInit ⟨#[0xb1]⟩ 1 none, .arrayClass .int, .fieldLink RX2 9 "RoomRing$Script" "bytes" "[I", .fieldLink RX2 15 "RoomRing$Script" "length" "I", .fieldLink RX2 19 "RoomRing$Script" "letters" "[I", .fieldLink RX2 22 "RoomRing$Script" "firsts" "[I", .fieldLink RX2 25 "RoomRing$Script" "seconds" "[I", .fieldLink RX2 28 "RoomRing$Script" "orderCount" "I", .fieldLink RX2 31 "RoomRing$Script" "awaited" "I", .fieldLink RX2 34 "RoomRing$Script" "numbersRead" "I", .fieldLink RX2 37 "RoomRing$Script" "figures" "I", .fieldLink RX2 40 "RoomRing$Script" "number" "I"] ++ wsX20)
def wsX2_append : List Cond := .code yX2_append cX2_append 2 (some .boolean) :: ([.fieldLink RX2 15 "RoomRing$Script" "length" "I", .fieldLink RX2 9 "RoomRing$Script" "bytes" "[I"] ++ wsX20)
def wsX2_isFigure : List Cond := .code yX2_isFigure cX2_isFigure 1 (some .boolean) :: ([])
def wsX2_addsFigure : List Cond := .code yX2_addsFigure cX2_addsFigure 2 (some .boolean) :: ([.fieldLink RX2 37 "RoomRing$Script" "figures" "I", .fieldLink RX2 40 "RoomRing$Script" "number" "I"] ++ wsX20)
def wsX2_numbersOf : List Cond := .code yX2_numbersOf cX2_numbersOf 1 (some .int) :: ([])
def wsX2_endNumber : List Cond := .code yX2_endNumber cX2_endNumber 1 none :: ([.fieldLink RX2 34 "RoomRing$Script" "numbersRead" "I", .fieldLink RX2 22 "RoomRing$Script" "firsts" "[I", .fieldLink RX2 28 "RoomRing$Script" "orderCount" "I", .fieldLink RX2 40 "RoomRing$Script" "number" "I", .fieldLink RX2 25 "RoomRing$Script" "seconds" "[I", .fieldLink RX2 19 "RoomRing$Script" "letters" "[I", .fieldLink RX2 31 "RoomRing$Script" "awaited" "I", .methodLink RX2 65 yX2_numbersOf, .static yX2_numbersOf, .initialized RX2, .code yX2_numbersOf cX2_numbersOf 1 (some .int)] ++ wsX20)
def wsX2_startsOrder : List Cond := .code yX2_startsOrder cX2_startsOrder 2 (some .boolean) :: ([.fieldLink RX2 28 "RoomRing$Script" "orderCount" "I", .fieldLink RX2 19 "RoomRing$Script" "letters" "[I", .fieldLink RX2 34 "RoomRing$Script" "numbersRead" "I", .fieldLink RX2 31 "RoomRing$Script" "awaited" "I", .methodLink RX2 65 yX2_numbersOf, .static yX2_numbersOf, .initialized RX2, .code yX2_numbersOf cX2_numbersOf 1 (some .int)] ++ wsX20)
def wsX2_startsNumber : List Cond := .code yX2_startsNumber cX2_startsNumber 2 (some .boolean) :: ([.fieldLink RX2 40 "RoomRing$Script" "number" "I", .fieldLink RX2 37 "RoomRing$Script" "figures" "I", .fieldLink RX2 31 "RoomRing$Script" "awaited" "I", .methodLink RX2 47 yX2_isFigure, .static yX2_isFigure, .initialized RX2, .code yX2_isFigure cX2_isFigure 1 (some .boolean), .methodLink RX2 50 yX2_addsFigure, .instanceMethod yX2_addsFigure, .selects RX2 yX2_addsFigure yX2_addsFigure, .code yX2_addsFigure cX2_addsFigure 2 (some .boolean)] ++ wsX20)
def wsX2_endsOrder : List Cond := .code yX2_endsOrder cX2_endsOrder 2 (some .boolean) :: ([.fieldLink RX2 28 "RoomRing$Script" "orderCount" "I", .fieldLink RX2 31 "RoomRing$Script" "awaited" "I"] ++ wsX20)
def wsX2_accepts_r1 : List Cond := [Cond.fieldLink RX2 31 "RoomRing$Script" "awaited" "I", Cond.methodLink RX2 47 yX2_isFigure, Cond.static yX2_isFigure, Cond.initialized RX2, Cond.code yX2_isFigure cX2_isFigure 1 (some .boolean), Cond.methodLink RX2 50 yX2_addsFigure, Cond.instanceMethod yX2_addsFigure, Cond.selects RX2 yX2_addsFigure yX2_addsFigure, Cond.code yX2_addsFigure cX2_addsFigure 2 (some .boolean), Cond.fieldLink RX2 37 "RoomRing$Script" "figures" "I", Cond.fieldLink RX2 40 "RoomRing$Script" "number" "I", Cond.methodLink RX2 53 yX2_endNumber, Cond.instanceMethod yX2_endNumber, Cond.selects RX2 yX2_endNumber yX2_endNumber, Cond.code yX2_endNumber cX2_endNumber 1 none, Cond.fieldLink RX2 34 "RoomRing$Script" "numbersRead" "I", Cond.fieldLink RX2 22 "RoomRing$Script" "firsts" "[I", Cond.fieldLink RX2 28 "RoomRing$Script" "orderCount" "I", Cond.fieldLink RX2 25 "RoomRing$Script" "seconds" "[I", Cond.fieldLink RX2 19 "RoomRing$Script" "letters" "[I", Cond.methodLink RX2 65 yX2_numbersOf, Cond.static yX2_numbersOf, Cond.code yX2_numbersOf cX2_numbersOf 1 (some .int), Cond.methodLink RX2 56 yX2_startsOrder]
def wsX2_accepts_r2 : List Cond := [Cond.instanceMethod yX2_startsOrder, Cond.selects RX2 yX2_startsOrder yX2_startsOrder, Cond.code yX2_startsOrder cX2_startsOrder 2 (some .boolean), Cond.methodLink RX2 59 yX2_startsNumber, Cond.instanceMethod yX2_startsNumber, Cond.selects RX2 yX2_startsNumber yX2_startsNumber, Cond.code yX2_startsNumber cX2_startsNumber 2 (some .boolean), Cond.methodLink RX2 62 yX2_endsOrder, Cond.instanceMethod yX2_endsOrder, Cond.selects RX2 yX2_endsOrder yX2_endsOrder, Cond.code yX2_endsOrder cX2_endsOrder 2 (some .boolean)]
def wsX2_accepts : List Cond := .code yX2_accepts cX2_accepts 2 (some .boolean) :: ((wsX2_accepts_r1 ++ wsX2_accepts_r2) ++ wsX20)
def wsX2_read_r1 : List Cond := [Cond.fieldLink RX2 28 "RoomRing$Script" "orderCount" "I", Cond.fieldLink RX2 31 "RoomRing$Script" "awaited" "I", Cond.fieldLink RX2 15 "RoomRing$Script" "length" "I", Cond.fieldLink RX2 9 "RoomRing$Script" "bytes" "[I", Cond.methodLink RX2 43 yX2_accepts, Cond.instanceMethod yX2_accepts, Cond.selects RX2 yX2_accepts yX2_accepts, Cond.initialized RX2, Cond.code yX2_accepts cX2_accepts 2 (some .boolean), Cond.methodLink RX2 47 yX2_isFigure, Cond.static yX2_isFigure, Cond.code yX2_isFigure cX2_isFigure 1 (some .boolean), Cond.methodLink RX2 50 yX2_addsFigure, Cond.instanceMethod yX2_addsFigure, Cond.selects RX2 yX2_addsFigure yX2_addsFigure, Cond.code yX2_addsFigure cX2_addsFigure 2 (some .boolean), Cond.fieldLink RX2 37 "RoomRing$Script" "figures" "I", Cond.fieldLink RX2 40 "RoomRing$Script" "number" "I", Cond.methodLink RX2 53 yX2_endNumber, Cond.instanceMethod yX2_endNumber, Cond.selects RX2 yX2_endNumber yX2_endNumber, Cond.code yX2_endNumber cX2_endNumber 1 none, Cond.fieldLink RX2 34 "RoomRing$Script" "numbersRead" "I", Cond.fieldLink RX2 22 "RoomRing$Script" "firsts" "[I"]
def wsX2_read_r2 : List Cond := [Cond.fieldLink RX2 25 "RoomRing$Script" "seconds" "[I", Cond.fieldLink RX2 19 "RoomRing$Script" "letters" "[I", Cond.methodLink RX2 65 yX2_numbersOf, Cond.static yX2_numbersOf, Cond.code yX2_numbersOf cX2_numbersOf 1 (some .int), Cond.methodLink RX2 56 yX2_startsOrder, Cond.instanceMethod yX2_startsOrder, Cond.selects RX2 yX2_startsOrder yX2_startsOrder, Cond.code yX2_startsOrder cX2_startsOrder 2 (some .boolean), Cond.methodLink RX2 59 yX2_startsNumber, Cond.instanceMethod yX2_startsNumber, Cond.selects RX2 yX2_startsNumber yX2_startsNumber, Cond.code yX2_startsNumber cX2_startsNumber 2 (some .boolean), Cond.methodLink RX2 62 yX2_endsOrder, Cond.instanceMethod yX2_endsOrder, Cond.selects RX2 yX2_endsOrder yX2_endsOrder, Cond.code yX2_endsOrder cX2_endsOrder 2 (some .boolean)]
def wsX2_read : List Cond := .code yX2_read cX2_read 2 (some .int) :: ((wsX2_read_r1 ++ wsX2_read_r2) ++ wsX20)
def wsX3_findHost : List Cond := .code yX3_findHost cX3_findHost 3 (some .int) :: ([.fieldLink RX3 21 "RoomRing$Stock" "hostCount" "I", .fieldLink RX3 9 "RoomRing$Stock" "names" "[I"] ++ wsX30)
def wsX4_isName : List Cond := .code yX4_isName cX4_isName 1 (some .boolean) :: ([])
def wsX4_isWeight : List Cond := .code yX4_isWeight cX4_isWeight 1 (some .boolean) :: ([])
def wsX3_addHost : List Cond := .code yX3_addHost cX3_addHost 4 (some .int) :: ([.fieldLink RX3 21 "RoomRing$Stock" "hostCount" "I", .fieldLink RX3 9 "RoomRing$Stock" "names" "[I", .fieldLink RX3 15 "RoomRing$Stock" "weights" "[I", .static yX4_isName, .initialized RX4, .code yX4_isName cX4_isName 1 (some .boolean), .static yX4_isWeight, .code yX4_isWeight cX4_isWeight 1 (some .boolean), .methodLink RX3 67 yX3_findHost, .instanceMethod yX3_findHost, .selects RX3 yX3_findHost yX3_findHost, .initialized RX3, .code yX3_findHost cX3_findHost 3 (some .int)] ++ wsX30)
def wsX3_weighAnew : List Cond := .code yX3_weighAnew cX3_weighAnew 4 (some .int) :: ([.fieldLink RX3 15 "RoomRing$Stock" "weights" "[I", .static yX4_isName, .initialized RX4, .code yX4_isName cX4_isName 1 (some .boolean), .static yX4_isWeight, .code yX4_isWeight cX4_isWeight 1 (some .boolean), .methodLink RX3 67 yX3_findHost, .instanceMethod yX3_findHost, .selects RX3 yX3_findHost yX3_findHost, .initialized RX3, .code yX3_findHost cX3_findHost 3 (some .int), .fieldLink RX3 21 "RoomRing$Stock" "hostCount" "I", .fieldLink RX3 9 "RoomRing$Stock" "names" "[I"] ++ wsX30)
def wsX3_removeHost : List Cond := .code yX3_removeHost cX3_removeHost 4 (some .int) :: ([.fieldLink RX3 21 "RoomRing$Stock" "hostCount" "I", .fieldLink RX3 9 "RoomRing$Stock" "names" "[I", .fieldLink RX3 15 "RoomRing$Stock" "weights" "[I", .static yX4_isName, .initialized RX4, .code yX4_isName cX4_isName 1 (some .boolean), .methodLink RX3 67 yX3_findHost, .instanceMethod yX3_findHost, .selects RX3 yX3_findHost yX3_findHost, .initialized RX3, .code yX3_findHost cX3_findHost 3 (some .int)] ++ wsX30)
def wsX4_isKey : List Cond := .code yX4_isKey cX4_isKey 1 (some .boolean) :: ([])
def wsX3_addKey : List Cond := .code yX3_addKey cX3_addKey 3 (some .int) :: ([.fieldLink RX3 25 "RoomRing$Stock" "keyCount" "I", .fieldLink RX3 18 "RoomRing$Stock" "keys" "[I", .static yX4_isKey, .initialized RX4, .code yX4_isKey cX4_isKey 1 (some .boolean), .methodLink RX3 73 yX3_findKey, .instanceMethod yX3_findKey, .selects RX3 yX3_findKey yX3_findKey, .initialized RX3, .code yX3_findKey cX3_findKey 3 (some .int)] ++ wsX30)
def wsX3_removeKey : List Cond := .code yX3_removeKey cX3_removeKey 4 (some .int) :: ([.fieldLink RX3 25 "RoomRing$Stock" "keyCount" "I", .fieldLink RX3 18 "RoomRing$Stock" "keys" "[I", .static yX4_isKey, .initialized RX4, .code yX4_isKey cX4_isKey 1 (some .boolean), .methodLink RX3 73 yX3_findKey, .instanceMethod yX3_findKey, .selects RX3 yX3_findKey yX3_findKey, .initialized RX3, .code yX3_findKey cX3_findKey 3 (some .int)] ++ wsX30)
def wsX3_changeExtra : List Cond := .code yX3_changeExtra cX3_changeExtra 2 (some .int) :: ([.fieldLink RX3 28 "RoomRing$Stock" "extraShare" "I"] ++ wsX30)
def wsX3_take_r1 : List Cond := [Cond.methodLink RX3 40 yX3_addHost, Cond.instanceMethod yX3_addHost, Cond.selects RX3 yX3_addHost yX3_addHost, Cond.initialized RX3, Cond.code yX3_addHost cX3_addHost 4 (some .int), Cond.fieldLink RX3 21 "RoomRing$Stock" "hostCount" "I", Cond.fieldLink RX3 9 "RoomRing$Stock" "names" "[I", Cond.fieldLink RX3 15 "RoomRing$Stock" "weights" "[I", Cond.static yX4_isName, Cond.initialized RX4, Cond.code yX4_isName cX4_isName 1 (some .boolean), Cond.static yX4_isWeight, Cond.code yX4_isWeight cX4_isWeight 1 (some .boolean), Cond.methodLink RX3 67 yX3_findHost, Cond.instanceMethod yX3_findHost, Cond.selects RX3 yX3_findHost yX3_findHost, Cond.code yX3_findHost cX3_findHost 3 (some .int), Cond.methodLink RX3 44 yX3_weighAnew, Cond.instanceMethod yX3_weighAnew, Cond.selects RX3 yX3_weighAnew yX3_weighAnew, Cond.code yX3_weighAnew cX3_weighAnew 4 (some .int), Cond.methodLink RX3 47 yX3_removeHost, Cond.instanceMethod yX3_removeHost, Cond.selects RX3 yX3_removeHost yX3_removeHost]
def wsX3_take_r2 : List Cond := [Cond.code yX3_removeHost cX3_removeHost 4 (some .int), Cond.methodLink RX3 51 yX3_addKey, Cond.instanceMethod yX3_addKey, Cond.selects RX3 yX3_addKey yX3_addKey, Cond.code yX3_addKey cX3_addKey 3 (some .int), Cond.fieldLink RX3 25 "RoomRing$Stock" "keyCount" "I", Cond.fieldLink RX3 18 "RoomRing$Stock" "keys" "[I", Cond.static yX4_isKey, Cond.code yX4_isKey cX4_isKey 1 (some .boolean), Cond.methodLink RX3 73 yX3_findKey, Cond.instanceMethod yX3_findKey, Cond.selects RX3 yX3_findKey yX3_findKey, Cond.code yX3_findKey cX3_findKey 3 (some .int), Cond.methodLink RX3 54 yX3_removeKey, Cond.instanceMethod yX3_removeKey, Cond.selects RX3 yX3_removeKey yX3_removeKey, Cond.code yX3_removeKey cX3_removeKey 4 (some .int), Cond.methodLink RX3 57 yX3_changeExtra, Cond.instanceMethod yX3_changeExtra, Cond.selects RX3 yX3_changeExtra yX3_changeExtra, Cond.code yX3_changeExtra cX3_changeExtra 2 (some .int), Cond.fieldLink RX3 28 "RoomRing$Stock" "extraShare" "I"]
def wsX3_take : List Cond := .code yX3_take cX3_take 4 (some .int) :: ((wsX3_take_r1 ++ wsX3_take_r2) ++ wsX30)
def wsX4_init_r1 : List Cond := [Cond.methodLink RX4 3 objectInit, Cond.instanceMethod objectInit, Cond.code objectInit ⟨#[0xb1]⟩ 1 none, Cond.classLink RX4 9 RX1, Cond.instantiable RX1 8, Cond.initialized RX1, Cond.fieldLink RX4 12 "RoomRing" "now" "LRoomRing$Ring;", Cond.fieldLink RX4 16 "RoomRing" "draft" "LRoomRing$Ring;", Cond.classLink RX4 19 RX0, Cond.instantiable RX0 2, Cond.initialized RX0, Cond.fieldLink RX4 22 "RoomRing" "history" "LRoomRing$History;", Cond.classLink RX4 26 RX2, Cond.instantiable RX2 10, Cond.initialized RX2, Cond.fieldLink RX4 29 "RoomRing" "script" "LRoomRing$Script;", Cond.fieldLink RX4 33 "RoomRing" "refusedBad" "I", Cond.fieldLink RX4 37 "RoomRing" "refusedNo" "I", Cond.fieldLink RX4 40 "RoomRing" "refusedFull" "I", Cond.methodLink RX4 11 yX1_init, Cond.instanceMethod yX1_init, Cond.code yX1_init cX1_init 1 none, Cond.methodLink RX1 3 objectInit, Cond.classLink RX1 9 RX3]
def wsX4_init_r2 : List Cond := [Cond.instantiable RX3 7, Cond.initialized RX3, Cond.fieldLink RX1 12 "RoomRing$Ring" "stock" "LRoomRing$Stock;", Cond.arrayClass .int, Cond.fieldLink RX1 18 "RoomRing$Ring" "owners" "[I", Cond.fieldLink RX1 22 "RoomRing$Ring" "markPlaces" "[I", Cond.fieldLink RX1 25 "RoomRing$Ring" "bounds" "[I", Cond.fieldLink RX1 28 "RoomRing$Ring" "loads" "[I", Cond.fieldLink RX1 31 "RoomRing$Ring" "keyHosts" "[I", Cond.fieldLink RX1 34 "RoomRing$Ring" "passed" "[I", Cond.fieldLink RX1 37 "RoomRing$Ring" "far" "[I", Cond.instanceMethod yX3_init, Cond.code yX3_init cX3_init 1 none, Cond.methodLink RX3 3 objectInit, Cond.fieldLink RX3 9 "RoomRing$Stock" "names" "[I", Cond.fieldLink RX3 15 "RoomRing$Stock" "weights" "[I", Cond.fieldLink RX3 18 "RoomRing$Stock" "keys" "[I", Cond.fieldLink RX3 21 "RoomRing$Stock" "hostCount" "I", Cond.fieldLink RX3 25 "RoomRing$Stock" "keyCount" "I", Cond.fieldLink RX3 28 "RoomRing$Stock" "extraShare" "I", Cond.fieldLink RX3 31 "RoomRing$Stock" "moved" "I", Cond.methodLink RX1 40 yX1_lay, Cond.instanceMethod yX1_lay, Cond.selects RX1 yX1_lay yX1_lay]
def wsX4_init_r3 : List Cond := [Cond.code yX1_lay cX1_lay 2 none, Cond.fieldLink RX1 49 "RoomRing$Stock" "keyCount" "I", Cond.methodLink RX1 43 yX1_setMarks, Cond.instanceMethod yX1_setMarks, Cond.selects RX1 yX1_setMarks yX1_setMarks, Cond.code yX1_setMarks cX1_setMarks 5 none, Cond.fieldLink RX1 57 "RoomRing$Stock" "hostCount" "I", Cond.fieldLink RX1 60 "RoomRing$Stock" "weights" "[I", Cond.fieldLink RX1 63 "RoomRing$Stock" "names" "[I", Cond.methodLink RX1 66 yX1_freePlaceFrom, Cond.instanceMethod yX1_freePlaceFrom, Cond.selects RX1 yX1_freePlaceFrom yX1_freePlaceFrom, Cond.code yX1_freePlaceFrom cX1_freePlaceFrom 4 (some .int), Cond.methodLink RX1 70 yX1_placeBehind, Cond.static yX1_placeBehind, Cond.code yX1_placeBehind cX1_placeBehind 1 (some .int), Cond.methodLink RX1 46 yX1_setBounds, Cond.instanceMethod yX1_setBounds, Cond.selects RX1 yX1_setBounds yX1_setBounds, Cond.code yX1_setBounds cX1_setBounds 4 none, Cond.fieldLink RX1 77 "RoomRing$Stock" "extraShare" "I", Cond.methodLink RX1 73 yX3_allWeights, Cond.instanceMethod yX3_allWeights, Cond.selects RX3 yX3_allWeights yX3_allWeights]
def wsX4_init_r4 : List Cond := [Cond.code yX3_allWeights cX3_allWeights 3 (some .int), Cond.methodLink RX1 53 yX1_layKey, Cond.instanceMethod yX1_layKey, Cond.selects RX1 yX1_layKey yX1_layKey, Cond.code yX1_layKey cX1_layKey 6 none, Cond.methodLink RX1 80 yX1_placeOfKey, Cond.instanceMethod yX1_placeOfKey, Cond.selects RX1 yX1_placeOfKey yX1_placeOfKey, Cond.code yX1_placeOfKey cX1_placeOfKey 2 (some .int), Cond.fieldLink RX1 83 "RoomRing$Stock" "keys" "[I", Cond.methodLink RX4 21 yX0_init, Cond.instanceMethod yX0_init, Cond.code yX0_init cX0_init 2 none, Cond.methodLink RX0 3 objectInit, Cond.classLink RX0 9 RX3, Cond.fieldLink RX0 11 "RoomRing$History" "states" "[LRoomRing$Stock;", Cond.fieldLink RX0 17 "RoomRing$History" "size" "I", Cond.instanceMethod yX2_init, Cond.code yX2_init cX2_init 1 none, Cond.methodLink RX2 3 objectInit, Cond.fieldLink RX2 9 "RoomRing$Script" "bytes" "[I", Cond.fieldLink RX2 15 "RoomRing$Script" "length" "I", Cond.fieldLink RX2 19 "RoomRing$Script" "letters" "[I", Cond.fieldLink RX2 22 "RoomRing$Script" "firsts" "[I"]
def wsX4_init_r5 : List Cond := [Cond.fieldLink RX2 25 "RoomRing$Script" "seconds" "[I", Cond.fieldLink RX2 28 "RoomRing$Script" "orderCount" "I", Cond.fieldLink RX2 31 "RoomRing$Script" "awaited" "I", Cond.fieldLink RX2 34 "RoomRing$Script" "numbersRead" "I", Cond.fieldLink RX2 37 "RoomRing$Script" "figures" "I", Cond.fieldLink RX2 40 "RoomRing$Script" "number" "I"]
def wsX4_init : List Cond := .code yX4_init cX4_init 1 none :: ((wsX4_init_r1 ++ (wsX4_init_r2 ++ (wsX4_init_r3 ++ (wsX4_init_r4 ++ wsX4_init_r5)))) ++ wsX10 ++ wsX40 ++ wsX00 ++ wsX20 ++ wsX30)
def wsX4_refuse : List Cond := .code yX4_refuse cX4_refuse 2 (some .int) :: ([.fieldLink RX4 33 "RoomRing" "refusedBad" "I", .fieldLink RX4 37 "RoomRing" "refusedNo" "I", .fieldLink RX4 40 "RoomRing" "refusedFull" "I"] ++ wsX40)
def wsX4_keepDraft_r1 : List Cond := [Cond.fieldLink RX4 16 "RoomRing" "draft" "LRoomRing$Ring;", Cond.fieldLink RX4 58 "RoomRing$Ring" "stock" "LRoomRing$Stock;", Cond.fieldLink RX4 12 "RoomRing" "now" "LRoomRing$Ring;", Cond.fieldLink RX4 116 "RoomRing$Stock" "moved" "I", Cond.fieldLink RX4 22 "RoomRing" "history" "LRoomRing$History;", Cond.methodLink RX4 165 yX1_lay, Cond.instanceMethod yX1_lay, Cond.selects RX1 yX1_lay yX1_lay, Cond.initialized RX1, Cond.code yX1_lay cX1_lay 2 none, Cond.fieldLink RX1 12 "RoomRing$Ring" "stock" "LRoomRing$Stock;", Cond.fieldLink RX1 49 "RoomRing$Stock" "keyCount" "I", Cond.methodLink RX1 43 yX1_setMarks, Cond.instanceMethod yX1_setMarks, Cond.selects RX1 yX1_setMarks yX1_setMarks, Cond.code yX1_setMarks cX1_setMarks 5 none, Cond.fieldLink RX1 18 "RoomRing$Ring" "owners" "[I", Cond.fieldLink RX1 57 "RoomRing$Stock" "hostCount" "I", Cond.fieldLink RX1 60 "RoomRing$Stock" "weights" "[I", Cond.fieldLink RX1 63 "RoomRing$Stock" "names" "[I", Cond.fieldLink RX1 22 "RoomRing$Ring" "markPlaces" "[I", Cond.methodLink RX1 66 yX1_freePlaceFrom, Cond.instanceMethod yX1_freePlaceFrom, Cond.selects RX1 yX1_freePlaceFrom yX1_freePlaceFrom]
def wsX4_keepDraft_r2 : List Cond := [Cond.code yX1_freePlaceFrom cX1_freePlaceFrom 4 (some .int), Cond.methodLink RX1 70 yX1_placeBehind, Cond.static yX1_placeBehind, Cond.code yX1_placeBehind cX1_placeBehind 1 (some .int), Cond.methodLink RX1 46 yX1_setBounds, Cond.instanceMethod yX1_setBounds, Cond.selects RX1 yX1_setBounds yX1_setBounds, Cond.code yX1_setBounds cX1_setBounds 4 none, Cond.fieldLink RX1 77 "RoomRing$Stock" "extraShare" "I", Cond.fieldLink RX1 25 "RoomRing$Ring" "bounds" "[I", Cond.fieldLink RX1 28 "RoomRing$Ring" "loads" "[I", Cond.methodLink RX1 73 yX3_allWeights, Cond.instanceMethod yX3_allWeights, Cond.selects RX3 yX3_allWeights yX3_allWeights, Cond.initialized RX3, Cond.code yX3_allWeights cX3_allWeights 3 (some .int), Cond.fieldLink RX3 21 "RoomRing$Stock" "hostCount" "I", Cond.fieldLink RX3 15 "RoomRing$Stock" "weights" "[I", Cond.methodLink RX1 53 yX1_layKey, Cond.instanceMethod yX1_layKey, Cond.selects RX1 yX1_layKey yX1_layKey, Cond.code yX1_layKey cX1_layKey 6 none, Cond.fieldLink RX1 31 "RoomRing$Ring" "keyHosts" "[I", Cond.fieldLink RX1 34 "RoomRing$Ring" "passed" "[I"]
def wsX4_keepDraft_r3 : List Cond := [Cond.fieldLink RX1 37 "RoomRing$Ring" "far" "[I", Cond.methodLink RX1 80 yX1_placeOfKey, Cond.instanceMethod yX1_placeOfKey, Cond.selects RX1 yX1_placeOfKey yX1_placeOfKey, Cond.code yX1_placeOfKey cX1_placeOfKey 2 (some .int), Cond.fieldLink RX1 83 "RoomRing$Stock" "keys" "[I", Cond.methodLink RX4 99 yX1_movedSince, Cond.instanceMethod yX1_movedSince, Cond.selects RX1 yX1_movedSince yX1_movedSince, Cond.code yX1_movedSince cX1_movedSince 6 (some .int), Cond.methodLink RX1 89 yX3_nameOf, Cond.instanceMethod yX3_nameOf, Cond.selects RX3 yX3_nameOf yX3_nameOf, Cond.code yX3_nameOf cX3_nameOf 2 (some .int), Cond.fieldLink RX3 9 "RoomRing$Stock" "names" "[I", Cond.methodLink RX1 86 yX3_findKey, Cond.instanceMethod yX3_findKey, Cond.selects RX3 yX3_findKey yX3_findKey, Cond.code yX3_findKey cX3_findKey 3 (some .int), Cond.fieldLink RX3 25 "RoomRing$Stock" "keyCount" "I", Cond.fieldLink RX3 18 "RoomRing$Stock" "keys" "[I", Cond.methodLink RX1 92 yX1_hostNameOfKey, Cond.instanceMethod yX1_hostNameOfKey, Cond.selects RX1 yX1_hostNameOfKey yX1_hostNameOfKey]
def wsX4_keepDraft_r4 : List Cond := [Cond.code yX1_hostNameOfKey cX1_hostNameOfKey 3 (some .int), Cond.methodLink RX4 194 yX0_keep, Cond.instanceMethod yX0_keep, Cond.selects RX0 yX0_keep yX0_keep, Cond.initialized RX0, Cond.code yX0_keep cX0_keep 2 none, Cond.fieldLink RX0 17 "RoomRing$History" "size" "I", Cond.fieldLink RX0 11 "RoomRing$History" "states" "[LRoomRing$Stock;", Cond.methodLink RX0 22 yX0_forgetOldest, Cond.instanceMethod yX0_forgetOldest, Cond.selects RX0 yX0_forgetOldest yX0_forgetOldest, Cond.code yX0_forgetOldest cX0_forgetOldest 3 none, Cond.methodLink RX0 25 yX3_copyFrom, Cond.instanceMethod yX3_copyFrom, Cond.selects RX3 yX3_copyFrom yX3_copyFrom, Cond.code yX3_copyFrom cX3_copyFrom 2 none, Cond.methodLink RX3 34 arraycopyName, Cond.native arraycopyName, Cond.static arraycopyName, Cond.initialized "java/lang/System", Cond.fieldLink RX3 28 "RoomRing$Stock" "extraShare" "I", Cond.fieldLink RX3 31 "RoomRing$Stock" "moved" "I"]
def wsX4_keepDraft : List Cond := .code yX4_keepDraft cX4_keepDraft 2 none :: ((wsX4_keepDraft_r1 ++ (wsX4_keepDraft_r2 ++ (wsX4_keepDraft_r3 ++ wsX4_keepDraft_r4))) ++ wsX40 ++ wsX10 ++ wsX30 ++ wsX00)
def wsX4_tellOne_r1 : List Cond := [Cond.fieldLink RX4 16 "RoomRing" "draft" "LRoomRing$Ring;", Cond.fieldLink RX4 58 "RoomRing$Ring" "stock" "LRoomRing$Stock;", Cond.fieldLink RX4 12 "RoomRing" "now" "LRoomRing$Ring;", Cond.fieldLink RX4 116 "RoomRing$Stock" "moved" "I", Cond.methodLink RX4 137 yX3_copyFrom, Cond.instanceMethod yX3_copyFrom, Cond.selects RX3 yX3_copyFrom yX3_copyFrom, Cond.initialized RX3, Cond.code yX3_copyFrom cX3_copyFrom 2 none, Cond.fieldLink RX3 9 "RoomRing$Stock" "names" "[I", Cond.methodLink RX3 34 arraycopyName, Cond.native arraycopyName, Cond.static arraycopyName, Cond.initialized "java/lang/System", Cond.fieldLink RX3 15 "RoomRing$Stock" "weights" "[I", Cond.fieldLink RX3 18 "RoomRing$Stock" "keys" "[I", Cond.fieldLink RX3 21 "RoomRing$Stock" "hostCount" "I", Cond.fieldLink RX3 25 "RoomRing$Stock" "keyCount" "I", Cond.fieldLink RX3 28 "RoomRing$Stock" "extraShare" "I", Cond.fieldLink RX3 31 "RoomRing$Stock" "moved" "I", Cond.methodLink RX4 153 yX3_take, Cond.instanceMethod yX3_take, Cond.selects RX3 yX3_take yX3_take, Cond.code yX3_take cX3_take 4 (some .int)]
def wsX4_tellOne_r2 : List Cond := [Cond.methodLink RX3 40 yX3_addHost, Cond.instanceMethod yX3_addHost, Cond.selects RX3 yX3_addHost yX3_addHost, Cond.code yX3_addHost cX3_addHost 4 (some .int), Cond.static yX4_isName, Cond.initialized RX4, Cond.code yX4_isName cX4_isName 1 (some .boolean), Cond.static yX4_isWeight, Cond.code yX4_isWeight cX4_isWeight 1 (some .boolean), Cond.methodLink RX3 67 yX3_findHost, Cond.instanceMethod yX3_findHost, Cond.selects RX3 yX3_findHost yX3_findHost, Cond.code yX3_findHost cX3_findHost 3 (some .int), Cond.methodLink RX3 44 yX3_weighAnew, Cond.instanceMethod yX3_weighAnew, Cond.selects RX3 yX3_weighAnew yX3_weighAnew, Cond.code yX3_weighAnew cX3_weighAnew 4 (some .int), Cond.methodLink RX3 47 yX3_removeHost, Cond.instanceMethod yX3_removeHost, Cond.selects RX3 yX3_removeHost yX3_removeHost, Cond.code yX3_removeHost cX3_removeHost 4 (some .int), Cond.methodLink RX3 51 yX3_addKey, Cond.instanceMethod yX3_addKey, Cond.selects RX3 yX3_addKey yX3_addKey]
def wsX4_tellOne_r3 : List Cond := [Cond.code yX3_addKey cX3_addKey 3 (some .int), Cond.static yX4_isKey, Cond.code yX4_isKey cX4_isKey 1 (some .boolean), Cond.methodLink RX3 73 yX3_findKey, Cond.instanceMethod yX3_findKey, Cond.selects RX3 yX3_findKey yX3_findKey, Cond.code yX3_findKey cX3_findKey 3 (some .int), Cond.methodLink RX3 54 yX3_removeKey, Cond.instanceMethod yX3_removeKey, Cond.selects RX3 yX3_removeKey yX3_removeKey, Cond.code yX3_removeKey cX3_removeKey 4 (some .int), Cond.methodLink RX3 57 yX3_changeExtra, Cond.instanceMethod yX3_changeExtra, Cond.selects RX3 yX3_changeExtra yX3_changeExtra, Cond.code yX3_changeExtra cX3_changeExtra 2 (some .int), Cond.methodLink RX4 55 yX4_refuse, Cond.instanceMethod yX4_refuse, Cond.selects RX4 yX4_refuse yX4_refuse, Cond.code yX4_refuse cX4_refuse 2 (some .int), Cond.fieldLink RX4 33 "RoomRing" "refusedBad" "I", Cond.fieldLink RX4 37 "RoomRing" "refusedNo" "I", Cond.fieldLink RX4 40 "RoomRing" "refusedFull" "I", Cond.methodLink RX4 156 yX4_keepDraft, Cond.instanceMethod yX4_keepDraft]
def wsX4_tellOne_r4 : List Cond := [Cond.selects RX4 yX4_keepDraft yX4_keepDraft, Cond.code yX4_keepDraft cX4_keepDraft 2 none, Cond.fieldLink RX4 22 "RoomRing" "history" "LRoomRing$History;", Cond.methodLink RX4 165 yX1_lay, Cond.instanceMethod yX1_lay, Cond.selects RX1 yX1_lay yX1_lay, Cond.initialized RX1, Cond.code yX1_lay cX1_lay 2 none, Cond.fieldLink RX1 12 "RoomRing$Ring" "stock" "LRoomRing$Stock;", Cond.fieldLink RX1 49 "RoomRing$Stock" "keyCount" "I", Cond.methodLink RX1 43 yX1_setMarks, Cond.instanceMethod yX1_setMarks, Cond.selects RX1 yX1_setMarks yX1_setMarks, Cond.code yX1_setMarks cX1_setMarks 5 none, Cond.fieldLink RX1 18 "RoomRing$Ring" "owners" "[I", Cond.fieldLink RX1 57 "RoomRing$Stock" "hostCount" "I", Cond.fieldLink RX1 60 "RoomRing$Stock" "weights" "[I", Cond.fieldLink RX1 63 "RoomRing$Stock" "names" "[I", Cond.fieldLink RX1 22 "RoomRing$Ring" "markPlaces" "[I", Cond.methodLink RX1 66 yX1_freePlaceFrom, Cond.instanceMethod yX1_freePlaceFrom, Cond.selects RX1 yX1_freePlaceFrom yX1_freePlaceFrom, Cond.code yX1_freePlaceFrom cX1_freePlaceFrom 4 (some .int), Cond.methodLink RX1 70 yX1_placeBehind]
def wsX4_tellOne_r5 : List Cond := [Cond.static yX1_placeBehind, Cond.code yX1_placeBehind cX1_placeBehind 1 (some .int), Cond.methodLink RX1 46 yX1_setBounds, Cond.instanceMethod yX1_setBounds, Cond.selects RX1 yX1_setBounds yX1_setBounds, Cond.code yX1_setBounds cX1_setBounds 4 none, Cond.fieldLink RX1 77 "RoomRing$Stock" "extraShare" "I", Cond.fieldLink RX1 25 "RoomRing$Ring" "bounds" "[I", Cond.fieldLink RX1 28 "RoomRing$Ring" "loads" "[I", Cond.methodLink RX1 73 yX3_allWeights, Cond.instanceMethod yX3_allWeights, Cond.selects RX3 yX3_allWeights yX3_allWeights, Cond.code yX3_allWeights cX3_allWeights 3 (some .int), Cond.methodLink RX1 53 yX1_layKey, Cond.instanceMethod yX1_layKey, Cond.selects RX1 yX1_layKey yX1_layKey, Cond.code yX1_layKey cX1_layKey 6 none, Cond.fieldLink RX1 31 "RoomRing$Ring" "keyHosts" "[I", Cond.fieldLink RX1 34 "RoomRing$Ring" "passed" "[I", Cond.fieldLink RX1 37 "RoomRing$Ring" "far" "[I", Cond.methodLink RX1 80 yX1_placeOfKey, Cond.instanceMethod yX1_placeOfKey, Cond.selects RX1 yX1_placeOfKey yX1_placeOfKey, Cond.code yX1_placeOfKey cX1_placeOfKey 2 (some .int)]
def wsX4_tellOne_r6 : List Cond := [Cond.fieldLink RX1 83 "RoomRing$Stock" "keys" "[I", Cond.methodLink RX4 99 yX1_movedSince, Cond.instanceMethod yX1_movedSince, Cond.selects RX1 yX1_movedSince yX1_movedSince, Cond.code yX1_movedSince cX1_movedSince 6 (some .int), Cond.methodLink RX1 89 yX3_nameOf, Cond.instanceMethod yX3_nameOf, Cond.selects RX3 yX3_nameOf yX3_nameOf, Cond.code yX3_nameOf cX3_nameOf 2 (some .int), Cond.methodLink RX1 86 yX3_findKey, Cond.methodLink RX1 92 yX1_hostNameOfKey, Cond.instanceMethod yX1_hostNameOfKey, Cond.selects RX1 yX1_hostNameOfKey yX1_hostNameOfKey, Cond.code yX1_hostNameOfKey cX1_hostNameOfKey 3 (some .int), Cond.methodLink RX4 194 yX0_keep, Cond.instanceMethod yX0_keep, Cond.selects RX0 yX0_keep yX0_keep, Cond.initialized RX0, Cond.code yX0_keep cX0_keep 2 none, Cond.fieldLink RX0 17 "RoomRing$History" "size" "I", Cond.fieldLink RX0 11 "RoomRing$History" "states" "[LRoomRing$Stock;", Cond.methodLink RX0 22 yX0_forgetOldest, Cond.instanceMethod yX0_forgetOldest, Cond.selects RX0 yX0_forgetOldest yX0_forgetOldest]
def wsX4_tellOne_r7 : List Cond := [Cond.code yX0_forgetOldest cX0_forgetOldest 3 none, Cond.methodLink RX0 25 yX3_copyFrom]
def wsX4_tellOne : List Cond := .code yX4_tellOne cX4_tellOne 5 (some .int) :: ((wsX4_tellOne_r1 ++ (wsX4_tellOne_r2 ++ (wsX4_tellOne_r3 ++ (wsX4_tellOne_r4 ++ (wsX4_tellOne_r5 ++ (wsX4_tellOne_r6 ++ wsX4_tellOne_r7)))))) ++ wsX40 ++ wsX10 ++ wsX30 ++ wsX00)
def wsX4_host_r1 : List Cond := [Cond.methodLink RX4 43 yX4_tellOne, Cond.instanceMethod yX4_tellOne, Cond.selects RX4 yX4_tellOne yX4_tellOne, Cond.initialized RX4, Cond.code yX4_tellOne cX4_tellOne 5 (some .int), Cond.fieldLink RX4 16 "RoomRing" "draft" "LRoomRing$Ring;", Cond.fieldLink RX4 58 "RoomRing$Ring" "stock" "LRoomRing$Stock;", Cond.fieldLink RX4 12 "RoomRing" "now" "LRoomRing$Ring;", Cond.fieldLink RX4 116 "RoomRing$Stock" "moved" "I", Cond.methodLink RX4 137 yX3_copyFrom, Cond.instanceMethod yX3_copyFrom, Cond.selects RX3 yX3_copyFrom yX3_copyFrom, Cond.initialized RX3, Cond.code yX3_copyFrom cX3_copyFrom 2 none, Cond.fieldLink RX3 9 "RoomRing$Stock" "names" "[I", Cond.methodLink RX3 34 arraycopyName, Cond.native arraycopyName, Cond.static arraycopyName, Cond.initialized "java/lang/System", Cond.fieldLink RX3 15 "RoomRing$Stock" "weights" "[I", Cond.fieldLink RX3 18 "RoomRing$Stock" "keys" "[I", Cond.fieldLink RX3 21 "RoomRing$Stock" "hostCount" "I", Cond.fieldLink RX3 25 "RoomRing$Stock" "keyCount" "I", Cond.fieldLink RX3 28 "RoomRing$Stock" "extraShare" "I"]
def wsX4_host_r2 : List Cond := [Cond.fieldLink RX3 31 "RoomRing$Stock" "moved" "I", Cond.methodLink RX4 153 yX3_take, Cond.instanceMethod yX3_take, Cond.selects RX3 yX3_take yX3_take, Cond.code yX3_take cX3_take 4 (some .int), Cond.methodLink RX3 40 yX3_addHost, Cond.instanceMethod yX3_addHost, Cond.selects RX3 yX3_addHost yX3_addHost, Cond.code yX3_addHost cX3_addHost 4 (some .int), Cond.static yX4_isName, Cond.code yX4_isName cX4_isName 1 (some .boolean), Cond.static yX4_isWeight, Cond.code yX4_isWeight cX4_isWeight 1 (some .boolean), Cond.methodLink RX3 67 yX3_findHost, Cond.instanceMethod yX3_findHost, Cond.selects RX3 yX3_findHost yX3_findHost, Cond.code yX3_findHost cX3_findHost 3 (some .int), Cond.methodLink RX3 44 yX3_weighAnew, Cond.instanceMethod yX3_weighAnew, Cond.selects RX3 yX3_weighAnew yX3_weighAnew, Cond.code yX3_weighAnew cX3_weighAnew 4 (some .int), Cond.methodLink RX3 47 yX3_removeHost, Cond.instanceMethod yX3_removeHost, Cond.selects RX3 yX3_removeHost yX3_removeHost]
def wsX4_host_r3 : List Cond := [Cond.code yX3_removeHost cX3_removeHost 4 (some .int), Cond.methodLink RX3 51 yX3_addKey, Cond.instanceMethod yX3_addKey, Cond.selects RX3 yX3_addKey yX3_addKey, Cond.code yX3_addKey cX3_addKey 3 (some .int), Cond.static yX4_isKey, Cond.code yX4_isKey cX4_isKey 1 (some .boolean), Cond.methodLink RX3 73 yX3_findKey, Cond.instanceMethod yX3_findKey, Cond.selects RX3 yX3_findKey yX3_findKey, Cond.code yX3_findKey cX3_findKey 3 (some .int), Cond.methodLink RX3 54 yX3_removeKey, Cond.instanceMethod yX3_removeKey, Cond.selects RX3 yX3_removeKey yX3_removeKey, Cond.code yX3_removeKey cX3_removeKey 4 (some .int), Cond.methodLink RX3 57 yX3_changeExtra, Cond.instanceMethod yX3_changeExtra, Cond.selects RX3 yX3_changeExtra yX3_changeExtra, Cond.code yX3_changeExtra cX3_changeExtra 2 (some .int), Cond.methodLink RX4 55 yX4_refuse, Cond.instanceMethod yX4_refuse, Cond.selects RX4 yX4_refuse yX4_refuse, Cond.code yX4_refuse cX4_refuse 2 (some .int), Cond.fieldLink RX4 33 "RoomRing" "refusedBad" "I"]
def wsX4_host_r4 : List Cond := [Cond.fieldLink RX4 37 "RoomRing" "refusedNo" "I", Cond.fieldLink RX4 40 "RoomRing" "refusedFull" "I", Cond.methodLink RX4 156 yX4_keepDraft, Cond.instanceMethod yX4_keepDraft, Cond.selects RX4 yX4_keepDraft yX4_keepDraft, Cond.code yX4_keepDraft cX4_keepDraft 2 none, Cond.fieldLink RX4 22 "RoomRing" "history" "LRoomRing$History;", Cond.methodLink RX4 165 yX1_lay, Cond.instanceMethod yX1_lay, Cond.selects RX1 yX1_lay yX1_lay, Cond.initialized RX1, Cond.code yX1_lay cX1_lay 2 none, Cond.fieldLink RX1 12 "RoomRing$Ring" "stock" "LRoomRing$Stock;", Cond.fieldLink RX1 49 "RoomRing$Stock" "keyCount" "I", Cond.methodLink RX1 43 yX1_setMarks, Cond.instanceMethod yX1_setMarks, Cond.selects RX1 yX1_setMarks yX1_setMarks, Cond.code yX1_setMarks cX1_setMarks 5 none, Cond.fieldLink RX1 18 "RoomRing$Ring" "owners" "[I", Cond.fieldLink RX1 57 "RoomRing$Stock" "hostCount" "I", Cond.fieldLink RX1 60 "RoomRing$Stock" "weights" "[I", Cond.fieldLink RX1 63 "RoomRing$Stock" "names" "[I", Cond.fieldLink RX1 22 "RoomRing$Ring" "markPlaces" "[I", Cond.methodLink RX1 66 yX1_freePlaceFrom]
def wsX4_host_r5 : List Cond := [Cond.instanceMethod yX1_freePlaceFrom, Cond.selects RX1 yX1_freePlaceFrom yX1_freePlaceFrom, Cond.code yX1_freePlaceFrom cX1_freePlaceFrom 4 (some .int), Cond.methodLink RX1 70 yX1_placeBehind, Cond.static yX1_placeBehind, Cond.code yX1_placeBehind cX1_placeBehind 1 (some .int), Cond.methodLink RX1 46 yX1_setBounds, Cond.instanceMethod yX1_setBounds, Cond.selects RX1 yX1_setBounds yX1_setBounds, Cond.code yX1_setBounds cX1_setBounds 4 none, Cond.fieldLink RX1 77 "RoomRing$Stock" "extraShare" "I", Cond.fieldLink RX1 25 "RoomRing$Ring" "bounds" "[I", Cond.fieldLink RX1 28 "RoomRing$Ring" "loads" "[I", Cond.methodLink RX1 73 yX3_allWeights, Cond.instanceMethod yX3_allWeights, Cond.selects RX3 yX3_allWeights yX3_allWeights, Cond.code yX3_allWeights cX3_allWeights 3 (some .int), Cond.methodLink RX1 53 yX1_layKey, Cond.instanceMethod yX1_layKey, Cond.selects RX1 yX1_layKey yX1_layKey, Cond.code yX1_layKey cX1_layKey 6 none, Cond.fieldLink RX1 31 "RoomRing$Ring" "keyHosts" "[I", Cond.fieldLink RX1 34 "RoomRing$Ring" "passed" "[I", Cond.fieldLink RX1 37 "RoomRing$Ring" "far" "[I"]
def wsX4_host_r6 : List Cond := [Cond.methodLink RX1 80 yX1_placeOfKey, Cond.instanceMethod yX1_placeOfKey, Cond.selects RX1 yX1_placeOfKey yX1_placeOfKey, Cond.code yX1_placeOfKey cX1_placeOfKey 2 (some .int), Cond.fieldLink RX1 83 "RoomRing$Stock" "keys" "[I", Cond.methodLink RX4 99 yX1_movedSince, Cond.instanceMethod yX1_movedSince, Cond.selects RX1 yX1_movedSince yX1_movedSince, Cond.code yX1_movedSince cX1_movedSince 6 (some .int), Cond.methodLink RX1 89 yX3_nameOf, Cond.instanceMethod yX3_nameOf, Cond.selects RX3 yX3_nameOf yX3_nameOf, Cond.code yX3_nameOf cX3_nameOf 2 (some .int), Cond.methodLink RX1 86 yX3_findKey, Cond.methodLink RX1 92 yX1_hostNameOfKey, Cond.instanceMethod yX1_hostNameOfKey, Cond.selects RX1 yX1_hostNameOfKey yX1_hostNameOfKey, Cond.code yX1_hostNameOfKey cX1_hostNameOfKey 3 (some .int), Cond.methodLink RX4 194 yX0_keep, Cond.instanceMethod yX0_keep, Cond.selects RX0 yX0_keep yX0_keep, Cond.initialized RX0, Cond.code yX0_keep cX0_keep 2 none, Cond.fieldLink RX0 17 "RoomRing$History" "size" "I"]
def wsX4_host_r7 : List Cond := [Cond.fieldLink RX0 11 "RoomRing$History" "states" "[LRoomRing$Stock;", Cond.methodLink RX0 22 yX0_forgetOldest, Cond.instanceMethod yX0_forgetOldest, Cond.selects RX0 yX0_forgetOldest yX0_forgetOldest, Cond.code yX0_forgetOldest cX0_forgetOldest 3 none, Cond.methodLink RX0 25 yX3_copyFrom]
def wsX4_host : List Cond := .code yX4_host cX4_host 3 (some .int) :: ((wsX4_host_r1 ++ (wsX4_host_r2 ++ (wsX4_host_r3 ++ (wsX4_host_r4 ++ (wsX4_host_r5 ++ (wsX4_host_r6 ++ wsX4_host_r7)))))) ++ wsX40 ++ wsX10 ++ wsX30 ++ wsX00)
def wsX4_weighs_r1 : List Cond := [Cond.methodLink RX4 43 yX4_tellOne, Cond.instanceMethod yX4_tellOne, Cond.selects RX4 yX4_tellOne yX4_tellOne, Cond.initialized RX4, Cond.code yX4_tellOne cX4_tellOne 5 (some .int), Cond.fieldLink RX4 16 "RoomRing" "draft" "LRoomRing$Ring;", Cond.fieldLink RX4 58 "RoomRing$Ring" "stock" "LRoomRing$Stock;", Cond.fieldLink RX4 12 "RoomRing" "now" "LRoomRing$Ring;", Cond.fieldLink RX4 116 "RoomRing$Stock" "moved" "I", Cond.methodLink RX4 137 yX3_copyFrom, Cond.instanceMethod yX3_copyFrom, Cond.selects RX3 yX3_copyFrom yX3_copyFrom, Cond.initialized RX3, Cond.code yX3_copyFrom cX3_copyFrom 2 none, Cond.fieldLink RX3 9 "RoomRing$Stock" "names" "[I", Cond.methodLink RX3 34 arraycopyName, Cond.native arraycopyName, Cond.static arraycopyName, Cond.initialized "java/lang/System", Cond.fieldLink RX3 15 "RoomRing$Stock" "weights" "[I", Cond.fieldLink RX3 18 "RoomRing$Stock" "keys" "[I", Cond.fieldLink RX3 21 "RoomRing$Stock" "hostCount" "I", Cond.fieldLink RX3 25 "RoomRing$Stock" "keyCount" "I", Cond.fieldLink RX3 28 "RoomRing$Stock" "extraShare" "I"]
def wsX4_weighs_r2 : List Cond := [Cond.fieldLink RX3 31 "RoomRing$Stock" "moved" "I", Cond.methodLink RX4 153 yX3_take, Cond.instanceMethod yX3_take, Cond.selects RX3 yX3_take yX3_take, Cond.code yX3_take cX3_take 4 (some .int), Cond.methodLink RX3 40 yX3_addHost, Cond.instanceMethod yX3_addHost, Cond.selects RX3 yX3_addHost yX3_addHost, Cond.code yX3_addHost cX3_addHost 4 (some .int), Cond.static yX4_isName, Cond.code yX4_isName cX4_isName 1 (some .boolean), Cond.static yX4_isWeight, Cond.code yX4_isWeight cX4_isWeight 1 (some .boolean), Cond.methodLink RX3 67 yX3_findHost, Cond.instanceMethod yX3_findHost, Cond.selects RX3 yX3_findHost yX3_findHost, Cond.code yX3_findHost cX3_findHost 3 (some .int), Cond.methodLink RX3 44 yX3_weighAnew, Cond.instanceMethod yX3_weighAnew, Cond.selects RX3 yX3_weighAnew yX3_weighAnew, Cond.code yX3_weighAnew cX3_weighAnew 4 (some .int), Cond.methodLink RX3 47 yX3_removeHost, Cond.instanceMethod yX3_removeHost, Cond.selects RX3 yX3_removeHost yX3_removeHost]
def wsX4_weighs_r3 : List Cond := [Cond.code yX3_removeHost cX3_removeHost 4 (some .int), Cond.methodLink RX3 51 yX3_addKey, Cond.instanceMethod yX3_addKey, Cond.selects RX3 yX3_addKey yX3_addKey, Cond.code yX3_addKey cX3_addKey 3 (some .int), Cond.static yX4_isKey, Cond.code yX4_isKey cX4_isKey 1 (some .boolean), Cond.methodLink RX3 73 yX3_findKey, Cond.instanceMethod yX3_findKey, Cond.selects RX3 yX3_findKey yX3_findKey, Cond.code yX3_findKey cX3_findKey 3 (some .int), Cond.methodLink RX3 54 yX3_removeKey, Cond.instanceMethod yX3_removeKey, Cond.selects RX3 yX3_removeKey yX3_removeKey, Cond.code yX3_removeKey cX3_removeKey 4 (some .int), Cond.methodLink RX3 57 yX3_changeExtra, Cond.instanceMethod yX3_changeExtra, Cond.selects RX3 yX3_changeExtra yX3_changeExtra, Cond.code yX3_changeExtra cX3_changeExtra 2 (some .int), Cond.methodLink RX4 55 yX4_refuse, Cond.instanceMethod yX4_refuse, Cond.selects RX4 yX4_refuse yX4_refuse, Cond.code yX4_refuse cX4_refuse 2 (some .int), Cond.fieldLink RX4 33 "RoomRing" "refusedBad" "I"]
def wsX4_weighs_r4 : List Cond := [Cond.fieldLink RX4 37 "RoomRing" "refusedNo" "I", Cond.fieldLink RX4 40 "RoomRing" "refusedFull" "I", Cond.methodLink RX4 156 yX4_keepDraft, Cond.instanceMethod yX4_keepDraft, Cond.selects RX4 yX4_keepDraft yX4_keepDraft, Cond.code yX4_keepDraft cX4_keepDraft 2 none, Cond.fieldLink RX4 22 "RoomRing" "history" "LRoomRing$History;", Cond.methodLink RX4 165 yX1_lay, Cond.instanceMethod yX1_lay, Cond.selects RX1 yX1_lay yX1_lay, Cond.initialized RX1, Cond.code yX1_lay cX1_lay 2 none, Cond.fieldLink RX1 12 "RoomRing$Ring" "stock" "LRoomRing$Stock;", Cond.fieldLink RX1 49 "RoomRing$Stock" "keyCount" "I", Cond.methodLink RX1 43 yX1_setMarks, Cond.instanceMethod yX1_setMarks, Cond.selects RX1 yX1_setMarks yX1_setMarks, Cond.code yX1_setMarks cX1_setMarks 5 none, Cond.fieldLink RX1 18 "RoomRing$Ring" "owners" "[I", Cond.fieldLink RX1 57 "RoomRing$Stock" "hostCount" "I", Cond.fieldLink RX1 60 "RoomRing$Stock" "weights" "[I", Cond.fieldLink RX1 63 "RoomRing$Stock" "names" "[I", Cond.fieldLink RX1 22 "RoomRing$Ring" "markPlaces" "[I", Cond.methodLink RX1 66 yX1_freePlaceFrom]
def wsX4_weighs_r5 : List Cond := [Cond.instanceMethod yX1_freePlaceFrom, Cond.selects RX1 yX1_freePlaceFrom yX1_freePlaceFrom, Cond.code yX1_freePlaceFrom cX1_freePlaceFrom 4 (some .int), Cond.methodLink RX1 70 yX1_placeBehind, Cond.static yX1_placeBehind, Cond.code yX1_placeBehind cX1_placeBehind 1 (some .int), Cond.methodLink RX1 46 yX1_setBounds, Cond.instanceMethod yX1_setBounds, Cond.selects RX1 yX1_setBounds yX1_setBounds, Cond.code yX1_setBounds cX1_setBounds 4 none, Cond.fieldLink RX1 77 "RoomRing$Stock" "extraShare" "I", Cond.fieldLink RX1 25 "RoomRing$Ring" "bounds" "[I", Cond.fieldLink RX1 28 "RoomRing$Ring" "loads" "[I", Cond.methodLink RX1 73 yX3_allWeights, Cond.instanceMethod yX3_allWeights, Cond.selects RX3 yX3_allWeights yX3_allWeights, Cond.code yX3_allWeights cX3_allWeights 3 (some .int), Cond.methodLink RX1 53 yX1_layKey, Cond.instanceMethod yX1_layKey, Cond.selects RX1 yX1_layKey yX1_layKey, Cond.code yX1_layKey cX1_layKey 6 none, Cond.fieldLink RX1 31 "RoomRing$Ring" "keyHosts" "[I", Cond.fieldLink RX1 34 "RoomRing$Ring" "passed" "[I", Cond.fieldLink RX1 37 "RoomRing$Ring" "far" "[I"]
def wsX4_weighs_r6 : List Cond := [Cond.methodLink RX1 80 yX1_placeOfKey, Cond.instanceMethod yX1_placeOfKey, Cond.selects RX1 yX1_placeOfKey yX1_placeOfKey, Cond.code yX1_placeOfKey cX1_placeOfKey 2 (some .int), Cond.fieldLink RX1 83 "RoomRing$Stock" "keys" "[I", Cond.methodLink RX4 99 yX1_movedSince, Cond.instanceMethod yX1_movedSince, Cond.selects RX1 yX1_movedSince yX1_movedSince, Cond.code yX1_movedSince cX1_movedSince 6 (some .int), Cond.methodLink RX1 89 yX3_nameOf, Cond.instanceMethod yX3_nameOf, Cond.selects RX3 yX3_nameOf yX3_nameOf, Cond.code yX3_nameOf cX3_nameOf 2 (some .int), Cond.methodLink RX1 86 yX3_findKey, Cond.methodLink RX1 92 yX1_hostNameOfKey, Cond.instanceMethod yX1_hostNameOfKey, Cond.selects RX1 yX1_hostNameOfKey yX1_hostNameOfKey, Cond.code yX1_hostNameOfKey cX1_hostNameOfKey 3 (some .int), Cond.methodLink RX4 194 yX0_keep, Cond.instanceMethod yX0_keep, Cond.selects RX0 yX0_keep yX0_keep, Cond.initialized RX0, Cond.code yX0_keep cX0_keep 2 none, Cond.fieldLink RX0 17 "RoomRing$History" "size" "I"]
def wsX4_weighs_r7 : List Cond := [Cond.fieldLink RX0 11 "RoomRing$History" "states" "[LRoomRing$Stock;", Cond.methodLink RX0 22 yX0_forgetOldest, Cond.instanceMethod yX0_forgetOldest, Cond.selects RX0 yX0_forgetOldest yX0_forgetOldest, Cond.code yX0_forgetOldest cX0_forgetOldest 3 none, Cond.methodLink RX0 25 yX3_copyFrom]
def wsX4_weighs : List Cond := .code yX4_weighs cX4_weighs 3 (some .int) :: ((wsX4_weighs_r1 ++ (wsX4_weighs_r2 ++ (wsX4_weighs_r3 ++ (wsX4_weighs_r4 ++ (wsX4_weighs_r5 ++ (wsX4_weighs_r6 ++ wsX4_weighs_r7)))))) ++ wsX40 ++ wsX10 ++ wsX30 ++ wsX00)
def wsX4_goes_r1 : List Cond := [Cond.methodLink RX4 43 yX4_tellOne, Cond.instanceMethod yX4_tellOne, Cond.selects RX4 yX4_tellOne yX4_tellOne, Cond.initialized RX4, Cond.code yX4_tellOne cX4_tellOne 5 (some .int), Cond.fieldLink RX4 16 "RoomRing" "draft" "LRoomRing$Ring;", Cond.fieldLink RX4 58 "RoomRing$Ring" "stock" "LRoomRing$Stock;", Cond.fieldLink RX4 12 "RoomRing" "now" "LRoomRing$Ring;", Cond.fieldLink RX4 116 "RoomRing$Stock" "moved" "I", Cond.methodLink RX4 137 yX3_copyFrom, Cond.instanceMethod yX3_copyFrom, Cond.selects RX3 yX3_copyFrom yX3_copyFrom, Cond.initialized RX3, Cond.code yX3_copyFrom cX3_copyFrom 2 none, Cond.fieldLink RX3 9 "RoomRing$Stock" "names" "[I", Cond.methodLink RX3 34 arraycopyName, Cond.native arraycopyName, Cond.static arraycopyName, Cond.initialized "java/lang/System", Cond.fieldLink RX3 15 "RoomRing$Stock" "weights" "[I", Cond.fieldLink RX3 18 "RoomRing$Stock" "keys" "[I", Cond.fieldLink RX3 21 "RoomRing$Stock" "hostCount" "I", Cond.fieldLink RX3 25 "RoomRing$Stock" "keyCount" "I", Cond.fieldLink RX3 28 "RoomRing$Stock" "extraShare" "I"]
def wsX4_goes_r2 : List Cond := [Cond.fieldLink RX3 31 "RoomRing$Stock" "moved" "I", Cond.methodLink RX4 153 yX3_take, Cond.instanceMethod yX3_take, Cond.selects RX3 yX3_take yX3_take, Cond.code yX3_take cX3_take 4 (some .int), Cond.methodLink RX3 40 yX3_addHost, Cond.instanceMethod yX3_addHost, Cond.selects RX3 yX3_addHost yX3_addHost, Cond.code yX3_addHost cX3_addHost 4 (some .int), Cond.static yX4_isName, Cond.code yX4_isName cX4_isName 1 (some .boolean), Cond.static yX4_isWeight, Cond.code yX4_isWeight cX4_isWeight 1 (some .boolean), Cond.methodLink RX3 67 yX3_findHost, Cond.instanceMethod yX3_findHost, Cond.selects RX3 yX3_findHost yX3_findHost, Cond.code yX3_findHost cX3_findHost 3 (some .int), Cond.methodLink RX3 44 yX3_weighAnew, Cond.instanceMethod yX3_weighAnew, Cond.selects RX3 yX3_weighAnew yX3_weighAnew, Cond.code yX3_weighAnew cX3_weighAnew 4 (some .int), Cond.methodLink RX3 47 yX3_removeHost, Cond.instanceMethod yX3_removeHost, Cond.selects RX3 yX3_removeHost yX3_removeHost]
def wsX4_goes_r3 : List Cond := [Cond.code yX3_removeHost cX3_removeHost 4 (some .int), Cond.methodLink RX3 51 yX3_addKey, Cond.instanceMethod yX3_addKey, Cond.selects RX3 yX3_addKey yX3_addKey, Cond.code yX3_addKey cX3_addKey 3 (some .int), Cond.static yX4_isKey, Cond.code yX4_isKey cX4_isKey 1 (some .boolean), Cond.methodLink RX3 73 yX3_findKey, Cond.instanceMethod yX3_findKey, Cond.selects RX3 yX3_findKey yX3_findKey, Cond.code yX3_findKey cX3_findKey 3 (some .int), Cond.methodLink RX3 54 yX3_removeKey, Cond.instanceMethod yX3_removeKey, Cond.selects RX3 yX3_removeKey yX3_removeKey, Cond.code yX3_removeKey cX3_removeKey 4 (some .int), Cond.methodLink RX3 57 yX3_changeExtra, Cond.instanceMethod yX3_changeExtra, Cond.selects RX3 yX3_changeExtra yX3_changeExtra, Cond.code yX3_changeExtra cX3_changeExtra 2 (some .int), Cond.methodLink RX4 55 yX4_refuse, Cond.instanceMethod yX4_refuse, Cond.selects RX4 yX4_refuse yX4_refuse, Cond.code yX4_refuse cX4_refuse 2 (some .int), Cond.fieldLink RX4 33 "RoomRing" "refusedBad" "I"]
def wsX4_goes_r4 : List Cond := [Cond.fieldLink RX4 37 "RoomRing" "refusedNo" "I", Cond.fieldLink RX4 40 "RoomRing" "refusedFull" "I", Cond.methodLink RX4 156 yX4_keepDraft, Cond.instanceMethod yX4_keepDraft, Cond.selects RX4 yX4_keepDraft yX4_keepDraft, Cond.code yX4_keepDraft cX4_keepDraft 2 none, Cond.fieldLink RX4 22 "RoomRing" "history" "LRoomRing$History;", Cond.methodLink RX4 165 yX1_lay, Cond.instanceMethod yX1_lay, Cond.selects RX1 yX1_lay yX1_lay, Cond.initialized RX1, Cond.code yX1_lay cX1_lay 2 none, Cond.fieldLink RX1 12 "RoomRing$Ring" "stock" "LRoomRing$Stock;", Cond.fieldLink RX1 49 "RoomRing$Stock" "keyCount" "I", Cond.methodLink RX1 43 yX1_setMarks, Cond.instanceMethod yX1_setMarks, Cond.selects RX1 yX1_setMarks yX1_setMarks, Cond.code yX1_setMarks cX1_setMarks 5 none, Cond.fieldLink RX1 18 "RoomRing$Ring" "owners" "[I", Cond.fieldLink RX1 57 "RoomRing$Stock" "hostCount" "I", Cond.fieldLink RX1 60 "RoomRing$Stock" "weights" "[I", Cond.fieldLink RX1 63 "RoomRing$Stock" "names" "[I", Cond.fieldLink RX1 22 "RoomRing$Ring" "markPlaces" "[I", Cond.methodLink RX1 66 yX1_freePlaceFrom]
def wsX4_goes_r5 : List Cond := [Cond.instanceMethod yX1_freePlaceFrom, Cond.selects RX1 yX1_freePlaceFrom yX1_freePlaceFrom, Cond.code yX1_freePlaceFrom cX1_freePlaceFrom 4 (some .int), Cond.methodLink RX1 70 yX1_placeBehind, Cond.static yX1_placeBehind, Cond.code yX1_placeBehind cX1_placeBehind 1 (some .int), Cond.methodLink RX1 46 yX1_setBounds, Cond.instanceMethod yX1_setBounds, Cond.selects RX1 yX1_setBounds yX1_setBounds, Cond.code yX1_setBounds cX1_setBounds 4 none, Cond.fieldLink RX1 77 "RoomRing$Stock" "extraShare" "I", Cond.fieldLink RX1 25 "RoomRing$Ring" "bounds" "[I", Cond.fieldLink RX1 28 "RoomRing$Ring" "loads" "[I", Cond.methodLink RX1 73 yX3_allWeights, Cond.instanceMethod yX3_allWeights, Cond.selects RX3 yX3_allWeights yX3_allWeights, Cond.code yX3_allWeights cX3_allWeights 3 (some .int), Cond.methodLink RX1 53 yX1_layKey, Cond.instanceMethod yX1_layKey, Cond.selects RX1 yX1_layKey yX1_layKey, Cond.code yX1_layKey cX1_layKey 6 none, Cond.fieldLink RX1 31 "RoomRing$Ring" "keyHosts" "[I", Cond.fieldLink RX1 34 "RoomRing$Ring" "passed" "[I", Cond.fieldLink RX1 37 "RoomRing$Ring" "far" "[I"]
def wsX4_goes_r6 : List Cond := [Cond.methodLink RX1 80 yX1_placeOfKey, Cond.instanceMethod yX1_placeOfKey, Cond.selects RX1 yX1_placeOfKey yX1_placeOfKey, Cond.code yX1_placeOfKey cX1_placeOfKey 2 (some .int), Cond.fieldLink RX1 83 "RoomRing$Stock" "keys" "[I", Cond.methodLink RX4 99 yX1_movedSince, Cond.instanceMethod yX1_movedSince, Cond.selects RX1 yX1_movedSince yX1_movedSince, Cond.code yX1_movedSince cX1_movedSince 6 (some .int), Cond.methodLink RX1 89 yX3_nameOf, Cond.instanceMethod yX3_nameOf, Cond.selects RX3 yX3_nameOf yX3_nameOf, Cond.code yX3_nameOf cX3_nameOf 2 (some .int), Cond.methodLink RX1 86 yX3_findKey, Cond.methodLink RX1 92 yX1_hostNameOfKey, Cond.instanceMethod yX1_hostNameOfKey, Cond.selects RX1 yX1_hostNameOfKey yX1_hostNameOfKey, Cond.code yX1_hostNameOfKey cX1_hostNameOfKey 3 (some .int), Cond.methodLink RX4 194 yX0_keep, Cond.instanceMethod yX0_keep, Cond.selects RX0 yX0_keep yX0_keep, Cond.initialized RX0, Cond.code yX0_keep cX0_keep 2 none, Cond.fieldLink RX0 17 "RoomRing$History" "size" "I"]
def wsX4_goes_r7 : List Cond := [Cond.fieldLink RX0 11 "RoomRing$History" "states" "[LRoomRing$Stock;", Cond.methodLink RX0 22 yX0_forgetOldest, Cond.instanceMethod yX0_forgetOldest, Cond.selects RX0 yX0_forgetOldest yX0_forgetOldest, Cond.code yX0_forgetOldest cX0_forgetOldest 3 none, Cond.methodLink RX0 25 yX3_copyFrom]
def wsX4_goes : List Cond := .code yX4_goes cX4_goes 2 (some .int) :: ((wsX4_goes_r1 ++ (wsX4_goes_r2 ++ (wsX4_goes_r3 ++ (wsX4_goes_r4 ++ (wsX4_goes_r5 ++ (wsX4_goes_r6 ++ wsX4_goes_r7)))))) ++ wsX40 ++ wsX10 ++ wsX30 ++ wsX00)
def wsX4_key_r1 : List Cond := [Cond.fieldLink RX4 12 "RoomRing" "now" "LRoomRing$Ring;", Cond.methodLink RX4 43 yX4_tellOne, Cond.instanceMethod yX4_tellOne, Cond.selects RX4 yX4_tellOne yX4_tellOne, Cond.initialized RX4, Cond.code yX4_tellOne cX4_tellOne 5 (some .int), Cond.fieldLink RX4 16 "RoomRing" "draft" "LRoomRing$Ring;", Cond.fieldLink RX4 58 "RoomRing$Ring" "stock" "LRoomRing$Stock;", Cond.fieldLink RX4 116 "RoomRing$Stock" "moved" "I", Cond.methodLink RX4 137 yX3_copyFrom, Cond.instanceMethod yX3_copyFrom, Cond.selects RX3 yX3_copyFrom yX3_copyFrom, Cond.initialized RX3, Cond.code yX3_copyFrom cX3_copyFrom 2 none, Cond.fieldLink RX3 9 "RoomRing$Stock" "names" "[I", Cond.methodLink RX3 34 arraycopyName, Cond.native arraycopyName, Cond.static arraycopyName, Cond.initialized "java/lang/System", Cond.fieldLink RX3 15 "RoomRing$Stock" "weights" "[I", Cond.fieldLink RX3 18 "RoomRing$Stock" "keys" "[I", Cond.fieldLink RX3 21 "RoomRing$Stock" "hostCount" "I", Cond.fieldLink RX3 25 "RoomRing$Stock" "keyCount" "I", Cond.fieldLink RX3 28 "RoomRing$Stock" "extraShare" "I"]
def wsX4_key_r2 : List Cond := [Cond.fieldLink RX3 31 "RoomRing$Stock" "moved" "I", Cond.methodLink RX4 153 yX3_take, Cond.instanceMethod yX3_take, Cond.selects RX3 yX3_take yX3_take, Cond.code yX3_take cX3_take 4 (some .int), Cond.methodLink RX3 40 yX3_addHost, Cond.instanceMethod yX3_addHost, Cond.selects RX3 yX3_addHost yX3_addHost, Cond.code yX3_addHost cX3_addHost 4 (some .int), Cond.static yX4_isName, Cond.code yX4_isName cX4_isName 1 (some .boolean), Cond.static yX4_isWeight, Cond.code yX4_isWeight cX4_isWeight 1 (some .boolean), Cond.methodLink RX3 67 yX3_findHost, Cond.instanceMethod yX3_findHost, Cond.selects RX3 yX3_findHost yX3_findHost, Cond.code yX3_findHost cX3_findHost 3 (some .int), Cond.methodLink RX3 44 yX3_weighAnew, Cond.instanceMethod yX3_weighAnew, Cond.selects RX3 yX3_weighAnew yX3_weighAnew, Cond.code yX3_weighAnew cX3_weighAnew 4 (some .int), Cond.methodLink RX3 47 yX3_removeHost, Cond.instanceMethod yX3_removeHost, Cond.selects RX3 yX3_removeHost yX3_removeHost]
def wsX4_key_r3 : List Cond := [Cond.code yX3_removeHost cX3_removeHost 4 (some .int), Cond.methodLink RX3 51 yX3_addKey, Cond.instanceMethod yX3_addKey, Cond.selects RX3 yX3_addKey yX3_addKey, Cond.code yX3_addKey cX3_addKey 3 (some .int), Cond.static yX4_isKey, Cond.code yX4_isKey cX4_isKey 1 (some .boolean), Cond.methodLink RX3 73 yX3_findKey, Cond.instanceMethod yX3_findKey, Cond.selects RX3 yX3_findKey yX3_findKey, Cond.code yX3_findKey cX3_findKey 3 (some .int), Cond.methodLink RX3 54 yX3_removeKey, Cond.instanceMethod yX3_removeKey, Cond.selects RX3 yX3_removeKey yX3_removeKey, Cond.code yX3_removeKey cX3_removeKey 4 (some .int), Cond.methodLink RX3 57 yX3_changeExtra, Cond.instanceMethod yX3_changeExtra, Cond.selects RX3 yX3_changeExtra yX3_changeExtra, Cond.code yX3_changeExtra cX3_changeExtra 2 (some .int), Cond.methodLink RX4 55 yX4_refuse, Cond.instanceMethod yX4_refuse, Cond.selects RX4 yX4_refuse yX4_refuse, Cond.code yX4_refuse cX4_refuse 2 (some .int), Cond.fieldLink RX4 33 "RoomRing" "refusedBad" "I"]
def wsX4_key_r4 : List Cond := [Cond.fieldLink RX4 37 "RoomRing" "refusedNo" "I", Cond.fieldLink RX4 40 "RoomRing" "refusedFull" "I", Cond.methodLink RX4 156 yX4_keepDraft, Cond.instanceMethod yX4_keepDraft, Cond.selects RX4 yX4_keepDraft yX4_keepDraft, Cond.code yX4_keepDraft cX4_keepDraft 2 none, Cond.fieldLink RX4 22 "RoomRing" "history" "LRoomRing$History;", Cond.methodLink RX4 165 yX1_lay, Cond.instanceMethod yX1_lay, Cond.selects RX1 yX1_lay yX1_lay, Cond.initialized RX1, Cond.code yX1_lay cX1_lay 2 none, Cond.fieldLink RX1 12 "RoomRing$Ring" "stock" "LRoomRing$Stock;", Cond.fieldLink RX1 49 "RoomRing$Stock" "keyCount" "I", Cond.methodLink RX1 43 yX1_setMarks, Cond.instanceMethod yX1_setMarks, Cond.selects RX1 yX1_setMarks yX1_setMarks, Cond.code yX1_setMarks cX1_setMarks 5 none, Cond.fieldLink RX1 18 "RoomRing$Ring" "owners" "[I", Cond.fieldLink RX1 57 "RoomRing$Stock" "hostCount" "I", Cond.fieldLink RX1 60 "RoomRing$Stock" "weights" "[I", Cond.fieldLink RX1 63 "RoomRing$Stock" "names" "[I", Cond.fieldLink RX1 22 "RoomRing$Ring" "markPlaces" "[I", Cond.methodLink RX1 66 yX1_freePlaceFrom]
def wsX4_key_r5 : List Cond := [Cond.instanceMethod yX1_freePlaceFrom, Cond.selects RX1 yX1_freePlaceFrom yX1_freePlaceFrom, Cond.code yX1_freePlaceFrom cX1_freePlaceFrom 4 (some .int), Cond.methodLink RX1 70 yX1_placeBehind, Cond.static yX1_placeBehind, Cond.code yX1_placeBehind cX1_placeBehind 1 (some .int), Cond.methodLink RX1 46 yX1_setBounds, Cond.instanceMethod yX1_setBounds, Cond.selects RX1 yX1_setBounds yX1_setBounds, Cond.code yX1_setBounds cX1_setBounds 4 none, Cond.fieldLink RX1 77 "RoomRing$Stock" "extraShare" "I", Cond.fieldLink RX1 25 "RoomRing$Ring" "bounds" "[I", Cond.fieldLink RX1 28 "RoomRing$Ring" "loads" "[I", Cond.methodLink RX1 73 yX3_allWeights, Cond.instanceMethod yX3_allWeights, Cond.selects RX3 yX3_allWeights yX3_allWeights, Cond.code yX3_allWeights cX3_allWeights 3 (some .int), Cond.methodLink RX1 53 yX1_layKey, Cond.instanceMethod yX1_layKey, Cond.selects RX1 yX1_layKey yX1_layKey, Cond.code yX1_layKey cX1_layKey 6 none, Cond.fieldLink RX1 31 "RoomRing$Ring" "keyHosts" "[I", Cond.fieldLink RX1 34 "RoomRing$Ring" "passed" "[I", Cond.fieldLink RX1 37 "RoomRing$Ring" "far" "[I"]
def wsX4_key_r6 : List Cond := [Cond.methodLink RX1 80 yX1_placeOfKey, Cond.instanceMethod yX1_placeOfKey, Cond.selects RX1 yX1_placeOfKey yX1_placeOfKey, Cond.code yX1_placeOfKey cX1_placeOfKey 2 (some .int), Cond.fieldLink RX1 83 "RoomRing$Stock" "keys" "[I", Cond.methodLink RX4 99 yX1_movedSince, Cond.instanceMethod yX1_movedSince, Cond.selects RX1 yX1_movedSince yX1_movedSince, Cond.code yX1_movedSince cX1_movedSince 6 (some .int), Cond.methodLink RX1 89 yX3_nameOf, Cond.instanceMethod yX3_nameOf, Cond.selects RX3 yX3_nameOf yX3_nameOf, Cond.code yX3_nameOf cX3_nameOf 2 (some .int), Cond.methodLink RX1 86 yX3_findKey, Cond.methodLink RX1 92 yX1_hostNameOfKey, Cond.instanceMethod yX1_hostNameOfKey, Cond.selects RX1 yX1_hostNameOfKey yX1_hostNameOfKey, Cond.code yX1_hostNameOfKey cX1_hostNameOfKey 3 (some .int), Cond.methodLink RX4 194 yX0_keep, Cond.instanceMethod yX0_keep, Cond.selects RX0 yX0_keep yX0_keep, Cond.initialized RX0, Cond.code yX0_keep cX0_keep 2 none, Cond.fieldLink RX0 17 "RoomRing$History" "size" "I"]
def wsX4_key_r7 : List Cond := [Cond.fieldLink RX0 11 "RoomRing$History" "states" "[LRoomRing$Stock;", Cond.methodLink RX0 22 yX0_forgetOldest, Cond.instanceMethod yX0_forgetOldest, Cond.selects RX0 yX0_forgetOldest yX0_forgetOldest, Cond.code yX0_forgetOldest cX0_forgetOldest 3 none, Cond.methodLink RX0 25 yX3_copyFrom, Cond.methodLink RX4 47 yX1_hostNameOfKey]
def wsX4_key : List Cond := .code yX4_key cX4_key 3 (some .int) :: ((wsX4_key_r1 ++ (wsX4_key_r2 ++ (wsX4_key_r3 ++ (wsX4_key_r4 ++ (wsX4_key_r5 ++ (wsX4_key_r6 ++ wsX4_key_r7)))))) ++ wsX40 ++ wsX10 ++ wsX30 ++ wsX00)
def wsX4_drops_r1 : List Cond := [Cond.methodLink RX4 43 yX4_tellOne, Cond.instanceMethod yX4_tellOne, Cond.selects RX4 yX4_tellOne yX4_tellOne, Cond.initialized RX4, Cond.code yX4_tellOne cX4_tellOne 5 (some .int), Cond.fieldLink RX4 16 "RoomRing" "draft" "LRoomRing$Ring;", Cond.fieldLink RX4 58 "RoomRing$Ring" "stock" "LRoomRing$Stock;", Cond.fieldLink RX4 12 "RoomRing" "now" "LRoomRing$Ring;", Cond.fieldLink RX4 116 "RoomRing$Stock" "moved" "I", Cond.methodLink RX4 137 yX3_copyFrom, Cond.instanceMethod yX3_copyFrom, Cond.selects RX3 yX3_copyFrom yX3_copyFrom, Cond.initialized RX3, Cond.code yX3_copyFrom cX3_copyFrom 2 none, Cond.fieldLink RX3 9 "RoomRing$Stock" "names" "[I", Cond.methodLink RX3 34 arraycopyName, Cond.native arraycopyName, Cond.static arraycopyName, Cond.initialized "java/lang/System", Cond.fieldLink RX3 15 "RoomRing$Stock" "weights" "[I", Cond.fieldLink RX3 18 "RoomRing$Stock" "keys" "[I", Cond.fieldLink RX3 21 "RoomRing$Stock" "hostCount" "I", Cond.fieldLink RX3 25 "RoomRing$Stock" "keyCount" "I", Cond.fieldLink RX3 28 "RoomRing$Stock" "extraShare" "I"]
def wsX4_drops_r2 : List Cond := [Cond.fieldLink RX3 31 "RoomRing$Stock" "moved" "I", Cond.methodLink RX4 153 yX3_take, Cond.instanceMethod yX3_take, Cond.selects RX3 yX3_take yX3_take, Cond.code yX3_take cX3_take 4 (some .int), Cond.methodLink RX3 40 yX3_addHost, Cond.instanceMethod yX3_addHost, Cond.selects RX3 yX3_addHost yX3_addHost, Cond.code yX3_addHost cX3_addHost 4 (some .int), Cond.static yX4_isName, Cond.code yX4_isName cX4_isName 1 (some .boolean), Cond.static yX4_isWeight, Cond.code yX4_isWeight cX4_isWeight 1 (some .boolean), Cond.methodLink RX3 67 yX3_findHost, Cond.instanceMethod yX3_findHost, Cond.selects RX3 yX3_findHost yX3_findHost, Cond.code yX3_findHost cX3_findHost 3 (some .int), Cond.methodLink RX3 44 yX3_weighAnew, Cond.instanceMethod yX3_weighAnew, Cond.selects RX3 yX3_weighAnew yX3_weighAnew, Cond.code yX3_weighAnew cX3_weighAnew 4 (some .int), Cond.methodLink RX3 47 yX3_removeHost, Cond.instanceMethod yX3_removeHost, Cond.selects RX3 yX3_removeHost yX3_removeHost]
def wsX4_drops_r3 : List Cond := [Cond.code yX3_removeHost cX3_removeHost 4 (some .int), Cond.methodLink RX3 51 yX3_addKey, Cond.instanceMethod yX3_addKey, Cond.selects RX3 yX3_addKey yX3_addKey, Cond.code yX3_addKey cX3_addKey 3 (some .int), Cond.static yX4_isKey, Cond.code yX4_isKey cX4_isKey 1 (some .boolean), Cond.methodLink RX3 73 yX3_findKey, Cond.instanceMethod yX3_findKey, Cond.selects RX3 yX3_findKey yX3_findKey, Cond.code yX3_findKey cX3_findKey 3 (some .int), Cond.methodLink RX3 54 yX3_removeKey, Cond.instanceMethod yX3_removeKey, Cond.selects RX3 yX3_removeKey yX3_removeKey, Cond.code yX3_removeKey cX3_removeKey 4 (some .int), Cond.methodLink RX3 57 yX3_changeExtra, Cond.instanceMethod yX3_changeExtra, Cond.selects RX3 yX3_changeExtra yX3_changeExtra, Cond.code yX3_changeExtra cX3_changeExtra 2 (some .int), Cond.methodLink RX4 55 yX4_refuse, Cond.instanceMethod yX4_refuse, Cond.selects RX4 yX4_refuse yX4_refuse, Cond.code yX4_refuse cX4_refuse 2 (some .int), Cond.fieldLink RX4 33 "RoomRing" "refusedBad" "I"]
def wsX4_drops_r4 : List Cond := [Cond.fieldLink RX4 37 "RoomRing" "refusedNo" "I", Cond.fieldLink RX4 40 "RoomRing" "refusedFull" "I", Cond.methodLink RX4 156 yX4_keepDraft, Cond.instanceMethod yX4_keepDraft, Cond.selects RX4 yX4_keepDraft yX4_keepDraft, Cond.code yX4_keepDraft cX4_keepDraft 2 none, Cond.fieldLink RX4 22 "RoomRing" "history" "LRoomRing$History;", Cond.methodLink RX4 165 yX1_lay, Cond.instanceMethod yX1_lay, Cond.selects RX1 yX1_lay yX1_lay, Cond.initialized RX1, Cond.code yX1_lay cX1_lay 2 none, Cond.fieldLink RX1 12 "RoomRing$Ring" "stock" "LRoomRing$Stock;", Cond.fieldLink RX1 49 "RoomRing$Stock" "keyCount" "I", Cond.methodLink RX1 43 yX1_setMarks, Cond.instanceMethod yX1_setMarks, Cond.selects RX1 yX1_setMarks yX1_setMarks, Cond.code yX1_setMarks cX1_setMarks 5 none, Cond.fieldLink RX1 18 "RoomRing$Ring" "owners" "[I", Cond.fieldLink RX1 57 "RoomRing$Stock" "hostCount" "I", Cond.fieldLink RX1 60 "RoomRing$Stock" "weights" "[I", Cond.fieldLink RX1 63 "RoomRing$Stock" "names" "[I", Cond.fieldLink RX1 22 "RoomRing$Ring" "markPlaces" "[I", Cond.methodLink RX1 66 yX1_freePlaceFrom]
def wsX4_drops_r5 : List Cond := [Cond.instanceMethod yX1_freePlaceFrom, Cond.selects RX1 yX1_freePlaceFrom yX1_freePlaceFrom, Cond.code yX1_freePlaceFrom cX1_freePlaceFrom 4 (some .int), Cond.methodLink RX1 70 yX1_placeBehind, Cond.static yX1_placeBehind, Cond.code yX1_placeBehind cX1_placeBehind 1 (some .int), Cond.methodLink RX1 46 yX1_setBounds, Cond.instanceMethod yX1_setBounds, Cond.selects RX1 yX1_setBounds yX1_setBounds, Cond.code yX1_setBounds cX1_setBounds 4 none, Cond.fieldLink RX1 77 "RoomRing$Stock" "extraShare" "I", Cond.fieldLink RX1 25 "RoomRing$Ring" "bounds" "[I", Cond.fieldLink RX1 28 "RoomRing$Ring" "loads" "[I", Cond.methodLink RX1 73 yX3_allWeights, Cond.instanceMethod yX3_allWeights, Cond.selects RX3 yX3_allWeights yX3_allWeights, Cond.code yX3_allWeights cX3_allWeights 3 (some .int), Cond.methodLink RX1 53 yX1_layKey, Cond.instanceMethod yX1_layKey, Cond.selects RX1 yX1_layKey yX1_layKey, Cond.code yX1_layKey cX1_layKey 6 none, Cond.fieldLink RX1 31 "RoomRing$Ring" "keyHosts" "[I", Cond.fieldLink RX1 34 "RoomRing$Ring" "passed" "[I", Cond.fieldLink RX1 37 "RoomRing$Ring" "far" "[I"]
def wsX4_drops_r6 : List Cond := [Cond.methodLink RX1 80 yX1_placeOfKey, Cond.instanceMethod yX1_placeOfKey, Cond.selects RX1 yX1_placeOfKey yX1_placeOfKey, Cond.code yX1_placeOfKey cX1_placeOfKey 2 (some .int), Cond.fieldLink RX1 83 "RoomRing$Stock" "keys" "[I", Cond.methodLink RX4 99 yX1_movedSince, Cond.instanceMethod yX1_movedSince, Cond.selects RX1 yX1_movedSince yX1_movedSince, Cond.code yX1_movedSince cX1_movedSince 6 (some .int), Cond.methodLink RX1 89 yX3_nameOf, Cond.instanceMethod yX3_nameOf, Cond.selects RX3 yX3_nameOf yX3_nameOf, Cond.code yX3_nameOf cX3_nameOf 2 (some .int), Cond.methodLink RX1 86 yX3_findKey, Cond.methodLink RX1 92 yX1_hostNameOfKey, Cond.instanceMethod yX1_hostNameOfKey, Cond.selects RX1 yX1_hostNameOfKey yX1_hostNameOfKey, Cond.code yX1_hostNameOfKey cX1_hostNameOfKey 3 (some .int), Cond.methodLink RX4 194 yX0_keep, Cond.instanceMethod yX0_keep, Cond.selects RX0 yX0_keep yX0_keep, Cond.initialized RX0, Cond.code yX0_keep cX0_keep 2 none, Cond.fieldLink RX0 17 "RoomRing$History" "size" "I"]
def wsX4_drops_r7 : List Cond := [Cond.fieldLink RX0 11 "RoomRing$History" "states" "[LRoomRing$Stock;", Cond.methodLink RX0 22 yX0_forgetOldest, Cond.instanceMethod yX0_forgetOldest, Cond.selects RX0 yX0_forgetOldest yX0_forgetOldest, Cond.code yX0_forgetOldest cX0_forgetOldest 3 none, Cond.methodLink RX0 25 yX3_copyFrom]
def wsX4_drops : List Cond := .code yX4_drops cX4_drops 2 (some .int) :: ((wsX4_drops_r1 ++ (wsX4_drops_r2 ++ (wsX4_drops_r3 ++ (wsX4_drops_r4 ++ (wsX4_drops_r5 ++ (wsX4_drops_r6 ++ wsX4_drops_r7)))))) ++ wsX40 ++ wsX10 ++ wsX30 ++ wsX00)
def wsX4_extra_r1 : List Cond := [Cond.methodLink RX4 43 yX4_tellOne, Cond.instanceMethod yX4_tellOne, Cond.selects RX4 yX4_tellOne yX4_tellOne, Cond.initialized RX4, Cond.code yX4_tellOne cX4_tellOne 5 (some .int), Cond.fieldLink RX4 16 "RoomRing" "draft" "LRoomRing$Ring;", Cond.fieldLink RX4 58 "RoomRing$Ring" "stock" "LRoomRing$Stock;", Cond.fieldLink RX4 12 "RoomRing" "now" "LRoomRing$Ring;", Cond.fieldLink RX4 116 "RoomRing$Stock" "moved" "I", Cond.methodLink RX4 137 yX3_copyFrom, Cond.instanceMethod yX3_copyFrom, Cond.selects RX3 yX3_copyFrom yX3_copyFrom, Cond.initialized RX3, Cond.code yX3_copyFrom cX3_copyFrom 2 none, Cond.fieldLink RX3 9 "RoomRing$Stock" "names" "[I", Cond.methodLink RX3 34 arraycopyName, Cond.native arraycopyName, Cond.static arraycopyName, Cond.initialized "java/lang/System", Cond.fieldLink RX3 15 "RoomRing$Stock" "weights" "[I", Cond.fieldLink RX3 18 "RoomRing$Stock" "keys" "[I", Cond.fieldLink RX3 21 "RoomRing$Stock" "hostCount" "I", Cond.fieldLink RX3 25 "RoomRing$Stock" "keyCount" "I", Cond.fieldLink RX3 28 "RoomRing$Stock" "extraShare" "I"]
def wsX4_extra_r2 : List Cond := [Cond.fieldLink RX3 31 "RoomRing$Stock" "moved" "I", Cond.methodLink RX4 153 yX3_take, Cond.instanceMethod yX3_take, Cond.selects RX3 yX3_take yX3_take, Cond.code yX3_take cX3_take 4 (some .int), Cond.methodLink RX3 40 yX3_addHost, Cond.instanceMethod yX3_addHost, Cond.selects RX3 yX3_addHost yX3_addHost, Cond.code yX3_addHost cX3_addHost 4 (some .int), Cond.static yX4_isName, Cond.code yX4_isName cX4_isName 1 (some .boolean), Cond.static yX4_isWeight, Cond.code yX4_isWeight cX4_isWeight 1 (some .boolean), Cond.methodLink RX3 67 yX3_findHost, Cond.instanceMethod yX3_findHost, Cond.selects RX3 yX3_findHost yX3_findHost, Cond.code yX3_findHost cX3_findHost 3 (some .int), Cond.methodLink RX3 44 yX3_weighAnew, Cond.instanceMethod yX3_weighAnew, Cond.selects RX3 yX3_weighAnew yX3_weighAnew, Cond.code yX3_weighAnew cX3_weighAnew 4 (some .int), Cond.methodLink RX3 47 yX3_removeHost, Cond.instanceMethod yX3_removeHost, Cond.selects RX3 yX3_removeHost yX3_removeHost]
def wsX4_extra_r3 : List Cond := [Cond.code yX3_removeHost cX3_removeHost 4 (some .int), Cond.methodLink RX3 51 yX3_addKey, Cond.instanceMethod yX3_addKey, Cond.selects RX3 yX3_addKey yX3_addKey, Cond.code yX3_addKey cX3_addKey 3 (some .int), Cond.static yX4_isKey, Cond.code yX4_isKey cX4_isKey 1 (some .boolean), Cond.methodLink RX3 73 yX3_findKey, Cond.instanceMethod yX3_findKey, Cond.selects RX3 yX3_findKey yX3_findKey, Cond.code yX3_findKey cX3_findKey 3 (some .int), Cond.methodLink RX3 54 yX3_removeKey, Cond.instanceMethod yX3_removeKey, Cond.selects RX3 yX3_removeKey yX3_removeKey, Cond.code yX3_removeKey cX3_removeKey 4 (some .int), Cond.methodLink RX3 57 yX3_changeExtra, Cond.instanceMethod yX3_changeExtra, Cond.selects RX3 yX3_changeExtra yX3_changeExtra, Cond.code yX3_changeExtra cX3_changeExtra 2 (some .int), Cond.methodLink RX4 55 yX4_refuse, Cond.instanceMethod yX4_refuse, Cond.selects RX4 yX4_refuse yX4_refuse, Cond.code yX4_refuse cX4_refuse 2 (some .int), Cond.fieldLink RX4 33 "RoomRing" "refusedBad" "I"]
def wsX4_extra_r4 : List Cond := [Cond.fieldLink RX4 37 "RoomRing" "refusedNo" "I", Cond.fieldLink RX4 40 "RoomRing" "refusedFull" "I", Cond.methodLink RX4 156 yX4_keepDraft, Cond.instanceMethod yX4_keepDraft, Cond.selects RX4 yX4_keepDraft yX4_keepDraft, Cond.code yX4_keepDraft cX4_keepDraft 2 none, Cond.fieldLink RX4 22 "RoomRing" "history" "LRoomRing$History;", Cond.methodLink RX4 165 yX1_lay, Cond.instanceMethod yX1_lay, Cond.selects RX1 yX1_lay yX1_lay, Cond.initialized RX1, Cond.code yX1_lay cX1_lay 2 none, Cond.fieldLink RX1 12 "RoomRing$Ring" "stock" "LRoomRing$Stock;", Cond.fieldLink RX1 49 "RoomRing$Stock" "keyCount" "I", Cond.methodLink RX1 43 yX1_setMarks, Cond.instanceMethod yX1_setMarks, Cond.selects RX1 yX1_setMarks yX1_setMarks, Cond.code yX1_setMarks cX1_setMarks 5 none, Cond.fieldLink RX1 18 "RoomRing$Ring" "owners" "[I", Cond.fieldLink RX1 57 "RoomRing$Stock" "hostCount" "I", Cond.fieldLink RX1 60 "RoomRing$Stock" "weights" "[I", Cond.fieldLink RX1 63 "RoomRing$Stock" "names" "[I", Cond.fieldLink RX1 22 "RoomRing$Ring" "markPlaces" "[I", Cond.methodLink RX1 66 yX1_freePlaceFrom]
def wsX4_extra_r5 : List Cond := [Cond.instanceMethod yX1_freePlaceFrom, Cond.selects RX1 yX1_freePlaceFrom yX1_freePlaceFrom, Cond.code yX1_freePlaceFrom cX1_freePlaceFrom 4 (some .int), Cond.methodLink RX1 70 yX1_placeBehind, Cond.static yX1_placeBehind, Cond.code yX1_placeBehind cX1_placeBehind 1 (some .int), Cond.methodLink RX1 46 yX1_setBounds, Cond.instanceMethod yX1_setBounds, Cond.selects RX1 yX1_setBounds yX1_setBounds, Cond.code yX1_setBounds cX1_setBounds 4 none, Cond.fieldLink RX1 77 "RoomRing$Stock" "extraShare" "I", Cond.fieldLink RX1 25 "RoomRing$Ring" "bounds" "[I", Cond.fieldLink RX1 28 "RoomRing$Ring" "loads" "[I", Cond.methodLink RX1 73 yX3_allWeights, Cond.instanceMethod yX3_allWeights, Cond.selects RX3 yX3_allWeights yX3_allWeights, Cond.code yX3_allWeights cX3_allWeights 3 (some .int), Cond.methodLink RX1 53 yX1_layKey, Cond.instanceMethod yX1_layKey, Cond.selects RX1 yX1_layKey yX1_layKey, Cond.code yX1_layKey cX1_layKey 6 none, Cond.fieldLink RX1 31 "RoomRing$Ring" "keyHosts" "[I", Cond.fieldLink RX1 34 "RoomRing$Ring" "passed" "[I", Cond.fieldLink RX1 37 "RoomRing$Ring" "far" "[I"]
def wsX4_extra_r6 : List Cond := [Cond.methodLink RX1 80 yX1_placeOfKey, Cond.instanceMethod yX1_placeOfKey, Cond.selects RX1 yX1_placeOfKey yX1_placeOfKey, Cond.code yX1_placeOfKey cX1_placeOfKey 2 (some .int), Cond.fieldLink RX1 83 "RoomRing$Stock" "keys" "[I", Cond.methodLink RX4 99 yX1_movedSince, Cond.instanceMethod yX1_movedSince, Cond.selects RX1 yX1_movedSince yX1_movedSince, Cond.code yX1_movedSince cX1_movedSince 6 (some .int), Cond.methodLink RX1 89 yX3_nameOf, Cond.instanceMethod yX3_nameOf, Cond.selects RX3 yX3_nameOf yX3_nameOf, Cond.code yX3_nameOf cX3_nameOf 2 (some .int), Cond.methodLink RX1 86 yX3_findKey, Cond.methodLink RX1 92 yX1_hostNameOfKey, Cond.instanceMethod yX1_hostNameOfKey, Cond.selects RX1 yX1_hostNameOfKey yX1_hostNameOfKey, Cond.code yX1_hostNameOfKey cX1_hostNameOfKey 3 (some .int), Cond.methodLink RX4 194 yX0_keep, Cond.instanceMethod yX0_keep, Cond.selects RX0 yX0_keep yX0_keep, Cond.initialized RX0, Cond.code yX0_keep cX0_keep 2 none, Cond.fieldLink RX0 17 "RoomRing$History" "size" "I"]
def wsX4_extra_r7 : List Cond := [Cond.fieldLink RX0 11 "RoomRing$History" "states" "[LRoomRing$Stock;", Cond.methodLink RX0 22 yX0_forgetOldest, Cond.instanceMethod yX0_forgetOldest, Cond.selects RX0 yX0_forgetOldest yX0_forgetOldest, Cond.code yX0_forgetOldest cX0_forgetOldest 3 none, Cond.methodLink RX0 25 yX3_copyFrom]
def wsX4_extra : List Cond := .code yX4_extra cX4_extra 2 (some .int) :: ((wsX4_extra_r1 ++ (wsX4_extra_r2 ++ (wsX4_extra_r3 ++ (wsX4_extra_r4 ++ (wsX4_extra_r5 ++ (wsX4_extra_r6 ++ wsX4_extra_r7)))))) ++ wsX40 ++ wsX10 ++ wsX30 ++ wsX00)
def wsX4_of_r1 : List Cond := [Cond.fieldLink RX4 12 "RoomRing" "now" "LRoomRing$Ring;", Cond.fieldLink RX4 58 "RoomRing$Ring" "stock" "LRoomRing$Stock;", Cond.methodLink RX4 51 yX4_isName, Cond.static yX4_isName, Cond.initialized RX4, Cond.code yX4_isName cX4_isName 1 (some .boolean), Cond.methodLink RX4 55 yX4_refuse, Cond.instanceMethod yX4_refuse, Cond.selects RX4 yX4_refuse yX4_refuse, Cond.code yX4_refuse cX4_refuse 2 (some .int), Cond.fieldLink RX4 33 "RoomRing" "refusedBad" "I", Cond.fieldLink RX4 37 "RoomRing" "refusedNo" "I", Cond.fieldLink RX4 40 "RoomRing" "refusedFull" "I", Cond.methodLink RX4 62 yX3_findHost, Cond.instanceMethod yX3_findHost, Cond.selects RX3 yX3_findHost yX3_findHost, Cond.initialized RX3, Cond.code yX3_findHost cX3_findHost 3 (some .int), Cond.fieldLink RX3 21 "RoomRing$Stock" "hostCount" "I", Cond.fieldLink RX3 9 "RoomRing$Stock" "names" "[I", Cond.methodLink RX4 67 yX1_hostFact, Cond.instanceMethod yX1_hostFact, Cond.selects RX1 yX1_hostFact yX1_hostFact, Cond.initialized RX1]
def wsX4_of_r2 : List Cond := [Cond.code yX1_hostFact cX1_hostFact 3 (some .int), Cond.fieldLink RX1 12 "RoomRing$Ring" "stock" "LRoomRing$Stock;", Cond.fieldLink RX1 60 "RoomRing$Stock" "weights" "[I", Cond.fieldLink RX1 25 "RoomRing$Ring" "bounds" "[I", Cond.fieldLink RX1 28 "RoomRing$Ring" "loads" "[I", Cond.methodLink RX1 95 yX1_keyOfHost, Cond.instanceMethod yX1_keyOfHost, Cond.selects RX1 yX1_keyOfHost yX1_keyOfHost, Cond.code yX1_keyOfHost cX1_keyOfHost 5 (some .int), Cond.fieldLink RX1 49 "RoomRing$Stock" "keyCount" "I", Cond.fieldLink RX1 31 "RoomRing$Ring" "keyHosts" "[I", Cond.fieldLink RX1 83 "RoomRing$Stock" "keys" "[I"]
def wsX4_of : List Cond := .code yX4_of cX4_of 4 (some .int) :: ((wsX4_of_r1 ++ wsX4_of_r2) ++ wsX40 ++ wsX10 ++ wsX30)
def wsX4_mark_r1 : List Cond := [Cond.fieldLink RX4 12 "RoomRing" "now" "LRoomRing$Ring;", Cond.fieldLink RX4 58 "RoomRing$Ring" "stock" "LRoomRing$Stock;", Cond.methodLink RX4 51 yX4_isName, Cond.static yX4_isName, Cond.initialized RX4, Cond.code yX4_isName cX4_isName 1 (some .boolean), Cond.methodLink RX4 55 yX4_refuse, Cond.instanceMethod yX4_refuse, Cond.selects RX4 yX4_refuse yX4_refuse, Cond.code yX4_refuse cX4_refuse 2 (some .int), Cond.fieldLink RX4 33 "RoomRing" "refusedBad" "I", Cond.fieldLink RX4 37 "RoomRing" "refusedNo" "I", Cond.fieldLink RX4 40 "RoomRing" "refusedFull" "I", Cond.methodLink RX4 62 yX3_findHost, Cond.instanceMethod yX3_findHost, Cond.selects RX3 yX3_findHost yX3_findHost, Cond.initialized RX3, Cond.code yX3_findHost cX3_findHost 3 (some .int), Cond.fieldLink RX3 21 "RoomRing$Stock" "hostCount" "I", Cond.fieldLink RX3 9 "RoomRing$Stock" "names" "[I", Cond.methodLink RX4 71 yX1_placeOfMark, Cond.instanceMethod yX1_placeOfMark, Cond.selects RX1 yX1_placeOfMark yX1_placeOfMark, Cond.initialized RX1]
def wsX4_mark_r2 : List Cond := [Cond.code yX1_placeOfMark cX1_placeOfMark 3 (some .int), Cond.fieldLink RX1 12 "RoomRing$Ring" "stock" "LRoomRing$Stock;", Cond.fieldLink RX1 60 "RoomRing$Stock" "weights" "[I", Cond.fieldLink RX1 22 "RoomRing$Ring" "markPlaces" "[I"]
def wsX4_mark : List Cond := .code yX4_mark cX4_mark 4 (some .int) :: ((wsX4_mark_r1 ++ wsX4_mark_r2) ++ wsX40 ++ wsX10 ++ wsX30)
def wsX4_at : List Cond := .code yX4_at cX4_at 2 (some .int) :: ([.fieldLink RX4 12 "RoomRing" "now" "LRoomRing$Ring;", .fieldLink RX4 58 "RoomRing$Ring" "stock" "LRoomRing$Stock;", .fieldLink RX4 74 "RoomRing$Ring" "owners" "[I", .methodLink RX4 55 yX4_refuse, .instanceMethod yX4_refuse, .selects RX4 yX4_refuse yX4_refuse, .initialized RX4, .code yX4_refuse cX4_refuse 2 (some .int), .fieldLink RX4 33 "RoomRing" "refusedBad" "I", .fieldLink RX4 37 "RoomRing" "refusedNo" "I", .fieldLink RX4 40 "RoomRing" "refusedFull" "I", .methodLink RX4 78 yX3_nameOf, .instanceMethod yX3_nameOf, .selects RX3 yX3_nameOf yX3_nameOf, .initialized RX3, .code yX3_nameOf cX3_nameOf 2 (some .int), .fieldLink RX3 21 "RoomRing$Stock" "hostCount" "I", .fieldLink RX3 9 "RoomRing$Stock" "names" "[I"] ++ wsX40 ++ wsX10 ++ wsX30)
def wsX4_name : List Cond := .code yX4_name cX4_name 2 (some .int) :: ([.fieldLink RX4 12 "RoomRing" "now" "LRoomRing$Ring;", .fieldLink RX4 58 "RoomRing$Ring" "stock" "LRoomRing$Stock;", .methodLink RX4 55 yX4_refuse, .instanceMethod yX4_refuse, .selects RX4 yX4_refuse yX4_refuse, .initialized RX4, .code yX4_refuse cX4_refuse 2 (some .int), .fieldLink RX4 33 "RoomRing" "refusedBad" "I", .fieldLink RX4 37 "RoomRing" "refusedNo" "I", .fieldLink RX4 40 "RoomRing" "refusedFull" "I", .methodLink RX4 78 yX3_nameOf, .instanceMethod yX3_nameOf, .selects RX3 yX3_nameOf yX3_nameOf, .initialized RX3, .code yX3_nameOf cX3_nameOf 2 (some .int), .fieldLink RX3 21 "RoomRing$Stock" "hostCount" "I", .fieldLink RX3 9 "RoomRing$Stock" "names" "[I"] ++ wsX40 ++ wsX10 ++ wsX30)
def wsX4_share_r1 : List Cond := [Cond.fieldLink RX4 12 "RoomRing" "now" "LRoomRing$Ring;", Cond.fieldLink RX4 58 "RoomRing$Ring" "stock" "LRoomRing$Stock;", Cond.methodLink RX4 51 yX4_isName, Cond.static yX4_isName, Cond.initialized RX4, Cond.code yX4_isName cX4_isName 1 (some .boolean), Cond.methodLink RX4 55 yX4_refuse, Cond.instanceMethod yX4_refuse, Cond.selects RX4 yX4_refuse yX4_refuse, Cond.code yX4_refuse cX4_refuse 2 (some .int), Cond.fieldLink RX4 33 "RoomRing" "refusedBad" "I", Cond.fieldLink RX4 37 "RoomRing" "refusedNo" "I", Cond.fieldLink RX4 40 "RoomRing" "refusedFull" "I", Cond.methodLink RX4 62 yX3_findHost, Cond.instanceMethod yX3_findHost, Cond.selects RX3 yX3_findHost yX3_findHost, Cond.initialized RX3, Cond.code yX3_findHost cX3_findHost 3 (some .int), Cond.fieldLink RX3 21 "RoomRing$Stock" "hostCount" "I", Cond.fieldLink RX3 9 "RoomRing$Stock" "names" "[I", Cond.methodLink RX4 81 yX1_placesLeadingTo, Cond.instanceMethod yX1_placesLeadingTo, Cond.selects RX1 yX1_placesLeadingTo yX1_placesLeadingTo, Cond.initialized RX1]
def wsX4_share_r2 : List Cond := [Cond.code yX1_placesLeadingTo cX1_placesLeadingTo 5 (some .int), Cond.fieldLink RX1 18 "RoomRing$Ring" "owners" "[I", Cond.methodLink RX1 99 yX1_firstOwner, Cond.instanceMethod yX1_firstOwner, Cond.selects RX1 yX1_firstOwner yX1_firstOwner, Cond.code yX1_firstOwner cX1_firstOwner 2 (some .int)]
def wsX4_share : List Cond := .code yX4_share cX4_share 3 (some .int) :: ((wsX4_share_r1 ++ wsX4_share_r2) ++ wsX40 ++ wsX10 ++ wsX30)
def wsX4_has_r1 : List Cond := [Cond.fieldLink RX4 12 "RoomRing" "now" "LRoomRing$Ring;", Cond.fieldLink RX4 58 "RoomRing$Ring" "stock" "LRoomRing$Stock;", Cond.fieldLink RX4 90 "RoomRing$Ring" "keyHosts" "[I", Cond.methodLink RX4 84 yX4_isKey, Cond.static yX4_isKey, Cond.initialized RX4, Cond.code yX4_isKey cX4_isKey 1 (some .boolean), Cond.methodLink RX4 55 yX4_refuse, Cond.instanceMethod yX4_refuse, Cond.selects RX4 yX4_refuse yX4_refuse, Cond.code yX4_refuse cX4_refuse 2 (some .int), Cond.fieldLink RX4 33 "RoomRing" "refusedBad" "I", Cond.fieldLink RX4 37 "RoomRing" "refusedNo" "I", Cond.fieldLink RX4 40 "RoomRing" "refusedFull" "I", Cond.methodLink RX4 87 yX3_findKey, Cond.instanceMethod yX3_findKey, Cond.selects RX3 yX3_findKey yX3_findKey, Cond.initialized RX3, Cond.code yX3_findKey cX3_findKey 3 (some .int), Cond.fieldLink RX3 25 "RoomRing$Stock" "keyCount" "I", Cond.fieldLink RX3 18 "RoomRing$Stock" "keys" "[I", Cond.methodLink RX4 78 yX3_nameOf, Cond.instanceMethod yX3_nameOf, Cond.selects RX3 yX3_nameOf yX3_nameOf]
def wsX4_has_r2 : List Cond := [Cond.code yX3_nameOf cX3_nameOf 2 (some .int), Cond.fieldLink RX3 21 "RoomRing$Stock" "hostCount" "I", Cond.fieldLink RX3 9 "RoomRing$Stock" "names" "[I"]
def wsX4_has : List Cond := .code yX4_has cX4_has 3 (some .int) :: ((wsX4_has_r1 ++ wsX4_has_r2) ++ wsX40 ++ wsX10 ++ wsX30)
def wsX4_about_r1 : List Cond := [Cond.fieldLink RX4 12 "RoomRing" "now" "LRoomRing$Ring;", Cond.fieldLink RX4 58 "RoomRing$Ring" "stock" "LRoomRing$Stock;", Cond.methodLink RX4 84 yX4_isKey, Cond.static yX4_isKey, Cond.initialized RX4, Cond.code yX4_isKey cX4_isKey 1 (some .boolean), Cond.methodLink RX4 55 yX4_refuse, Cond.instanceMethod yX4_refuse, Cond.selects RX4 yX4_refuse yX4_refuse, Cond.code yX4_refuse cX4_refuse 2 (some .int), Cond.fieldLink RX4 33 "RoomRing" "refusedBad" "I", Cond.fieldLink RX4 37 "RoomRing" "refusedNo" "I", Cond.fieldLink RX4 40 "RoomRing" "refusedFull" "I", Cond.methodLink RX4 87 yX3_findKey, Cond.instanceMethod yX3_findKey, Cond.selects RX3 yX3_findKey yX3_findKey, Cond.initialized RX3, Cond.code yX3_findKey cX3_findKey 3 (some .int), Cond.fieldLink RX3 25 "RoomRing$Stock" "keyCount" "I", Cond.fieldLink RX3 18 "RoomRing$Stock" "keys" "[I", Cond.methodLink RX4 93 yX1_keyFact, Cond.instanceMethod yX1_keyFact, Cond.selects RX1 yX1_keyFact yX1_keyFact, Cond.initialized RX1]
def wsX4_about_r2 : List Cond := [Cond.code yX1_keyFact cX1_keyFact 3 (some .int), Cond.fieldLink RX1 34 "RoomRing$Ring" "passed" "[I", Cond.fieldLink RX1 37 "RoomRing$Ring" "far" "[I", Cond.methodLink RX1 80 yX1_placeOfKey, Cond.instanceMethod yX1_placeOfKey, Cond.selects RX1 yX1_placeOfKey yX1_placeOfKey, Cond.code yX1_placeOfKey cX1_placeOfKey 2 (some .int), Cond.fieldLink RX1 12 "RoomRing$Ring" "stock" "LRoomRing$Stock;", Cond.fieldLink RX1 83 "RoomRing$Stock" "keys" "[I"]
def wsX4_about : List Cond := .code yX4_about cX4_about 4 (some .int) :: ((wsX4_about_r1 ++ wsX4_about_r2) ++ wsX40 ++ wsX10 ++ wsX30)
def wsX4_tryOne_r1 : List Cond := [Cond.fieldLink RX4 16 "RoomRing" "draft" "LRoomRing$Ring;", Cond.fieldLink RX4 58 "RoomRing$Ring" "stock" "LRoomRing$Stock;", Cond.fieldLink RX4 12 "RoomRing" "now" "LRoomRing$Ring;", Cond.methodLink RX4 137 yX3_copyFrom, Cond.instanceMethod yX3_copyFrom, Cond.selects RX3 yX3_copyFrom yX3_copyFrom, Cond.initialized RX3, Cond.code yX3_copyFrom cX3_copyFrom 2 none, Cond.fieldLink RX3 9 "RoomRing$Stock" "names" "[I", Cond.methodLink RX3 34 arraycopyName, Cond.native arraycopyName, Cond.static arraycopyName, Cond.initialized "java/lang/System", Cond.fieldLink RX3 15 "RoomRing$Stock" "weights" "[I", Cond.fieldLink RX3 18 "RoomRing$Stock" "keys" "[I", Cond.fieldLink RX3 21 "RoomRing$Stock" "hostCount" "I", Cond.fieldLink RX3 25 "RoomRing$Stock" "keyCount" "I", Cond.fieldLink RX3 28 "RoomRing$Stock" "extraShare" "I", Cond.fieldLink RX3 31 "RoomRing$Stock" "moved" "I", Cond.methodLink RX4 153 yX3_take, Cond.instanceMethod yX3_take, Cond.selects RX3 yX3_take yX3_take, Cond.code yX3_take cX3_take 4 (some .int), Cond.methodLink RX3 40 yX3_addHost]
def wsX4_tryOne_r2 : List Cond := [Cond.instanceMethod yX3_addHost, Cond.selects RX3 yX3_addHost yX3_addHost, Cond.code yX3_addHost cX3_addHost 4 (some .int), Cond.static yX4_isName, Cond.initialized RX4, Cond.code yX4_isName cX4_isName 1 (some .boolean), Cond.static yX4_isWeight, Cond.code yX4_isWeight cX4_isWeight 1 (some .boolean), Cond.methodLink RX3 67 yX3_findHost, Cond.instanceMethod yX3_findHost, Cond.selects RX3 yX3_findHost yX3_findHost, Cond.code yX3_findHost cX3_findHost 3 (some .int), Cond.methodLink RX3 44 yX3_weighAnew, Cond.instanceMethod yX3_weighAnew, Cond.selects RX3 yX3_weighAnew yX3_weighAnew, Cond.code yX3_weighAnew cX3_weighAnew 4 (some .int), Cond.methodLink RX3 47 yX3_removeHost, Cond.instanceMethod yX3_removeHost, Cond.selects RX3 yX3_removeHost yX3_removeHost, Cond.code yX3_removeHost cX3_removeHost 4 (some .int), Cond.methodLink RX3 51 yX3_addKey, Cond.instanceMethod yX3_addKey, Cond.selects RX3 yX3_addKey yX3_addKey, Cond.code yX3_addKey cX3_addKey 3 (some .int)]
def wsX4_tryOne_r3 : List Cond := [Cond.static yX4_isKey, Cond.code yX4_isKey cX4_isKey 1 (some .boolean), Cond.methodLink RX3 73 yX3_findKey, Cond.instanceMethod yX3_findKey, Cond.selects RX3 yX3_findKey yX3_findKey, Cond.code yX3_findKey cX3_findKey 3 (some .int), Cond.methodLink RX3 54 yX3_removeKey, Cond.instanceMethod yX3_removeKey, Cond.selects RX3 yX3_removeKey yX3_removeKey, Cond.code yX3_removeKey cX3_removeKey 4 (some .int), Cond.methodLink RX3 57 yX3_changeExtra, Cond.instanceMethod yX3_changeExtra, Cond.selects RX3 yX3_changeExtra yX3_changeExtra, Cond.code yX3_changeExtra cX3_changeExtra 2 (some .int), Cond.methodLink RX4 165 yX1_lay, Cond.instanceMethod yX1_lay, Cond.selects RX1 yX1_lay yX1_lay, Cond.initialized RX1, Cond.code yX1_lay cX1_lay 2 none, Cond.fieldLink RX1 12 "RoomRing$Ring" "stock" "LRoomRing$Stock;", Cond.fieldLink RX1 49 "RoomRing$Stock" "keyCount" "I", Cond.methodLink RX1 43 yX1_setMarks, Cond.instanceMethod yX1_setMarks, Cond.selects RX1 yX1_setMarks yX1_setMarks]
def wsX4_tryOne_r4 : List Cond := [Cond.code yX1_setMarks cX1_setMarks 5 none, Cond.fieldLink RX1 18 "RoomRing$Ring" "owners" "[I", Cond.fieldLink RX1 57 "RoomRing$Stock" "hostCount" "I", Cond.fieldLink RX1 60 "RoomRing$Stock" "weights" "[I", Cond.fieldLink RX1 63 "RoomRing$Stock" "names" "[I", Cond.fieldLink RX1 22 "RoomRing$Ring" "markPlaces" "[I", Cond.methodLink RX1 66 yX1_freePlaceFrom, Cond.instanceMethod yX1_freePlaceFrom, Cond.selects RX1 yX1_freePlaceFrom yX1_freePlaceFrom, Cond.code yX1_freePlaceFrom cX1_freePlaceFrom 4 (some .int), Cond.methodLink RX1 70 yX1_placeBehind, Cond.static yX1_placeBehind, Cond.code yX1_placeBehind cX1_placeBehind 1 (some .int), Cond.methodLink RX1 46 yX1_setBounds, Cond.instanceMethod yX1_setBounds, Cond.selects RX1 yX1_setBounds yX1_setBounds, Cond.code yX1_setBounds cX1_setBounds 4 none, Cond.fieldLink RX1 77 "RoomRing$Stock" "extraShare" "I", Cond.fieldLink RX1 25 "RoomRing$Ring" "bounds" "[I", Cond.fieldLink RX1 28 "RoomRing$Ring" "loads" "[I", Cond.methodLink RX1 73 yX3_allWeights, Cond.instanceMethod yX3_allWeights, Cond.selects RX3 yX3_allWeights yX3_allWeights, Cond.code yX3_allWeights cX3_allWeights 3 (some .int)]
def wsX4_tryOne_r5 : List Cond := [Cond.methodLink RX1 53 yX1_layKey, Cond.instanceMethod yX1_layKey, Cond.selects RX1 yX1_layKey yX1_layKey, Cond.code yX1_layKey cX1_layKey 6 none, Cond.fieldLink RX1 31 "RoomRing$Ring" "keyHosts" "[I", Cond.fieldLink RX1 34 "RoomRing$Ring" "passed" "[I", Cond.fieldLink RX1 37 "RoomRing$Ring" "far" "[I", Cond.methodLink RX1 80 yX1_placeOfKey, Cond.instanceMethod yX1_placeOfKey, Cond.selects RX1 yX1_placeOfKey yX1_placeOfKey, Cond.code yX1_placeOfKey cX1_placeOfKey 2 (some .int), Cond.fieldLink RX1 83 "RoomRing$Stock" "keys" "[I"]
def wsX4_tryOne : List Cond := .code yX4_tryOne cX4_tryOne 4 (some .int) :: ((wsX4_tryOne_r1 ++ (wsX4_tryOne_r2 ++ (wsX4_tryOne_r3 ++ (wsX4_tryOne_r4 ++ wsX4_tryOne_r5)))) ++ wsX40 ++ wsX10 ++ wsX30)
def wsX4_would_r1 : List Cond := [Cond.fieldLink RX4 16 "RoomRing" "draft" "LRoomRing$Ring;", Cond.methodLink RX4 96 yX4_tryOne, Cond.instanceMethod yX4_tryOne, Cond.selects RX4 yX4_tryOne yX4_tryOne, Cond.initialized RX4, Cond.code yX4_tryOne cX4_tryOne 4 (some .int), Cond.fieldLink RX4 58 "RoomRing$Ring" "stock" "LRoomRing$Stock;", Cond.fieldLink RX4 12 "RoomRing" "now" "LRoomRing$Ring;", Cond.methodLink RX4 137 yX3_copyFrom, Cond.instanceMethod yX3_copyFrom, Cond.selects RX3 yX3_copyFrom yX3_copyFrom, Cond.initialized RX3, Cond.code yX3_copyFrom cX3_copyFrom 2 none, Cond.fieldLink RX3 9 "RoomRing$Stock" "names" "[I", Cond.methodLink RX3 34 arraycopyName, Cond.native arraycopyName, Cond.static arraycopyName, Cond.initialized "java/lang/System", Cond.fieldLink RX3 15 "RoomRing$Stock" "weights" "[I", Cond.fieldLink RX3 18 "RoomRing$Stock" "keys" "[I", Cond.fieldLink RX3 21 "RoomRing$Stock" "hostCount" "I", Cond.fieldLink RX3 25 "RoomRing$Stock" "keyCount" "I", Cond.fieldLink RX3 28 "RoomRing$Stock" "extraShare" "I", Cond.fieldLink RX3 31 "RoomRing$Stock" "moved" "I"]
def wsX4_would_r2 : List Cond := [Cond.methodLink RX4 153 yX3_take, Cond.instanceMethod yX3_take, Cond.selects RX3 yX3_take yX3_take, Cond.code yX3_take cX3_take 4 (some .int), Cond.methodLink RX3 40 yX3_addHost, Cond.instanceMethod yX3_addHost, Cond.selects RX3 yX3_addHost yX3_addHost, Cond.code yX3_addHost cX3_addHost 4 (some .int), Cond.static yX4_isName, Cond.code yX4_isName cX4_isName 1 (some .boolean), Cond.static yX4_isWeight, Cond.code yX4_isWeight cX4_isWeight 1 (some .boolean), Cond.methodLink RX3 67 yX3_findHost, Cond.instanceMethod yX3_findHost, Cond.selects RX3 yX3_findHost yX3_findHost, Cond.code yX3_findHost cX3_findHost 3 (some .int), Cond.methodLink RX3 44 yX3_weighAnew, Cond.instanceMethod yX3_weighAnew, Cond.selects RX3 yX3_weighAnew yX3_weighAnew, Cond.code yX3_weighAnew cX3_weighAnew 4 (some .int), Cond.methodLink RX3 47 yX3_removeHost, Cond.instanceMethod yX3_removeHost, Cond.selects RX3 yX3_removeHost yX3_removeHost, Cond.code yX3_removeHost cX3_removeHost 4 (some .int)]
def wsX4_would_r3 : List Cond := [Cond.methodLink RX3 51 yX3_addKey, Cond.instanceMethod yX3_addKey, Cond.selects RX3 yX3_addKey yX3_addKey, Cond.code yX3_addKey cX3_addKey 3 (some .int), Cond.static yX4_isKey, Cond.code yX4_isKey cX4_isKey 1 (some .boolean), Cond.methodLink RX3 73 yX3_findKey, Cond.instanceMethod yX3_findKey, Cond.selects RX3 yX3_findKey yX3_findKey, Cond.code yX3_findKey cX3_findKey 3 (some .int), Cond.methodLink RX3 54 yX3_removeKey, Cond.instanceMethod yX3_removeKey, Cond.selects RX3 yX3_removeKey yX3_removeKey, Cond.code yX3_removeKey cX3_removeKey 4 (some .int), Cond.methodLink RX3 57 yX3_changeExtra, Cond.instanceMethod yX3_changeExtra, Cond.selects RX3 yX3_changeExtra yX3_changeExtra, Cond.code yX3_changeExtra cX3_changeExtra 2 (some .int), Cond.methodLink RX4 165 yX1_lay, Cond.instanceMethod yX1_lay, Cond.selects RX1 yX1_lay yX1_lay, Cond.initialized RX1, Cond.code yX1_lay cX1_lay 2 none, Cond.fieldLink RX1 12 "RoomRing$Ring" "stock" "LRoomRing$Stock;"]
def wsX4_would_r4 : List Cond := [Cond.fieldLink RX1 49 "RoomRing$Stock" "keyCount" "I", Cond.methodLink RX1 43 yX1_setMarks, Cond.instanceMethod yX1_setMarks, Cond.selects RX1 yX1_setMarks yX1_setMarks, Cond.code yX1_setMarks cX1_setMarks 5 none, Cond.fieldLink RX1 18 "RoomRing$Ring" "owners" "[I", Cond.fieldLink RX1 57 "RoomRing$Stock" "hostCount" "I", Cond.fieldLink RX1 60 "RoomRing$Stock" "weights" "[I", Cond.fieldLink RX1 63 "RoomRing$Stock" "names" "[I", Cond.fieldLink RX1 22 "RoomRing$Ring" "markPlaces" "[I", Cond.methodLink RX1 66 yX1_freePlaceFrom, Cond.instanceMethod yX1_freePlaceFrom, Cond.selects RX1 yX1_freePlaceFrom yX1_freePlaceFrom, Cond.code yX1_freePlaceFrom cX1_freePlaceFrom 4 (some .int), Cond.methodLink RX1 70 yX1_placeBehind, Cond.static yX1_placeBehind, Cond.code yX1_placeBehind cX1_placeBehind 1 (some .int), Cond.methodLink RX1 46 yX1_setBounds, Cond.instanceMethod yX1_setBounds, Cond.selects RX1 yX1_setBounds yX1_setBounds, Cond.code yX1_setBounds cX1_setBounds 4 none, Cond.fieldLink RX1 77 "RoomRing$Stock" "extraShare" "I", Cond.fieldLink RX1 25 "RoomRing$Ring" "bounds" "[I", Cond.fieldLink RX1 28 "RoomRing$Ring" "loads" "[I"]
def wsX4_would_r5 : List Cond := [Cond.methodLink RX1 73 yX3_allWeights, Cond.instanceMethod yX3_allWeights, Cond.selects RX3 yX3_allWeights yX3_allWeights, Cond.code yX3_allWeights cX3_allWeights 3 (some .int), Cond.methodLink RX1 53 yX1_layKey, Cond.instanceMethod yX1_layKey, Cond.selects RX1 yX1_layKey yX1_layKey, Cond.code yX1_layKey cX1_layKey 6 none, Cond.fieldLink RX1 31 "RoomRing$Ring" "keyHosts" "[I", Cond.fieldLink RX1 34 "RoomRing$Ring" "passed" "[I", Cond.fieldLink RX1 37 "RoomRing$Ring" "far" "[I", Cond.methodLink RX1 80 yX1_placeOfKey, Cond.instanceMethod yX1_placeOfKey, Cond.selects RX1 yX1_placeOfKey yX1_placeOfKey, Cond.code yX1_placeOfKey cX1_placeOfKey 2 (some .int), Cond.fieldLink RX1 83 "RoomRing$Stock" "keys" "[I", Cond.methodLink RX4 47 yX1_hostNameOfKey, Cond.instanceMethod yX1_hostNameOfKey, Cond.selects RX1 yX1_hostNameOfKey yX1_hostNameOfKey, Cond.code yX1_hostNameOfKey cX1_hostNameOfKey 3 (some .int), Cond.methodLink RX1 86 yX3_findKey, Cond.methodLink RX1 89 yX3_nameOf, Cond.instanceMethod yX3_nameOf, Cond.selects RX3 yX3_nameOf yX3_nameOf]
def wsX4_would_r6 : List Cond := [Cond.code yX3_nameOf cX3_nameOf 2 (some .int), Cond.methodLink RX4 55 yX4_refuse, Cond.instanceMethod yX4_refuse, Cond.selects RX4 yX4_refuse yX4_refuse, Cond.code yX4_refuse cX4_refuse 2 (some .int), Cond.fieldLink RX4 33 "RoomRing" "refusedBad" "I", Cond.fieldLink RX4 37 "RoomRing" "refusedNo" "I", Cond.fieldLink RX4 40 "RoomRing" "refusedFull" "I"]
def wsX4_would : List Cond := .code yX4_would cX4_would 3 (some .int) :: ((wsX4_would_r1 ++ (wsX4_would_r2 ++ (wsX4_would_r3 ++ (wsX4_would_r4 ++ (wsX4_would_r5 ++ wsX4_would_r6))))) ++ wsX40 ++ wsX10 ++ wsX30)
def wsX4_without_r1 : List Cond := [Cond.fieldLink RX4 16 "RoomRing" "draft" "LRoomRing$Ring;", Cond.fieldLink RX4 12 "RoomRing" "now" "LRoomRing$Ring;", Cond.methodLink RX4 96 yX4_tryOne, Cond.instanceMethod yX4_tryOne, Cond.selects RX4 yX4_tryOne yX4_tryOne, Cond.initialized RX4, Cond.code yX4_tryOne cX4_tryOne 4 (some .int), Cond.fieldLink RX4 58 "RoomRing$Ring" "stock" "LRoomRing$Stock;", Cond.methodLink RX4 137 yX3_copyFrom, Cond.instanceMethod yX3_copyFrom, Cond.selects RX3 yX3_copyFrom yX3_copyFrom, Cond.initialized RX3, Cond.code yX3_copyFrom cX3_copyFrom 2 none, Cond.fieldLink RX3 9 "RoomRing$Stock" "names" "[I", Cond.methodLink RX3 34 arraycopyName, Cond.native arraycopyName, Cond.static arraycopyName, Cond.initialized "java/lang/System", Cond.fieldLink RX3 15 "RoomRing$Stock" "weights" "[I", Cond.fieldLink RX3 18 "RoomRing$Stock" "keys" "[I", Cond.fieldLink RX3 21 "RoomRing$Stock" "hostCount" "I", Cond.fieldLink RX3 25 "RoomRing$Stock" "keyCount" "I", Cond.fieldLink RX3 28 "RoomRing$Stock" "extraShare" "I", Cond.fieldLink RX3 31 "RoomRing$Stock" "moved" "I"]
def wsX4_without_r2 : List Cond := [Cond.methodLink RX4 153 yX3_take, Cond.instanceMethod yX3_take, Cond.selects RX3 yX3_take yX3_take, Cond.code yX3_take cX3_take 4 (some .int), Cond.methodLink RX3 40 yX3_addHost, Cond.instanceMethod yX3_addHost, Cond.selects RX3 yX3_addHost yX3_addHost, Cond.code yX3_addHost cX3_addHost 4 (some .int), Cond.static yX4_isName, Cond.code yX4_isName cX4_isName 1 (some .boolean), Cond.static yX4_isWeight, Cond.code yX4_isWeight cX4_isWeight 1 (some .boolean), Cond.methodLink RX3 67 yX3_findHost, Cond.instanceMethod yX3_findHost, Cond.selects RX3 yX3_findHost yX3_findHost, Cond.code yX3_findHost cX3_findHost 3 (some .int), Cond.methodLink RX3 44 yX3_weighAnew, Cond.instanceMethod yX3_weighAnew, Cond.selects RX3 yX3_weighAnew yX3_weighAnew, Cond.code yX3_weighAnew cX3_weighAnew 4 (some .int), Cond.methodLink RX3 47 yX3_removeHost, Cond.instanceMethod yX3_removeHost, Cond.selects RX3 yX3_removeHost yX3_removeHost, Cond.code yX3_removeHost cX3_removeHost 4 (some .int)]
def wsX4_without_r3 : List Cond := [Cond.methodLink RX3 51 yX3_addKey, Cond.instanceMethod yX3_addKey, Cond.selects RX3 yX3_addKey yX3_addKey, Cond.code yX3_addKey cX3_addKey 3 (some .int), Cond.static yX4_isKey, Cond.code yX4_isKey cX4_isKey 1 (some .boolean), Cond.methodLink RX3 73 yX3_findKey, Cond.instanceMethod yX3_findKey, Cond.selects RX3 yX3_findKey yX3_findKey, Cond.code yX3_findKey cX3_findKey 3 (some .int), Cond.methodLink RX3 54 yX3_removeKey, Cond.instanceMethod yX3_removeKey, Cond.selects RX3 yX3_removeKey yX3_removeKey, Cond.code yX3_removeKey cX3_removeKey 4 (some .int), Cond.methodLink RX3 57 yX3_changeExtra, Cond.instanceMethod yX3_changeExtra, Cond.selects RX3 yX3_changeExtra yX3_changeExtra, Cond.code yX3_changeExtra cX3_changeExtra 2 (some .int), Cond.methodLink RX4 165 yX1_lay, Cond.instanceMethod yX1_lay, Cond.selects RX1 yX1_lay yX1_lay, Cond.initialized RX1, Cond.code yX1_lay cX1_lay 2 none, Cond.fieldLink RX1 12 "RoomRing$Ring" "stock" "LRoomRing$Stock;"]
def wsX4_without_r4 : List Cond := [Cond.fieldLink RX1 49 "RoomRing$Stock" "keyCount" "I", Cond.methodLink RX1 43 yX1_setMarks, Cond.instanceMethod yX1_setMarks, Cond.selects RX1 yX1_setMarks yX1_setMarks, Cond.code yX1_setMarks cX1_setMarks 5 none, Cond.fieldLink RX1 18 "RoomRing$Ring" "owners" "[I", Cond.fieldLink RX1 57 "RoomRing$Stock" "hostCount" "I", Cond.fieldLink RX1 60 "RoomRing$Stock" "weights" "[I", Cond.fieldLink RX1 63 "RoomRing$Stock" "names" "[I", Cond.fieldLink RX1 22 "RoomRing$Ring" "markPlaces" "[I", Cond.methodLink RX1 66 yX1_freePlaceFrom, Cond.instanceMethod yX1_freePlaceFrom, Cond.selects RX1 yX1_freePlaceFrom yX1_freePlaceFrom, Cond.code yX1_freePlaceFrom cX1_freePlaceFrom 4 (some .int), Cond.methodLink RX1 70 yX1_placeBehind, Cond.static yX1_placeBehind, Cond.code yX1_placeBehind cX1_placeBehind 1 (some .int), Cond.methodLink RX1 46 yX1_setBounds, Cond.instanceMethod yX1_setBounds, Cond.selects RX1 yX1_setBounds yX1_setBounds, Cond.code yX1_setBounds cX1_setBounds 4 none, Cond.fieldLink RX1 77 "RoomRing$Stock" "extraShare" "I", Cond.fieldLink RX1 25 "RoomRing$Ring" "bounds" "[I", Cond.fieldLink RX1 28 "RoomRing$Ring" "loads" "[I"]
def wsX4_without_r5 : List Cond := [Cond.methodLink RX1 73 yX3_allWeights, Cond.instanceMethod yX3_allWeights, Cond.selects RX3 yX3_allWeights yX3_allWeights, Cond.code yX3_allWeights cX3_allWeights 3 (some .int), Cond.methodLink RX1 53 yX1_layKey, Cond.instanceMethod yX1_layKey, Cond.selects RX1 yX1_layKey yX1_layKey, Cond.code yX1_layKey cX1_layKey 6 none, Cond.fieldLink RX1 31 "RoomRing$Ring" "keyHosts" "[I", Cond.fieldLink RX1 34 "RoomRing$Ring" "passed" "[I", Cond.fieldLink RX1 37 "RoomRing$Ring" "far" "[I", Cond.methodLink RX1 80 yX1_placeOfKey, Cond.instanceMethod yX1_placeOfKey, Cond.selects RX1 yX1_placeOfKey yX1_placeOfKey, Cond.code yX1_placeOfKey cX1_placeOfKey 2 (some .int), Cond.fieldLink RX1 83 "RoomRing$Stock" "keys" "[I", Cond.methodLink RX4 99 yX1_movedSince, Cond.instanceMethod yX1_movedSince, Cond.selects RX1 yX1_movedSince yX1_movedSince, Cond.code yX1_movedSince cX1_movedSince 6 (some .int), Cond.methodLink RX1 89 yX3_nameOf, Cond.instanceMethod yX3_nameOf, Cond.selects RX3 yX3_nameOf yX3_nameOf, Cond.code yX3_nameOf cX3_nameOf 2 (some .int)]
def wsX4_without_r6 : List Cond := [Cond.methodLink RX1 86 yX3_findKey, Cond.methodLink RX1 92 yX1_hostNameOfKey, Cond.instanceMethod yX1_hostNameOfKey, Cond.selects RX1 yX1_hostNameOfKey yX1_hostNameOfKey, Cond.code yX1_hostNameOfKey cX1_hostNameOfKey 3 (some .int), Cond.methodLink RX4 55 yX4_refuse, Cond.instanceMethod yX4_refuse, Cond.selects RX4 yX4_refuse yX4_refuse, Cond.code yX4_refuse cX4_refuse 2 (some .int), Cond.fieldLink RX4 33 "RoomRing" "refusedBad" "I", Cond.fieldLink RX4 37 "RoomRing" "refusedNo" "I", Cond.fieldLink RX4 40 "RoomRing" "refusedFull" "I"]
def wsX4_without : List Cond := .code yX4_without cX4_without 3 (some .int) :: ((wsX4_without_r1 ++ (wsX4_without_r2 ++ (wsX4_without_r3 ++ (wsX4_without_r4 ++ (wsX4_without_r5 ++ wsX4_without_r6))))) ++ wsX40 ++ wsX10 ++ wsX30)
def wsX4_count_r1 : List Cond := [Cond.fieldLink RX4 12 "RoomRing" "now" "LRoomRing$Ring;", Cond.fieldLink RX4 58 "RoomRing$Ring" "stock" "LRoomRing$Stock;", Cond.fieldLink RX4 103 "RoomRing$Stock" "hostCount" "I", Cond.fieldLink RX4 106 "RoomRing$Stock" "keyCount" "I", Cond.fieldLink RX4 109 "RoomRing$Stock" "extraShare" "I", Cond.fieldLink RX4 116 "RoomRing$Stock" "moved" "I", Cond.methodLink RX4 112 yX3_allWeights, Cond.instanceMethod yX3_allWeights, Cond.selects RX3 yX3_allWeights yX3_allWeights, Cond.initialized RX3, Cond.code yX3_allWeights cX3_allWeights 3 (some .int), Cond.fieldLink RX3 21 "RoomRing$Stock" "hostCount" "I", Cond.fieldLink RX3 15 "RoomRing$Stock" "weights" "[I", Cond.methodLink RX4 119 yX1_fullHosts, Cond.instanceMethod yX1_fullHosts, Cond.selects RX1 yX1_fullHosts yX1_fullHosts, Cond.initialized RX1, Cond.code yX1_fullHosts cX1_fullHosts 3 (some .int), Cond.fieldLink RX1 12 "RoomRing$Ring" "stock" "LRoomRing$Stock;", Cond.fieldLink RX1 57 "RoomRing$Stock" "hostCount" "I", Cond.fieldLink RX1 28 "RoomRing$Ring" "loads" "[I", Cond.fieldLink RX1 25 "RoomRing$Ring" "bounds" "[I", Cond.methodLink RX4 122 yX1_allPassed, Cond.instanceMethod yX1_allPassed]
def wsX4_count_r2 : List Cond := [Cond.selects RX1 yX1_allPassed yX1_allPassed, Cond.code yX1_allPassed cX1_allPassed 3 (some .int), Cond.fieldLink RX1 49 "RoomRing$Stock" "keyCount" "I", Cond.fieldLink RX1 34 "RoomRing$Ring" "passed" "[I", Cond.methodLink RX4 125 yX1_mostLoad, Cond.instanceMethod yX1_mostLoad, Cond.selects RX1 yX1_mostLoad yX1_mostLoad, Cond.code yX1_mostLoad cX1_mostLoad 3 (some .int), Cond.methodLink RX1 102 Lib.Math.max.name, Cond.static Lib.Math.max.name, Cond.initialized "java/lang/Math", Cond.code Lib.Math.max.name Lib.Math.max.code 2 (some .int), Cond.methodLink RX4 55 yX4_refuse, Cond.instanceMethod yX4_refuse, Cond.selects RX4 yX4_refuse yX4_refuse, Cond.initialized RX4, Cond.code yX4_refuse cX4_refuse 2 (some .int), Cond.fieldLink RX4 33 "RoomRing" "refusedBad" "I", Cond.fieldLink RX4 37 "RoomRing" "refusedNo" "I", Cond.fieldLink RX4 40 "RoomRing" "refusedFull" "I"]
def wsX4_count : List Cond := .code yX4_count cX4_count 2 (some .int) :: ((wsX4_count_r1 ++ wsX4_count_r2) ++ wsX40 ++ wsX10 ++ wsX30)
def wsX4_type : List Cond := .code yX4_type cX4_type 2 (some .int) :: ([.fieldLink RX4 29 "RoomRing" "script" "LRoomRing$Script;", .fieldLink RX4 131 "RoomRing$Script" "length" "I", .methodLink RX4 55 yX4_refuse, .instanceMethod yX4_refuse, .selects RX4 yX4_refuse yX4_refuse, .initialized RX4, .code yX4_refuse cX4_refuse 2 (some .int), .fieldLink RX4 33 "RoomRing" "refusedBad" "I", .fieldLink RX4 37 "RoomRing" "refusedNo" "I", .fieldLink RX4 40 "RoomRing" "refusedFull" "I", .methodLink RX4 128 yX2_append, .instanceMethod yX2_append, .selects RX2 yX2_append yX2_append, .initialized RX2, .code yX2_append cX2_append 2 (some .boolean), .fieldLink RX2 15 "RoomRing$Script" "length" "I", .fieldLink RX2 9 "RoomRing$Script" "bytes" "[I"] ++ wsX40 ++ wsX20)
def wsX4_clear : List Cond := .code yX4_clear cX4_clear 2 (some .int) :: ([.fieldLink RX4 29 "RoomRing" "script" "LRoomRing$Script;", .fieldLink RX4 131 "RoomRing$Script" "length" "I"] ++ wsX40 ++ wsX20)
def wsX4_does_r1 : List Cond := [Cond.fieldLink RX4 29 "RoomRing" "script" "LRoomRing$Script;", Cond.fieldLink RX4 16 "RoomRing" "draft" "LRoomRing$Ring;", Cond.fieldLink RX4 58 "RoomRing$Ring" "stock" "LRoomRing$Stock;", Cond.fieldLink RX4 12 "RoomRing" "now" "LRoomRing$Ring;", Cond.fieldLink RX4 141 "RoomRing$Script" "orderCount" "I", Cond.fieldLink RX4 144 "RoomRing$Script" "letters" "[I", Cond.fieldLink RX4 147 "RoomRing$Script" "firsts" "[I", Cond.fieldLink RX4 150 "RoomRing$Script" "seconds" "[I", Cond.methodLink RX4 134 yX2_read, Cond.instanceMethod yX2_read, Cond.selects RX2 yX2_read yX2_read, Cond.initialized RX2, Cond.code yX2_read cX2_read 2 (some .int), Cond.fieldLink RX2 28 "RoomRing$Script" "orderCount" "I", Cond.fieldLink RX2 31 "RoomRing$Script" "awaited" "I", Cond.fieldLink RX2 15 "RoomRing$Script" "length" "I", Cond.fieldLink RX2 9 "RoomRing$Script" "bytes" "[I", Cond.methodLink RX2 43 yX2_accepts, Cond.instanceMethod yX2_accepts, Cond.selects RX2 yX2_accepts yX2_accepts, Cond.code yX2_accepts cX2_accepts 2 (some .boolean), Cond.methodLink RX2 47 yX2_isFigure, Cond.static yX2_isFigure, Cond.code yX2_isFigure cX2_isFigure 1 (some .boolean)]
def wsX4_does_r2 : List Cond := [Cond.methodLink RX2 50 yX2_addsFigure, Cond.instanceMethod yX2_addsFigure, Cond.selects RX2 yX2_addsFigure yX2_addsFigure, Cond.code yX2_addsFigure cX2_addsFigure 2 (some .boolean), Cond.fieldLink RX2 37 "RoomRing$Script" "figures" "I", Cond.fieldLink RX2 40 "RoomRing$Script" "number" "I", Cond.methodLink RX2 53 yX2_endNumber, Cond.instanceMethod yX2_endNumber, Cond.selects RX2 yX2_endNumber yX2_endNumber, Cond.code yX2_endNumber cX2_endNumber 1 none, Cond.fieldLink RX2 34 "RoomRing$Script" "numbersRead" "I", Cond.fieldLink RX2 22 "RoomRing$Script" "firsts" "[I", Cond.fieldLink RX2 25 "RoomRing$Script" "seconds" "[I", Cond.fieldLink RX2 19 "RoomRing$Script" "letters" "[I", Cond.methodLink RX2 65 yX2_numbersOf, Cond.static yX2_numbersOf, Cond.code yX2_numbersOf cX2_numbersOf 1 (some .int), Cond.methodLink RX2 56 yX2_startsOrder, Cond.instanceMethod yX2_startsOrder, Cond.selects RX2 yX2_startsOrder yX2_startsOrder, Cond.code yX2_startsOrder cX2_startsOrder 2 (some .boolean), Cond.methodLink RX2 59 yX2_startsNumber, Cond.instanceMethod yX2_startsNumber, Cond.selects RX2 yX2_startsNumber yX2_startsNumber]
def wsX4_does_r3 : List Cond := [Cond.code yX2_startsNumber cX2_startsNumber 2 (some .boolean), Cond.methodLink RX2 62 yX2_endsOrder, Cond.instanceMethod yX2_endsOrder, Cond.selects RX2 yX2_endsOrder yX2_endsOrder, Cond.code yX2_endsOrder cX2_endsOrder 2 (some .boolean), Cond.methodLink RX4 137 yX3_copyFrom, Cond.instanceMethod yX3_copyFrom, Cond.selects RX3 yX3_copyFrom yX3_copyFrom, Cond.initialized RX3, Cond.code yX3_copyFrom cX3_copyFrom 2 none, Cond.fieldLink RX3 9 "RoomRing$Stock" "names" "[I", Cond.methodLink RX3 34 arraycopyName, Cond.native arraycopyName, Cond.static arraycopyName, Cond.initialized "java/lang/System", Cond.fieldLink RX3 15 "RoomRing$Stock" "weights" "[I", Cond.fieldLink RX3 18 "RoomRing$Stock" "keys" "[I", Cond.fieldLink RX3 21 "RoomRing$Stock" "hostCount" "I", Cond.fieldLink RX3 25 "RoomRing$Stock" "keyCount" "I", Cond.fieldLink RX3 28 "RoomRing$Stock" "extraShare" "I", Cond.fieldLink RX3 31 "RoomRing$Stock" "moved" "I", Cond.methodLink RX4 153 yX3_take, Cond.instanceMethod yX3_take, Cond.selects RX3 yX3_take yX3_take]
def wsX4_does_r4 : List Cond := [Cond.code yX3_take cX3_take 4 (some .int), Cond.methodLink RX3 40 yX3_addHost, Cond.instanceMethod yX3_addHost, Cond.selects RX3 yX3_addHost yX3_addHost, Cond.code yX3_addHost cX3_addHost 4 (some .int), Cond.static yX4_isName, Cond.initialized RX4, Cond.code yX4_isName cX4_isName 1 (some .boolean), Cond.static yX4_isWeight, Cond.code yX4_isWeight cX4_isWeight 1 (some .boolean), Cond.methodLink RX3 67 yX3_findHost, Cond.instanceMethod yX3_findHost, Cond.selects RX3 yX3_findHost yX3_findHost, Cond.code yX3_findHost cX3_findHost 3 (some .int), Cond.methodLink RX3 44 yX3_weighAnew, Cond.instanceMethod yX3_weighAnew, Cond.selects RX3 yX3_weighAnew yX3_weighAnew, Cond.code yX3_weighAnew cX3_weighAnew 4 (some .int), Cond.methodLink RX3 47 yX3_removeHost, Cond.instanceMethod yX3_removeHost, Cond.selects RX3 yX3_removeHost yX3_removeHost, Cond.code yX3_removeHost cX3_removeHost 4 (some .int), Cond.methodLink RX3 51 yX3_addKey, Cond.instanceMethod yX3_addKey]
def wsX4_does_r5 : List Cond := [Cond.selects RX3 yX3_addKey yX3_addKey, Cond.code yX3_addKey cX3_addKey 3 (some .int), Cond.static yX4_isKey, Cond.code yX4_isKey cX4_isKey 1 (some .boolean), Cond.methodLink RX3 73 yX3_findKey, Cond.instanceMethod yX3_findKey, Cond.selects RX3 yX3_findKey yX3_findKey, Cond.code yX3_findKey cX3_findKey 3 (some .int), Cond.methodLink RX3 54 yX3_removeKey, Cond.instanceMethod yX3_removeKey, Cond.selects RX3 yX3_removeKey yX3_removeKey, Cond.code yX3_removeKey cX3_removeKey 4 (some .int), Cond.methodLink RX3 57 yX3_changeExtra, Cond.instanceMethod yX3_changeExtra, Cond.selects RX3 yX3_changeExtra yX3_changeExtra, Cond.code yX3_changeExtra cX3_changeExtra 2 (some .int), Cond.methodLink RX4 156 yX4_keepDraft, Cond.instanceMethod yX4_keepDraft, Cond.selects RX4 yX4_keepDraft yX4_keepDraft, Cond.code yX4_keepDraft cX4_keepDraft 2 none, Cond.fieldLink RX4 116 "RoomRing$Stock" "moved" "I", Cond.fieldLink RX4 22 "RoomRing" "history" "LRoomRing$History;", Cond.methodLink RX4 165 yX1_lay, Cond.instanceMethod yX1_lay]
def wsX4_does_r6 : List Cond := [Cond.selects RX1 yX1_lay yX1_lay, Cond.initialized RX1, Cond.code yX1_lay cX1_lay 2 none, Cond.fieldLink RX1 12 "RoomRing$Ring" "stock" "LRoomRing$Stock;", Cond.fieldLink RX1 49 "RoomRing$Stock" "keyCount" "I", Cond.methodLink RX1 43 yX1_setMarks, Cond.instanceMethod yX1_setMarks, Cond.selects RX1 yX1_setMarks yX1_setMarks, Cond.code yX1_setMarks cX1_setMarks 5 none, Cond.fieldLink RX1 18 "RoomRing$Ring" "owners" "[I", Cond.fieldLink RX1 57 "RoomRing$Stock" "hostCount" "I", Cond.fieldLink RX1 60 "RoomRing$Stock" "weights" "[I", Cond.fieldLink RX1 63 "RoomRing$Stock" "names" "[I", Cond.fieldLink RX1 22 "RoomRing$Ring" "markPlaces" "[I", Cond.methodLink RX1 66 yX1_freePlaceFrom, Cond.instanceMethod yX1_freePlaceFrom, Cond.selects RX1 yX1_freePlaceFrom yX1_freePlaceFrom, Cond.code yX1_freePlaceFrom cX1_freePlaceFrom 4 (some .int), Cond.methodLink RX1 70 yX1_placeBehind, Cond.static yX1_placeBehind, Cond.code yX1_placeBehind cX1_placeBehind 1 (some .int), Cond.methodLink RX1 46 yX1_setBounds, Cond.instanceMethod yX1_setBounds, Cond.selects RX1 yX1_setBounds yX1_setBounds]
def wsX4_does_r7 : List Cond := [Cond.code yX1_setBounds cX1_setBounds 4 none, Cond.fieldLink RX1 77 "RoomRing$Stock" "extraShare" "I", Cond.fieldLink RX1 25 "RoomRing$Ring" "bounds" "[I", Cond.fieldLink RX1 28 "RoomRing$Ring" "loads" "[I", Cond.methodLink RX1 73 yX3_allWeights, Cond.instanceMethod yX3_allWeights, Cond.selects RX3 yX3_allWeights yX3_allWeights, Cond.code yX3_allWeights cX3_allWeights 3 (some .int), Cond.methodLink RX1 53 yX1_layKey, Cond.instanceMethod yX1_layKey, Cond.selects RX1 yX1_layKey yX1_layKey, Cond.code yX1_layKey cX1_layKey 6 none, Cond.fieldLink RX1 31 "RoomRing$Ring" "keyHosts" "[I", Cond.fieldLink RX1 34 "RoomRing$Ring" "passed" "[I", Cond.fieldLink RX1 37 "RoomRing$Ring" "far" "[I", Cond.methodLink RX1 80 yX1_placeOfKey, Cond.instanceMethod yX1_placeOfKey, Cond.selects RX1 yX1_placeOfKey yX1_placeOfKey, Cond.code yX1_placeOfKey cX1_placeOfKey 2 (some .int), Cond.fieldLink RX1 83 "RoomRing$Stock" "keys" "[I", Cond.methodLink RX4 99 yX1_movedSince, Cond.instanceMethod yX1_movedSince, Cond.selects RX1 yX1_movedSince yX1_movedSince, Cond.code yX1_movedSince cX1_movedSince 6 (some .int)]
def wsX4_does_r8 : List Cond := [Cond.methodLink RX1 89 yX3_nameOf, Cond.instanceMethod yX3_nameOf, Cond.selects RX3 yX3_nameOf yX3_nameOf, Cond.code yX3_nameOf cX3_nameOf 2 (some .int), Cond.methodLink RX1 86 yX3_findKey, Cond.methodLink RX1 92 yX1_hostNameOfKey, Cond.instanceMethod yX1_hostNameOfKey, Cond.selects RX1 yX1_hostNameOfKey yX1_hostNameOfKey, Cond.code yX1_hostNameOfKey cX1_hostNameOfKey 3 (some .int), Cond.methodLink RX4 194 yX0_keep, Cond.instanceMethod yX0_keep, Cond.selects RX0 yX0_keep yX0_keep, Cond.initialized RX0, Cond.code yX0_keep cX0_keep 2 none, Cond.fieldLink RX0 17 "RoomRing$History" "size" "I", Cond.fieldLink RX0 11 "RoomRing$History" "states" "[LRoomRing$Stock;", Cond.methodLink RX0 22 yX0_forgetOldest, Cond.instanceMethod yX0_forgetOldest, Cond.selects RX0 yX0_forgetOldest yX0_forgetOldest, Cond.code yX0_forgetOldest cX0_forgetOldest 3 none, Cond.methodLink RX0 25 yX3_copyFrom]
def wsX4_does : List Cond := .code yX4_does cX4_does 3 (some .int) :: ((wsX4_does_r1 ++ (wsX4_does_r2 ++ (wsX4_does_r3 ++ (wsX4_does_r4 ++ (wsX4_does_r5 ++ (wsX4_does_r6 ++ (wsX4_does_r7 ++ wsX4_does_r8))))))) ++ wsX40 ++ wsX10 ++ wsX20 ++ wsX30 ++ wsX00)
def wsX4_back_r1 : List Cond := [Cond.fieldLink RX4 22 "RoomRing" "history" "LRoomRing$History;", Cond.fieldLink RX4 159 "RoomRing$History" "size" "I", Cond.fieldLink RX4 12 "RoomRing" "now" "LRoomRing$Ring;", Cond.fieldLink RX4 58 "RoomRing$Ring" "stock" "LRoomRing$Stock;", Cond.methodLink RX4 55 yX4_refuse, Cond.instanceMethod yX4_refuse, Cond.selects RX4 yX4_refuse yX4_refuse, Cond.initialized RX4, Cond.code yX4_refuse cX4_refuse 2 (some .int), Cond.fieldLink RX4 33 "RoomRing" "refusedBad" "I", Cond.fieldLink RX4 37 "RoomRing" "refusedNo" "I", Cond.fieldLink RX4 40 "RoomRing" "refusedFull" "I", Cond.methodLink RX4 162 yX0_takeBack, Cond.instanceMethod yX0_takeBack, Cond.selects RX0 yX0_takeBack yX0_takeBack, Cond.initialized RX0, Cond.code yX0_takeBack cX0_takeBack 2 none, Cond.fieldLink RX0 17 "RoomRing$History" "size" "I", Cond.fieldLink RX0 11 "RoomRing$History" "states" "[LRoomRing$Stock;", Cond.methodLink RX0 25 yX3_copyFrom, Cond.instanceMethod yX3_copyFrom, Cond.selects RX3 yX3_copyFrom yX3_copyFrom, Cond.initialized RX3, Cond.code yX3_copyFrom cX3_copyFrom 2 none]
def wsX4_back_r2 : List Cond := [Cond.fieldLink RX3 9 "RoomRing$Stock" "names" "[I", Cond.methodLink RX3 34 arraycopyName, Cond.native arraycopyName, Cond.static arraycopyName, Cond.initialized "java/lang/System", Cond.fieldLink RX3 15 "RoomRing$Stock" "weights" "[I", Cond.fieldLink RX3 18 "RoomRing$Stock" "keys" "[I", Cond.fieldLink RX3 21 "RoomRing$Stock" "hostCount" "I", Cond.fieldLink RX3 25 "RoomRing$Stock" "keyCount" "I", Cond.fieldLink RX3 28 "RoomRing$Stock" "extraShare" "I", Cond.fieldLink RX3 31 "RoomRing$Stock" "moved" "I", Cond.methodLink RX4 165 yX1_lay, Cond.instanceMethod yX1_lay, Cond.selects RX1 yX1_lay yX1_lay, Cond.initialized RX1, Cond.code yX1_lay cX1_lay 2 none, Cond.fieldLink RX1 12 "RoomRing$Ring" "stock" "LRoomRing$Stock;", Cond.fieldLink RX1 49 "RoomRing$Stock" "keyCount" "I", Cond.methodLink RX1 43 yX1_setMarks, Cond.instanceMethod yX1_setMarks, Cond.selects RX1 yX1_setMarks yX1_setMarks, Cond.code yX1_setMarks cX1_setMarks 5 none, Cond.fieldLink RX1 18 "RoomRing$Ring" "owners" "[I", Cond.fieldLink RX1 57 "RoomRing$Stock" "hostCount" "I"]
def wsX4_back_r3 : List Cond := [Cond.fieldLink RX1 60 "RoomRing$Stock" "weights" "[I", Cond.fieldLink RX1 63 "RoomRing$Stock" "names" "[I", Cond.fieldLink RX1 22 "RoomRing$Ring" "markPlaces" "[I", Cond.methodLink RX1 66 yX1_freePlaceFrom, Cond.instanceMethod yX1_freePlaceFrom, Cond.selects RX1 yX1_freePlaceFrom yX1_freePlaceFrom, Cond.code yX1_freePlaceFrom cX1_freePlaceFrom 4 (some .int), Cond.methodLink RX1 70 yX1_placeBehind, Cond.static yX1_placeBehind, Cond.code yX1_placeBehind cX1_placeBehind 1 (some .int), Cond.methodLink RX1 46 yX1_setBounds, Cond.instanceMethod yX1_setBounds, Cond.selects RX1 yX1_setBounds yX1_setBounds, Cond.code yX1_setBounds cX1_setBounds 4 none, Cond.fieldLink RX1 77 "RoomRing$Stock" "extraShare" "I", Cond.fieldLink RX1 25 "RoomRing$Ring" "bounds" "[I", Cond.fieldLink RX1 28 "RoomRing$Ring" "loads" "[I", Cond.methodLink RX1 73 yX3_allWeights, Cond.instanceMethod yX3_allWeights, Cond.selects RX3 yX3_allWeights yX3_allWeights, Cond.code yX3_allWeights cX3_allWeights 3 (some .int), Cond.methodLink RX1 53 yX1_layKey, Cond.instanceMethod yX1_layKey, Cond.selects RX1 yX1_layKey yX1_layKey]
def wsX4_back_r4 : List Cond := [Cond.code yX1_layKey cX1_layKey 6 none, Cond.fieldLink RX1 31 "RoomRing$Ring" "keyHosts" "[I", Cond.fieldLink RX1 34 "RoomRing$Ring" "passed" "[I", Cond.fieldLink RX1 37 "RoomRing$Ring" "far" "[I", Cond.methodLink RX1 80 yX1_placeOfKey, Cond.instanceMethod yX1_placeOfKey, Cond.selects RX1 yX1_placeOfKey yX1_placeOfKey, Cond.code yX1_placeOfKey cX1_placeOfKey 2 (some .int), Cond.fieldLink RX1 83 "RoomRing$Stock" "keys" "[I"]
def wsX4_back : List Cond := .code yX4_back cX4_back 1 (some .int) :: ((wsX4_back_r1 ++ (wsX4_back_r2 ++ (wsX4_back_r3 ++ wsX4_back_r4))) ++ wsX40 ++ wsX00 ++ wsX10 ++ wsX30)
def wsX4_told : List Cond := .code yX4_told cX4_told 2 (some .int) :: ([.fieldLink RX4 33 "RoomRing" "refusedBad" "I", .fieldLink RX4 37 "RoomRing" "refusedNo" "I", .fieldLink RX4 40 "RoomRing" "refusedFull" "I", .fieldLink RX4 29 "RoomRing" "script" "LRoomRing$Script;", .fieldLink RX4 131 "RoomRing$Script" "length" "I", .fieldLink RX4 22 "RoomRing" "history" "LRoomRing$History;", .fieldLink RX4 159 "RoomRing$History" "size" "I", .methodLink RX4 55 yX4_refuse, .instanceMethod yX4_refuse, .selects RX4 yX4_refuse yX4_refuse, .initialized RX4, .code yX4_refuse cX4_refuse 2 (some .int)] ++ wsX40 ++ wsX20 ++ wsX00)
def wsX4_digestHosts : List Cond := .code yX4_digestHosts cX4_digestHosts 7 (some .long) :: ([.fieldLink RX4 12 "RoomRing" "now" "LRoomRing$Ring;", .fieldLink RX4 58 "RoomRing$Ring" "stock" "LRoomRing$Stock;", .fieldLink RX4 103 "RoomRing$Stock" "hostCount" "I", .constantLong RX4 170 (31), .fieldLink RX4 188 "RoomRing$Stock" "names" "[I", .methodLink RX4 67 yX1_hostFact, .instanceMethod yX1_hostFact, .selects RX1 yX1_hostFact yX1_hostFact, .initialized RX1, .code yX1_hostFact cX1_hostFact 3 (some .int), .fieldLink RX1 12 "RoomRing$Ring" "stock" "LRoomRing$Stock;", .fieldLink RX1 60 "RoomRing$Stock" "weights" "[I", .fieldLink RX1 25 "RoomRing$Ring" "bounds" "[I", .fieldLink RX1 28 "RoomRing$Ring" "loads" "[I", .methodLink RX1 95 yX1_keyOfHost, .instanceMethod yX1_keyOfHost, .selects RX1 yX1_keyOfHost yX1_keyOfHost, .code yX1_keyOfHost cX1_keyOfHost 5 (some .int), .fieldLink RX1 49 "RoomRing$Stock" "keyCount" "I", .fieldLink RX1 31 "RoomRing$Ring" "keyHosts" "[I", .fieldLink RX1 83 "RoomRing$Stock" "keys" "[I"] ++ wsX40 ++ wsX10 ++ wsX30)
def wsX4_digestKeys_r1 : List Cond := [Cond.fieldLink RX4 12 "RoomRing" "now" "LRoomRing$Ring;", Cond.fieldLink RX4 58 "RoomRing$Ring" "stock" "LRoomRing$Stock;", Cond.fieldLink RX4 106 "RoomRing$Stock" "keyCount" "I", Cond.constantLong RX4 170 (31), Cond.fieldLink RX4 191 "RoomRing$Stock" "keys" "[I", Cond.fieldLink RX4 90 "RoomRing$Ring" "keyHosts" "[I", Cond.methodLink RX4 78 yX3_nameOf, Cond.instanceMethod yX3_nameOf, Cond.selects RX3 yX3_nameOf yX3_nameOf, Cond.initialized RX3, Cond.code yX3_nameOf cX3_nameOf 2 (some .int), Cond.fieldLink RX3 21 "RoomRing$Stock" "hostCount" "I", Cond.fieldLink RX3 9 "RoomRing$Stock" "names" "[I", Cond.methodLink RX4 93 yX1_keyFact, Cond.instanceMethod yX1_keyFact, Cond.selects RX1 yX1_keyFact yX1_keyFact, Cond.initialized RX1, Cond.code yX1_keyFact cX1_keyFact 3 (some .int), Cond.fieldLink RX1 34 "RoomRing$Ring" "passed" "[I", Cond.fieldLink RX1 37 "RoomRing$Ring" "far" "[I", Cond.methodLink RX1 80 yX1_placeOfKey, Cond.instanceMethod yX1_placeOfKey, Cond.selects RX1 yX1_placeOfKey yX1_placeOfKey, Cond.code yX1_placeOfKey cX1_placeOfKey 2 (some .int)]
def wsX4_digestKeys_r2 : List Cond := [Cond.fieldLink RX1 12 "RoomRing$Ring" "stock" "LRoomRing$Stock;", Cond.fieldLink RX1 83 "RoomRing$Stock" "keys" "[I"]
def wsX4_digestKeys : List Cond := .code yX4_digestKeys cX4_digestKeys 7 (some .long) :: ((wsX4_digestKeys_r1 ++ wsX4_digestKeys_r2) ++ wsX40 ++ wsX10 ++ wsX30)
def wsX4_digest_r1 : List Cond := [Cond.constantLong RX4 168 (2820), Cond.constantLong RX4 170 (31), Cond.methodLink RX4 172 yX4_told, Cond.instanceMethod yX4_told, Cond.selects RX4 yX4_told yX4_told, Cond.initialized RX4, Cond.code yX4_told cX4_told 2 (some .int), Cond.fieldLink RX4 33 "RoomRing" "refusedBad" "I", Cond.fieldLink RX4 37 "RoomRing" "refusedNo" "I", Cond.fieldLink RX4 40 "RoomRing" "refusedFull" "I", Cond.fieldLink RX4 29 "RoomRing" "script" "LRoomRing$Script;", Cond.fieldLink RX4 131 "RoomRing$Script" "length" "I", Cond.fieldLink RX4 22 "RoomRing" "history" "LRoomRing$History;", Cond.fieldLink RX4 159 "RoomRing$History" "size" "I", Cond.methodLink RX4 55 yX4_refuse, Cond.instanceMethod yX4_refuse, Cond.selects RX4 yX4_refuse yX4_refuse, Cond.code yX4_refuse cX4_refuse 2 (some .int), Cond.methodLink RX4 175 yX4_count, Cond.instanceMethod yX4_count, Cond.selects RX4 yX4_count yX4_count, Cond.code yX4_count cX4_count 2 (some .int), Cond.fieldLink RX4 12 "RoomRing" "now" "LRoomRing$Ring;", Cond.fieldLink RX4 58 "RoomRing$Ring" "stock" "LRoomRing$Stock;"]
def wsX4_digest_r2 : List Cond := [Cond.fieldLink RX4 103 "RoomRing$Stock" "hostCount" "I", Cond.fieldLink RX4 106 "RoomRing$Stock" "keyCount" "I", Cond.fieldLink RX4 109 "RoomRing$Stock" "extraShare" "I", Cond.fieldLink RX4 116 "RoomRing$Stock" "moved" "I", Cond.methodLink RX4 112 yX3_allWeights, Cond.instanceMethod yX3_allWeights, Cond.selects RX3 yX3_allWeights yX3_allWeights, Cond.initialized RX3, Cond.code yX3_allWeights cX3_allWeights 3 (some .int), Cond.fieldLink RX3 21 "RoomRing$Stock" "hostCount" "I", Cond.fieldLink RX3 15 "RoomRing$Stock" "weights" "[I", Cond.methodLink RX4 119 yX1_fullHosts, Cond.instanceMethod yX1_fullHosts, Cond.selects RX1 yX1_fullHosts yX1_fullHosts, Cond.initialized RX1, Cond.code yX1_fullHosts cX1_fullHosts 3 (some .int), Cond.fieldLink RX1 12 "RoomRing$Ring" "stock" "LRoomRing$Stock;", Cond.fieldLink RX1 57 "RoomRing$Stock" "hostCount" "I", Cond.fieldLink RX1 28 "RoomRing$Ring" "loads" "[I", Cond.fieldLink RX1 25 "RoomRing$Ring" "bounds" "[I", Cond.methodLink RX4 122 yX1_allPassed, Cond.instanceMethod yX1_allPassed, Cond.selects RX1 yX1_allPassed yX1_allPassed, Cond.code yX1_allPassed cX1_allPassed 3 (some .int)]
def wsX4_digest_r3 : List Cond := [Cond.fieldLink RX1 49 "RoomRing$Stock" "keyCount" "I", Cond.fieldLink RX1 34 "RoomRing$Ring" "passed" "[I", Cond.methodLink RX4 125 yX1_mostLoad, Cond.instanceMethod yX1_mostLoad, Cond.selects RX1 yX1_mostLoad yX1_mostLoad, Cond.code yX1_mostLoad cX1_mostLoad 3 (some .int), Cond.methodLink RX1 102 Lib.Math.max.name, Cond.static Lib.Math.max.name, Cond.initialized "java/lang/Math", Cond.code Lib.Math.max.name Lib.Math.max.code 2 (some .int), Cond.methodLink RX4 178 yX4_at, Cond.instanceMethod yX4_at, Cond.selects RX4 yX4_at yX4_at, Cond.code yX4_at cX4_at 2 (some .int), Cond.fieldLink RX4 74 "RoomRing$Ring" "owners" "[I", Cond.methodLink RX4 78 yX3_nameOf, Cond.instanceMethod yX3_nameOf, Cond.selects RX3 yX3_nameOf yX3_nameOf, Cond.code yX3_nameOf cX3_nameOf 2 (some .int), Cond.fieldLink RX3 9 "RoomRing$Stock" "names" "[I", Cond.methodLink RX4 181 yX4_digestHosts, Cond.instanceMethod yX4_digestHosts, Cond.selects RX4 yX4_digestHosts yX4_digestHosts, Cond.code yX4_digestHosts cX4_digestHosts 7 (some .long)]
def wsX4_digest_r4 : List Cond := [Cond.fieldLink RX4 188 "RoomRing$Stock" "names" "[I", Cond.methodLink RX4 67 yX1_hostFact, Cond.instanceMethod yX1_hostFact, Cond.selects RX1 yX1_hostFact yX1_hostFact, Cond.code yX1_hostFact cX1_hostFact 3 (some .int), Cond.fieldLink RX1 60 "RoomRing$Stock" "weights" "[I", Cond.methodLink RX1 95 yX1_keyOfHost, Cond.instanceMethod yX1_keyOfHost, Cond.selects RX1 yX1_keyOfHost yX1_keyOfHost, Cond.code yX1_keyOfHost cX1_keyOfHost 5 (some .int), Cond.fieldLink RX1 31 "RoomRing$Ring" "keyHosts" "[I", Cond.fieldLink RX1 83 "RoomRing$Stock" "keys" "[I", Cond.methodLink RX4 185 yX4_digestKeys, Cond.instanceMethod yX4_digestKeys, Cond.selects RX4 yX4_digestKeys yX4_digestKeys, Cond.code yX4_digestKeys cX4_digestKeys 7 (some .long), Cond.fieldLink RX4 191 "RoomRing$Stock" "keys" "[I", Cond.fieldLink RX4 90 "RoomRing$Ring" "keyHosts" "[I", Cond.methodLink RX4 93 yX1_keyFact, Cond.instanceMethod yX1_keyFact, Cond.selects RX1 yX1_keyFact yX1_keyFact, Cond.code yX1_keyFact cX1_keyFact 3 (some .int), Cond.fieldLink RX1 37 "RoomRing$Ring" "far" "[I", Cond.methodLink RX1 80 yX1_placeOfKey]
def wsX4_digest_r5 : List Cond := [Cond.instanceMethod yX1_placeOfKey, Cond.selects RX1 yX1_placeOfKey yX1_placeOfKey, Cond.code yX1_placeOfKey cX1_placeOfKey 2 (some .int)]
def wsX4_digest : List Cond := .code yX4_digest cX4_digest 4 (some .long) :: ((wsX4_digest_r1 ++ (wsX4_digest_r2 ++ (wsX4_digest_r3 ++ (wsX4_digest_r4 ++ wsX4_digest_r5)))) ++ wsX40 ++ wsX20 ++ wsX00 ++ wsX10 ++ wsX30)
def wsX5_first : List Cond := .code yX5_first cX5_first 2 (some .int) :: ([])
def wsX5_layMarks : List Cond := .code yX5_layMarks cX5_layMarks 4 none :: ([.fieldLink RX5 22 "RoomRingModel" "owner" "[I", .fieldLink RX5 7 "RoomRingModel" "now" "[I", .methodLink RX5 57 yX5_first, .static yX5_first, .initialized RX5, .code yX5_first cX5_first 2 (some .int)] ++ wsX50)
def wsX5_weights : List Cond := .code yX5_weights cX5_weights 3 (some .int) :: ([.fieldLink RX5 7 "RoomRingModel" "now" "[I"] ++ wsX50)
def wsX5_placeOf : List Cond := .code yX5_placeOf cX5_placeOf 1 (some .int) :: ([])
def wsX5_bound : List Cond := .code yX5_bound cX5_bound 4 (some .int) :: ([.fieldLink RX5 7 "RoomRingModel" "now" "[I", .methodLink RX5 53 yX5_weights, .instanceMethod yX5_weights, .selects RX5 yX5_weights yX5_weights, .initialized RX5, .code yX5_weights cX5_weights 3 (some .int)] ++ wsX50)
def wsX5_isRoom : List Cond := .code yX5_isRoom cX5_isRoom 3 (some .boolean) :: ([.fieldLink RX5 22 "RoomRingModel" "owner" "[I", .fieldLink RX5 31 "RoomRingModel" "load" "[I", .methodLink RX5 72 yX5_bound, .instanceMethod yX5_bound, .selects RX5 yX5_bound yX5_bound, .initialized RX5, .code yX5_bound cX5_bound 4 (some .int), .fieldLink RX5 7 "RoomRingModel" "now" "[I", .methodLink RX5 53 yX5_weights, .instanceMethod yX5_weights, .selects RX5 yX5_weights yX5_weights, .code yX5_weights cX5_weights 3 (some .int)] ++ wsX50)
def wsX5_lay_r1 : List Cond := [Cond.fieldLink RX5 31 "RoomRingModel" "load" "[I", Cond.fieldLink RX5 7 "RoomRingModel" "now" "[I", Cond.fieldLink RX5 25 "RoomRingModel" "keyHost" "[I", Cond.fieldLink RX5 22 "RoomRingModel" "owner" "[I", Cond.fieldLink RX5 28 "RoomRingModel" "keyMark" "[I", Cond.methodLink RX5 61 yX5_layMarks, Cond.instanceMethod yX5_layMarks, Cond.selects RX5 yX5_layMarks yX5_layMarks, Cond.initialized RX5, Cond.code yX5_layMarks cX5_layMarks 4 none, Cond.methodLink RX5 57 yX5_first, Cond.static yX5_first, Cond.code yX5_first cX5_first 2 (some .int), Cond.methodLink RX5 53 yX5_weights, Cond.instanceMethod yX5_weights, Cond.selects RX5 yX5_weights yX5_weights, Cond.code yX5_weights cX5_weights 3 (some .int), Cond.methodLink RX5 64 yX5_placeOf, Cond.static yX5_placeOf, Cond.code yX5_placeOf cX5_placeOf 1 (some .int), Cond.methodLink RX5 68 yX5_isRoom, Cond.instanceMethod yX5_isRoom, Cond.selects RX5 yX5_isRoom yX5_isRoom, Cond.code yX5_isRoom cX5_isRoom 3 (some .boolean)]
def wsX5_lay_r2 : List Cond := [Cond.methodLink RX5 72 yX5_bound, Cond.instanceMethod yX5_bound, Cond.selects RX5 yX5_bound yX5_bound, Cond.code yX5_bound cX5_bound 4 (some .int)]
def wsX5_lay : List Cond := .code yX5_lay cX5_lay 5 none :: ((wsX5_lay_r1 ++ wsX5_lay_r2) ++ wsX50)
def wsX5_init_r1 : List Cond := [Cond.methodLink RX5 1 objectInit, Cond.instanceMethod objectInit, Cond.code objectInit ⟨#[0xb1]⟩ 1 none, Cond.arrayClass .int, Cond.fieldLink RX5 7 "RoomRingModel" "now" "[I", Cond.fieldLink RX5 13 "RoomRingModel" "held" "[I", Cond.fieldLink RX5 16 "RoomRingModel" "past" "[I", Cond.fieldLink RX5 19 "RoomRingModel" "refused" "[I", Cond.fieldLink RX5 22 "RoomRingModel" "owner" "[I", Cond.fieldLink RX5 25 "RoomRingModel" "keyHost" "[I", Cond.fieldLink RX5 28 "RoomRingModel" "keyMark" "[I", Cond.fieldLink RX5 31 "RoomRingModel" "load" "[I", Cond.fieldLink RX5 34 "RoomRingModel" "heldHost" "[I", Cond.arrayClass .boolean, Cond.fieldLink RX5 37 "RoomRingModel" "taken" "[Z", Cond.fieldLink RX5 41 "RoomRingModel" "text" "[I", Cond.fieldLink RX5 44 "RoomRingModel" "letters" "[I", Cond.fieldLink RX5 47 "RoomRingModel" "numbers" "[I", Cond.methodLink RX5 50 yX5_lay, Cond.instanceMethod yX5_lay, Cond.selects RX5 yX5_lay yX5_lay, Cond.initialized RX5, Cond.code yX5_lay cX5_lay 5 none, Cond.methodLink RX5 61 yX5_layMarks]
def wsX5_init_r2 : List Cond := [Cond.instanceMethod yX5_layMarks, Cond.selects RX5 yX5_layMarks yX5_layMarks, Cond.code yX5_layMarks cX5_layMarks 4 none, Cond.methodLink RX5 57 yX5_first, Cond.static yX5_first, Cond.code yX5_first cX5_first 2 (some .int), Cond.methodLink RX5 53 yX5_weights, Cond.instanceMethod yX5_weights, Cond.selects RX5 yX5_weights yX5_weights, Cond.code yX5_weights cX5_weights 3 (some .int), Cond.methodLink RX5 64 yX5_placeOf, Cond.static yX5_placeOf, Cond.code yX5_placeOf cX5_placeOf 1 (some .int), Cond.methodLink RX5 68 yX5_isRoom, Cond.instanceMethod yX5_isRoom, Cond.selects RX5 yX5_isRoom yX5_isRoom, Cond.code yX5_isRoom cX5_isRoom 3 (some .boolean), Cond.methodLink RX5 72 yX5_bound, Cond.instanceMethod yX5_bound, Cond.selects RX5 yX5_bound yX5_bound, Cond.code yX5_bound cX5_bound 4 (some .int)]
def wsX5_init : List Cond := .code yX5_init cX5_init 1 none :: ((wsX5_init_r1 ++ wsX5_init_r2) ++ wsX50)
def wsX5_in : List Cond := .code yX5_in cX5_in 3 (some .boolean) :: ([])
def wsX5_refuses : List Cond := .code yX5_refuses cX5_refuses 2 (some .int) :: ([.fieldLink RX5 19 "RoomRingModel" "refused" "[I"] ++ wsX50)
def wsX5_hold : List Cond := .code yX5_hold cX5_hold 2 none :: ([.fieldLink RX5 13 "RoomRingModel" "held" "[I", .fieldLink RX5 7 "RoomRingModel" "now" "[I", .fieldLink RX5 34 "RoomRingModel" "heldHost" "[I", .fieldLink RX5 25 "RoomRingModel" "keyHost" "[I"] ++ wsX50)
def wsX5_release : List Cond := .code yX5_release cX5_release 2 none :: ([.fieldLink RX5 7 "RoomRingModel" "now" "[I", .fieldLink RX5 13 "RoomRingModel" "held" "[I"] ++ wsX50)
def wsX5_moved : List Cond := .code yX5_moved cX5_moved 4 (some .int) :: ([.fieldLink RX5 7 "RoomRingModel" "now" "[I", .fieldLink RX5 13 "RoomRingModel" "held" "[I", .fieldLink RX5 25 "RoomRingModel" "keyHost" "[I", .fieldLink RX5 34 "RoomRingModel" "heldHost" "[I"] ++ wsX50)
def wsX5_push_r1 : List Cond := [Cond.fieldLink RX5 7 "RoomRingModel" "now" "[I", Cond.fieldLink RX5 78 "RoomRingModel" "pasts" "I", Cond.fieldLink RX5 16 "RoomRingModel" "past" "[I", Cond.fieldLink RX5 13 "RoomRingModel" "held" "[I", Cond.methodLink RX5 50 yX5_lay, Cond.instanceMethod yX5_lay, Cond.selects RX5 yX5_lay yX5_lay, Cond.initialized RX5, Cond.code yX5_lay cX5_lay 5 none, Cond.fieldLink RX5 31 "RoomRingModel" "load" "[I", Cond.fieldLink RX5 25 "RoomRingModel" "keyHost" "[I", Cond.fieldLink RX5 22 "RoomRingModel" "owner" "[I", Cond.fieldLink RX5 28 "RoomRingModel" "keyMark" "[I", Cond.methodLink RX5 61 yX5_layMarks, Cond.instanceMethod yX5_layMarks, Cond.selects RX5 yX5_layMarks yX5_layMarks, Cond.code yX5_layMarks cX5_layMarks 4 none, Cond.methodLink RX5 57 yX5_first, Cond.static yX5_first, Cond.code yX5_first cX5_first 2 (some .int), Cond.methodLink RX5 53 yX5_weights, Cond.instanceMethod yX5_weights, Cond.selects RX5 yX5_weights yX5_weights, Cond.code yX5_weights cX5_weights 3 (some .int)]
def wsX5_push_r2 : List Cond := [Cond.methodLink RX5 64 yX5_placeOf, Cond.static yX5_placeOf, Cond.code yX5_placeOf cX5_placeOf 1 (some .int), Cond.methodLink RX5 68 yX5_isRoom, Cond.instanceMethod yX5_isRoom, Cond.selects RX5 yX5_isRoom yX5_isRoom, Cond.code yX5_isRoom cX5_isRoom 3 (some .boolean), Cond.methodLink RX5 72 yX5_bound, Cond.instanceMethod yX5_bound, Cond.selects RX5 yX5_bound yX5_bound, Cond.code yX5_bound cX5_bound 4 (some .int), Cond.methodLink RX5 75 yX5_moved, Cond.instanceMethod yX5_moved, Cond.selects RX5 yX5_moved yX5_moved, Cond.code yX5_moved cX5_moved 4 (some .int), Cond.fieldLink RX5 34 "RoomRingModel" "heldHost" "[I"]
def wsX5_push : List Cond := .code yX5_push cX5_push 2 none :: ((wsX5_push_r1 ++ wsX5_push_r2) ++ wsX50)
def wsX5_ends_r1 : List Cond := [Cond.fieldLink RX5 7 "RoomRingModel" "now" "[I", Cond.methodLink RX5 82 yX5_refuses, Cond.instanceMethod yX5_refuses, Cond.selects RX5 yX5_refuses yX5_refuses, Cond.initialized RX5, Cond.code yX5_refuses cX5_refuses 2 (some .int), Cond.fieldLink RX5 19 "RoomRingModel" "refused" "[I", Cond.methodLink RX5 85 yX5_push, Cond.instanceMethod yX5_push, Cond.selects RX5 yX5_push yX5_push, Cond.code yX5_push cX5_push 2 none, Cond.fieldLink RX5 78 "RoomRingModel" "pasts" "I", Cond.fieldLink RX5 16 "RoomRingModel" "past" "[I", Cond.fieldLink RX5 13 "RoomRingModel" "held" "[I", Cond.methodLink RX5 50 yX5_lay, Cond.instanceMethod yX5_lay, Cond.selects RX5 yX5_lay yX5_lay, Cond.code yX5_lay cX5_lay 5 none, Cond.fieldLink RX5 31 "RoomRingModel" "load" "[I", Cond.fieldLink RX5 25 "RoomRingModel" "keyHost" "[I", Cond.fieldLink RX5 22 "RoomRingModel" "owner" "[I", Cond.fieldLink RX5 28 "RoomRingModel" "keyMark" "[I", Cond.methodLink RX5 61 yX5_layMarks, Cond.instanceMethod yX5_layMarks]
def wsX5_ends_r2 : List Cond := [Cond.selects RX5 yX5_layMarks yX5_layMarks, Cond.code yX5_layMarks cX5_layMarks 4 none, Cond.methodLink RX5 57 yX5_first, Cond.static yX5_first, Cond.code yX5_first cX5_first 2 (some .int), Cond.methodLink RX5 53 yX5_weights, Cond.instanceMethod yX5_weights, Cond.selects RX5 yX5_weights yX5_weights, Cond.code yX5_weights cX5_weights 3 (some .int), Cond.methodLink RX5 64 yX5_placeOf, Cond.static yX5_placeOf, Cond.code yX5_placeOf cX5_placeOf 1 (some .int), Cond.methodLink RX5 68 yX5_isRoom, Cond.instanceMethod yX5_isRoom, Cond.selects RX5 yX5_isRoom yX5_isRoom, Cond.code yX5_isRoom cX5_isRoom 3 (some .boolean), Cond.methodLink RX5 72 yX5_bound, Cond.instanceMethod yX5_bound, Cond.selects RX5 yX5_bound yX5_bound, Cond.code yX5_bound cX5_bound 4 (some .int), Cond.methodLink RX5 75 yX5_moved, Cond.instanceMethod yX5_moved, Cond.selects RX5 yX5_moved yX5_moved, Cond.code yX5_moved cX5_moved 4 (some .int)]
def wsX5_ends_r3 : List Cond := [Cond.fieldLink RX5 34 "RoomRingModel" "heldHost" "[I"]
def wsX5_ends : List Cond := .code yX5_ends cX5_ends 2 (some .int) :: ((wsX5_ends_r1 ++ (wsX5_ends_r2 ++ wsX5_ends_r3)) ++ wsX50)
def wsX5_back_r1 : List Cond := [Cond.fieldLink RX5 78 "RoomRingModel" "pasts" "I", Cond.fieldLink RX5 7 "RoomRingModel" "now" "[I", Cond.fieldLink RX5 16 "RoomRingModel" "past" "[I", Cond.methodLink RX5 82 yX5_refuses, Cond.instanceMethod yX5_refuses, Cond.selects RX5 yX5_refuses yX5_refuses, Cond.initialized RX5, Cond.code yX5_refuses cX5_refuses 2 (some .int), Cond.fieldLink RX5 19 "RoomRingModel" "refused" "[I", Cond.methodLink RX5 50 yX5_lay, Cond.instanceMethod yX5_lay, Cond.selects RX5 yX5_lay yX5_lay, Cond.code yX5_lay cX5_lay 5 none, Cond.fieldLink RX5 31 "RoomRingModel" "load" "[I", Cond.fieldLink RX5 25 "RoomRingModel" "keyHost" "[I", Cond.fieldLink RX5 22 "RoomRingModel" "owner" "[I", Cond.fieldLink RX5 28 "RoomRingModel" "keyMark" "[I", Cond.methodLink RX5 61 yX5_layMarks, Cond.instanceMethod yX5_layMarks, Cond.selects RX5 yX5_layMarks yX5_layMarks, Cond.code yX5_layMarks cX5_layMarks 4 none, Cond.methodLink RX5 57 yX5_first, Cond.static yX5_first, Cond.code yX5_first cX5_first 2 (some .int)]
def wsX5_back_r2 : List Cond := [Cond.methodLink RX5 53 yX5_weights, Cond.instanceMethod yX5_weights, Cond.selects RX5 yX5_weights yX5_weights, Cond.code yX5_weights cX5_weights 3 (some .int), Cond.methodLink RX5 64 yX5_placeOf, Cond.static yX5_placeOf, Cond.code yX5_placeOf cX5_placeOf 1 (some .int), Cond.methodLink RX5 68 yX5_isRoom, Cond.instanceMethod yX5_isRoom, Cond.selects RX5 yX5_isRoom yX5_isRoom, Cond.code yX5_isRoom cX5_isRoom 3 (some .boolean), Cond.methodLink RX5 72 yX5_bound, Cond.instanceMethod yX5_bound, Cond.selects RX5 yX5_bound yX5_bound, Cond.code yX5_bound cX5_bound 4 (some .int)]
def wsX5_back : List Cond := .code yX5_back cX5_back 2 (some .int) :: ((wsX5_back_r1 ++ wsX5_back_r2) ++ wsX50)
def wsX5_isName : List Cond := .code yX5_isName cX5_isName 1 (some .boolean) :: ([.methodLink RX5 88 yX5_in, .static yX5_in, .initialized RX5, .code yX5_in cX5_in 3 (some .boolean)])
def wsX5_isHost : List Cond := .code yX5_isHost cX5_isHost 2 (some .boolean) :: ([.fieldLink RX5 7 "RoomRingModel" "now" "[I"] ++ wsX50)
def wsX5_hostMany : List Cond := .code yX5_hostMany cX5_hostMany 3 (some .int) :: ([.methodLink RX5 92 yX5_isHost, .instanceMethod yX5_isHost, .selects RX5 yX5_isHost yX5_isHost, .initialized RX5, .code yX5_isHost cX5_isHost 2 (some .boolean), .fieldLink RX5 7 "RoomRingModel" "now" "[I"] ++ wsX50)
def wsX5_isKey : List Cond := .code yX5_isKey cX5_isKey 1 (some .boolean) :: ([.methodLink RX5 88 yX5_in, .static yX5_in, .initialized RX5, .code yX5_in cX5_in 3 (some .boolean)])
def wsX5_rowOf : List Cond := .code yX5_rowOf cX5_rowOf 4 (some .int) :: ([.fieldLink RX5 7 "RoomRingModel" "now" "[I"] ++ wsX50)
def wsX5_doHost : List Cond := .code yX5_doHost cX5_doHost 3 (some .int) :: ([.fieldLink RX5 7 "RoomRingModel" "now" "[I", .methodLink RX5 95 yX5_isName, .static yX5_isName, .initialized RX5, .code yX5_isName cX5_isName 1 (some .boolean), .methodLink RX5 88 yX5_in, .static yX5_in, .code yX5_in cX5_in 3 (some .boolean), .methodLink RX5 92 yX5_isHost, .instanceMethod yX5_isHost, .selects RX5 yX5_isHost yX5_isHost, .code yX5_isHost cX5_isHost 2 (some .boolean), .methodLink RX5 98 yX5_hostMany, .instanceMethod yX5_hostMany, .selects RX5 yX5_hostMany yX5_hostMany, .code yX5_hostMany cX5_hostMany 3 (some .int)] ++ wsX50)
def wsX5_doWeighs : List Cond := .code yX5_doWeighs cX5_doWeighs 3 (some .int) :: ([.fieldLink RX5 7 "RoomRingModel" "now" "[I", .methodLink RX5 95 yX5_isName, .static yX5_isName, .initialized RX5, .code yX5_isName cX5_isName 1 (some .boolean), .methodLink RX5 88 yX5_in, .static yX5_in, .code yX5_in cX5_in 3 (some .boolean), .methodLink RX5 92 yX5_isHost, .instanceMethod yX5_isHost, .selects RX5 yX5_isHost yX5_isHost, .code yX5_isHost cX5_isHost 2 (some .boolean)] ++ wsX50)
def wsX5_doGoes : List Cond := .code yX5_doGoes cX5_doGoes 2 (some .int) :: ([.fieldLink RX5 7 "RoomRingModel" "now" "[I", .methodLink RX5 95 yX5_isName, .static yX5_isName, .initialized RX5, .code yX5_isName cX5_isName 1 (some .boolean), .methodLink RX5 88 yX5_in, .static yX5_in, .code yX5_in cX5_in 3 (some .boolean), .methodLink RX5 92 yX5_isHost, .instanceMethod yX5_isHost, .selects RX5 yX5_isHost yX5_isHost, .code yX5_isHost cX5_isHost 2 (some .boolean)] ++ wsX50)
def wsX5_mayCome : List Cond := .code yX5_mayCome cX5_mayCome 2 (some .int) :: ([.fieldLink RX5 7 "RoomRingModel" "now" "[I", .methodLink RX5 101 yX5_isKey, .static yX5_isKey, .initialized RX5, .code yX5_isKey cX5_isKey 1 (some .boolean), .methodLink RX5 88 yX5_in, .static yX5_in, .code yX5_in cX5_in 3 (some .boolean), .methodLink RX5 104 yX5_rowOf, .instanceMethod yX5_rowOf, .selects RX5 yX5_rowOf yX5_rowOf, .code yX5_rowOf cX5_rowOf 4 (some .int)] ++ wsX50)
def wsX5_doKey : List Cond := .code yX5_doKey cX5_doKey 4 (some .int) :: ([.fieldLink RX5 7 "RoomRingModel" "now" "[I", .methodLink RX5 107 yX5_mayCome, .instanceMethod yX5_mayCome, .selects RX5 yX5_mayCome yX5_mayCome, .initialized RX5, .code yX5_mayCome cX5_mayCome 2 (some .int), .methodLink RX5 101 yX5_isKey, .static yX5_isKey, .code yX5_isKey cX5_isKey 1 (some .boolean), .methodLink RX5 88 yX5_in, .static yX5_in, .code yX5_in cX5_in 3 (some .boolean), .methodLink RX5 104 yX5_rowOf, .instanceMethod yX5_rowOf, .selects RX5 yX5_rowOf yX5_rowOf, .code yX5_rowOf cX5_rowOf 4 (some .int)] ++ wsX50)
def wsX5_doDrops : List Cond := .code yX5_doDrops cX5_doDrops 4 (some .int) :: ([.fieldLink RX5 7 "RoomRingModel" "now" "[I", .methodLink RX5 101 yX5_isKey, .static yX5_isKey, .initialized RX5, .code yX5_isKey cX5_isKey 1 (some .boolean), .methodLink RX5 88 yX5_in, .static yX5_in, .code yX5_in cX5_in 3 (some .boolean), .methodLink RX5 104 yX5_rowOf, .instanceMethod yX5_rowOf, .selects RX5 yX5_rowOf yX5_rowOf, .code yX5_rowOf cX5_rowOf 4 (some .int)] ++ wsX50)
def wsX5_doExtra : List Cond := .code yX5_doExtra cX5_doExtra 2 (some .int) :: ([.fieldLink RX5 7 "RoomRingModel" "now" "[I", .methodLink RX5 88 yX5_in, .static yX5_in, .initialized RX5, .code yX5_in cX5_in 3 (some .boolean)] ++ wsX50)
def wsX5_host_r1 : List Cond := [Cond.methodLink RX5 110 yX5_hold, Cond.instanceMethod yX5_hold, Cond.selects RX5 yX5_hold yX5_hold, Cond.initialized RX5, Cond.code yX5_hold cX5_hold 2 none, Cond.fieldLink RX5 13 "RoomRingModel" "held" "[I", Cond.fieldLink RX5 7 "RoomRingModel" "now" "[I", Cond.fieldLink RX5 34 "RoomRingModel" "heldHost" "[I", Cond.fieldLink RX5 25 "RoomRingModel" "keyHost" "[I", Cond.methodLink RX5 113 yX5_doHost, Cond.instanceMethod yX5_doHost, Cond.selects RX5 yX5_doHost yX5_doHost, Cond.code yX5_doHost cX5_doHost 3 (some .int), Cond.methodLink RX5 95 yX5_isName, Cond.static yX5_isName, Cond.code yX5_isName cX5_isName 1 (some .boolean), Cond.methodLink RX5 88 yX5_in, Cond.static yX5_in, Cond.code yX5_in cX5_in 3 (some .boolean), Cond.methodLink RX5 92 yX5_isHost, Cond.instanceMethod yX5_isHost, Cond.selects RX5 yX5_isHost yX5_isHost, Cond.code yX5_isHost cX5_isHost 2 (some .boolean), Cond.methodLink RX5 98 yX5_hostMany]
def wsX5_host_r2 : List Cond := [Cond.instanceMethod yX5_hostMany, Cond.selects RX5 yX5_hostMany yX5_hostMany, Cond.code yX5_hostMany cX5_hostMany 3 (some .int), Cond.methodLink RX5 116 yX5_ends, Cond.instanceMethod yX5_ends, Cond.selects RX5 yX5_ends yX5_ends, Cond.code yX5_ends cX5_ends 2 (some .int), Cond.methodLink RX5 82 yX5_refuses, Cond.instanceMethod yX5_refuses, Cond.selects RX5 yX5_refuses yX5_refuses, Cond.code yX5_refuses cX5_refuses 2 (some .int), Cond.fieldLink RX5 19 "RoomRingModel" "refused" "[I", Cond.methodLink RX5 85 yX5_push, Cond.instanceMethod yX5_push, Cond.selects RX5 yX5_push yX5_push, Cond.code yX5_push cX5_push 2 none, Cond.fieldLink RX5 78 "RoomRingModel" "pasts" "I", Cond.fieldLink RX5 16 "RoomRingModel" "past" "[I", Cond.methodLink RX5 50 yX5_lay, Cond.instanceMethod yX5_lay, Cond.selects RX5 yX5_lay yX5_lay, Cond.code yX5_lay cX5_lay 5 none, Cond.fieldLink RX5 31 "RoomRingModel" "load" "[I", Cond.fieldLink RX5 22 "RoomRingModel" "owner" "[I"]
def wsX5_host_r3 : List Cond := [Cond.fieldLink RX5 28 "RoomRingModel" "keyMark" "[I", Cond.methodLink RX5 61 yX5_layMarks, Cond.instanceMethod yX5_layMarks, Cond.selects RX5 yX5_layMarks yX5_layMarks, Cond.code yX5_layMarks cX5_layMarks 4 none, Cond.methodLink RX5 57 yX5_first, Cond.static yX5_first, Cond.code yX5_first cX5_first 2 (some .int), Cond.methodLink RX5 53 yX5_weights, Cond.instanceMethod yX5_weights, Cond.selects RX5 yX5_weights yX5_weights, Cond.code yX5_weights cX5_weights 3 (some .int), Cond.methodLink RX5 64 yX5_placeOf, Cond.static yX5_placeOf, Cond.code yX5_placeOf cX5_placeOf 1 (some .int), Cond.methodLink RX5 68 yX5_isRoom, Cond.instanceMethod yX5_isRoom, Cond.selects RX5 yX5_isRoom yX5_isRoom, Cond.code yX5_isRoom cX5_isRoom 3 (some .boolean), Cond.methodLink RX5 72 yX5_bound, Cond.instanceMethod yX5_bound, Cond.selects RX5 yX5_bound yX5_bound, Cond.code yX5_bound cX5_bound 4 (some .int), Cond.methodLink RX5 75 yX5_moved]
def wsX5_host_r4 : List Cond := [Cond.instanceMethod yX5_moved, Cond.selects RX5 yX5_moved yX5_moved, Cond.code yX5_moved cX5_moved 4 (some .int)]
def wsX5_host : List Cond := .code yX5_host cX5_host 3 (some .int) :: ((wsX5_host_r1 ++ (wsX5_host_r2 ++ (wsX5_host_r3 ++ wsX5_host_r4))) ++ wsX50)
def wsX5_weighs_r1 : List Cond := [Cond.methodLink RX5 110 yX5_hold, Cond.instanceMethod yX5_hold, Cond.selects RX5 yX5_hold yX5_hold, Cond.initialized RX5, Cond.code yX5_hold cX5_hold 2 none, Cond.fieldLink RX5 13 "RoomRingModel" "held" "[I", Cond.fieldLink RX5 7 "RoomRingModel" "now" "[I", Cond.fieldLink RX5 34 "RoomRingModel" "heldHost" "[I", Cond.fieldLink RX5 25 "RoomRingModel" "keyHost" "[I", Cond.methodLink RX5 119 yX5_doWeighs, Cond.instanceMethod yX5_doWeighs, Cond.selects RX5 yX5_doWeighs yX5_doWeighs, Cond.code yX5_doWeighs cX5_doWeighs 3 (some .int), Cond.methodLink RX5 95 yX5_isName, Cond.static yX5_isName, Cond.code yX5_isName cX5_isName 1 (some .boolean), Cond.methodLink RX5 88 yX5_in, Cond.static yX5_in, Cond.code yX5_in cX5_in 3 (some .boolean), Cond.methodLink RX5 92 yX5_isHost, Cond.instanceMethod yX5_isHost, Cond.selects RX5 yX5_isHost yX5_isHost, Cond.code yX5_isHost cX5_isHost 2 (some .boolean), Cond.methodLink RX5 116 yX5_ends]
def wsX5_weighs_r2 : List Cond := [Cond.instanceMethod yX5_ends, Cond.selects RX5 yX5_ends yX5_ends, Cond.code yX5_ends cX5_ends 2 (some .int), Cond.methodLink RX5 82 yX5_refuses, Cond.instanceMethod yX5_refuses, Cond.selects RX5 yX5_refuses yX5_refuses, Cond.code yX5_refuses cX5_refuses 2 (some .int), Cond.fieldLink RX5 19 "RoomRingModel" "refused" "[I", Cond.methodLink RX5 85 yX5_push, Cond.instanceMethod yX5_push, Cond.selects RX5 yX5_push yX5_push, Cond.code yX5_push cX5_push 2 none, Cond.fieldLink RX5 78 "RoomRingModel" "pasts" "I", Cond.fieldLink RX5 16 "RoomRingModel" "past" "[I", Cond.methodLink RX5 50 yX5_lay, Cond.instanceMethod yX5_lay, Cond.selects RX5 yX5_lay yX5_lay, Cond.code yX5_lay cX5_lay 5 none, Cond.fieldLink RX5 31 "RoomRingModel" "load" "[I", Cond.fieldLink RX5 22 "RoomRingModel" "owner" "[I", Cond.fieldLink RX5 28 "RoomRingModel" "keyMark" "[I", Cond.methodLink RX5 61 yX5_layMarks, Cond.instanceMethod yX5_layMarks, Cond.selects RX5 yX5_layMarks yX5_layMarks]
def wsX5_weighs_r3 : List Cond := [Cond.code yX5_layMarks cX5_layMarks 4 none, Cond.methodLink RX5 57 yX5_first, Cond.static yX5_first, Cond.code yX5_first cX5_first 2 (some .int), Cond.methodLink RX5 53 yX5_weights, Cond.instanceMethod yX5_weights, Cond.selects RX5 yX5_weights yX5_weights, Cond.code yX5_weights cX5_weights 3 (some .int), Cond.methodLink RX5 64 yX5_placeOf, Cond.static yX5_placeOf, Cond.code yX5_placeOf cX5_placeOf 1 (some .int), Cond.methodLink RX5 68 yX5_isRoom, Cond.instanceMethod yX5_isRoom, Cond.selects RX5 yX5_isRoom yX5_isRoom, Cond.code yX5_isRoom cX5_isRoom 3 (some .boolean), Cond.methodLink RX5 72 yX5_bound, Cond.instanceMethod yX5_bound, Cond.selects RX5 yX5_bound yX5_bound, Cond.code yX5_bound cX5_bound 4 (some .int), Cond.methodLink RX5 75 yX5_moved, Cond.instanceMethod yX5_moved, Cond.selects RX5 yX5_moved yX5_moved, Cond.code yX5_moved cX5_moved 4 (some .int)]
def wsX5_weighs : List Cond := .code yX5_weighs cX5_weighs 3 (some .int) :: ((wsX5_weighs_r1 ++ (wsX5_weighs_r2 ++ wsX5_weighs_r3)) ++ wsX50)
def wsX5_goes_r1 : List Cond := [Cond.methodLink RX5 110 yX5_hold, Cond.instanceMethod yX5_hold, Cond.selects RX5 yX5_hold yX5_hold, Cond.initialized RX5, Cond.code yX5_hold cX5_hold 2 none, Cond.fieldLink RX5 13 "RoomRingModel" "held" "[I", Cond.fieldLink RX5 7 "RoomRingModel" "now" "[I", Cond.fieldLink RX5 34 "RoomRingModel" "heldHost" "[I", Cond.fieldLink RX5 25 "RoomRingModel" "keyHost" "[I", Cond.methodLink RX5 122 yX5_doGoes, Cond.instanceMethod yX5_doGoes, Cond.selects RX5 yX5_doGoes yX5_doGoes, Cond.code yX5_doGoes cX5_doGoes 2 (some .int), Cond.methodLink RX5 95 yX5_isName, Cond.static yX5_isName, Cond.code yX5_isName cX5_isName 1 (some .boolean), Cond.methodLink RX5 88 yX5_in, Cond.static yX5_in, Cond.code yX5_in cX5_in 3 (some .boolean), Cond.methodLink RX5 92 yX5_isHost, Cond.instanceMethod yX5_isHost, Cond.selects RX5 yX5_isHost yX5_isHost, Cond.code yX5_isHost cX5_isHost 2 (some .boolean), Cond.methodLink RX5 116 yX5_ends]
def wsX5_goes_r2 : List Cond := [Cond.instanceMethod yX5_ends, Cond.selects RX5 yX5_ends yX5_ends, Cond.code yX5_ends cX5_ends 2 (some .int), Cond.methodLink RX5 82 yX5_refuses, Cond.instanceMethod yX5_refuses, Cond.selects RX5 yX5_refuses yX5_refuses, Cond.code yX5_refuses cX5_refuses 2 (some .int), Cond.fieldLink RX5 19 "RoomRingModel" "refused" "[I", Cond.methodLink RX5 85 yX5_push, Cond.instanceMethod yX5_push, Cond.selects RX5 yX5_push yX5_push, Cond.code yX5_push cX5_push 2 none, Cond.fieldLink RX5 78 "RoomRingModel" "pasts" "I", Cond.fieldLink RX5 16 "RoomRingModel" "past" "[I", Cond.methodLink RX5 50 yX5_lay, Cond.instanceMethod yX5_lay, Cond.selects RX5 yX5_lay yX5_lay, Cond.code yX5_lay cX5_lay 5 none, Cond.fieldLink RX5 31 "RoomRingModel" "load" "[I", Cond.fieldLink RX5 22 "RoomRingModel" "owner" "[I", Cond.fieldLink RX5 28 "RoomRingModel" "keyMark" "[I", Cond.methodLink RX5 61 yX5_layMarks, Cond.instanceMethod yX5_layMarks, Cond.selects RX5 yX5_layMarks yX5_layMarks]
def wsX5_goes_r3 : List Cond := [Cond.code yX5_layMarks cX5_layMarks 4 none, Cond.methodLink RX5 57 yX5_first, Cond.static yX5_first, Cond.code yX5_first cX5_first 2 (some .int), Cond.methodLink RX5 53 yX5_weights, Cond.instanceMethod yX5_weights, Cond.selects RX5 yX5_weights yX5_weights, Cond.code yX5_weights cX5_weights 3 (some .int), Cond.methodLink RX5 64 yX5_placeOf, Cond.static yX5_placeOf, Cond.code yX5_placeOf cX5_placeOf 1 (some .int), Cond.methodLink RX5 68 yX5_isRoom, Cond.instanceMethod yX5_isRoom, Cond.selects RX5 yX5_isRoom yX5_isRoom, Cond.code yX5_isRoom cX5_isRoom 3 (some .boolean), Cond.methodLink RX5 72 yX5_bound, Cond.instanceMethod yX5_bound, Cond.selects RX5 yX5_bound yX5_bound, Cond.code yX5_bound cX5_bound 4 (some .int), Cond.methodLink RX5 75 yX5_moved, Cond.instanceMethod yX5_moved, Cond.selects RX5 yX5_moved yX5_moved, Cond.code yX5_moved cX5_moved 4 (some .int)]
def wsX5_goes : List Cond := .code yX5_goes cX5_goes 2 (some .int) :: ((wsX5_goes_r1 ++ (wsX5_goes_r2 ++ wsX5_goes_r3)) ++ wsX50)
def wsX5_key_r1 : List Cond := [Cond.fieldLink RX5 25 "RoomRingModel" "keyHost" "[I", Cond.methodLink RX5 110 yX5_hold, Cond.instanceMethod yX5_hold, Cond.selects RX5 yX5_hold yX5_hold, Cond.initialized RX5, Cond.code yX5_hold cX5_hold 2 none, Cond.fieldLink RX5 13 "RoomRingModel" "held" "[I", Cond.fieldLink RX5 7 "RoomRingModel" "now" "[I", Cond.fieldLink RX5 34 "RoomRingModel" "heldHost" "[I", Cond.methodLink RX5 125 yX5_doKey, Cond.instanceMethod yX5_doKey, Cond.selects RX5 yX5_doKey yX5_doKey, Cond.code yX5_doKey cX5_doKey 4 (some .int), Cond.methodLink RX5 107 yX5_mayCome, Cond.instanceMethod yX5_mayCome, Cond.selects RX5 yX5_mayCome yX5_mayCome, Cond.code yX5_mayCome cX5_mayCome 2 (some .int), Cond.methodLink RX5 101 yX5_isKey, Cond.static yX5_isKey, Cond.code yX5_isKey cX5_isKey 1 (some .boolean), Cond.methodLink RX5 88 yX5_in, Cond.static yX5_in, Cond.code yX5_in cX5_in 3 (some .boolean), Cond.methodLink RX5 104 yX5_rowOf]
def wsX5_key_r2 : List Cond := [Cond.instanceMethod yX5_rowOf, Cond.selects RX5 yX5_rowOf yX5_rowOf, Cond.code yX5_rowOf cX5_rowOf 4 (some .int), Cond.methodLink RX5 82 yX5_refuses, Cond.instanceMethod yX5_refuses, Cond.selects RX5 yX5_refuses yX5_refuses, Cond.code yX5_refuses cX5_refuses 2 (some .int), Cond.fieldLink RX5 19 "RoomRingModel" "refused" "[I", Cond.methodLink RX5 85 yX5_push, Cond.instanceMethod yX5_push, Cond.selects RX5 yX5_push yX5_push, Cond.code yX5_push cX5_push 2 none, Cond.fieldLink RX5 78 "RoomRingModel" "pasts" "I", Cond.fieldLink RX5 16 "RoomRingModel" "past" "[I", Cond.methodLink RX5 50 yX5_lay, Cond.instanceMethod yX5_lay, Cond.selects RX5 yX5_lay yX5_lay, Cond.code yX5_lay cX5_lay 5 none, Cond.fieldLink RX5 31 "RoomRingModel" "load" "[I", Cond.fieldLink RX5 22 "RoomRingModel" "owner" "[I", Cond.fieldLink RX5 28 "RoomRingModel" "keyMark" "[I", Cond.methodLink RX5 61 yX5_layMarks, Cond.instanceMethod yX5_layMarks, Cond.selects RX5 yX5_layMarks yX5_layMarks]
def wsX5_key_r3 : List Cond := [Cond.code yX5_layMarks cX5_layMarks 4 none, Cond.methodLink RX5 57 yX5_first, Cond.static yX5_first, Cond.code yX5_first cX5_first 2 (some .int), Cond.methodLink RX5 53 yX5_weights, Cond.instanceMethod yX5_weights, Cond.selects RX5 yX5_weights yX5_weights, Cond.code yX5_weights cX5_weights 3 (some .int), Cond.methodLink RX5 64 yX5_placeOf, Cond.static yX5_placeOf, Cond.code yX5_placeOf cX5_placeOf 1 (some .int), Cond.methodLink RX5 68 yX5_isRoom, Cond.instanceMethod yX5_isRoom, Cond.selects RX5 yX5_isRoom yX5_isRoom, Cond.code yX5_isRoom cX5_isRoom 3 (some .boolean), Cond.methodLink RX5 72 yX5_bound, Cond.instanceMethod yX5_bound, Cond.selects RX5 yX5_bound yX5_bound, Cond.code yX5_bound cX5_bound 4 (some .int), Cond.methodLink RX5 75 yX5_moved, Cond.instanceMethod yX5_moved, Cond.selects RX5 yX5_moved yX5_moved, Cond.code yX5_moved cX5_moved 4 (some .int)]
def wsX5_key : List Cond := .code yX5_key cX5_key 3 (some .int) :: ((wsX5_key_r1 ++ (wsX5_key_r2 ++ wsX5_key_r3)) ++ wsX50)
def wsX5_drops_r1 : List Cond := [Cond.methodLink RX5 110 yX5_hold, Cond.instanceMethod yX5_hold, Cond.selects RX5 yX5_hold yX5_hold, Cond.initialized RX5, Cond.code yX5_hold cX5_hold 2 none, Cond.fieldLink RX5 13 "RoomRingModel" "held" "[I", Cond.fieldLink RX5 7 "RoomRingModel" "now" "[I", Cond.fieldLink RX5 34 "RoomRingModel" "heldHost" "[I", Cond.fieldLink RX5 25 "RoomRingModel" "keyHost" "[I", Cond.methodLink RX5 128 yX5_doDrops, Cond.instanceMethod yX5_doDrops, Cond.selects RX5 yX5_doDrops yX5_doDrops, Cond.code yX5_doDrops cX5_doDrops 4 (some .int), Cond.methodLink RX5 101 yX5_isKey, Cond.static yX5_isKey, Cond.code yX5_isKey cX5_isKey 1 (some .boolean), Cond.methodLink RX5 88 yX5_in, Cond.static yX5_in, Cond.code yX5_in cX5_in 3 (some .boolean), Cond.methodLink RX5 104 yX5_rowOf, Cond.instanceMethod yX5_rowOf, Cond.selects RX5 yX5_rowOf yX5_rowOf, Cond.code yX5_rowOf cX5_rowOf 4 (some .int), Cond.methodLink RX5 116 yX5_ends]
def wsX5_drops_r2 : List Cond := [Cond.instanceMethod yX5_ends, Cond.selects RX5 yX5_ends yX5_ends, Cond.code yX5_ends cX5_ends 2 (some .int), Cond.methodLink RX5 82 yX5_refuses, Cond.instanceMethod yX5_refuses, Cond.selects RX5 yX5_refuses yX5_refuses, Cond.code yX5_refuses cX5_refuses 2 (some .int), Cond.fieldLink RX5 19 "RoomRingModel" "refused" "[I", Cond.methodLink RX5 85 yX5_push, Cond.instanceMethod yX5_push, Cond.selects RX5 yX5_push yX5_push, Cond.code yX5_push cX5_push 2 none, Cond.fieldLink RX5 78 "RoomRingModel" "pasts" "I", Cond.fieldLink RX5 16 "RoomRingModel" "past" "[I", Cond.methodLink RX5 50 yX5_lay, Cond.instanceMethod yX5_lay, Cond.selects RX5 yX5_lay yX5_lay, Cond.code yX5_lay cX5_lay 5 none, Cond.fieldLink RX5 31 "RoomRingModel" "load" "[I", Cond.fieldLink RX5 22 "RoomRingModel" "owner" "[I", Cond.fieldLink RX5 28 "RoomRingModel" "keyMark" "[I", Cond.methodLink RX5 61 yX5_layMarks, Cond.instanceMethod yX5_layMarks, Cond.selects RX5 yX5_layMarks yX5_layMarks]
def wsX5_drops_r3 : List Cond := [Cond.code yX5_layMarks cX5_layMarks 4 none, Cond.methodLink RX5 57 yX5_first, Cond.static yX5_first, Cond.code yX5_first cX5_first 2 (some .int), Cond.methodLink RX5 53 yX5_weights, Cond.instanceMethod yX5_weights, Cond.selects RX5 yX5_weights yX5_weights, Cond.code yX5_weights cX5_weights 3 (some .int), Cond.methodLink RX5 64 yX5_placeOf, Cond.static yX5_placeOf, Cond.code yX5_placeOf cX5_placeOf 1 (some .int), Cond.methodLink RX5 68 yX5_isRoom, Cond.instanceMethod yX5_isRoom, Cond.selects RX5 yX5_isRoom yX5_isRoom, Cond.code yX5_isRoom cX5_isRoom 3 (some .boolean), Cond.methodLink RX5 72 yX5_bound, Cond.instanceMethod yX5_bound, Cond.selects RX5 yX5_bound yX5_bound, Cond.code yX5_bound cX5_bound 4 (some .int), Cond.methodLink RX5 75 yX5_moved, Cond.instanceMethod yX5_moved, Cond.selects RX5 yX5_moved yX5_moved, Cond.code yX5_moved cX5_moved 4 (some .int)]
def wsX5_drops : List Cond := .code yX5_drops cX5_drops 2 (some .int) :: ((wsX5_drops_r1 ++ (wsX5_drops_r2 ++ wsX5_drops_r3)) ++ wsX50)
def wsX5_extra_r1 : List Cond := [Cond.methodLink RX5 110 yX5_hold, Cond.instanceMethod yX5_hold, Cond.selects RX5 yX5_hold yX5_hold, Cond.initialized RX5, Cond.code yX5_hold cX5_hold 2 none, Cond.fieldLink RX5 13 "RoomRingModel" "held" "[I", Cond.fieldLink RX5 7 "RoomRingModel" "now" "[I", Cond.fieldLink RX5 34 "RoomRingModel" "heldHost" "[I", Cond.fieldLink RX5 25 "RoomRingModel" "keyHost" "[I", Cond.methodLink RX5 131 yX5_doExtra, Cond.instanceMethod yX5_doExtra, Cond.selects RX5 yX5_doExtra yX5_doExtra, Cond.code yX5_doExtra cX5_doExtra 2 (some .int), Cond.methodLink RX5 88 yX5_in, Cond.static yX5_in, Cond.code yX5_in cX5_in 3 (some .boolean), Cond.methodLink RX5 116 yX5_ends, Cond.instanceMethod yX5_ends, Cond.selects RX5 yX5_ends yX5_ends, Cond.code yX5_ends cX5_ends 2 (some .int), Cond.methodLink RX5 82 yX5_refuses, Cond.instanceMethod yX5_refuses, Cond.selects RX5 yX5_refuses yX5_refuses, Cond.code yX5_refuses cX5_refuses 2 (some .int)]
def wsX5_extra_r2 : List Cond := [Cond.fieldLink RX5 19 "RoomRingModel" "refused" "[I", Cond.methodLink RX5 85 yX5_push, Cond.instanceMethod yX5_push, Cond.selects RX5 yX5_push yX5_push, Cond.code yX5_push cX5_push 2 none, Cond.fieldLink RX5 78 "RoomRingModel" "pasts" "I", Cond.fieldLink RX5 16 "RoomRingModel" "past" "[I", Cond.methodLink RX5 50 yX5_lay, Cond.instanceMethod yX5_lay, Cond.selects RX5 yX5_lay yX5_lay, Cond.code yX5_lay cX5_lay 5 none, Cond.fieldLink RX5 31 "RoomRingModel" "load" "[I", Cond.fieldLink RX5 22 "RoomRingModel" "owner" "[I", Cond.fieldLink RX5 28 "RoomRingModel" "keyMark" "[I", Cond.methodLink RX5 61 yX5_layMarks, Cond.instanceMethod yX5_layMarks, Cond.selects RX5 yX5_layMarks yX5_layMarks, Cond.code yX5_layMarks cX5_layMarks 4 none, Cond.methodLink RX5 57 yX5_first, Cond.static yX5_first, Cond.code yX5_first cX5_first 2 (some .int), Cond.methodLink RX5 53 yX5_weights, Cond.instanceMethod yX5_weights, Cond.selects RX5 yX5_weights yX5_weights]
def wsX5_extra_r3 : List Cond := [Cond.code yX5_weights cX5_weights 3 (some .int), Cond.methodLink RX5 64 yX5_placeOf, Cond.static yX5_placeOf, Cond.code yX5_placeOf cX5_placeOf 1 (some .int), Cond.methodLink RX5 68 yX5_isRoom, Cond.instanceMethod yX5_isRoom, Cond.selects RX5 yX5_isRoom yX5_isRoom, Cond.code yX5_isRoom cX5_isRoom 3 (some .boolean), Cond.methodLink RX5 72 yX5_bound, Cond.instanceMethod yX5_bound, Cond.selects RX5 yX5_bound yX5_bound, Cond.code yX5_bound cX5_bound 4 (some .int), Cond.methodLink RX5 75 yX5_moved, Cond.instanceMethod yX5_moved, Cond.selects RX5 yX5_moved yX5_moved, Cond.code yX5_moved cX5_moved 4 (some .int)]
def wsX5_extra : List Cond := .code yX5_extra cX5_extra 2 (some .int) :: ((wsX5_extra_r1 ++ (wsX5_extra_r2 ++ wsX5_extra_r3)) ++ wsX50)
def wsX5_ofHost : List Cond := .code yX5_ofHost cX5_ofHost 5 (some .int) :: ([.fieldLink RX5 7 "RoomRingModel" "now" "[I", .fieldLink RX5 31 "RoomRingModel" "load" "[I", .fieldLink RX5 25 "RoomRingModel" "keyHost" "[I", .methodLink RX5 72 yX5_bound, .instanceMethod yX5_bound, .selects RX5 yX5_bound yX5_bound, .initialized RX5, .code yX5_bound cX5_bound 4 (some .int), .methodLink RX5 53 yX5_weights, .instanceMethod yX5_weights, .selects RX5 yX5_weights yX5_weights, .code yX5_weights cX5_weights 3 (some .int)] ++ wsX50)
def wsX5_of_r1 : List Cond := [Cond.methodLink RX5 95 yX5_isName, Cond.static yX5_isName, Cond.initialized RX5, Cond.code yX5_isName cX5_isName 1 (some .boolean), Cond.methodLink RX5 88 yX5_in, Cond.static yX5_in, Cond.code yX5_in cX5_in 3 (some .boolean), Cond.methodLink RX5 82 yX5_refuses, Cond.instanceMethod yX5_refuses, Cond.selects RX5 yX5_refuses yX5_refuses, Cond.code yX5_refuses cX5_refuses 2 (some .int), Cond.fieldLink RX5 19 "RoomRingModel" "refused" "[I", Cond.methodLink RX5 92 yX5_isHost, Cond.instanceMethod yX5_isHost, Cond.selects RX5 yX5_isHost yX5_isHost, Cond.code yX5_isHost cX5_isHost 2 (some .boolean), Cond.fieldLink RX5 7 "RoomRingModel" "now" "[I", Cond.methodLink RX5 134 yX5_ofHost, Cond.instanceMethod yX5_ofHost, Cond.selects RX5 yX5_ofHost yX5_ofHost, Cond.code yX5_ofHost cX5_ofHost 5 (some .int), Cond.fieldLink RX5 31 "RoomRingModel" "load" "[I", Cond.fieldLink RX5 25 "RoomRingModel" "keyHost" "[I", Cond.methodLink RX5 72 yX5_bound]
def wsX5_of_r2 : List Cond := [Cond.instanceMethod yX5_bound, Cond.selects RX5 yX5_bound yX5_bound, Cond.code yX5_bound cX5_bound 4 (some .int), Cond.methodLink RX5 53 yX5_weights, Cond.instanceMethod yX5_weights, Cond.selects RX5 yX5_weights yX5_weights, Cond.code yX5_weights cX5_weights 3 (some .int)]
def wsX5_of : List Cond := .code yX5_of cX5_of 3 (some .int) :: ((wsX5_of_r1 ++ wsX5_of_r2) ++ wsX50)
def wsX5_markOf : List Cond := .code yX5_markOf cX5_markOf 7 (some .int) :: ([.fieldLink RX5 37 "RoomRingModel" "taken" "[Z", .fieldLink RX5 7 "RoomRingModel" "now" "[I", .methodLink RX5 57 yX5_first, .static yX5_first, .initialized RX5, .code yX5_first cX5_first 2 (some .int)] ++ wsX50)
def wsX5_mark_r1 : List Cond := [Cond.fieldLink RX5 7 "RoomRingModel" "now" "[I", Cond.methodLink RX5 95 yX5_isName, Cond.static yX5_isName, Cond.initialized RX5, Cond.code yX5_isName cX5_isName 1 (some .boolean), Cond.methodLink RX5 88 yX5_in, Cond.static yX5_in, Cond.code yX5_in cX5_in 3 (some .boolean), Cond.methodLink RX5 82 yX5_refuses, Cond.instanceMethod yX5_refuses, Cond.selects RX5 yX5_refuses yX5_refuses, Cond.code yX5_refuses cX5_refuses 2 (some .int), Cond.fieldLink RX5 19 "RoomRingModel" "refused" "[I", Cond.methodLink RX5 92 yX5_isHost, Cond.instanceMethod yX5_isHost, Cond.selects RX5 yX5_isHost yX5_isHost, Cond.code yX5_isHost cX5_isHost 2 (some .boolean), Cond.methodLink RX5 137 yX5_markOf, Cond.instanceMethod yX5_markOf, Cond.selects RX5 yX5_markOf yX5_markOf, Cond.code yX5_markOf cX5_markOf 7 (some .int), Cond.fieldLink RX5 37 "RoomRingModel" "taken" "[Z", Cond.methodLink RX5 57 yX5_first, Cond.static yX5_first]
def wsX5_mark_r2 : List Cond := [Cond.code yX5_first cX5_first 2 (some .int)]
def wsX5_mark : List Cond := .code yX5_mark cX5_mark 3 (some .int) :: ((wsX5_mark_r1 ++ wsX5_mark_r2) ++ wsX50)
def wsX5_at : List Cond := .code yX5_at cX5_at 2 (some .int) :: ([.fieldLink RX5 22 "RoomRingModel" "owner" "[I", .methodLink RX5 88 yX5_in, .static yX5_in, .initialized RX5, .code yX5_in cX5_in 3 (some .boolean), .methodLink RX5 82 yX5_refuses, .instanceMethod yX5_refuses, .selects RX5 yX5_refuses yX5_refuses, .code yX5_refuses cX5_refuses 2 (some .int), .fieldLink RX5 19 "RoomRingModel" "refused" "[I"] ++ wsX50)
def wsX5_name : List Cond := .code yX5_name cX5_name 4 (some .int) :: ([.methodLink RX5 82 yX5_refuses, .instanceMethod yX5_refuses, .selects RX5 yX5_refuses yX5_refuses, .initialized RX5, .code yX5_refuses cX5_refuses 2 (some .int), .fieldLink RX5 19 "RoomRingModel" "refused" "[I", .methodLink RX5 92 yX5_isHost, .instanceMethod yX5_isHost, .selects RX5 yX5_isHost yX5_isHost, .code yX5_isHost cX5_isHost 2 (some .boolean), .fieldLink RX5 7 "RoomRingModel" "now" "[I"] ++ wsX50)
def wsX5_shareOf : List Cond := .code yX5_shareOf cX5_shareOf 5 (some .int) :: ([.fieldLink RX5 22 "RoomRingModel" "owner" "[I"] ++ wsX50)
def wsX5_share : List Cond := .code yX5_share cX5_share 2 (some .int) :: ([.methodLink RX5 95 yX5_isName, .static yX5_isName, .initialized RX5, .code yX5_isName cX5_isName 1 (some .boolean), .methodLink RX5 88 yX5_in, .static yX5_in, .code yX5_in cX5_in 3 (some .boolean), .methodLink RX5 82 yX5_refuses, .instanceMethod yX5_refuses, .selects RX5 yX5_refuses yX5_refuses, .code yX5_refuses cX5_refuses 2 (some .int), .fieldLink RX5 19 "RoomRingModel" "refused" "[I", .methodLink RX5 92 yX5_isHost, .instanceMethod yX5_isHost, .selects RX5 yX5_isHost yX5_isHost, .code yX5_isHost cX5_isHost 2 (some .boolean), .fieldLink RX5 7 "RoomRingModel" "now" "[I", .methodLink RX5 140 yX5_shareOf, .instanceMethod yX5_shareOf, .selects RX5 yX5_shareOf yX5_shareOf, .code yX5_shareOf cX5_shareOf 5 (some .int), .fieldLink RX5 22 "RoomRingModel" "owner" "[I"] ++ wsX50)
def wsX5_has : List Cond := .code yX5_has cX5_has 3 (some .int) :: ([.fieldLink RX5 25 "RoomRingModel" "keyHost" "[I", .methodLink RX5 101 yX5_isKey, .static yX5_isKey, .initialized RX5, .code yX5_isKey cX5_isKey 1 (some .boolean), .methodLink RX5 88 yX5_in, .static yX5_in, .code yX5_in cX5_in 3 (some .boolean), .methodLink RX5 82 yX5_refuses, .instanceMethod yX5_refuses, .selects RX5 yX5_refuses yX5_refuses, .code yX5_refuses cX5_refuses 2 (some .int), .fieldLink RX5 19 "RoomRingModel" "refused" "[I", .methodLink RX5 104 yX5_rowOf, .instanceMethod yX5_rowOf, .selects RX5 yX5_rowOf yX5_rowOf, .code yX5_rowOf cX5_rowOf 4 (some .int), .fieldLink RX5 7 "RoomRingModel" "now" "[I"] ++ wsX50)
def wsX5_aboutKey : List Cond := .code yX5_aboutKey cX5_aboutKey 7 (some .int) :: ([.fieldLink RX5 7 "RoomRingModel" "now" "[I", .fieldLink RX5 25 "RoomRingModel" "keyHost" "[I", .fieldLink RX5 28 "RoomRingModel" "keyMark" "[I", .fieldLink RX5 22 "RoomRingModel" "owner" "[I", .methodLink RX5 64 yX5_placeOf, .static yX5_placeOf, .initialized RX5, .code yX5_placeOf cX5_placeOf 1 (some .int)] ++ wsX50)
def wsX5_about_r1 : List Cond := [Cond.methodLink RX5 101 yX5_isKey, Cond.static yX5_isKey, Cond.initialized RX5, Cond.code yX5_isKey cX5_isKey 1 (some .boolean), Cond.methodLink RX5 88 yX5_in, Cond.static yX5_in, Cond.code yX5_in cX5_in 3 (some .boolean), Cond.methodLink RX5 82 yX5_refuses, Cond.instanceMethod yX5_refuses, Cond.selects RX5 yX5_refuses yX5_refuses, Cond.code yX5_refuses cX5_refuses 2 (some .int), Cond.fieldLink RX5 19 "RoomRingModel" "refused" "[I", Cond.methodLink RX5 104 yX5_rowOf, Cond.instanceMethod yX5_rowOf, Cond.selects RX5 yX5_rowOf yX5_rowOf, Cond.code yX5_rowOf cX5_rowOf 4 (some .int), Cond.fieldLink RX5 7 "RoomRingModel" "now" "[I", Cond.methodLink RX5 143 yX5_aboutKey, Cond.instanceMethod yX5_aboutKey, Cond.selects RX5 yX5_aboutKey yX5_aboutKey, Cond.code yX5_aboutKey cX5_aboutKey 7 (some .int), Cond.fieldLink RX5 25 "RoomRingModel" "keyHost" "[I", Cond.fieldLink RX5 28 "RoomRingModel" "keyMark" "[I", Cond.fieldLink RX5 22 "RoomRingModel" "owner" "[I"]
def wsX5_about_r2 : List Cond := [Cond.methodLink RX5 64 yX5_placeOf, Cond.static yX5_placeOf, Cond.code yX5_placeOf cX5_placeOf 1 (some .int)]
def wsX5_about : List Cond := .code yX5_about cX5_about 4 (some .int) :: ((wsX5_about_r1 ++ wsX5_about_r2) ++ wsX50)
def wsX5_would_r1 : List Cond := [Cond.fieldLink RX5 25 "RoomRingModel" "keyHost" "[I", Cond.methodLink RX5 107 yX5_mayCome, Cond.instanceMethod yX5_mayCome, Cond.selects RX5 yX5_mayCome yX5_mayCome, Cond.initialized RX5, Cond.code yX5_mayCome cX5_mayCome 2 (some .int), Cond.fieldLink RX5 7 "RoomRingModel" "now" "[I", Cond.methodLink RX5 101 yX5_isKey, Cond.static yX5_isKey, Cond.code yX5_isKey cX5_isKey 1 (some .boolean), Cond.methodLink RX5 88 yX5_in, Cond.static yX5_in, Cond.code yX5_in cX5_in 3 (some .boolean), Cond.methodLink RX5 104 yX5_rowOf, Cond.instanceMethod yX5_rowOf, Cond.selects RX5 yX5_rowOf yX5_rowOf, Cond.code yX5_rowOf cX5_rowOf 4 (some .int), Cond.methodLink RX5 82 yX5_refuses, Cond.instanceMethod yX5_refuses, Cond.selects RX5 yX5_refuses yX5_refuses, Cond.code yX5_refuses cX5_refuses 2 (some .int), Cond.fieldLink RX5 19 "RoomRingModel" "refused" "[I", Cond.methodLink RX5 110 yX5_hold, Cond.instanceMethod yX5_hold]
def wsX5_would_r2 : List Cond := [Cond.selects RX5 yX5_hold yX5_hold, Cond.code yX5_hold cX5_hold 2 none, Cond.fieldLink RX5 13 "RoomRingModel" "held" "[I", Cond.fieldLink RX5 34 "RoomRingModel" "heldHost" "[I", Cond.methodLink RX5 125 yX5_doKey, Cond.instanceMethod yX5_doKey, Cond.selects RX5 yX5_doKey yX5_doKey, Cond.code yX5_doKey cX5_doKey 4 (some .int), Cond.methodLink RX5 50 yX5_lay, Cond.instanceMethod yX5_lay, Cond.selects RX5 yX5_lay yX5_lay, Cond.code yX5_lay cX5_lay 5 none, Cond.fieldLink RX5 31 "RoomRingModel" "load" "[I", Cond.fieldLink RX5 22 "RoomRingModel" "owner" "[I", Cond.fieldLink RX5 28 "RoomRingModel" "keyMark" "[I", Cond.methodLink RX5 61 yX5_layMarks, Cond.instanceMethod yX5_layMarks, Cond.selects RX5 yX5_layMarks yX5_layMarks, Cond.code yX5_layMarks cX5_layMarks 4 none, Cond.methodLink RX5 57 yX5_first, Cond.static yX5_first, Cond.code yX5_first cX5_first 2 (some .int), Cond.methodLink RX5 53 yX5_weights, Cond.instanceMethod yX5_weights]
def wsX5_would_r3 : List Cond := [Cond.selects RX5 yX5_weights yX5_weights, Cond.code yX5_weights cX5_weights 3 (some .int), Cond.methodLink RX5 64 yX5_placeOf, Cond.static yX5_placeOf, Cond.code yX5_placeOf cX5_placeOf 1 (some .int), Cond.methodLink RX5 68 yX5_isRoom, Cond.instanceMethod yX5_isRoom, Cond.selects RX5 yX5_isRoom yX5_isRoom, Cond.code yX5_isRoom cX5_isRoom 3 (some .boolean), Cond.methodLink RX5 72 yX5_bound, Cond.instanceMethod yX5_bound, Cond.selects RX5 yX5_bound yX5_bound, Cond.code yX5_bound cX5_bound 4 (some .int), Cond.methodLink RX5 146 yX5_release, Cond.instanceMethod yX5_release, Cond.selects RX5 yX5_release yX5_release, Cond.code yX5_release cX5_release 2 none]
def wsX5_would : List Cond := .code yX5_would cX5_would 4 (some .int) :: ((wsX5_would_r1 ++ (wsX5_would_r2 ++ wsX5_would_r3)) ++ wsX50)
def wsX5_without_r1 : List Cond := [Cond.methodLink RX5 95 yX5_isName, Cond.static yX5_isName, Cond.initialized RX5, Cond.code yX5_isName cX5_isName 1 (some .boolean), Cond.methodLink RX5 88 yX5_in, Cond.static yX5_in, Cond.code yX5_in cX5_in 3 (some .boolean), Cond.methodLink RX5 82 yX5_refuses, Cond.instanceMethod yX5_refuses, Cond.selects RX5 yX5_refuses yX5_refuses, Cond.code yX5_refuses cX5_refuses 2 (some .int), Cond.fieldLink RX5 19 "RoomRingModel" "refused" "[I", Cond.methodLink RX5 92 yX5_isHost, Cond.instanceMethod yX5_isHost, Cond.selects RX5 yX5_isHost yX5_isHost, Cond.code yX5_isHost cX5_isHost 2 (some .boolean), Cond.fieldLink RX5 7 "RoomRingModel" "now" "[I", Cond.methodLink RX5 110 yX5_hold, Cond.instanceMethod yX5_hold, Cond.selects RX5 yX5_hold yX5_hold, Cond.code yX5_hold cX5_hold 2 none, Cond.fieldLink RX5 13 "RoomRingModel" "held" "[I", Cond.fieldLink RX5 34 "RoomRingModel" "heldHost" "[I", Cond.fieldLink RX5 25 "RoomRingModel" "keyHost" "[I"]
def wsX5_without_r2 : List Cond := [Cond.methodLink RX5 122 yX5_doGoes, Cond.instanceMethod yX5_doGoes, Cond.selects RX5 yX5_doGoes yX5_doGoes, Cond.code yX5_doGoes cX5_doGoes 2 (some .int), Cond.methodLink RX5 50 yX5_lay, Cond.instanceMethod yX5_lay, Cond.selects RX5 yX5_lay yX5_lay, Cond.code yX5_lay cX5_lay 5 none, Cond.fieldLink RX5 31 "RoomRingModel" "load" "[I", Cond.fieldLink RX5 22 "RoomRingModel" "owner" "[I", Cond.fieldLink RX5 28 "RoomRingModel" "keyMark" "[I", Cond.methodLink RX5 61 yX5_layMarks, Cond.instanceMethod yX5_layMarks, Cond.selects RX5 yX5_layMarks yX5_layMarks, Cond.code yX5_layMarks cX5_layMarks 4 none, Cond.methodLink RX5 57 yX5_first, Cond.static yX5_first, Cond.code yX5_first cX5_first 2 (some .int), Cond.methodLink RX5 53 yX5_weights, Cond.instanceMethod yX5_weights, Cond.selects RX5 yX5_weights yX5_weights, Cond.code yX5_weights cX5_weights 3 (some .int), Cond.methodLink RX5 64 yX5_placeOf, Cond.static yX5_placeOf]
def wsX5_without_r3 : List Cond := [Cond.code yX5_placeOf cX5_placeOf 1 (some .int), Cond.methodLink RX5 68 yX5_isRoom, Cond.instanceMethod yX5_isRoom, Cond.selects RX5 yX5_isRoom yX5_isRoom, Cond.code yX5_isRoom cX5_isRoom 3 (some .boolean), Cond.methodLink RX5 72 yX5_bound, Cond.instanceMethod yX5_bound, Cond.selects RX5 yX5_bound yX5_bound, Cond.code yX5_bound cX5_bound 4 (some .int), Cond.methodLink RX5 75 yX5_moved, Cond.instanceMethod yX5_moved, Cond.selects RX5 yX5_moved yX5_moved, Cond.code yX5_moved cX5_moved 4 (some .int), Cond.methodLink RX5 146 yX5_release, Cond.instanceMethod yX5_release, Cond.selects RX5 yX5_release yX5_release, Cond.code yX5_release cX5_release 2 none]
def wsX5_without : List Cond := .code yX5_without cX5_without 3 (some .int) :: ((wsX5_without_r1 ++ (wsX5_without_r2 ++ wsX5_without_r3)) ++ wsX50)
def wsX5_marks : List Cond := .code yX5_marks cX5_marks 1 (some .int) :: ([.methodLink RX5 53 yX5_weights, .instanceMethod yX5_weights, .selects RX5 yX5_weights yX5_weights, .initialized RX5, .code yX5_weights cX5_weights 3 (some .int), .fieldLink RX5 7 "RoomRingModel" "now" "[I"] ++ wsX50)
def wsX5_byHosts : List Cond := .code yX5_byHosts cX5_byHosts 5 (some .int) :: ([.fieldLink RX5 31 "RoomRingModel" "load" "[I", .methodLink RX5 92 yX5_isHost, .instanceMethod yX5_isHost, .selects RX5 yX5_isHost yX5_isHost, .initialized RX5, .code yX5_isHost cX5_isHost 2 (some .boolean), .fieldLink RX5 7 "RoomRingModel" "now" "[I", .methodLink RX5 72 yX5_bound, .instanceMethod yX5_bound, .selects RX5 yX5_bound yX5_bound, .code yX5_bound cX5_bound 4 (some .int), .methodLink RX5 53 yX5_weights, .instanceMethod yX5_weights, .selects RX5 yX5_weights yX5_weights, .code yX5_weights cX5_weights 3 (some .int)] ++ wsX50)
def wsX5_passedAll : List Cond := .code yX5_passedAll cX5_passedAll 3 (some .int) :: ([.fieldLink RX5 7 "RoomRingModel" "now" "[I", .fieldLink RX5 25 "RoomRingModel" "keyHost" "[I", .methodLink RX5 143 yX5_aboutKey, .instanceMethod yX5_aboutKey, .selects RX5 yX5_aboutKey yX5_aboutKey, .initialized RX5, .code yX5_aboutKey cX5_aboutKey 7 (some .int), .fieldLink RX5 28 "RoomRingModel" "keyMark" "[I", .fieldLink RX5 22 "RoomRingModel" "owner" "[I", .methodLink RX5 64 yX5_placeOf, .static yX5_placeOf, .code yX5_placeOf cX5_placeOf 1 (some .int)] ++ wsX50)
def wsX5_counted_r1 : List Cond := [Cond.fieldLink RX5 7 "RoomRingModel" "now" "[I", Cond.methodLink RX5 98 yX5_hostMany, Cond.instanceMethod yX5_hostMany, Cond.selects RX5 yX5_hostMany yX5_hostMany, Cond.initialized RX5, Cond.code yX5_hostMany cX5_hostMany 3 (some .int), Cond.methodLink RX5 92 yX5_isHost, Cond.instanceMethod yX5_isHost, Cond.selects RX5 yX5_isHost yX5_isHost, Cond.code yX5_isHost cX5_isHost 2 (some .boolean), Cond.methodLink RX5 149 yX5_marks, Cond.instanceMethod yX5_marks, Cond.selects RX5 yX5_marks yX5_marks, Cond.code yX5_marks cX5_marks 1 (some .int), Cond.methodLink RX5 53 yX5_weights, Cond.instanceMethod yX5_weights, Cond.selects RX5 yX5_weights yX5_weights, Cond.code yX5_weights cX5_weights 3 (some .int), Cond.methodLink RX5 152 yX5_byHosts, Cond.instanceMethod yX5_byHosts, Cond.selects RX5 yX5_byHosts yX5_byHosts, Cond.code yX5_byHosts cX5_byHosts 5 (some .int), Cond.fieldLink RX5 31 "RoomRingModel" "load" "[I", Cond.methodLink RX5 72 yX5_bound]
def wsX5_counted_r2 : List Cond := [Cond.instanceMethod yX5_bound, Cond.selects RX5 yX5_bound yX5_bound, Cond.code yX5_bound cX5_bound 4 (some .int), Cond.methodLink RX5 156 yX5_passedAll, Cond.instanceMethod yX5_passedAll, Cond.selects RX5 yX5_passedAll yX5_passedAll, Cond.code yX5_passedAll cX5_passedAll 3 (some .int), Cond.fieldLink RX5 25 "RoomRingModel" "keyHost" "[I", Cond.methodLink RX5 143 yX5_aboutKey, Cond.instanceMethod yX5_aboutKey, Cond.selects RX5 yX5_aboutKey yX5_aboutKey, Cond.code yX5_aboutKey cX5_aboutKey 7 (some .int), Cond.fieldLink RX5 28 "RoomRingModel" "keyMark" "[I", Cond.fieldLink RX5 22 "RoomRingModel" "owner" "[I", Cond.methodLink RX5 64 yX5_placeOf, Cond.static yX5_placeOf, Cond.code yX5_placeOf cX5_placeOf 1 (some .int)]
def wsX5_counted : List Cond := .code yX5_counted cX5_counted 2 (some .int) :: ((wsX5_counted_r1 ++ wsX5_counted_r2) ++ wsX50)
def wsX5_count_r1 : List Cond := [Cond.methodLink RX5 88 yX5_in, Cond.static yX5_in, Cond.initialized RX5, Cond.code yX5_in cX5_in 3 (some .boolean), Cond.methodLink RX5 159 yX5_counted, Cond.instanceMethod yX5_counted, Cond.selects RX5 yX5_counted yX5_counted, Cond.code yX5_counted cX5_counted 2 (some .int), Cond.fieldLink RX5 7 "RoomRingModel" "now" "[I", Cond.methodLink RX5 98 yX5_hostMany, Cond.instanceMethod yX5_hostMany, Cond.selects RX5 yX5_hostMany yX5_hostMany, Cond.code yX5_hostMany cX5_hostMany 3 (some .int), Cond.methodLink RX5 92 yX5_isHost, Cond.instanceMethod yX5_isHost, Cond.selects RX5 yX5_isHost yX5_isHost, Cond.code yX5_isHost cX5_isHost 2 (some .boolean), Cond.methodLink RX5 149 yX5_marks, Cond.instanceMethod yX5_marks, Cond.selects RX5 yX5_marks yX5_marks, Cond.code yX5_marks cX5_marks 1 (some .int), Cond.methodLink RX5 53 yX5_weights, Cond.instanceMethod yX5_weights, Cond.selects RX5 yX5_weights yX5_weights]
def wsX5_count_r2 : List Cond := [Cond.code yX5_weights cX5_weights 3 (some .int), Cond.methodLink RX5 152 yX5_byHosts, Cond.instanceMethod yX5_byHosts, Cond.selects RX5 yX5_byHosts yX5_byHosts, Cond.code yX5_byHosts cX5_byHosts 5 (some .int), Cond.fieldLink RX5 31 "RoomRingModel" "load" "[I", Cond.methodLink RX5 72 yX5_bound, Cond.instanceMethod yX5_bound, Cond.selects RX5 yX5_bound yX5_bound, Cond.code yX5_bound cX5_bound 4 (some .int), Cond.methodLink RX5 156 yX5_passedAll, Cond.instanceMethod yX5_passedAll, Cond.selects RX5 yX5_passedAll yX5_passedAll, Cond.code yX5_passedAll cX5_passedAll 3 (some .int), Cond.fieldLink RX5 25 "RoomRingModel" "keyHost" "[I", Cond.methodLink RX5 143 yX5_aboutKey, Cond.instanceMethod yX5_aboutKey, Cond.selects RX5 yX5_aboutKey yX5_aboutKey, Cond.code yX5_aboutKey cX5_aboutKey 7 (some .int), Cond.fieldLink RX5 28 "RoomRingModel" "keyMark" "[I", Cond.fieldLink RX5 22 "RoomRingModel" "owner" "[I", Cond.methodLink RX5 64 yX5_placeOf, Cond.static yX5_placeOf, Cond.code yX5_placeOf cX5_placeOf 1 (some .int)]
def wsX5_count_r3 : List Cond := [Cond.methodLink RX5 82 yX5_refuses, Cond.instanceMethod yX5_refuses, Cond.selects RX5 yX5_refuses yX5_refuses, Cond.code yX5_refuses cX5_refuses 2 (some .int), Cond.fieldLink RX5 19 "RoomRingModel" "refused" "[I"]
def wsX5_count : List Cond := .code yX5_count cX5_count 2 (some .int) :: ((wsX5_count_r1 ++ (wsX5_count_r2 ++ wsX5_count_r3)) ++ wsX50)
def wsX5_type : List Cond := .code yX5_type cX5_type 2 (some .int) :: ([.fieldLink RX5 162 "RoomRingModel" "typed" "I", .fieldLink RX5 41 "RoomRingModel" "text" "[I", .methodLink RX5 88 yX5_in, .static yX5_in, .initialized RX5, .code yX5_in cX5_in 3 (some .boolean), .methodLink RX5 82 yX5_refuses, .instanceMethod yX5_refuses, .selects RX5 yX5_refuses yX5_refuses, .code yX5_refuses cX5_refuses 2 (some .int), .fieldLink RX5 19 "RoomRingModel" "refused" "[I"] ++ wsX50)
def wsX5_clear : List Cond := .code yX5_clear cX5_clear 2 (some .int) :: ([.fieldLink RX5 162 "RoomRingModel" "typed" "I"] ++ wsX50)
def wsX5_here : List Cond := .code yX5_here cX5_here 1 (some .int) :: ([.fieldLink RX5 165 "RoomRingModel" "at" "I", .fieldLink RX5 162 "RoomRingModel" "typed" "I", .fieldLink RX5 41 "RoomRingModel" "text" "[I"] ++ wsX50)
def wsX5_must : List Cond := .code yX5_must cX5_must 2 none :: ([.fieldLink RX5 168 "RoomRingModel" "fault" "I", .fieldLink RX5 165 "RoomRingModel" "at" "I"] ++ wsX50)
def wsX5_isFigure : List Cond := .code yX5_isFigure cX5_isFigure 1 (some .boolean) :: ([.fieldLink RX5 165 "RoomRingModel" "at" "I", .fieldLink RX5 162 "RoomRingModel" "typed" "I", .fieldLink RX5 41 "RoomRingModel" "text" "[I", .methodLink RX5 88 yX5_in, .static yX5_in, .initialized RX5, .code yX5_in cX5_in 3 (some .boolean)] ++ wsX50)
def wsX5_number : List Cond := .code yX5_number cX5_number 3 (some .int) :: ([.fieldLink RX5 168 "RoomRingModel" "fault" "I", .fieldLink RX5 41 "RoomRingModel" "text" "[I", .fieldLink RX5 165 "RoomRingModel" "at" "I", .methodLink RX5 171 yX5_here, .instanceMethod yX5_here, .selects RX5 yX5_here yX5_here, .initialized RX5, .code yX5_here cX5_here 1 (some .int), .fieldLink RX5 162 "RoomRingModel" "typed" "I", .methodLink RX5 88 yX5_in, .static yX5_in, .code yX5_in cX5_in 3 (some .boolean), .methodLink RX5 174 yX5_must, .instanceMethod yX5_must, .selects RX5 yX5_must yX5_must, .code yX5_must cX5_must 2 none, .methodLink RX5 178 yX5_isFigure, .instanceMethod yX5_isFigure, .selects RX5 yX5_isFigure yX5_isFigure, .code yX5_isFigure cX5_isFigure 1 (some .boolean)] ++ wsX50)
def wsX5_numbersOf : List Cond := .code yX5_numbersOf cX5_numbersOf 1 (some .int) :: ([])
def wsX5_readOrder_r1 : List Cond := [Cond.fieldLink RX5 168 "RoomRingModel" "fault" "I", Cond.fieldLink RX5 47 "RoomRingModel" "numbers" "[I", Cond.fieldLink RX5 185 "RoomRingModel" "orders" "I", Cond.fieldLink RX5 44 "RoomRingModel" "letters" "[I", Cond.methodLink RX5 171 yX5_here, Cond.instanceMethod yX5_here, Cond.selects RX5 yX5_here yX5_here, Cond.initialized RX5, Cond.code yX5_here cX5_here 1 (some .int), Cond.fieldLink RX5 165 "RoomRingModel" "at" "I", Cond.fieldLink RX5 162 "RoomRingModel" "typed" "I", Cond.fieldLink RX5 41 "RoomRingModel" "text" "[I", Cond.methodLink RX5 182 yX5_numbersOf, Cond.static yX5_numbersOf, Cond.code yX5_numbersOf cX5_numbersOf 1 (some .int), Cond.methodLink RX5 174 yX5_must, Cond.instanceMethod yX5_must, Cond.selects RX5 yX5_must yX5_must, Cond.code yX5_must cX5_must 2 none, Cond.methodLink RX5 188 yX5_number, Cond.instanceMethod yX5_number, Cond.selects RX5 yX5_number yX5_number, Cond.code yX5_number cX5_number 3 (some .int), Cond.methodLink RX5 88 yX5_in]
def wsX5_readOrder_r2 : List Cond := [Cond.static yX5_in, Cond.code yX5_in cX5_in 3 (some .boolean), Cond.methodLink RX5 178 yX5_isFigure, Cond.instanceMethod yX5_isFigure, Cond.selects RX5 yX5_isFigure yX5_isFigure, Cond.code yX5_isFigure cX5_isFigure 1 (some .boolean)]
def wsX5_readOrder : List Cond := .code yX5_readOrder cX5_readOrder 4 none :: ((wsX5_readOrder_r1 ++ wsX5_readOrder_r2) ++ wsX50)
def wsX5_doOrder_r1 : List Cond := [Cond.fieldLink RX5 47 "RoomRingModel" "numbers" "[I", Cond.fieldLink RX5 44 "RoomRingModel" "letters" "[I", Cond.methodLink RX5 113 yX5_doHost, Cond.instanceMethod yX5_doHost, Cond.selects RX5 yX5_doHost yX5_doHost, Cond.initialized RX5, Cond.code yX5_doHost cX5_doHost 3 (some .int), Cond.fieldLink RX5 7 "RoomRingModel" "now" "[I", Cond.methodLink RX5 95 yX5_isName, Cond.static yX5_isName, Cond.code yX5_isName cX5_isName 1 (some .boolean), Cond.methodLink RX5 88 yX5_in, Cond.static yX5_in, Cond.code yX5_in cX5_in 3 (some .boolean), Cond.methodLink RX5 92 yX5_isHost, Cond.instanceMethod yX5_isHost, Cond.selects RX5 yX5_isHost yX5_isHost, Cond.code yX5_isHost cX5_isHost 2 (some .boolean), Cond.methodLink RX5 98 yX5_hostMany, Cond.instanceMethod yX5_hostMany, Cond.selects RX5 yX5_hostMany yX5_hostMany, Cond.code yX5_hostMany cX5_hostMany 3 (some .int), Cond.methodLink RX5 119 yX5_doWeighs, Cond.instanceMethod yX5_doWeighs]
def wsX5_doOrder_r2 : List Cond := [Cond.selects RX5 yX5_doWeighs yX5_doWeighs, Cond.code yX5_doWeighs cX5_doWeighs 3 (some .int), Cond.methodLink RX5 122 yX5_doGoes, Cond.instanceMethod yX5_doGoes, Cond.selects RX5 yX5_doGoes yX5_doGoes, Cond.code yX5_doGoes cX5_doGoes 2 (some .int), Cond.methodLink RX5 125 yX5_doKey, Cond.instanceMethod yX5_doKey, Cond.selects RX5 yX5_doKey yX5_doKey, Cond.code yX5_doKey cX5_doKey 4 (some .int), Cond.methodLink RX5 107 yX5_mayCome, Cond.instanceMethod yX5_mayCome, Cond.selects RX5 yX5_mayCome yX5_mayCome, Cond.code yX5_mayCome cX5_mayCome 2 (some .int), Cond.methodLink RX5 101 yX5_isKey, Cond.static yX5_isKey, Cond.code yX5_isKey cX5_isKey 1 (some .boolean), Cond.methodLink RX5 104 yX5_rowOf, Cond.instanceMethod yX5_rowOf, Cond.selects RX5 yX5_rowOf yX5_rowOf, Cond.code yX5_rowOf cX5_rowOf 4 (some .int), Cond.methodLink RX5 128 yX5_doDrops, Cond.instanceMethod yX5_doDrops, Cond.selects RX5 yX5_doDrops yX5_doDrops]
def wsX5_doOrder_r3 : List Cond := [Cond.code yX5_doDrops cX5_doDrops 4 (some .int), Cond.methodLink RX5 131 yX5_doExtra, Cond.instanceMethod yX5_doExtra, Cond.selects RX5 yX5_doExtra yX5_doExtra, Cond.code yX5_doExtra cX5_doExtra 2 (some .int)]
def wsX5_doOrder : List Cond := .code yX5_doOrder cX5_doOrder 4 (some .int) :: ((wsX5_doOrder_r1 ++ (wsX5_doOrder_r2 ++ wsX5_doOrder_r3)) ++ wsX50)
def wsX5_does_r1 : List Cond := [Cond.fieldLink RX5 165 "RoomRingModel" "at" "I", Cond.fieldLink RX5 168 "RoomRingModel" "fault" "I", Cond.fieldLink RX5 185 "RoomRingModel" "orders" "I", Cond.fieldLink RX5 162 "RoomRingModel" "typed" "I", Cond.methodLink RX5 171 yX5_here, Cond.instanceMethod yX5_here, Cond.selects RX5 yX5_here yX5_here, Cond.initialized RX5, Cond.code yX5_here cX5_here 1 (some .int), Cond.fieldLink RX5 41 "RoomRingModel" "text" "[I", Cond.methodLink RX5 191 yX5_readOrder, Cond.instanceMethod yX5_readOrder, Cond.selects RX5 yX5_readOrder yX5_readOrder, Cond.code yX5_readOrder cX5_readOrder 4 none, Cond.fieldLink RX5 47 "RoomRingModel" "numbers" "[I", Cond.fieldLink RX5 44 "RoomRingModel" "letters" "[I", Cond.methodLink RX5 182 yX5_numbersOf, Cond.static yX5_numbersOf, Cond.code yX5_numbersOf cX5_numbersOf 1 (some .int), Cond.methodLink RX5 174 yX5_must, Cond.instanceMethod yX5_must, Cond.selects RX5 yX5_must yX5_must, Cond.code yX5_must cX5_must 2 none, Cond.methodLink RX5 188 yX5_number]
def wsX5_does_r2 : List Cond := [Cond.instanceMethod yX5_number, Cond.selects RX5 yX5_number yX5_number, Cond.code yX5_number cX5_number 3 (some .int), Cond.methodLink RX5 88 yX5_in, Cond.static yX5_in, Cond.code yX5_in cX5_in 3 (some .boolean), Cond.methodLink RX5 178 yX5_isFigure, Cond.instanceMethod yX5_isFigure, Cond.selects RX5 yX5_isFigure yX5_isFigure, Cond.code yX5_isFigure cX5_isFigure 1 (some .boolean), Cond.methodLink RX5 110 yX5_hold, Cond.instanceMethod yX5_hold, Cond.selects RX5 yX5_hold yX5_hold, Cond.code yX5_hold cX5_hold 2 none, Cond.fieldLink RX5 13 "RoomRingModel" "held" "[I", Cond.fieldLink RX5 7 "RoomRingModel" "now" "[I", Cond.fieldLink RX5 34 "RoomRingModel" "heldHost" "[I", Cond.fieldLink RX5 25 "RoomRingModel" "keyHost" "[I", Cond.methodLink RX5 194 yX5_doOrder, Cond.instanceMethod yX5_doOrder, Cond.selects RX5 yX5_doOrder yX5_doOrder, Cond.code yX5_doOrder cX5_doOrder 4 (some .int), Cond.methodLink RX5 113 yX5_doHost, Cond.instanceMethod yX5_doHost]
def wsX5_does_r3 : List Cond := [Cond.selects RX5 yX5_doHost yX5_doHost, Cond.code yX5_doHost cX5_doHost 3 (some .int), Cond.methodLink RX5 95 yX5_isName, Cond.static yX5_isName, Cond.code yX5_isName cX5_isName 1 (some .boolean), Cond.methodLink RX5 92 yX5_isHost, Cond.instanceMethod yX5_isHost, Cond.selects RX5 yX5_isHost yX5_isHost, Cond.code yX5_isHost cX5_isHost 2 (some .boolean), Cond.methodLink RX5 98 yX5_hostMany, Cond.instanceMethod yX5_hostMany, Cond.selects RX5 yX5_hostMany yX5_hostMany, Cond.code yX5_hostMany cX5_hostMany 3 (some .int), Cond.methodLink RX5 119 yX5_doWeighs, Cond.instanceMethod yX5_doWeighs, Cond.selects RX5 yX5_doWeighs yX5_doWeighs, Cond.code yX5_doWeighs cX5_doWeighs 3 (some .int), Cond.methodLink RX5 122 yX5_doGoes, Cond.instanceMethod yX5_doGoes, Cond.selects RX5 yX5_doGoes yX5_doGoes, Cond.code yX5_doGoes cX5_doGoes 2 (some .int), Cond.methodLink RX5 125 yX5_doKey, Cond.instanceMethod yX5_doKey, Cond.selects RX5 yX5_doKey yX5_doKey]
def wsX5_does_r4 : List Cond := [Cond.code yX5_doKey cX5_doKey 4 (some .int), Cond.methodLink RX5 107 yX5_mayCome, Cond.instanceMethod yX5_mayCome, Cond.selects RX5 yX5_mayCome yX5_mayCome, Cond.code yX5_mayCome cX5_mayCome 2 (some .int), Cond.methodLink RX5 101 yX5_isKey, Cond.static yX5_isKey, Cond.code yX5_isKey cX5_isKey 1 (some .boolean), Cond.methodLink RX5 104 yX5_rowOf, Cond.instanceMethod yX5_rowOf, Cond.selects RX5 yX5_rowOf yX5_rowOf, Cond.code yX5_rowOf cX5_rowOf 4 (some .int), Cond.methodLink RX5 128 yX5_doDrops, Cond.instanceMethod yX5_doDrops, Cond.selects RX5 yX5_doDrops yX5_doDrops, Cond.code yX5_doDrops cX5_doDrops 4 (some .int), Cond.methodLink RX5 131 yX5_doExtra, Cond.instanceMethod yX5_doExtra, Cond.selects RX5 yX5_doExtra yX5_doExtra, Cond.code yX5_doExtra cX5_doExtra 2 (some .int), Cond.methodLink RX5 146 yX5_release, Cond.instanceMethod yX5_release, Cond.selects RX5 yX5_release yX5_release, Cond.code yX5_release cX5_release 2 none]
def wsX5_does_r5 : List Cond := [Cond.methodLink RX5 85 yX5_push, Cond.instanceMethod yX5_push, Cond.selects RX5 yX5_push yX5_push, Cond.code yX5_push cX5_push 2 none, Cond.fieldLink RX5 78 "RoomRingModel" "pasts" "I", Cond.fieldLink RX5 16 "RoomRingModel" "past" "[I", Cond.methodLink RX5 50 yX5_lay, Cond.instanceMethod yX5_lay, Cond.selects RX5 yX5_lay yX5_lay, Cond.code yX5_lay cX5_lay 5 none, Cond.fieldLink RX5 31 "RoomRingModel" "load" "[I", Cond.fieldLink RX5 22 "RoomRingModel" "owner" "[I", Cond.fieldLink RX5 28 "RoomRingModel" "keyMark" "[I", Cond.methodLink RX5 61 yX5_layMarks, Cond.instanceMethod yX5_layMarks, Cond.selects RX5 yX5_layMarks yX5_layMarks, Cond.code yX5_layMarks cX5_layMarks 4 none, Cond.methodLink RX5 57 yX5_first, Cond.static yX5_first, Cond.code yX5_first cX5_first 2 (some .int), Cond.methodLink RX5 53 yX5_weights, Cond.instanceMethod yX5_weights, Cond.selects RX5 yX5_weights yX5_weights, Cond.code yX5_weights cX5_weights 3 (some .int)]
def wsX5_does_r6 : List Cond := [Cond.methodLink RX5 64 yX5_placeOf, Cond.static yX5_placeOf, Cond.code yX5_placeOf cX5_placeOf 1 (some .int), Cond.methodLink RX5 68 yX5_isRoom, Cond.instanceMethod yX5_isRoom, Cond.selects RX5 yX5_isRoom yX5_isRoom, Cond.code yX5_isRoom cX5_isRoom 3 (some .boolean), Cond.methodLink RX5 72 yX5_bound, Cond.instanceMethod yX5_bound, Cond.selects RX5 yX5_bound yX5_bound, Cond.code yX5_bound cX5_bound 4 (some .int), Cond.methodLink RX5 75 yX5_moved, Cond.instanceMethod yX5_moved, Cond.selects RX5 yX5_moved yX5_moved, Cond.code yX5_moved cX5_moved 4 (some .int)]
def wsX5_does : List Cond := .code yX5_does cX5_does 2 (some .int) :: ((wsX5_does_r1 ++ (wsX5_does_r2 ++ (wsX5_does_r3 ++ (wsX5_does_r4 ++ (wsX5_does_r5 ++ wsX5_does_r6))))) ++ wsX50)
def wsX5_toldOf : List Cond := .code yX5_toldOf cX5_toldOf 2 (some .int) :: ([.fieldLink RX5 19 "RoomRingModel" "refused" "[I", .fieldLink RX5 162 "RoomRingModel" "typed" "I", .fieldLink RX5 78 "RoomRingModel" "pasts" "I"] ++ wsX50)
def wsX5_told : List Cond := .code yX5_told cX5_told 2 (some .int) :: ([.methodLink RX5 88 yX5_in, .static yX5_in, .initialized RX5, .code yX5_in cX5_in 3 (some .boolean), .methodLink RX5 197 yX5_toldOf, .instanceMethod yX5_toldOf, .selects RX5 yX5_toldOf yX5_toldOf, .code yX5_toldOf cX5_toldOf 2 (some .int), .fieldLink RX5 19 "RoomRingModel" "refused" "[I", .fieldLink RX5 162 "RoomRingModel" "typed" "I", .fieldLink RX5 78 "RoomRingModel" "pasts" "I", .methodLink RX5 82 yX5_refuses, .instanceMethod yX5_refuses, .selects RX5 yX5_refuses yX5_refuses, .code yX5_refuses cX5_refuses 2 (some .int)] ++ wsX50)
def wsX5_mix : List Cond := .code yX5_mix cX5_mix 2 none :: ([.constantLong RX5 200 (31), .fieldLink RX5 202 "RoomRingModel" "h" "J"] ++ wsX50)
def wsX5_digest_r1 : List Cond := [Cond.constantLong RX5 206 (2820), Cond.fieldLink RX5 202 "RoomRingModel" "h" "J", Cond.fieldLink RX5 22 "RoomRingModel" "owner" "[I", Cond.fieldLink RX5 7 "RoomRingModel" "now" "[I", Cond.fieldLink RX5 25 "RoomRingModel" "keyHost" "[I", Cond.methodLink RX5 197 yX5_toldOf, Cond.instanceMethod yX5_toldOf, Cond.selects RX5 yX5_toldOf yX5_toldOf, Cond.initialized RX5, Cond.code yX5_toldOf cX5_toldOf 2 (some .int), Cond.fieldLink RX5 19 "RoomRingModel" "refused" "[I", Cond.fieldLink RX5 162 "RoomRingModel" "typed" "I", Cond.fieldLink RX5 78 "RoomRingModel" "pasts" "I", Cond.methodLink RX5 208 yX5_mix, Cond.instanceMethod yX5_mix, Cond.selects RX5 yX5_mix yX5_mix, Cond.code yX5_mix cX5_mix 2 none, Cond.constantLong RX5 200 (31), Cond.methodLink RX5 159 yX5_counted, Cond.instanceMethod yX5_counted, Cond.selects RX5 yX5_counted yX5_counted, Cond.code yX5_counted cX5_counted 2 (some .int), Cond.methodLink RX5 98 yX5_hostMany, Cond.instanceMethod yX5_hostMany]
def wsX5_digest_r2 : List Cond := [Cond.selects RX5 yX5_hostMany yX5_hostMany, Cond.code yX5_hostMany cX5_hostMany 3 (some .int), Cond.methodLink RX5 92 yX5_isHost, Cond.instanceMethod yX5_isHost, Cond.selects RX5 yX5_isHost yX5_isHost, Cond.code yX5_isHost cX5_isHost 2 (some .boolean), Cond.methodLink RX5 149 yX5_marks, Cond.instanceMethod yX5_marks, Cond.selects RX5 yX5_marks yX5_marks, Cond.code yX5_marks cX5_marks 1 (some .int), Cond.methodLink RX5 53 yX5_weights, Cond.instanceMethod yX5_weights, Cond.selects RX5 yX5_weights yX5_weights, Cond.code yX5_weights cX5_weights 3 (some .int), Cond.methodLink RX5 152 yX5_byHosts, Cond.instanceMethod yX5_byHosts, Cond.selects RX5 yX5_byHosts yX5_byHosts, Cond.code yX5_byHosts cX5_byHosts 5 (some .int), Cond.fieldLink RX5 31 "RoomRingModel" "load" "[I", Cond.methodLink RX5 72 yX5_bound, Cond.instanceMethod yX5_bound, Cond.selects RX5 yX5_bound yX5_bound, Cond.code yX5_bound cX5_bound 4 (some .int), Cond.methodLink RX5 156 yX5_passedAll]
def wsX5_digest_r3 : List Cond := [Cond.instanceMethod yX5_passedAll, Cond.selects RX5 yX5_passedAll yX5_passedAll, Cond.code yX5_passedAll cX5_passedAll 3 (some .int), Cond.methodLink RX5 143 yX5_aboutKey, Cond.instanceMethod yX5_aboutKey, Cond.selects RX5 yX5_aboutKey yX5_aboutKey, Cond.code yX5_aboutKey cX5_aboutKey 7 (some .int), Cond.fieldLink RX5 28 "RoomRingModel" "keyMark" "[I", Cond.methodLink RX5 64 yX5_placeOf, Cond.static yX5_placeOf, Cond.code yX5_placeOf cX5_placeOf 1 (some .int), Cond.methodLink RX5 134 yX5_ofHost, Cond.instanceMethod yX5_ofHost, Cond.selects RX5 yX5_ofHost yX5_ofHost, Cond.code yX5_ofHost cX5_ofHost 5 (some .int)]
def wsX5_digest : List Cond := .code yX5_digest cX5_digest 3 (some .long) :: ((wsX5_digest_r1 ++ (wsX5_digest_r2 ++ wsX5_digest_r3)) ++ wsX50)
def wsJ9_max_7cf53 : List Cond := .code yJ9_max_7cf53 cJ9_max_7cf53 2 (some .int) :: ([])
def wsL_law_r1 : List Cond := [Cond.classLink RL 7 RX4, Cond.instantiable RX4 7, Cond.initialized RX4, Cond.classLink RL 10 RX5, Cond.instantiable RX5 19, Cond.initialized RX5, Cond.methodLink RL 9 yX4_init, Cond.instanceMethod yX4_init, Cond.code yX4_init cX4_init 1 none, Cond.methodLink RX4 3 objectInit, Cond.instanceMethod objectInit, Cond.code objectInit ⟨#[0xb1]⟩ 1 none, Cond.classLink RX4 9 RX1, Cond.instantiable RX1 8, Cond.initialized RX1, Cond.fieldLink RX4 12 "RoomRing" "now" "LRoomRing$Ring;", Cond.fieldLink RX4 16 "RoomRing" "draft" "LRoomRing$Ring;", Cond.classLink RX4 19 RX0, Cond.instantiable RX0 2, Cond.initialized RX0, Cond.fieldLink RX4 22 "RoomRing" "history" "LRoomRing$History;", Cond.classLink RX4 26 RX2, Cond.instantiable RX2 10, Cond.initialized RX2]
def wsL_law_r2 : List Cond := [Cond.fieldLink RX4 29 "RoomRing" "script" "LRoomRing$Script;", Cond.fieldLink RX4 33 "RoomRing" "refusedBad" "I", Cond.fieldLink RX4 37 "RoomRing" "refusedNo" "I", Cond.fieldLink RX4 40 "RoomRing" "refusedFull" "I", Cond.methodLink RX4 11 yX1_init, Cond.instanceMethod yX1_init, Cond.code yX1_init cX1_init 1 none, Cond.methodLink RX1 3 objectInit, Cond.classLink RX1 9 RX3, Cond.instantiable RX3 7, Cond.initialized RX3, Cond.fieldLink RX1 12 "RoomRing$Ring" "stock" "LRoomRing$Stock;", Cond.arrayClass .int, Cond.fieldLink RX1 18 "RoomRing$Ring" "owners" "[I", Cond.fieldLink RX1 22 "RoomRing$Ring" "markPlaces" "[I", Cond.fieldLink RX1 25 "RoomRing$Ring" "bounds" "[I", Cond.fieldLink RX1 28 "RoomRing$Ring" "loads" "[I", Cond.fieldLink RX1 31 "RoomRing$Ring" "keyHosts" "[I", Cond.fieldLink RX1 34 "RoomRing$Ring" "passed" "[I", Cond.fieldLink RX1 37 "RoomRing$Ring" "far" "[I", Cond.instanceMethod yX3_init, Cond.code yX3_init cX3_init 1 none, Cond.methodLink RX3 3 objectInit, Cond.fieldLink RX3 9 "RoomRing$Stock" "names" "[I"]
def wsL_law_r3 : List Cond := [Cond.fieldLink RX3 15 "RoomRing$Stock" "weights" "[I", Cond.fieldLink RX3 18 "RoomRing$Stock" "keys" "[I", Cond.fieldLink RX3 21 "RoomRing$Stock" "hostCount" "I", Cond.fieldLink RX3 25 "RoomRing$Stock" "keyCount" "I", Cond.fieldLink RX3 28 "RoomRing$Stock" "extraShare" "I", Cond.fieldLink RX3 31 "RoomRing$Stock" "moved" "I", Cond.methodLink RX1 40 yX1_lay, Cond.instanceMethod yX1_lay, Cond.selects RX1 yX1_lay yX1_lay, Cond.code yX1_lay cX1_lay 2 none, Cond.fieldLink RX1 49 "RoomRing$Stock" "keyCount" "I", Cond.methodLink RX1 43 yX1_setMarks, Cond.instanceMethod yX1_setMarks, Cond.selects RX1 yX1_setMarks yX1_setMarks, Cond.code yX1_setMarks cX1_setMarks 5 none, Cond.fieldLink RX1 57 "RoomRing$Stock" "hostCount" "I", Cond.fieldLink RX1 60 "RoomRing$Stock" "weights" "[I", Cond.fieldLink RX1 63 "RoomRing$Stock" "names" "[I", Cond.methodLink RX1 66 yX1_freePlaceFrom, Cond.instanceMethod yX1_freePlaceFrom, Cond.selects RX1 yX1_freePlaceFrom yX1_freePlaceFrom, Cond.code yX1_freePlaceFrom cX1_freePlaceFrom 4 (some .int), Cond.methodLink RX1 70 yX1_placeBehind, Cond.static yX1_placeBehind]
def wsL_law_r4 : List Cond := [Cond.code yX1_placeBehind cX1_placeBehind 1 (some .int), Cond.methodLink RX1 46 yX1_setBounds, Cond.instanceMethod yX1_setBounds, Cond.selects RX1 yX1_setBounds yX1_setBounds, Cond.code yX1_setBounds cX1_setBounds 4 none, Cond.fieldLink RX1 77 "RoomRing$Stock" "extraShare" "I", Cond.methodLink RX1 73 yX3_allWeights, Cond.instanceMethod yX3_allWeights, Cond.selects RX3 yX3_allWeights yX3_allWeights, Cond.code yX3_allWeights cX3_allWeights 3 (some .int), Cond.methodLink RX1 53 yX1_layKey, Cond.instanceMethod yX1_layKey, Cond.selects RX1 yX1_layKey yX1_layKey, Cond.code yX1_layKey cX1_layKey 6 none, Cond.methodLink RX1 80 yX1_placeOfKey, Cond.instanceMethod yX1_placeOfKey, Cond.selects RX1 yX1_placeOfKey yX1_placeOfKey, Cond.code yX1_placeOfKey cX1_placeOfKey 2 (some .int), Cond.fieldLink RX1 83 "RoomRing$Stock" "keys" "[I", Cond.methodLink RX4 21 yX0_init, Cond.instanceMethod yX0_init, Cond.code yX0_init cX0_init 2 none, Cond.methodLink RX0 3 objectInit, Cond.classLink RX0 9 RX3]
def wsL_law_r5 : List Cond := [Cond.fieldLink RX0 11 "RoomRing$History" "states" "[LRoomRing$Stock;", Cond.fieldLink RX0 17 "RoomRing$History" "size" "I", Cond.instanceMethod yX2_init, Cond.code yX2_init cX2_init 1 none, Cond.methodLink RX2 3 objectInit, Cond.fieldLink RX2 9 "RoomRing$Script" "bytes" "[I", Cond.fieldLink RX2 15 "RoomRing$Script" "length" "I", Cond.fieldLink RX2 19 "RoomRing$Script" "letters" "[I", Cond.fieldLink RX2 22 "RoomRing$Script" "firsts" "[I", Cond.fieldLink RX2 25 "RoomRing$Script" "seconds" "[I", Cond.fieldLink RX2 28 "RoomRing$Script" "orderCount" "I", Cond.fieldLink RX2 31 "RoomRing$Script" "awaited" "I", Cond.fieldLink RX2 34 "RoomRing$Script" "numbersRead" "I", Cond.fieldLink RX2 37 "RoomRing$Script" "figures" "I", Cond.fieldLink RX2 40 "RoomRing$Script" "number" "I", Cond.methodLink RL 12 yX5_init, Cond.instanceMethod yX5_init, Cond.code yX5_init cX5_init 1 none, Cond.methodLink RX5 1 objectInit, Cond.fieldLink RX5 7 "RoomRingModel" "now" "[I", Cond.fieldLink RX5 13 "RoomRingModel" "held" "[I", Cond.fieldLink RX5 16 "RoomRingModel" "past" "[I", Cond.fieldLink RX5 19 "RoomRingModel" "refused" "[I", Cond.fieldLink RX5 22 "RoomRingModel" "owner" "[I"]
def wsL_law_r6 : List Cond := [Cond.fieldLink RX5 25 "RoomRingModel" "keyHost" "[I", Cond.fieldLink RX5 28 "RoomRingModel" "keyMark" "[I", Cond.fieldLink RX5 31 "RoomRingModel" "load" "[I", Cond.fieldLink RX5 34 "RoomRingModel" "heldHost" "[I", Cond.arrayClass .boolean, Cond.fieldLink RX5 37 "RoomRingModel" "taken" "[Z", Cond.fieldLink RX5 41 "RoomRingModel" "text" "[I", Cond.fieldLink RX5 44 "RoomRingModel" "letters" "[I", Cond.fieldLink RX5 47 "RoomRingModel" "numbers" "[I", Cond.methodLink RX5 50 yX5_lay, Cond.instanceMethod yX5_lay, Cond.selects RX5 yX5_lay yX5_lay, Cond.code yX5_lay cX5_lay 5 none, Cond.methodLink RX5 61 yX5_layMarks, Cond.instanceMethod yX5_layMarks, Cond.selects RX5 yX5_layMarks yX5_layMarks, Cond.code yX5_layMarks cX5_layMarks 4 none, Cond.methodLink RX5 57 yX5_first, Cond.static yX5_first, Cond.code yX5_first cX5_first 2 (some .int), Cond.methodLink RX5 53 yX5_weights, Cond.instanceMethod yX5_weights, Cond.selects RX5 yX5_weights yX5_weights, Cond.code yX5_weights cX5_weights 3 (some .int)]
def wsL_law_r7 : List Cond := [Cond.methodLink RX5 64 yX5_placeOf, Cond.static yX5_placeOf, Cond.code yX5_placeOf cX5_placeOf 1 (some .int), Cond.methodLink RX5 68 yX5_isRoom, Cond.instanceMethod yX5_isRoom, Cond.selects RX5 yX5_isRoom yX5_isRoom, Cond.code yX5_isRoom cX5_isRoom 3 (some .boolean), Cond.methodLink RX5 72 yX5_bound, Cond.instanceMethod yX5_bound, Cond.selects RX5 yX5_bound yX5_bound, Cond.code yX5_bound cX5_bound 4 (some .int), Cond.methodLink RL 13 yX4_host, Cond.instanceMethod yX4_host, Cond.selects RX4 yX4_host yX4_host, Cond.code yX4_host cX4_host 3 (some .int), Cond.methodLink RX4 43 yX4_tellOne, Cond.instanceMethod yX4_tellOne, Cond.selects RX4 yX4_tellOne yX4_tellOne, Cond.code yX4_tellOne cX4_tellOne 5 (some .int), Cond.fieldLink RX4 58 "RoomRing$Ring" "stock" "LRoomRing$Stock;", Cond.fieldLink RX4 116 "RoomRing$Stock" "moved" "I", Cond.methodLink RX4 137 yX3_copyFrom, Cond.instanceMethod yX3_copyFrom, Cond.selects RX3 yX3_copyFrom yX3_copyFrom]
def wsL_law_r8 : List Cond := [Cond.code yX3_copyFrom cX3_copyFrom 2 none, Cond.methodLink RX3 34 arraycopyName, Cond.native arraycopyName, Cond.static arraycopyName, Cond.initialized "java/lang/System", Cond.methodLink RX4 153 yX3_take, Cond.instanceMethod yX3_take, Cond.selects RX3 yX3_take yX3_take, Cond.code yX3_take cX3_take 4 (some .int), Cond.methodLink RX3 40 yX3_addHost, Cond.instanceMethod yX3_addHost, Cond.selects RX3 yX3_addHost yX3_addHost, Cond.code yX3_addHost cX3_addHost 4 (some .int), Cond.static yX4_isName, Cond.code yX4_isName cX4_isName 1 (some .boolean), Cond.static yX4_isWeight, Cond.code yX4_isWeight cX4_isWeight 1 (some .boolean), Cond.methodLink RX3 67 yX3_findHost, Cond.instanceMethod yX3_findHost, Cond.selects RX3 yX3_findHost yX3_findHost, Cond.code yX3_findHost cX3_findHost 3 (some .int), Cond.methodLink RX3 44 yX3_weighAnew, Cond.instanceMethod yX3_weighAnew, Cond.selects RX3 yX3_weighAnew yX3_weighAnew]
def wsL_law_r9 : List Cond := [Cond.code yX3_weighAnew cX3_weighAnew 4 (some .int), Cond.methodLink RX3 47 yX3_removeHost, Cond.instanceMethod yX3_removeHost, Cond.selects RX3 yX3_removeHost yX3_removeHost, Cond.code yX3_removeHost cX3_removeHost 4 (some .int), Cond.methodLink RX3 51 yX3_addKey, Cond.instanceMethod yX3_addKey, Cond.selects RX3 yX3_addKey yX3_addKey, Cond.code yX3_addKey cX3_addKey 3 (some .int), Cond.static yX4_isKey, Cond.code yX4_isKey cX4_isKey 1 (some .boolean), Cond.methodLink RX3 73 yX3_findKey, Cond.instanceMethod yX3_findKey, Cond.selects RX3 yX3_findKey yX3_findKey, Cond.code yX3_findKey cX3_findKey 3 (some .int), Cond.methodLink RX3 54 yX3_removeKey, Cond.instanceMethod yX3_removeKey, Cond.selects RX3 yX3_removeKey yX3_removeKey, Cond.code yX3_removeKey cX3_removeKey 4 (some .int), Cond.methodLink RX3 57 yX3_changeExtra, Cond.instanceMethod yX3_changeExtra, Cond.selects RX3 yX3_changeExtra yX3_changeExtra, Cond.code yX3_changeExtra cX3_changeExtra 2 (some .int), Cond.methodLink RX4 55 yX4_refuse]
def wsL_law_r10 : List Cond := [Cond.instanceMethod yX4_refuse, Cond.selects RX4 yX4_refuse yX4_refuse, Cond.code yX4_refuse cX4_refuse 2 (some .int), Cond.methodLink RX4 156 yX4_keepDraft, Cond.instanceMethod yX4_keepDraft, Cond.selects RX4 yX4_keepDraft yX4_keepDraft, Cond.code yX4_keepDraft cX4_keepDraft 2 none, Cond.methodLink RX4 165 yX1_lay, Cond.methodLink RX4 99 yX1_movedSince, Cond.instanceMethod yX1_movedSince, Cond.selects RX1 yX1_movedSince yX1_movedSince, Cond.code yX1_movedSince cX1_movedSince 6 (some .int), Cond.methodLink RX1 89 yX3_nameOf, Cond.instanceMethod yX3_nameOf, Cond.selects RX3 yX3_nameOf yX3_nameOf, Cond.code yX3_nameOf cX3_nameOf 2 (some .int), Cond.methodLink RX1 86 yX3_findKey, Cond.methodLink RX1 92 yX1_hostNameOfKey, Cond.instanceMethod yX1_hostNameOfKey, Cond.selects RX1 yX1_hostNameOfKey yX1_hostNameOfKey, Cond.code yX1_hostNameOfKey cX1_hostNameOfKey 3 (some .int), Cond.methodLink RX4 194 yX0_keep, Cond.instanceMethod yX0_keep, Cond.selects RX0 yX0_keep yX0_keep]
def wsL_law_r11 : List Cond := [Cond.code yX0_keep cX0_keep 2 none, Cond.methodLink RX0 22 yX0_forgetOldest, Cond.instanceMethod yX0_forgetOldest, Cond.selects RX0 yX0_forgetOldest yX0_forgetOldest, Cond.code yX0_forgetOldest cX0_forgetOldest 3 none, Cond.methodLink RX0 25 yX3_copyFrom, Cond.methodLink RL 17 yX5_host, Cond.instanceMethod yX5_host, Cond.selects RX5 yX5_host yX5_host, Cond.code yX5_host cX5_host 3 (some .int), Cond.methodLink RX5 110 yX5_hold, Cond.instanceMethod yX5_hold, Cond.selects RX5 yX5_hold yX5_hold, Cond.code yX5_hold cX5_hold 2 none, Cond.methodLink RX5 113 yX5_doHost, Cond.instanceMethod yX5_doHost, Cond.selects RX5 yX5_doHost yX5_doHost, Cond.code yX5_doHost cX5_doHost 3 (some .int), Cond.methodLink RX5 95 yX5_isName, Cond.static yX5_isName, Cond.code yX5_isName cX5_isName 1 (some .boolean), Cond.methodLink RX5 88 yX5_in, Cond.static yX5_in, Cond.code yX5_in cX5_in 3 (some .boolean)]
def wsL_law_r12 : List Cond := [Cond.methodLink RX5 92 yX5_isHost, Cond.instanceMethod yX5_isHost, Cond.selects RX5 yX5_isHost yX5_isHost, Cond.code yX5_isHost cX5_isHost 2 (some .boolean), Cond.methodLink RX5 98 yX5_hostMany, Cond.instanceMethod yX5_hostMany, Cond.selects RX5 yX5_hostMany yX5_hostMany, Cond.code yX5_hostMany cX5_hostMany 3 (some .int), Cond.methodLink RX5 116 yX5_ends, Cond.instanceMethod yX5_ends, Cond.selects RX5 yX5_ends yX5_ends, Cond.code yX5_ends cX5_ends 2 (some .int), Cond.methodLink RX5 82 yX5_refuses, Cond.instanceMethod yX5_refuses, Cond.selects RX5 yX5_refuses yX5_refuses, Cond.code yX5_refuses cX5_refuses 2 (some .int), Cond.methodLink RX5 85 yX5_push, Cond.instanceMethod yX5_push, Cond.selects RX5 yX5_push yX5_push, Cond.code yX5_push cX5_push 2 none, Cond.fieldLink RX5 78 "RoomRingModel" "pasts" "I", Cond.methodLink RX5 75 yX5_moved, Cond.instanceMethod yX5_moved, Cond.selects RX5 yX5_moved yX5_moved]
def wsL_law_r13 : List Cond := [Cond.code yX5_moved cX5_moved 4 (some .int), Cond.methodLink RL 18 yX4_weighs, Cond.instanceMethod yX4_weighs, Cond.selects RX4 yX4_weighs yX4_weighs, Cond.code yX4_weighs cX4_weighs 3 (some .int), Cond.methodLink RL 21 yX5_weighs, Cond.instanceMethod yX5_weighs, Cond.selects RX5 yX5_weighs yX5_weighs, Cond.code yX5_weighs cX5_weighs 3 (some .int), Cond.methodLink RX5 119 yX5_doWeighs, Cond.instanceMethod yX5_doWeighs, Cond.selects RX5 yX5_doWeighs yX5_doWeighs, Cond.code yX5_doWeighs cX5_doWeighs 3 (some .int), Cond.methodLink RL 22 yX4_goes, Cond.instanceMethod yX4_goes, Cond.selects RX4 yX4_goes yX4_goes, Cond.code yX4_goes cX4_goes 2 (some .int), Cond.methodLink RL 26 yX5_goes, Cond.instanceMethod yX5_goes, Cond.selects RX5 yX5_goes yX5_goes, Cond.code yX5_goes cX5_goes 2 (some .int), Cond.methodLink RX5 122 yX5_doGoes, Cond.instanceMethod yX5_doGoes, Cond.selects RX5 yX5_doGoes yX5_doGoes]
def wsL_law_r14 : List Cond := [Cond.code yX5_doGoes cX5_doGoes 2 (some .int), Cond.methodLink RL 27 yX4_key, Cond.instanceMethod yX4_key, Cond.selects RX4 yX4_key yX4_key, Cond.code yX4_key cX4_key 3 (some .int), Cond.methodLink RX4 47 yX1_hostNameOfKey, Cond.methodLink RL 30 yX5_key, Cond.instanceMethod yX5_key, Cond.selects RX5 yX5_key yX5_key, Cond.code yX5_key cX5_key 3 (some .int), Cond.methodLink RX5 125 yX5_doKey, Cond.instanceMethod yX5_doKey, Cond.selects RX5 yX5_doKey yX5_doKey, Cond.code yX5_doKey cX5_doKey 4 (some .int), Cond.methodLink RX5 107 yX5_mayCome, Cond.instanceMethod yX5_mayCome, Cond.selects RX5 yX5_mayCome yX5_mayCome, Cond.code yX5_mayCome cX5_mayCome 2 (some .int), Cond.methodLink RX5 101 yX5_isKey, Cond.static yX5_isKey, Cond.code yX5_isKey cX5_isKey 1 (some .boolean), Cond.methodLink RX5 104 yX5_rowOf, Cond.instanceMethod yX5_rowOf, Cond.selects RX5 yX5_rowOf yX5_rowOf]
def wsL_law_r15 : List Cond := [Cond.code yX5_rowOf cX5_rowOf 4 (some .int), Cond.methodLink RL 31 yX4_drops, Cond.instanceMethod yX4_drops, Cond.selects RX4 yX4_drops yX4_drops, Cond.code yX4_drops cX4_drops 2 (some .int), Cond.methodLink RL 34 yX5_drops, Cond.instanceMethod yX5_drops, Cond.selects RX5 yX5_drops yX5_drops, Cond.code yX5_drops cX5_drops 2 (some .int), Cond.methodLink RX5 128 yX5_doDrops, Cond.instanceMethod yX5_doDrops, Cond.selects RX5 yX5_doDrops yX5_doDrops, Cond.code yX5_doDrops cX5_doDrops 4 (some .int), Cond.methodLink RL 35 yX4_extra, Cond.instanceMethod yX4_extra, Cond.selects RX4 yX4_extra yX4_extra, Cond.code yX4_extra cX4_extra 2 (some .int), Cond.methodLink RL 38 yX5_extra, Cond.instanceMethod yX5_extra, Cond.selects RX5 yX5_extra yX5_extra, Cond.code yX5_extra cX5_extra 2 (some .int), Cond.methodLink RX5 131 yX5_doExtra, Cond.instanceMethod yX5_doExtra, Cond.selects RX5 yX5_doExtra yX5_doExtra]
def wsL_law_r16 : List Cond := [Cond.code yX5_doExtra cX5_doExtra 2 (some .int), Cond.methodLink RL 39 yX4_of, Cond.instanceMethod yX4_of, Cond.selects RX4 yX4_of yX4_of, Cond.code yX4_of cX4_of 4 (some .int), Cond.methodLink RX4 51 yX4_isName, Cond.methodLink RX4 62 yX3_findHost, Cond.methodLink RX4 67 yX1_hostFact, Cond.instanceMethod yX1_hostFact, Cond.selects RX1 yX1_hostFact yX1_hostFact, Cond.code yX1_hostFact cX1_hostFact 3 (some .int), Cond.methodLink RX1 95 yX1_keyOfHost, Cond.instanceMethod yX1_keyOfHost, Cond.selects RX1 yX1_keyOfHost yX1_keyOfHost, Cond.code yX1_keyOfHost cX1_keyOfHost 5 (some .int), Cond.methodLink RL 42 yX5_of, Cond.instanceMethod yX5_of, Cond.selects RX5 yX5_of yX5_of, Cond.code yX5_of cX5_of 3 (some .int), Cond.methodLink RX5 134 yX5_ofHost, Cond.instanceMethod yX5_ofHost, Cond.selects RX5 yX5_ofHost yX5_ofHost, Cond.code yX5_ofHost cX5_ofHost 5 (some .int), Cond.methodLink RL 43 yX4_mark]
def wsL_law_r17 : List Cond := [Cond.instanceMethod yX4_mark, Cond.selects RX4 yX4_mark yX4_mark, Cond.code yX4_mark cX4_mark 4 (some .int), Cond.methodLink RX4 71 yX1_placeOfMark, Cond.instanceMethod yX1_placeOfMark, Cond.selects RX1 yX1_placeOfMark yX1_placeOfMark, Cond.code yX1_placeOfMark cX1_placeOfMark 3 (some .int), Cond.methodLink RL 46 yX5_mark, Cond.instanceMethod yX5_mark, Cond.selects RX5 yX5_mark yX5_mark, Cond.code yX5_mark cX5_mark 3 (some .int), Cond.methodLink RX5 137 yX5_markOf, Cond.instanceMethod yX5_markOf, Cond.selects RX5 yX5_markOf yX5_markOf, Cond.code yX5_markOf cX5_markOf 7 (some .int), Cond.methodLink RL 47 yX4_at, Cond.instanceMethod yX4_at, Cond.selects RX4 yX4_at yX4_at, Cond.code yX4_at cX4_at 2 (some .int), Cond.fieldLink RX4 74 "RoomRing$Ring" "owners" "[I", Cond.methodLink RX4 78 yX3_nameOf, Cond.methodLink RL 50 yX5_at, Cond.instanceMethod yX5_at, Cond.selects RX5 yX5_at yX5_at]
def wsL_law_r18 : List Cond := [Cond.code yX5_at cX5_at 2 (some .int), Cond.methodLink RL 51 yX4_name, Cond.instanceMethod yX4_name, Cond.selects RX4 yX4_name yX4_name, Cond.code yX4_name cX4_name 2 (some .int), Cond.methodLink RL 54 yX5_name, Cond.instanceMethod yX5_name, Cond.selects RX5 yX5_name yX5_name, Cond.code yX5_name cX5_name 4 (some .int), Cond.methodLink RL 55 yX4_share, Cond.instanceMethod yX4_share, Cond.selects RX4 yX4_share yX4_share, Cond.code yX4_share cX4_share 3 (some .int), Cond.methodLink RX4 81 yX1_placesLeadingTo, Cond.instanceMethod yX1_placesLeadingTo, Cond.selects RX1 yX1_placesLeadingTo yX1_placesLeadingTo, Cond.code yX1_placesLeadingTo cX1_placesLeadingTo 5 (some .int), Cond.methodLink RX1 99 yX1_firstOwner, Cond.instanceMethod yX1_firstOwner, Cond.selects RX1 yX1_firstOwner yX1_firstOwner, Cond.code yX1_firstOwner cX1_firstOwner 2 (some .int), Cond.methodLink RL 58 yX5_share, Cond.instanceMethod yX5_share, Cond.selects RX5 yX5_share yX5_share]
def wsL_law_r19 : List Cond := [Cond.code yX5_share cX5_share 2 (some .int), Cond.methodLink RX5 140 yX5_shareOf, Cond.instanceMethod yX5_shareOf, Cond.selects RX5 yX5_shareOf yX5_shareOf, Cond.code yX5_shareOf cX5_shareOf 5 (some .int), Cond.methodLink RL 59 yX4_has, Cond.instanceMethod yX4_has, Cond.selects RX4 yX4_has yX4_has, Cond.code yX4_has cX4_has 3 (some .int), Cond.fieldLink RX4 90 "RoomRing$Ring" "keyHosts" "[I", Cond.methodLink RX4 84 yX4_isKey, Cond.methodLink RX4 87 yX3_findKey, Cond.methodLink RL 62 yX5_has, Cond.instanceMethod yX5_has, Cond.selects RX5 yX5_has yX5_has, Cond.code yX5_has cX5_has 3 (some .int), Cond.methodLink RL 63 yX4_about, Cond.instanceMethod yX4_about, Cond.selects RX4 yX4_about yX4_about, Cond.code yX4_about cX4_about 4 (some .int), Cond.methodLink RX4 93 yX1_keyFact, Cond.instanceMethod yX1_keyFact, Cond.selects RX1 yX1_keyFact yX1_keyFact, Cond.code yX1_keyFact cX1_keyFact 3 (some .int)]
def wsL_law_r20 : List Cond := [Cond.methodLink RL 66 yX5_about, Cond.instanceMethod yX5_about, Cond.selects RX5 yX5_about yX5_about, Cond.code yX5_about cX5_about 4 (some .int), Cond.methodLink RX5 143 yX5_aboutKey, Cond.instanceMethod yX5_aboutKey, Cond.selects RX5 yX5_aboutKey yX5_aboutKey, Cond.code yX5_aboutKey cX5_aboutKey 7 (some .int), Cond.methodLink RL 67 yX4_would, Cond.instanceMethod yX4_would, Cond.selects RX4 yX4_would yX4_would, Cond.code yX4_would cX4_would 3 (some .int), Cond.methodLink RX4 96 yX4_tryOne, Cond.instanceMethod yX4_tryOne, Cond.selects RX4 yX4_tryOne yX4_tryOne, Cond.code yX4_tryOne cX4_tryOne 4 (some .int), Cond.methodLink RL 70 yX5_would, Cond.instanceMethod yX5_would, Cond.selects RX5 yX5_would yX5_would, Cond.code yX5_would cX5_would 4 (some .int), Cond.methodLink RX5 146 yX5_release, Cond.instanceMethod yX5_release, Cond.selects RX5 yX5_release yX5_release, Cond.code yX5_release cX5_release 2 none]
def wsL_law_r21 : List Cond := [Cond.methodLink RL 71 yX4_without, Cond.instanceMethod yX4_without, Cond.selects RX4 yX4_without yX4_without, Cond.code yX4_without cX4_without 3 (some .int), Cond.methodLink RL 74 yX5_without, Cond.instanceMethod yX5_without, Cond.selects RX5 yX5_without yX5_without, Cond.code yX5_without cX5_without 3 (some .int), Cond.methodLink RL 75 yX4_count, Cond.instanceMethod yX4_count, Cond.selects RX4 yX4_count yX4_count, Cond.code yX4_count cX4_count 2 (some .int), Cond.fieldLink RX4 103 "RoomRing$Stock" "hostCount" "I", Cond.fieldLink RX4 106 "RoomRing$Stock" "keyCount" "I", Cond.fieldLink RX4 109 "RoomRing$Stock" "extraShare" "I", Cond.methodLink RX4 112 yX3_allWeights, Cond.methodLink RX4 119 yX1_fullHosts, Cond.instanceMethod yX1_fullHosts, Cond.selects RX1 yX1_fullHosts yX1_fullHosts, Cond.code yX1_fullHosts cX1_fullHosts 3 (some .int), Cond.methodLink RX4 122 yX1_allPassed, Cond.instanceMethod yX1_allPassed, Cond.selects RX1 yX1_allPassed yX1_allPassed, Cond.code yX1_allPassed cX1_allPassed 3 (some .int)]
def wsL_law_r22 : List Cond := [Cond.methodLink RX4 125 yX1_mostLoad, Cond.instanceMethod yX1_mostLoad, Cond.selects RX1 yX1_mostLoad yX1_mostLoad, Cond.code yX1_mostLoad cX1_mostLoad 3 (some .int), Cond.methodLink RX1 102 Lib.Math.max.name, Cond.static Lib.Math.max.name, Cond.initialized "java/lang/Math", Cond.code Lib.Math.max.name Lib.Math.max.code 2 (some .int), Cond.methodLink RL 78 yX5_count, Cond.instanceMethod yX5_count, Cond.selects RX5 yX5_count yX5_count, Cond.code yX5_count cX5_count 2 (some .int), Cond.methodLink RX5 159 yX5_counted, Cond.instanceMethod yX5_counted, Cond.selects RX5 yX5_counted yX5_counted, Cond.code yX5_counted cX5_counted 2 (some .int), Cond.methodLink RX5 149 yX5_marks, Cond.instanceMethod yX5_marks, Cond.selects RX5 yX5_marks yX5_marks, Cond.code yX5_marks cX5_marks 1 (some .int), Cond.methodLink RX5 152 yX5_byHosts, Cond.instanceMethod yX5_byHosts, Cond.selects RX5 yX5_byHosts yX5_byHosts, Cond.code yX5_byHosts cX5_byHosts 5 (some .int)]
def wsL_law_r23 : List Cond := [Cond.methodLink RX5 156 yX5_passedAll, Cond.instanceMethod yX5_passedAll, Cond.selects RX5 yX5_passedAll yX5_passedAll, Cond.code yX5_passedAll cX5_passedAll 3 (some .int), Cond.methodLink RL 79 yX4_type, Cond.instanceMethod yX4_type, Cond.selects RX4 yX4_type yX4_type, Cond.code yX4_type cX4_type 2 (some .int), Cond.fieldLink RX4 131 "RoomRing$Script" "length" "I", Cond.methodLink RX4 128 yX2_append, Cond.instanceMethod yX2_append, Cond.selects RX2 yX2_append yX2_append, Cond.code yX2_append cX2_append 2 (some .boolean), Cond.methodLink RL 82 yX5_type, Cond.instanceMethod yX5_type, Cond.selects RX5 yX5_type yX5_type, Cond.code yX5_type cX5_type 2 (some .int), Cond.fieldLink RX5 162 "RoomRingModel" "typed" "I", Cond.methodLink RL 83 yX4_clear, Cond.instanceMethod yX4_clear, Cond.selects RX4 yX4_clear yX4_clear, Cond.code yX4_clear cX4_clear 2 (some .int), Cond.methodLink RL 87 yX5_clear, Cond.instanceMethod yX5_clear]
def wsL_law_r24 : List Cond := [Cond.selects RX5 yX5_clear yX5_clear, Cond.code yX5_clear cX5_clear 2 (some .int), Cond.methodLink RL 88 yX4_does, Cond.instanceMethod yX4_does, Cond.selects RX4 yX4_does yX4_does, Cond.code yX4_does cX4_does 3 (some .int), Cond.fieldLink RX4 141 "RoomRing$Script" "orderCount" "I", Cond.fieldLink RX4 144 "RoomRing$Script" "letters" "[I", Cond.fieldLink RX4 147 "RoomRing$Script" "firsts" "[I", Cond.fieldLink RX4 150 "RoomRing$Script" "seconds" "[I", Cond.methodLink RX4 134 yX2_read, Cond.instanceMethod yX2_read, Cond.selects RX2 yX2_read yX2_read, Cond.code yX2_read cX2_read 2 (some .int), Cond.methodLink RX2 43 yX2_accepts, Cond.instanceMethod yX2_accepts, Cond.selects RX2 yX2_accepts yX2_accepts, Cond.code yX2_accepts cX2_accepts 2 (some .boolean), Cond.methodLink RX2 47 yX2_isFigure, Cond.static yX2_isFigure, Cond.code yX2_isFigure cX2_isFigure 1 (some .boolean), Cond.methodLink RX2 50 yX2_addsFigure, Cond.instanceMethod yX2_addsFigure, Cond.selects RX2 yX2_addsFigure yX2_addsFigure]
def wsL_law_r25 : List Cond := [Cond.code yX2_addsFigure cX2_addsFigure 2 (some .boolean), Cond.methodLink RX2 53 yX2_endNumber, Cond.instanceMethod yX2_endNumber, Cond.selects RX2 yX2_endNumber yX2_endNumber, Cond.code yX2_endNumber cX2_endNumber 1 none, Cond.methodLink RX2 65 yX2_numbersOf, Cond.static yX2_numbersOf, Cond.code yX2_numbersOf cX2_numbersOf 1 (some .int), Cond.methodLink RX2 56 yX2_startsOrder, Cond.instanceMethod yX2_startsOrder, Cond.selects RX2 yX2_startsOrder yX2_startsOrder, Cond.code yX2_startsOrder cX2_startsOrder 2 (some .boolean), Cond.methodLink RX2 59 yX2_startsNumber, Cond.instanceMethod yX2_startsNumber, Cond.selects RX2 yX2_startsNumber yX2_startsNumber, Cond.code yX2_startsNumber cX2_startsNumber 2 (some .boolean), Cond.methodLink RX2 62 yX2_endsOrder, Cond.instanceMethod yX2_endsOrder, Cond.selects RX2 yX2_endsOrder yX2_endsOrder, Cond.code yX2_endsOrder cX2_endsOrder 2 (some .boolean), Cond.methodLink RL 91 yX5_does, Cond.instanceMethod yX5_does, Cond.selects RX5 yX5_does yX5_does, Cond.code yX5_does cX5_does 2 (some .int)]
def wsL_law_r26 : List Cond := [Cond.fieldLink RX5 165 "RoomRingModel" "at" "I", Cond.fieldLink RX5 168 "RoomRingModel" "fault" "I", Cond.fieldLink RX5 185 "RoomRingModel" "orders" "I", Cond.methodLink RX5 171 yX5_here, Cond.instanceMethod yX5_here, Cond.selects RX5 yX5_here yX5_here, Cond.code yX5_here cX5_here 1 (some .int), Cond.methodLink RX5 191 yX5_readOrder, Cond.instanceMethod yX5_readOrder, Cond.selects RX5 yX5_readOrder yX5_readOrder, Cond.code yX5_readOrder cX5_readOrder 4 none, Cond.methodLink RX5 182 yX5_numbersOf, Cond.static yX5_numbersOf, Cond.code yX5_numbersOf cX5_numbersOf 1 (some .int), Cond.methodLink RX5 174 yX5_must, Cond.instanceMethod yX5_must, Cond.selects RX5 yX5_must yX5_must, Cond.code yX5_must cX5_must 2 none, Cond.methodLink RX5 188 yX5_number, Cond.instanceMethod yX5_number, Cond.selects RX5 yX5_number yX5_number, Cond.code yX5_number cX5_number 3 (some .int), Cond.methodLink RX5 178 yX5_isFigure, Cond.instanceMethod yX5_isFigure]
def wsL_law_r27 : List Cond := [Cond.selects RX5 yX5_isFigure yX5_isFigure, Cond.code yX5_isFigure cX5_isFigure 1 (some .boolean), Cond.methodLink RX5 194 yX5_doOrder, Cond.instanceMethod yX5_doOrder, Cond.selects RX5 yX5_doOrder yX5_doOrder, Cond.code yX5_doOrder cX5_doOrder 4 (some .int), Cond.methodLink RL 92 yX4_back, Cond.instanceMethod yX4_back, Cond.selects RX4 yX4_back yX4_back, Cond.code yX4_back cX4_back 1 (some .int), Cond.fieldLink RX4 159 "RoomRing$History" "size" "I", Cond.methodLink RX4 162 yX0_takeBack, Cond.instanceMethod yX0_takeBack, Cond.selects RX0 yX0_takeBack yX0_takeBack, Cond.code yX0_takeBack cX0_takeBack 2 none, Cond.methodLink RL 95 yX5_back, Cond.instanceMethod yX5_back, Cond.selects RX5 yX5_back yX5_back, Cond.code yX5_back cX5_back 2 (some .int), Cond.methodLink RL 96 yX4_told, Cond.instanceMethod yX4_told, Cond.selects RX4 yX4_told yX4_told, Cond.code yX4_told cX4_told 2 (some .int), Cond.methodLink RL 99 yX5_told]
def wsL_law_r28 : List Cond := [Cond.instanceMethod yX5_told, Cond.selects RX5 yX5_told yX5_told, Cond.code yX5_told cX5_told 2 (some .int), Cond.methodLink RX5 197 yX5_toldOf, Cond.instanceMethod yX5_toldOf, Cond.selects RX5 yX5_toldOf yX5_toldOf, Cond.code yX5_toldOf cX5_toldOf 2 (some .int), Cond.methodLink RL 100 yX4_digest, Cond.instanceMethod yX4_digest, Cond.selects RX4 yX4_digest yX4_digest, Cond.code yX4_digest cX4_digest 4 (some .long), Cond.constantLong RX4 168 (2820), Cond.constantLong RX4 170 (31), Cond.methodLink RX4 172 yX4_told, Cond.methodLink RX4 175 yX4_count, Cond.methodLink RX4 178 yX4_at, Cond.methodLink RX4 181 yX4_digestHosts, Cond.instanceMethod yX4_digestHosts, Cond.selects RX4 yX4_digestHosts yX4_digestHosts, Cond.code yX4_digestHosts cX4_digestHosts 7 (some .long), Cond.fieldLink RX4 188 "RoomRing$Stock" "names" "[I", Cond.methodLink RX4 185 yX4_digestKeys, Cond.instanceMethod yX4_digestKeys, Cond.selects RX4 yX4_digestKeys yX4_digestKeys]
def wsL_law_r29 : List Cond := [Cond.code yX4_digestKeys cX4_digestKeys 7 (some .long), Cond.fieldLink RX4 191 "RoomRing$Stock" "keys" "[I", Cond.methodLink RL 104 yX5_digest, Cond.instanceMethod yX5_digest, Cond.selects RX5 yX5_digest yX5_digest, Cond.code yX5_digest cX5_digest 3 (some .long), Cond.constantLong RX5 206 (2820), Cond.fieldLink RX5 202 "RoomRingModel" "h" "J", Cond.methodLink RX5 208 yX5_mix, Cond.instanceMethod yX5_mix, Cond.selects RX5 yX5_mix yX5_mix, Cond.code yX5_mix cX5_mix 2 none, Cond.constantLong RX5 200 (31)]
def wsL_law : List Cond := (wsL_law_r1 ++ (wsL_law_r2 ++ (wsL_law_r3 ++ (wsL_law_r4 ++ (wsL_law_r5 ++ (wsL_law_r6 ++ (wsL_law_r7 ++ (wsL_law_r8 ++ (wsL_law_r9 ++ (wsL_law_r10 ++ (wsL_law_r11 ++ (wsL_law_r12 ++ (wsL_law_r13 ++ (wsL_law_r14 ++ (wsL_law_r15 ++ (wsL_law_r16 ++ (wsL_law_r17 ++ (wsL_law_r18 ++ (wsL_law_r19 ++ (wsL_law_r20 ++ (wsL_law_r21 ++ (wsL_law_r22 ++ (wsL_law_r23 ++ (wsL_law_r24 ++ (wsL_law_r25 ++ (wsL_law_r26 ++ (wsL_law_r27 ++ (wsL_law_r28 ++ wsL_law_r29)))))))))))))))))))))))))))) ++ wsX40 ++ wsX50 ++ wsX10 ++ wsX00 ++ wsX20 ++ wsX30 ++ ([] : List Cond)
end
section
theorem rr_pl {big : List Cond} (ws : List Cond) (ps : List Nat) (hp : ws = ps.filterMap (fun i => big[i]?)) : ∀ w ∈ ws, w ∈ big := by
  intro w hw
  rw [hp] at hw
  obtain ⟨i, -, hi⟩ := List.mem_filterMap.mp hw
  exact List.mem_of_getElem? hi
set_option maxRecDepth 20000 in
theorem wsL_law_r1_lin : ∀ w ∈ wsL_law_r1, w ∈ lw_tbl := rr_pl _ [72, 73, 64, 547, 548, 69, 74, 75, 76, 77, 78, 79, 80, 81, 65, 245, 246, 186, 187, 67, 247, 203, 204, 68] (by decide +kernel)
set_option maxRecDepth 20000 in
theorem wsL_law_r2_lin : ∀ w ∈ wsL_law_r2, w ∈ lw_tbl := rr_pl _ [248, 249, 250, 251, 82, 83, 84, 85, 86, 87, 66, 158, 126, 160, 162, 163, 164, 165, 167, 168, 89, 90, 91, 92] (by decide +kernel)
set_option maxRecDepth 20000 in
theorem wsL_law_r3_lin : ∀ w ∈ wsL_law_r3, w ∈ lw_tbl := rr_pl _ [95, 97, 100, 103, 106, 109, 127, 128, 129, 130, 104, 131, 133, 0, 134, 101, 96, 93, 135, 137, 1, 138, 139, 140] (by decide +kernel)
set_option maxRecDepth 20000 in
theorem wsL_law_r4_lin : ∀ w ∈ wsL_law_r4, w ∈ lw_tbl := rr_pl _ [141, 142, 144, 2, 145, 107, 146, 147, 148, 149, 150, 152, 3, 153, 154, 156, 4, 157, 98, 188, 189, 190, 191, 192] (by decide +kernel)
set_option maxRecDepth 20000 in
theorem wsL_law_r5_lin : ∀ w ∈ wsL_law_r5, w ∈ lw_tbl := rr_pl _ [195, 196, 206, 207, 208, 209, 210, 212, 214, 216, 218, 220, 221, 222, 223, 549, 550, 551, 552, 579, 580, 581, 583, 584] (by decide +kernel)
set_option maxRecDepth 20000 in
theorem wsL_law_r6_lin : ∀ w ∈ wsL_law_r6, w ∈ lw_tbl := rr_pl _ [585, 586, 587, 588, 637, 589, 590, 595, 596, 553, 555, 26, 556, 557, 559, 27, 560, 561, 562, 563, 564, 566, 28, 567] (by decide +kernel)
set_option maxRecDepth 20000 in
theorem wsL_law_r7_lin : ∀ w ∈ wsL_law_r7, w ∈ lw_tbl := rr_pl _ [568, 569, 570, 571, 573, 29, 574, 575, 577, 30, 578, 267, 268, 269, 270, 271, 273, 5, 274, 159, 110, 275, 276, 277] (by decide +kernel)
set_option maxRecDepth 20000 in
theorem wsL_law_r8_lin : ∀ w ∈ wsL_law_r8, w ∈ lw_tbl := rr_pl _ [278, 279, 281, 280, 70, 282, 283, 284, 285, 286, 288, 6, 289, 291, 292, 294, 295, 296, 297, 298, 299, 300, 302, 7] (by decide +kernel)
set_option maxRecDepth 20000 in
theorem wsL_law_r9_lin : ∀ w ∈ wsL_law_r9, w ∈ lw_tbl := rr_pl _ [303, 304, 306, 8, 307, 308, 310, 9, 311, 313, 314, 315, 316, 317, 318, 319, 321, 10, 322, 323, 325, 11, 326, 327] (by decide +kernel)
set_option maxRecDepth 20000 in
theorem wsL_law_r10_lin : ∀ w ∈ wsL_law_r10, w ∈ lw_tbl := rr_pl _ [329, 12, 330, 331, 333, 13, 334, 335, 336, 337, 338, 339, 340, 341, 342, 343, 344, 345, 346, 347, 348, 349, 350, 351] (by decide +kernel)
set_option maxRecDepth 20000 in
theorem wsL_law_r11_lin : ∀ w ∈ wsL_law_r11, w ∈ lw_tbl := rr_pl _ [352, 353, 355, 14, 356, 357, 646, 647, 648, 649, 650, 652, 32, 653, 654, 656, 33, 657, 658, 659, 660, 661, 662, 663] (by decide +kernel)
set_option maxRecDepth 20000 in
theorem wsL_law_r12_lin : ∀ w ∈ wsL_law_r12, w ∈ lw_tbl := rr_pl _ [664, 666, 34, 667, 668, 670, 35, 671, 672, 674, 36, 675, 642, 644, 31, 645, 676, 678, 37, 679, 582, 680, 682, 38] (by decide +kernel)
set_option maxRecDepth 20000 in
theorem wsL_law_r13_lin : ∀ w ∈ wsL_law_r13, w ∈ lw_tbl := rr_pl _ [683, 358, 359, 360, 361, 684, 685, 686, 687, 688, 690, 39, 691, 362, 363, 364, 365, 692, 693, 694, 695, 696, 698, 40] (by decide +kernel)
set_option maxRecDepth 20000 in
theorem wsL_law_r14_lin : ∀ w ∈ wsL_law_r14, w ∈ lw_tbl := rr_pl _ [699, 366, 367, 368, 369, 370, 700, 701, 702, 703, 704, 706, 41, 707, 708, 710, 42, 711, 712, 713, 714, 715, 717, 43] (by decide +kernel)
set_option maxRecDepth 20000 in
theorem wsL_law_r15_lin : ∀ w ∈ wsL_law_r15, w ∈ lw_tbl := rr_pl _ [718, 371, 372, 373, 374, 719, 720, 721, 722, 723, 725, 44, 726, 375, 376, 377, 378, 727, 728, 729, 730, 731, 733, 45] (by decide +kernel)
set_option maxRecDepth 20000 in
theorem wsL_law_r16_lin : ∀ w ∈ wsL_law_r16, w ∈ lw_tbl := rr_pl _ [734, 379, 380, 381, 382, 383, 384, 385, 386, 387, 388, 389, 391, 15, 392, 735, 736, 737, 738, 739, 741, 46, 742, 393] (by decide +kernel)
set_option maxRecDepth 20000 in
theorem wsL_law_r17_lin : ∀ w ∈ wsL_law_r17, w ∈ lw_tbl := rr_pl _ [394, 395, 396, 397, 398, 399, 400, 743, 744, 745, 746, 747, 749, 47, 750, 401, 402, 403, 404, 161, 405, 751, 752, 753] (by decide +kernel)
set_option maxRecDepth 20000 in
theorem wsL_law_r18_lin : ∀ w ∈ wsL_law_r18, w ∈ lw_tbl := rr_pl _ [754, 406, 407, 408, 409, 755, 756, 757, 758, 410, 411, 412, 413, 414, 415, 416, 417, 418, 420, 16, 421, 759, 760, 761] (by decide +kernel)
set_option maxRecDepth 20000 in
theorem wsL_law_r19_lin : ∀ w ∈ wsL_law_r19, w ∈ lw_tbl := rr_pl _ [762, 763, 765, 48, 766, 422, 423, 424, 425, 166, 426, 427, 767, 768, 769, 770, 428, 429, 430, 431, 432, 433, 434, 435] (by decide +kernel)
set_option maxRecDepth 20000 in
theorem wsL_law_r20_lin : ∀ w ∈ wsL_law_r20, w ∈ lw_tbl := rr_pl _ [771, 772, 773, 774, 775, 777, 49, 778, 436, 437, 438, 439, 440, 442, 17, 443, 779, 780, 781, 782, 783, 785, 50, 786] (by decide +kernel)
set_option maxRecDepth 20000 in
theorem wsL_law_r21_lin : ∀ w ∈ wsL_law_r21, w ∈ lw_tbl := rr_pl _ [444, 445, 446, 447, 787, 788, 789, 790, 448, 449, 450, 451, 102, 105, 108, 452, 453, 454, 455, 456, 457, 458, 459, 460] (by decide +kernel)
set_option maxRecDepth 20000 in
theorem wsL_law_r22_lin : ∀ w ∈ wsL_law_r22, w ∈ lw_tbl := rr_pl _ [461, 462, 463, 464, 465, 466, 71, 467, 791, 792, 793, 794, 795, 797, 51, 798, 799, 801, 52, 802, 803, 805, 53, 806] (by decide +kernel)
set_option maxRecDepth 20000 in
theorem wsL_law_r23_lin : ∀ w ∈ wsL_law_r23, w ∈ lw_tbl := rr_pl _ [807, 809, 54, 810, 468, 469, 470, 471, 211, 472, 473, 474, 475, 811, 812, 813, 814, 591, 476, 477, 478, 479, 815, 816] (by decide +kernel)
set_option maxRecDepth 20000 in
theorem wsL_law_r24_lin : ∀ w ∈ wsL_law_r24, w ∈ lw_tbl := rr_pl _ [817, 818, 480, 481, 482, 483, 219, 213, 215, 217, 484, 485, 486, 487, 488, 490, 18, 491, 492, 493, 494, 495, 497, 19] (by decide +kernel)
set_option maxRecDepth 20000 in
theorem wsL_law_r25_lin : ∀ w ∈ wsL_law_r25, w ∈ lw_tbl := rr_pl _ [498, 499, 501, 20, 502, 503, 504, 505, 506, 508, 21, 509, 510, 512, 22, 513, 514, 516, 23, 517, 819, 820, 821, 822] (by decide +kernel)
set_option maxRecDepth 20000 in
theorem wsL_law_r26_lin : ∀ w ∈ wsL_law_r26, w ∈ lw_tbl := rr_pl _ [592, 593, 594, 823, 825, 55, 826, 827, 829, 56, 830, 831, 832, 833, 834, 836, 57, 837, 838, 840, 58, 841, 842, 844] (by decide +kernel)
set_option maxRecDepth 20000 in
theorem wsL_law_r27_lin : ∀ w ∈ wsL_law_r27, w ∈ lw_tbl := rr_pl _ [59, 845, 846, 848, 60, 849, 518, 519, 520, 521, 197, 522, 523, 524, 525, 638, 639, 640, 641, 526, 527, 528, 529, 850] (by decide +kernel)
set_option maxRecDepth 20000 in
theorem wsL_law_r28_lin : ∀ w ∈ wsL_law_r28, w ∈ lw_tbl := rr_pl _ [851, 852, 853, 854, 856, 61, 857, 530, 531, 532, 533, 534, 535, 536, 537, 538, 539, 541, 24, 542, 94, 543, 545, 25] (by decide +kernel)
set_option maxRecDepth 20000 in
theorem wsL_law_r29_lin : ∀ w ∈ wsL_law_r29, w ∈ lw_tbl := rr_pl _ [546, 99, 858, 859, 860, 861, 862, 597, 863, 865, 62, 866, 867] (by decide +kernel)
set_option maxRecDepth 20000 in
theorem wsX40_lin : ∀ w ∈ wsX40, w ∈ lw_tbl := rr_pl _ [252, 254, 256, 258, 260, 262, 264] (by decide +kernel)
set_option maxRecDepth 20000 in
theorem wsX50_lin : ∀ w ∈ wsX50, w ∈ lw_tbl := rr_pl _ [598, 600, 602, 604, 606, 608, 610, 612, 614, 616, 618, 620, 622, 624, 626, 628, 630, 632, 634] (by decide +kernel)
set_option maxRecDepth 20000 in
theorem wsX10_lin : ∀ w ∈ wsX10, w ∈ lw_tbl := rr_pl _ [169, 171, 173, 175, 177, 179, 181, 183] (by decide +kernel)
set_option maxRecDepth 20000 in
theorem wsX00_lin : ∀ w ∈ wsX00, w ∈ lw_tbl := rr_pl _ [198, 200] (by decide +kernel)
set_option maxRecDepth 20000 in
theorem wsX20_lin : ∀ w ∈ wsX20, w ∈ lw_tbl := rr_pl _ [224, 226, 228, 230, 232, 234, 236, 238, 240, 242] (by decide +kernel)
set_option maxRecDepth 20000 in
theorem wsX30_lin : ∀ w ∈ wsX30, w ∈ lw_tbl := rr_pl _ [111, 113, 115, 117, 119, 121, 123] (by decide +kernel)
theorem wsL_law_in : ∀ w ∈ wsL_law, w ∈ lw_tbl := List.forall_mem_append.mpr ⟨List.forall_mem_append.mpr ⟨List.forall_mem_append.mpr ⟨List.forall_mem_append.mpr ⟨List.forall_mem_append.mpr ⟨List.forall_mem_append.mpr ⟨List.forall_mem_append.mpr ⟨List.forall_mem_append.mpr ⟨wsL_law_r1_lin, List.forall_mem_append.mpr ⟨wsL_law_r2_lin, List.forall_mem_append.mpr ⟨wsL_law_r3_lin, List.forall_mem_append.mpr ⟨wsL_law_r4_lin, List.forall_mem_append.mpr ⟨wsL_law_r5_lin, List.forall_mem_append.mpr ⟨wsL_law_r6_lin, List.forall_mem_append.mpr ⟨wsL_law_r7_lin, List.forall_mem_append.mpr ⟨wsL_law_r8_lin, List.forall_mem_append.mpr ⟨wsL_law_r9_lin, List.forall_mem_append.mpr ⟨wsL_law_r10_lin, List.forall_mem_append.mpr ⟨wsL_law_r11_lin, List.forall_mem_append.mpr ⟨wsL_law_r12_lin, List.forall_mem_append.mpr ⟨wsL_law_r13_lin, List.forall_mem_append.mpr ⟨wsL_law_r14_lin, List.forall_mem_append.mpr ⟨wsL_law_r15_lin, List.forall_mem_append.mpr ⟨wsL_law_r16_lin, List.forall_mem_append.mpr ⟨wsL_law_r17_lin, List.forall_mem_append.mpr ⟨wsL_law_r18_lin, List.forall_mem_append.mpr ⟨wsL_law_r19_lin, List.forall_mem_append.mpr ⟨wsL_law_r20_lin, List.forall_mem_append.mpr ⟨wsL_law_r21_lin, List.forall_mem_append.mpr ⟨wsL_law_r22_lin, List.forall_mem_append.mpr ⟨wsL_law_r23_lin, List.forall_mem_append.mpr ⟨wsL_law_r24_lin, List.forall_mem_append.mpr ⟨wsL_law_r25_lin, List.forall_mem_append.mpr ⟨wsL_law_r26_lin, List.forall_mem_append.mpr ⟨wsL_law_r27_lin, List.forall_mem_append.mpr ⟨wsL_law_r28_lin, wsL_law_r29_lin⟩⟩⟩⟩⟩⟩⟩⟩⟩⟩⟩⟩⟩⟩⟩⟩⟩⟩⟩⟩⟩⟩⟩⟩⟩⟩⟩⟩, wsX40_lin⟩, wsX50_lin⟩, wsX10_lin⟩, wsX00_lin⟩, wsX20_lin⟩, wsX30_lin⟩, fun _ h => absurd h List.not_mem_nil⟩
end
section
theorem inlX0 : ∀ w ∈ wsX00, w ∈ wsL_law := fun _ h => List.mem_append_left _ (List.mem_append_left _ (List.mem_append_left _ (List.mem_append_right _ h)))
theorem inX0 : ∀ w ∈ wsX00, w ∈ lw_tbl := fun w h => wsL_law_in w (inlX0 w h)
theorem inlX1 : ∀ w ∈ wsX10, w ∈ wsL_law := fun _ h => List.mem_append_left _ (List.mem_append_left _ (List.mem_append_left _ (List.mem_append_left _ (List.mem_append_right _ h))))
theorem inX1 : ∀ w ∈ wsX10, w ∈ lw_tbl := fun w h => wsL_law_in w (inlX1 w h)
theorem inlX2 : ∀ w ∈ wsX20, w ∈ wsL_law := fun _ h => List.mem_append_left _ (List.mem_append_left _ (List.mem_append_right _ h))
theorem inX2 : ∀ w ∈ wsX20, w ∈ lw_tbl := fun w h => wsL_law_in w (inlX2 w h)
theorem inlX3 : ∀ w ∈ wsX30, w ∈ wsL_law := fun _ h => List.mem_append_left _ (List.mem_append_right _ h)
theorem inX3 : ∀ w ∈ wsX30, w ∈ lw_tbl := fun w h => wsL_law_in w (inlX3 w h)
theorem inlX4 : ∀ w ∈ wsX40, w ∈ wsL_law := fun _ h => List.mem_append_left _ (List.mem_append_left _ (List.mem_append_left _ (List.mem_append_left _ (List.mem_append_left _ (List.mem_append_left _ (List.mem_append_right _ h))))))
theorem inX4 : ∀ w ∈ wsX40, w ∈ lw_tbl := fun w h => wsL_law_in w (inlX4 w h)
theorem inlX5 : ∀ w ∈ wsX50, w ∈ wsL_law := fun _ h => List.mem_append_left _ (List.mem_append_left _ (List.mem_append_left _ (List.mem_append_left _ (List.mem_append_left _ (List.mem_append_right _ h)))))
theorem inX5 : ∀ w ∈ wsX50, w ∈ lw_tbl := fun w h => wsL_law_in w (inlX5 w h)
theorem inJ9 : ∀ w ∈ wsJ90, w ∈ lw_tbl := by decide +kernel
theorem inJ10 : ∀ w ∈ wsJ100, w ∈ lw_tbl := by decide +kernel
set_option maxRecDepth 20000 in
theorem ggX0_init_X3_init : GoodIn wsX0_init wsX3_init := goodIn_r _ [10, 11, 2, 3, 12, 13, 14, 15, 16, 17, 18, 19, 22, 23, 24, 25, 26, 27, 28] (by decide +kernel) (by decide +kernel)
set_option maxRecDepth 20000 in
theorem gX0_init_X3_init_n21 : GoodIn wsX0_init (wsX3_init) := ggX0_init_X3_init
theorem dX0_init_0 : decode cX0_init 0 = .ok (.aload_n 0, 1) := by decide +kernel
theorem dX0_init_1 : decode cX0_init 1 = .ok (.invokespecial 3, 3) := by decide +kernel
theorem dX0_init_4 : decode cX0_init 4 = .ok (.aload_n 0, 1) := by decide +kernel
theorem dX0_init_5 : decode cX0_init 5 = .ok (.iconst 5, 1) := by decide +kernel
theorem dX0_init_6 : decode cX0_init 6 = .ok (.anewarray 9, 3) := by decide +kernel
theorem dX0_init_9 : decode cX0_init 9 = .ok (.putfield 11, 3) := by decide +kernel
theorem dX0_init_12 : decode cX0_init 12 = .ok (.aload_n 0, 1) := by decide +kernel
theorem dX0_init_13 : decode cX0_init 13 = .ok (.iconst 0, 1) := by decide +kernel
theorem dX0_init_14 : decode cX0_init 14 = .ok (.putfield 17, 3) := by decide +kernel
theorem dX0_init_17 : decode cX0_init 17 = .ok (.iconst 0, 1) := by decide +kernel
theorem dX0_init_18 : decode cX0_init 18 = .ok (.istore_n 1, 1) := by decide +kernel
theorem dX0_init_19 : decode cX0_init 19 = .ok (.iload_n 1, 1) := by decide +kernel
theorem dX0_init_20 : decode cX0_init 20 = .ok (.iconst 5, 1) := by decide +kernel
theorem dX0_init_21 : decode cX0_init 21 = .ok (.if_icmp .ge 22, 3) := by decide +kernel
theorem dX0_init_24 : decode cX0_init 24 = .ok (.aload_n 0, 1) := by decide +kernel
theorem dX0_init_25 : decode cX0_init 25 = .ok (.getfield 11, 3) := by decide +kernel
theorem dX0_init_28 : decode cX0_init 28 = .ok (.iload_n 1, 1) := by decide +kernel
theorem dX0_init_29 : decode cX0_init 29 = .ok (.new 9, 3) := by decide +kernel
theorem dX0_init_32 : decode cX0_init 32 = .ok (.dup, 1) := by decide +kernel
theorem dX0_init_33 : decode cX0_init 33 = .ok (.invokespecial 21, 3) := by decide +kernel
theorem dX0_init_36 : decode cX0_init 36 = .ok (.aastore, 1) := by decide +kernel
theorem dX0_init_37 : decode cX0_init 37 = .ok (.iinc 1 1, 3) := by decide +kernel
theorem dX0_init_40 : decode cX0_init 40 = .ok (.goto (-21), 3) := by decide +kernel
theorem dX0_init_43 : decode cX0_init 43 = .ok (.return_, 1) := by decide +kernel
set_option maxRecDepth 20000 in
theorem ggX0_keep_X0_forgetOldest : GoodIn wsX0_keep wsX0_forgetOldest := goodIn_r _ [7, 2, 1, 24, 25] (by decide +kernel) (by decide +kernel)
set_option maxRecDepth 20000 in
theorem gX0_keep_X0_forgetOldest : GoodIn wsX0_keep (wsV RX0 22 RX0 yX0_forgetOldest wsX0_forgetOldest) := goodIn_app (goodIn_of _ (by decide +kernel)) ggX0_keep_X0_forgetOldest
set_option maxRecDepth 20000 in
theorem ggX0_keep_X3_copyFrom : GoodIn wsX0_keep wsX3_copyFrom := goodIn_r _ [12, 13, 14, 15, 16, 17, 18, 19, 20, 21, 22, 23, 26, 27, 28, 29, 30, 31, 32] (by decide +kernel) (by decide +kernel)
set_option maxRecDepth 20000 in
theorem gX0_keep_X3_copyFrom : GoodIn wsX0_keep (wsV RX0 25 RX3 yX3_copyFrom wsX3_copyFrom) := goodIn_app (goodIn_of _ (by decide +kernel)) ggX0_keep_X3_copyFrom
theorem dX0_keep_0 : decode cX0_keep 0 = .ok (.aload_n 0, 1) := by decide +kernel
theorem dX0_keep_1 : decode cX0_keep 1 = .ok (.getfield 17, 3) := by decide +kernel
theorem dX0_keep_4 : decode cX0_keep 4 = .ok (.iconst 5, 1) := by decide +kernel
theorem dX0_keep_5 : decode cX0_keep 5 = .ok (.if_icmp .lt 7, 3) := by decide +kernel
theorem dX0_keep_8 : decode cX0_keep 8 = .ok (.aload_n 0, 1) := by decide +kernel
theorem dX0_keep_9 : decode cX0_keep 9 = .ok (.invokevirtual 22, 3) := by decide +kernel
theorem dX0_keep_12 : decode cX0_keep 12 = .ok (.aload_n 0, 1) := by decide +kernel
theorem dX0_keep_13 : decode cX0_keep 13 = .ok (.getfield 11, 3) := by decide +kernel
theorem dX0_keep_16 : decode cX0_keep 16 = .ok (.aload_n 0, 1) := by decide +kernel
theorem dX0_keep_17 : decode cX0_keep 17 = .ok (.getfield 17, 3) := by decide +kernel
theorem dX0_keep_20 : decode cX0_keep 20 = .ok (.aaload, 1) := by decide +kernel
theorem dX0_keep_21 : decode cX0_keep 21 = .ok (.aload_n 1, 1) := by decide +kernel
theorem dX0_keep_22 : decode cX0_keep 22 = .ok (.invokevirtual 25, 3) := by decide +kernel
theorem dX0_keep_25 : decode cX0_keep 25 = .ok (.aload_n 0, 1) := by decide +kernel
theorem dX0_keep_26 : decode cX0_keep 26 = .ok (.dup, 1) := by decide +kernel
theorem dX0_keep_27 : decode cX0_keep 27 = .ok (.getfield 17, 3) := by decide +kernel
theorem dX0_keep_30 : decode cX0_keep 30 = .ok (.iconst 1, 1) := by decide +kernel
theorem dX0_keep_31 : decode cX0_keep 31 = .ok (.iadd, 1) := by decide +kernel
theorem dX0_keep_32 : decode cX0_keep 32 = .ok (.putfield 17, 3) := by decide +kernel
theorem dX0_keep_35 : decode cX0_keep 35 = .ok (.return_, 1) := by decide +kernel
theorem dX0_forgetOldest_0 : decode cX0_forgetOldest 0 = .ok (.aload_n 0, 1) := by decide +kernel
theorem dX0_forgetOldest_1 : decode cX0_forgetOldest 1 = .ok (.getfield 11, 3) := by decide +kernel
theorem dX0_forgetOldest_4 : decode cX0_forgetOldest 4 = .ok (.iconst 0, 1) := by decide +kernel
theorem dX0_forgetOldest_5 : decode cX0_forgetOldest 5 = .ok (.aaload, 1) := by decide +kernel
theorem dX0_forgetOldest_6 : decode cX0_forgetOldest 6 = .ok (.astore_n 1, 1) := by decide +kernel
theorem dX0_forgetOldest_7 : decode cX0_forgetOldest 7 = .ok (.iconst 1, 1) := by decide +kernel
theorem dX0_forgetOldest_8 : decode cX0_forgetOldest 8 = .ok (.istore_n 2, 1) := by decide +kernel
theorem dX0_forgetOldest_9 : decode cX0_forgetOldest 9 = .ok (.iload_n 2, 1) := by decide +kernel
theorem dX0_forgetOldest_10 : decode cX0_forgetOldest 10 = .ok (.iconst 5, 1) := by decide +kernel
theorem dX0_forgetOldest_11 : decode cX0_forgetOldest 11 = .ok (.if_icmp .ge 23, 3) := by decide +kernel
theorem dX0_forgetOldest_14 : decode cX0_forgetOldest 14 = .ok (.aload_n 0, 1) := by decide +kernel
theorem dX0_forgetOldest_15 : decode cX0_forgetOldest 15 = .ok (.getfield 11, 3) := by decide +kernel
theorem dX0_forgetOldest_18 : decode cX0_forgetOldest 18 = .ok (.iload_n 2, 1) := by decide +kernel
theorem dX0_forgetOldest_19 : decode cX0_forgetOldest 19 = .ok (.iconst 1, 1) := by decide +kernel
theorem dX0_forgetOldest_20 : decode cX0_forgetOldest 20 = .ok (.isub, 1) := by decide +kernel
theorem dX0_forgetOldest_21 : decode cX0_forgetOldest 21 = .ok (.aload_n 0, 1) := by decide +kernel
theorem dX0_forgetOldest_22 : decode cX0_forgetOldest 22 = .ok (.getfield 11, 3) := by decide +kernel
theorem dX0_forgetOldest_25 : decode cX0_forgetOldest 25 = .ok (.iload_n 2, 1) := by decide +kernel
theorem dX0_forgetOldest_26 : decode cX0_forgetOldest 26 = .ok (.aaload, 1) := by decide +kernel
theorem dX0_forgetOldest_27 : decode cX0_forgetOldest 27 = .ok (.aastore, 1) := by decide +kernel
theorem dX0_forgetOldest_28 : decode cX0_forgetOldest 28 = .ok (.iinc 2 1, 3) := by decide +kernel
theorem dX0_forgetOldest_31 : decode cX0_forgetOldest 31 = .ok (.goto (-22), 3) := by decide +kernel
theorem dX0_forgetOldest_34 : decode cX0_forgetOldest 34 = .ok (.aload_n 0, 1) := by decide +kernel
theorem dX0_forgetOldest_35 : decode cX0_forgetOldest 35 = .ok (.getfield 11, 3) := by decide +kernel
theorem dX0_forgetOldest_38 : decode cX0_forgetOldest 38 = .ok (.iconst 4, 1) := by decide +kernel
theorem dX0_forgetOldest_39 : decode cX0_forgetOldest 39 = .ok (.aload_n 1, 1) := by decide +kernel
theorem dX0_forgetOldest_40 : decode cX0_forgetOldest 40 = .ok (.aastore, 1) := by decide +kernel
theorem dX0_forgetOldest_41 : decode cX0_forgetOldest 41 = .ok (.aload_n 0, 1) := by decide +kernel
theorem dX0_forgetOldest_42 : decode cX0_forgetOldest 42 = .ok (.iconst 4, 1) := by decide +kernel
theorem dX0_forgetOldest_43 : decode cX0_forgetOldest 43 = .ok (.putfield 17, 3) := by decide +kernel
theorem dX0_forgetOldest_46 : decode cX0_forgetOldest 46 = .ok (.return_, 1) := by decide +kernel
set_option maxRecDepth 20000 in
theorem ggX0_takeBack_X3_copyFrom : GoodIn wsX0_takeBack wsX3_copyFrom := goodIn_r _ [7, 8, 9, 10, 11, 12, 13, 14, 15, 16, 17, 18, 21, 22, 23, 24, 25, 26, 27] (by decide +kernel) (by decide +kernel)
set_option maxRecDepth 20000 in
theorem gX0_takeBack_X3_copyFrom : GoodIn wsX0_takeBack (wsV RX0 25 RX3 yX3_copyFrom wsX3_copyFrom) := goodIn_app (goodIn_of _ (by decide +kernel)) ggX0_takeBack_X3_copyFrom
theorem dX0_takeBack_0 : decode cX0_takeBack 0 = .ok (.aload_n 0, 1) := by decide +kernel
theorem dX0_takeBack_1 : decode cX0_takeBack 1 = .ok (.getfield 17, 3) := by decide +kernel
theorem dX0_takeBack_4 : decode cX0_takeBack 4 = .ok (.ifCond .le 26, 3) := by decide +kernel
theorem dX0_takeBack_7 : decode cX0_takeBack 7 = .ok (.aload_n 0, 1) := by decide +kernel
theorem dX0_takeBack_8 : decode cX0_takeBack 8 = .ok (.dup, 1) := by decide +kernel
theorem dX0_takeBack_9 : decode cX0_takeBack 9 = .ok (.getfield 17, 3) := by decide +kernel
theorem dX0_takeBack_12 : decode cX0_takeBack 12 = .ok (.iconst 1, 1) := by decide +kernel
theorem dX0_takeBack_13 : decode cX0_takeBack 13 = .ok (.isub, 1) := by decide +kernel
theorem dX0_takeBack_14 : decode cX0_takeBack 14 = .ok (.putfield 17, 3) := by decide +kernel
theorem dX0_takeBack_17 : decode cX0_takeBack 17 = .ok (.aload_n 1, 1) := by decide +kernel
theorem dX0_takeBack_18 : decode cX0_takeBack 18 = .ok (.aload_n 0, 1) := by decide +kernel
theorem dX0_takeBack_19 : decode cX0_takeBack 19 = .ok (.getfield 11, 3) := by decide +kernel
theorem dX0_takeBack_22 : decode cX0_takeBack 22 = .ok (.aload_n 0, 1) := by decide +kernel
theorem dX0_takeBack_23 : decode cX0_takeBack 23 = .ok (.getfield 17, 3) := by decide +kernel
theorem dX0_takeBack_26 : decode cX0_takeBack 26 = .ok (.aaload, 1) := by decide +kernel
theorem dX0_takeBack_27 : decode cX0_takeBack 27 = .ok (.invokevirtual 25, 3) := by decide +kernel
theorem dX0_takeBack_30 : decode cX0_takeBack 30 = .ok (.return_, 1) := by decide +kernel
set_option maxRecDepth 20000 in
theorem ggX1_init_X3_init : GoodIn wsX1_init wsX3_init := goodIn_r _ [17, 18, 2, 3, 8, 19, 20, 21, 22, 23, 24, 25, 64, 65, 66, 67, 68, 69, 70] (by decide +kernel) (by decide +kernel)
set_option maxRecDepth 20000 in
theorem gX1_init_X3_init_n11 : GoodIn wsX1_init (wsX3_init) := ggX1_init_X3_init
set_option maxRecDepth 20000 in
theorem ggX1_init_X1_lay : GoodIn wsX1_init wsX1_lay := goodIn_r _ [30, 7, 31, 32, 33, 34, 29, 35, 9, 36, 37, 38, 10, 39, 40, 41, 42, 43, 44, 45, 46, 47, 48, 49, 50, 11, 12, 51, 52, 53, 6, 54, 22, 20, 55, 56, 57, 58, 13, 14, 15, 59, 60, 61, 62, 63, 71, 72, 73, 74, 75, 76, 77, 78, 64, 65, 66, 67, 68, 69, 70] (by decide +kernel) (by decide +kernel)
set_option maxRecDepth 20000 in
theorem gX1_init_X1_lay : GoodIn wsX1_init (wsV RX1 40 RX1 yX1_lay wsX1_lay) := goodIn_app (goodIn_of _ (by decide +kernel)) ggX1_init_X1_lay
theorem dX1_init_0 : decode cX1_init 0 = .ok (.aload_n 0, 1) := by decide +kernel
theorem dX1_init_1 : decode cX1_init 1 = .ok (.invokespecial 3, 3) := by decide +kernel
theorem dX1_init_4 : decode cX1_init 4 = .ok (.aload_n 0, 1) := by decide +kernel
theorem dX1_init_5 : decode cX1_init 5 = .ok (.new 9, 3) := by decide +kernel
theorem dX1_init_8 : decode cX1_init 8 = .ok (.dup, 1) := by decide +kernel
theorem dX1_init_9 : decode cX1_init 9 = .ok (.invokespecial 11, 3) := by decide +kernel
theorem dX1_init_12 : decode cX1_init 12 = .ok (.putfield 12, 3) := by decide +kernel
theorem dX1_init_15 : decode cX1_init 15 = .ok (.aload_n 0, 1) := by decide +kernel
theorem dX1_init_16 : decode cX1_init 16 = .ok (.bipush 101, 2) := by decide +kernel
theorem dX1_init_18 : decode cX1_init 18 = .ok (.newarray .int, 2) := by decide +kernel
theorem dX1_init_20 : decode cX1_init 20 = .ok (.putfield 18, 3) := by decide +kernel
theorem dX1_init_23 : decode cX1_init 23 = .ok (.aload_n 0, 1) := by decide +kernel
theorem dX1_init_24 : decode cX1_init 24 = .ok (.bipush 48, 2) := by decide +kernel
theorem dX1_init_26 : decode cX1_init 26 = .ok (.newarray .int, 2) := by decide +kernel
theorem dX1_init_28 : decode cX1_init 28 = .ok (.putfield 22, 3) := by decide +kernel
theorem dX1_init_31 : decode cX1_init 31 = .ok (.aload_n 0, 1) := by decide +kernel
theorem dX1_init_32 : decode cX1_init 32 = .ok (.bipush 6, 2) := by decide +kernel
theorem dX1_init_34 : decode cX1_init 34 = .ok (.newarray .int, 2) := by decide +kernel
theorem dX1_init_36 : decode cX1_init 36 = .ok (.putfield 25, 3) := by decide +kernel
theorem dX1_init_39 : decode cX1_init 39 = .ok (.aload_n 0, 1) := by decide +kernel
theorem dX1_init_40 : decode cX1_init 40 = .ok (.bipush 6, 2) := by decide +kernel
theorem dX1_init_42 : decode cX1_init 42 = .ok (.newarray .int, 2) := by decide +kernel
theorem dX1_init_44 : decode cX1_init 44 = .ok (.putfield 28, 3) := by decide +kernel
theorem dX1_init_47 : decode cX1_init 47 = .ok (.aload_n 0, 1) := by decide +kernel
theorem dX1_init_48 : decode cX1_init 48 = .ok (.bipush 40, 2) := by decide +kernel
theorem dX1_init_50 : decode cX1_init 50 = .ok (.newarray .int, 2) := by decide +kernel
theorem dX1_init_52 : decode cX1_init 52 = .ok (.putfield 31, 3) := by decide +kernel
theorem dX1_init_55 : decode cX1_init 55 = .ok (.aload_n 0, 1) := by decide +kernel
theorem dX1_init_56 : decode cX1_init 56 = .ok (.bipush 40, 2) := by decide +kernel
theorem dX1_init_58 : decode cX1_init 58 = .ok (.newarray .int, 2) := by decide +kernel
theorem dX1_init_60 : decode cX1_init 60 = .ok (.putfield 34, 3) := by decide +kernel
theorem dX1_init_63 : decode cX1_init 63 = .ok (.aload_n 0, 1) := by decide +kernel
theorem dX1_init_64 : decode cX1_init 64 = .ok (.bipush 40, 2) := by decide +kernel
theorem dX1_init_66 : decode cX1_init 66 = .ok (.newarray .int, 2) := by decide +kernel
theorem dX1_init_68 : decode cX1_init 68 = .ok (.putfield 37, 3) := by decide +kernel
theorem dX1_init_71 : decode cX1_init 71 = .ok (.aload_n 0, 1) := by decide +kernel
theorem dX1_init_72 : decode cX1_init 72 = .ok (.invokevirtual 40, 3) := by decide +kernel
theorem dX1_init_75 : decode cX1_init 75 = .ok (.return_, 1) := by decide +kernel
set_option maxRecDepth 20000 in
theorem ggX1_lay_X1_setMarks : GoodIn wsX1_lay wsX1_setMarks := goodIn_r _ [7, 8, 1, 9, 10, 11, 12, 13, 14, 15, 6, 16, 17, 18, 19, 46, 47, 48, 49, 50, 51, 52, 53, 54, 55, 56, 57, 58, 59, 60] (by decide +kernel) (by decide +kernel)
set_option maxRecDepth 20000 in
theorem gX1_lay_X1_setMarks : GoodIn wsX1_lay (wsV RX1 43 RX1 yX1_setMarks wsX1_setMarks) := goodIn_app (goodIn_of _ (by decide +kernel)) ggX1_lay_X1_setMarks
set_option maxRecDepth 20000 in
theorem ggX1_lay_X1_setBounds : GoodIn wsX1_lay wsX1_setBounds := goodIn_r _ [23, 1, 9, 2, 10, 24, 25, 26, 27, 28, 29, 30, 31, 32, 33, 46, 47, 48, 49, 50, 51, 52, 53, 54, 55, 56, 57, 58, 59, 60] (by decide +kernel) (by decide +kernel)
set_option maxRecDepth 20000 in
theorem gX1_lay_X1_setBounds : GoodIn wsX1_lay (wsV RX1 46 RX1 yX1_setBounds wsX1_setBounds) := goodIn_app (goodIn_of _ (by decide +kernel)) ggX1_lay_X1_setBounds
set_option maxRecDepth 20000 in
theorem ggX1_lay_X1_layKey : GoodIn wsX1_lay wsX1_layKey := goodIn_r _ [37, 38, 39, 40, 8, 26, 25, 41, 42, 43, 6, 44, 1, 45, 17, 18, 19, 46, 47, 48, 49, 50, 51, 52, 53, 54, 55, 56, 57, 58, 59, 60] (by decide +kernel) (by decide +kernel)
set_option maxRecDepth 20000 in
theorem gX1_lay_X1_layKey : GoodIn wsX1_lay (wsV RX1 53 RX1 yX1_layKey wsX1_layKey) := goodIn_app (goodIn_of _ (by decide +kernel)) ggX1_lay_X1_layKey
theorem dX1_lay_0 : decode cX1_lay 0 = .ok (.aload_n 0, 1) := by decide +kernel
theorem dX1_lay_1 : decode cX1_lay 1 = .ok (.invokevirtual 43, 3) := by decide +kernel
theorem dX1_lay_4 : decode cX1_lay 4 = .ok (.aload_n 0, 1) := by decide +kernel
theorem dX1_lay_5 : decode cX1_lay 5 = .ok (.invokevirtual 46, 3) := by decide +kernel
theorem dX1_lay_8 : decode cX1_lay 8 = .ok (.iconst 0, 1) := by decide +kernel
theorem dX1_lay_9 : decode cX1_lay 9 = .ok (.istore_n 1, 1) := by decide +kernel
theorem dX1_lay_10 : decode cX1_lay 10 = .ok (.iload_n 1, 1) := by decide +kernel
theorem dX1_lay_11 : decode cX1_lay 11 = .ok (.aload_n 0, 1) := by decide +kernel
theorem dX1_lay_12 : decode cX1_lay 12 = .ok (.getfield 12, 3) := by decide +kernel
theorem dX1_lay_15 : decode cX1_lay 15 = .ok (.getfield 49, 3) := by decide +kernel
theorem dX1_lay_18 : decode cX1_lay 18 = .ok (.if_icmp .ge 14, 3) := by decide +kernel
theorem dX1_lay_21 : decode cX1_lay 21 = .ok (.aload_n 0, 1) := by decide +kernel
theorem dX1_lay_22 : decode cX1_lay 22 = .ok (.iload_n 1, 1) := by decide +kernel
theorem dX1_lay_23 : decode cX1_lay 23 = .ok (.invokevirtual 53, 3) := by decide +kernel
theorem dX1_lay_26 : decode cX1_lay 26 = .ok (.iinc 1 1, 3) := by decide +kernel
theorem dX1_lay_29 : decode cX1_lay 29 = .ok (.goto (-19), 3) := by decide +kernel
theorem dX1_lay_32 : decode cX1_lay 32 = .ok (.return_, 1) := by decide +kernel
set_option maxRecDepth 20000 in
theorem ggX1_setMarks_X1_freePlaceFrom : GoodIn wsX1_setMarks wsX1_freePlaceFrom := goodIn_r _ [11, 1, 12, 13, 10, 14, 15, 16, 17, 18, 19, 20, 21, 22] (by decide +kernel) (by decide +kernel)
set_option maxRecDepth 20000 in
theorem gX1_setMarks_X1_freePlaceFrom : GoodIn wsX1_setMarks (wsV RX1 66 RX1 yX1_freePlaceFrom wsX1_freePlaceFrom) := goodIn_app (goodIn_of _ (by decide +kernel)) ggX1_setMarks_X1_freePlaceFrom
theorem dX1_setMarks_0 : decode cX1_setMarks 0 = .ok (.iconst 0, 1) := by decide +kernel
theorem dX1_setMarks_1 : decode cX1_setMarks 1 = .ok (.istore_n 1, 1) := by decide +kernel
theorem dX1_setMarks_2 : decode cX1_setMarks 2 = .ok (.iload_n 1, 1) := by decide +kernel
theorem dX1_setMarks_3 : decode cX1_setMarks 3 = .ok (.bipush 101, 2) := by decide +kernel
theorem dX1_setMarks_5 : decode cX1_setMarks 5 = .ok (.if_icmp .ge 16, 3) := by decide +kernel
theorem dX1_setMarks_8 : decode cX1_setMarks 8 = .ok (.aload_n 0, 1) := by decide +kernel
theorem dX1_setMarks_9 : decode cX1_setMarks 9 = .ok (.getfield 18, 3) := by decide +kernel
theorem dX1_setMarks_12 : decode cX1_setMarks 12 = .ok (.iload_n 1, 1) := by decide +kernel
theorem dX1_setMarks_13 : decode cX1_setMarks 13 = .ok (.iconst (-1), 1) := by decide +kernel
theorem dX1_setMarks_14 : decode cX1_setMarks 14 = .ok (.iastore, 1) := by decide +kernel
theorem dX1_setMarks_15 : decode cX1_setMarks 15 = .ok (.iinc 1 1, 3) := by decide +kernel
theorem dX1_setMarks_18 : decode cX1_setMarks 18 = .ok (.goto (-16), 3) := by decide +kernel
theorem dX1_setMarks_21 : decode cX1_setMarks 21 = .ok (.iconst 0, 1) := by decide +kernel
theorem dX1_setMarks_22 : decode cX1_setMarks 22 = .ok (.istore_n 1, 1) := by decide +kernel
theorem dX1_setMarks_23 : decode cX1_setMarks 23 = .ok (.iload_n 1, 1) := by decide +kernel
theorem dX1_setMarks_24 : decode cX1_setMarks 24 = .ok (.aload_n 0, 1) := by decide +kernel
theorem dX1_setMarks_25 : decode cX1_setMarks 25 = .ok (.getfield 12, 3) := by decide +kernel
theorem dX1_setMarks_28 : decode cX1_setMarks 28 = .ok (.getfield 57, 3) := by decide +kernel
theorem dX1_setMarks_31 : decode cX1_setMarks 31 = .ok (.if_icmp .ge 83, 3) := by decide +kernel
theorem dX1_setMarks_34 : decode cX1_setMarks 34 = .ok (.iconst 2, 1) := by decide +kernel
theorem dX1_setMarks_35 : decode cX1_setMarks 35 = .ok (.aload_n 0, 1) := by decide +kernel
theorem dX1_setMarks_36 : decode cX1_setMarks 36 = .ok (.getfield 12, 3) := by decide +kernel
theorem dX1_setMarks_39 : decode cX1_setMarks 39 = .ok (.getfield 60, 3) := by decide +kernel
theorem dX1_setMarks_42 : decode cX1_setMarks 42 = .ok (.iload_n 1, 1) := by decide +kernel
theorem dX1_setMarks_43 : decode cX1_setMarks 43 = .ok (.iaload, 1) := by decide +kernel
theorem dX1_setMarks_44 : decode cX1_setMarks 44 = .ok (.imul, 1) := by decide +kernel
theorem dX1_setMarks_45 : decode cX1_setMarks 45 = .ok (.istore_n 2, 1) := by decide +kernel
theorem dX1_setMarks_46 : decode cX1_setMarks 46 = .ok (.iconst 0, 1) := by decide +kernel
theorem dX1_setMarks_47 : decode cX1_setMarks 47 = .ok (.istore_n 3, 1) := by decide +kernel
theorem dX1_setMarks_48 : decode cX1_setMarks 48 = .ok (.iload_n 3, 1) := by decide +kernel
theorem dX1_setMarks_49 : decode cX1_setMarks 49 = .ok (.iload_n 2, 1) := by decide +kernel
theorem dX1_setMarks_50 : decode cX1_setMarks 50 = .ok (.if_icmp .ge 58, 3) := by decide +kernel
theorem dX1_setMarks_53 : decode cX1_setMarks 53 = .ok (.aload_n 0, 1) := by decide +kernel
theorem dX1_setMarks_54 : decode cX1_setMarks 54 = .ok (.bipush 41, 2) := by decide +kernel
theorem dX1_setMarks_56 : decode cX1_setMarks 56 = .ok (.aload_n 0, 1) := by decide +kernel
theorem dX1_setMarks_57 : decode cX1_setMarks 57 = .ok (.getfield 12, 3) := by decide +kernel
theorem dX1_setMarks_60 : decode cX1_setMarks 60 = .ok (.getfield 63, 3) := by decide +kernel
theorem dX1_setMarks_63 : decode cX1_setMarks 63 = .ok (.iload_n 1, 1) := by decide +kernel
theorem dX1_setMarks_64 : decode cX1_setMarks 64 = .ok (.iaload, 1) := by decide +kernel
theorem dX1_setMarks_65 : decode cX1_setMarks 65 = .ok (.imul, 1) := by decide +kernel
theorem dX1_setMarks_66 : decode cX1_setMarks 66 = .ok (.bipush 29, 2) := by decide +kernel
theorem dX1_setMarks_68 : decode cX1_setMarks 68 = .ok (.iload_n 3, 1) := by decide +kernel
theorem dX1_setMarks_69 : decode cX1_setMarks 69 = .ok (.imul, 1) := by decide +kernel
theorem dX1_setMarks_70 : decode cX1_setMarks 70 = .ok (.iadd, 1) := by decide +kernel
theorem dX1_setMarks_71 : decode cX1_setMarks 71 = .ok (.iconst 5, 1) := by decide +kernel
theorem dX1_setMarks_72 : decode cX1_setMarks 72 = .ok (.iadd, 1) := by decide +kernel
theorem dX1_setMarks_73 : decode cX1_setMarks 73 = .ok (.bipush 101, 2) := by decide +kernel
theorem dX1_setMarks_75 : decode cX1_setMarks 75 = .ok (.irem, 1) := by decide +kernel
theorem dX1_setMarks_76 : decode cX1_setMarks 76 = .ok (.invokevirtual 66, 3) := by decide +kernel
theorem dX1_setMarks_79 : decode cX1_setMarks 79 = .ok (.istore 4, 2) := by decide +kernel
theorem dX1_setMarks_81 : decode cX1_setMarks 81 = .ok (.aload_n 0, 1) := by decide +kernel
theorem dX1_setMarks_82 : decode cX1_setMarks 82 = .ok (.getfield 18, 3) := by decide +kernel
theorem dX1_setMarks_85 : decode cX1_setMarks 85 = .ok (.iload 4, 2) := by decide +kernel
theorem dX1_setMarks_87 : decode cX1_setMarks 87 = .ok (.iload_n 1, 1) := by decide +kernel
theorem dX1_setMarks_88 : decode cX1_setMarks 88 = .ok (.iastore, 1) := by decide +kernel
theorem dX1_setMarks_89 : decode cX1_setMarks 89 = .ok (.aload_n 0, 1) := by decide +kernel
theorem dX1_setMarks_90 : decode cX1_setMarks 90 = .ok (.getfield 22, 3) := by decide +kernel
theorem dX1_setMarks_93 : decode cX1_setMarks 93 = .ok (.iload_n 1, 1) := by decide +kernel
theorem dX1_setMarks_94 : decode cX1_setMarks 94 = .ok (.bipush 8, 2) := by decide +kernel
theorem dX1_setMarks_96 : decode cX1_setMarks 96 = .ok (.imul, 1) := by decide +kernel
theorem dX1_setMarks_97 : decode cX1_setMarks 97 = .ok (.iload_n 3, 1) := by decide +kernel
theorem dX1_setMarks_98 : decode cX1_setMarks 98 = .ok (.iadd, 1) := by decide +kernel
theorem dX1_setMarks_99 : decode cX1_setMarks 99 = .ok (.iload 4, 2) := by decide +kernel
theorem dX1_setMarks_101 : decode cX1_setMarks 101 = .ok (.iastore, 1) := by decide +kernel
theorem dX1_setMarks_102 : decode cX1_setMarks 102 = .ok (.iinc 3 1, 3) := by decide +kernel
theorem dX1_setMarks_105 : decode cX1_setMarks 105 = .ok (.goto (-57), 3) := by decide +kernel
theorem dX1_setMarks_108 : decode cX1_setMarks 108 = .ok (.iinc 1 1, 3) := by decide +kernel
theorem dX1_setMarks_111 : decode cX1_setMarks 111 = .ok (.goto (-88), 3) := by decide +kernel
theorem dX1_setMarks_114 : decode cX1_setMarks 114 = .ok (.return_, 1) := by decide +kernel
set_option maxRecDepth 20000 in
theorem ggX1_freePlaceFrom_X1_placeBehind : GoodIn wsX1_freePlaceFrom wsX1_placeBehind := goodIn_r _ [5] (by decide +kernel) (by decide +kernel)
set_option maxRecDepth 20000 in
theorem gX1_freePlaceFrom_X1_placeBehind : GoodIn wsX1_freePlaceFrom (va_wsS RX1 70 yX1_placeBehind wsX1_placeBehind) := goodIn_app (goodIn_of _ (by decide +kernel)) ggX1_freePlaceFrom_X1_placeBehind
theorem dX1_freePlaceFrom_0 : decode cX1_freePlaceFrom 0 = .ok (.iload_n 1, 1) := by decide +kernel
theorem dX1_freePlaceFrom_1 : decode cX1_freePlaceFrom 1 = .ok (.istore_n 2, 1) := by decide +kernel
theorem dX1_freePlaceFrom_2 : decode cX1_freePlaceFrom 2 = .ok (.iconst 0, 1) := by decide +kernel
theorem dX1_freePlaceFrom_3 : decode cX1_freePlaceFrom 3 = .ok (.istore_n 3, 1) := by decide +kernel
theorem dX1_freePlaceFrom_4 : decode cX1_freePlaceFrom 4 = .ok (.iload_n 3, 1) := by decide +kernel
theorem dX1_freePlaceFrom_5 : decode cX1_freePlaceFrom 5 = .ok (.bipush 101, 2) := by decide +kernel
theorem dX1_freePlaceFrom_7 : decode cX1_freePlaceFrom 7 = .ok (.if_icmp .ge 24, 3) := by decide +kernel
theorem dX1_freePlaceFrom_10 : decode cX1_freePlaceFrom 10 = .ok (.aload_n 0, 1) := by decide +kernel
theorem dX1_freePlaceFrom_11 : decode cX1_freePlaceFrom 11 = .ok (.getfield 18, 3) := by decide +kernel
theorem dX1_freePlaceFrom_14 : decode cX1_freePlaceFrom 14 = .ok (.iload_n 2, 1) := by decide +kernel
theorem dX1_freePlaceFrom_15 : decode cX1_freePlaceFrom 15 = .ok (.iaload, 1) := by decide +kernel
theorem dX1_freePlaceFrom_16 : decode cX1_freePlaceFrom 16 = .ok (.iconst (-1), 1) := by decide +kernel
theorem dX1_freePlaceFrom_17 : decode cX1_freePlaceFrom 17 = .ok (.if_icmp .eq 14, 3) := by decide +kernel
theorem dX1_freePlaceFrom_20 : decode cX1_freePlaceFrom 20 = .ok (.iload_n 2, 1) := by decide +kernel
theorem dX1_freePlaceFrom_21 : decode cX1_freePlaceFrom 21 = .ok (.invokestatic 70, 3) := by decide +kernel
theorem dX1_freePlaceFrom_24 : decode cX1_freePlaceFrom 24 = .ok (.istore_n 2, 1) := by decide +kernel
theorem dX1_freePlaceFrom_25 : decode cX1_freePlaceFrom 25 = .ok (.iinc 3 1, 3) := by decide +kernel
theorem dX1_freePlaceFrom_28 : decode cX1_freePlaceFrom 28 = .ok (.goto (-24), 3) := by decide +kernel
theorem dX1_freePlaceFrom_31 : decode cX1_freePlaceFrom 31 = .ok (.iload_n 2, 1) := by decide +kernel
theorem dX1_freePlaceFrom_32 : decode cX1_freePlaceFrom 32 = .ok (.ireturn, 1) := by decide +kernel
set_option maxRecDepth 20000 in
theorem ggX1_setBounds_X3_allWeights : GoodIn wsX1_setBounds wsX3_allWeights := goodIn_r _ [12, 13, 14, 23, 24, 25, 26, 27, 28, 29] (by decide +kernel) (by decide +kernel)
set_option maxRecDepth 20000 in
theorem gX1_setBounds_X3_allWeights : GoodIn wsX1_setBounds (wsV RX1 73 RX3 yX3_allWeights wsX3_allWeights) := goodIn_app (goodIn_of _ (by decide +kernel)) ggX1_setBounds_X3_allWeights
theorem dX1_setBounds_0 : decode cX1_setBounds 0 = .ok (.bipush 100, 2) := by decide +kernel
theorem dX1_setBounds_2 : decode cX1_setBounds 2 = .ok (.aload_n 0, 1) := by decide +kernel
theorem dX1_setBounds_3 : decode cX1_setBounds 3 = .ok (.getfield 12, 3) := by decide +kernel
theorem dX1_setBounds_6 : decode cX1_setBounds 6 = .ok (.invokevirtual 73, 3) := by decide +kernel
theorem dX1_setBounds_9 : decode cX1_setBounds 9 = .ok (.imul, 1) := by decide +kernel
theorem dX1_setBounds_10 : decode cX1_setBounds 10 = .ok (.istore_n 1, 1) := by decide +kernel
theorem dX1_setBounds_11 : decode cX1_setBounds 11 = .ok (.iconst 0, 1) := by decide +kernel
theorem dX1_setBounds_12 : decode cX1_setBounds 12 = .ok (.istore_n 2, 1) := by decide +kernel
theorem dX1_setBounds_13 : decode cX1_setBounds 13 = .ok (.iload_n 2, 1) := by decide +kernel
theorem dX1_setBounds_14 : decode cX1_setBounds 14 = .ok (.aload_n 0, 1) := by decide +kernel
theorem dX1_setBounds_15 : decode cX1_setBounds 15 = .ok (.getfield 12, 3) := by decide +kernel
theorem dX1_setBounds_18 : decode cX1_setBounds 18 = .ok (.getfield 57, 3) := by decide +kernel
theorem dX1_setBounds_21 : decode cX1_setBounds 21 = .ok (.if_icmp .ge 62, 3) := by decide +kernel
theorem dX1_setBounds_24 : decode cX1_setBounds 24 = .ok (.iload_n 1, 1) := by decide +kernel
theorem dX1_setBounds_25 : decode cX1_setBounds 25 = .ok (.ifCond .le 58, 3) := by decide +kernel
theorem dX1_setBounds_28 : decode cX1_setBounds 28 = .ok (.aload_n 0, 1) := by decide +kernel
theorem dX1_setBounds_29 : decode cX1_setBounds 29 = .ok (.getfield 12, 3) := by decide +kernel
theorem dX1_setBounds_32 : decode cX1_setBounds 32 = .ok (.getfield 49, 3) := by decide +kernel
theorem dX1_setBounds_35 : decode cX1_setBounds 35 = .ok (.aload_n 0, 1) := by decide +kernel
theorem dX1_setBounds_36 : decode cX1_setBounds 36 = .ok (.getfield 12, 3) := by decide +kernel
theorem dX1_setBounds_39 : decode cX1_setBounds 39 = .ok (.getfield 60, 3) := by decide +kernel
theorem dX1_setBounds_42 : decode cX1_setBounds 42 = .ok (.iload_n 2, 1) := by decide +kernel
theorem dX1_setBounds_43 : decode cX1_setBounds 43 = .ok (.iaload, 1) := by decide +kernel
theorem dX1_setBounds_44 : decode cX1_setBounds 44 = .ok (.imul, 1) := by decide +kernel
theorem dX1_setBounds_45 : decode cX1_setBounds 45 = .ok (.bipush 100, 2) := by decide +kernel
theorem dX1_setBounds_47 : decode cX1_setBounds 47 = .ok (.aload_n 0, 1) := by decide +kernel
theorem dX1_setBounds_48 : decode cX1_setBounds 48 = .ok (.getfield 12, 3) := by decide +kernel
theorem dX1_setBounds_51 : decode cX1_setBounds 51 = .ok (.getfield 77, 3) := by decide +kernel
theorem dX1_setBounds_54 : decode cX1_setBounds 54 = .ok (.iadd, 1) := by decide +kernel
theorem dX1_setBounds_55 : decode cX1_setBounds 55 = .ok (.imul, 1) := by decide +kernel
theorem dX1_setBounds_56 : decode cX1_setBounds 56 = .ok (.istore_n 3, 1) := by decide +kernel
theorem dX1_setBounds_57 : decode cX1_setBounds 57 = .ok (.aload_n 0, 1) := by decide +kernel
theorem dX1_setBounds_58 : decode cX1_setBounds 58 = .ok (.getfield 25, 3) := by decide +kernel
theorem dX1_setBounds_61 : decode cX1_setBounds 61 = .ok (.iload_n 2, 1) := by decide +kernel
theorem dX1_setBounds_62 : decode cX1_setBounds 62 = .ok (.iload_n 3, 1) := by decide +kernel
theorem dX1_setBounds_63 : decode cX1_setBounds 63 = .ok (.iload_n 1, 1) := by decide +kernel
theorem dX1_setBounds_64 : decode cX1_setBounds 64 = .ok (.iadd, 1) := by decide +kernel
theorem dX1_setBounds_65 : decode cX1_setBounds 65 = .ok (.iconst 1, 1) := by decide +kernel
theorem dX1_setBounds_66 : decode cX1_setBounds 66 = .ok (.isub, 1) := by decide +kernel
theorem dX1_setBounds_67 : decode cX1_setBounds 67 = .ok (.iload_n 1, 1) := by decide +kernel
theorem dX1_setBounds_68 : decode cX1_setBounds 68 = .ok (.idiv, 1) := by decide +kernel
theorem dX1_setBounds_69 : decode cX1_setBounds 69 = .ok (.iastore, 1) := by decide +kernel
theorem dX1_setBounds_70 : decode cX1_setBounds 70 = .ok (.aload_n 0, 1) := by decide +kernel
theorem dX1_setBounds_71 : decode cX1_setBounds 71 = .ok (.getfield 28, 3) := by decide +kernel
theorem dX1_setBounds_74 : decode cX1_setBounds 74 = .ok (.iload_n 2, 1) := by decide +kernel
theorem dX1_setBounds_75 : decode cX1_setBounds 75 = .ok (.iconst 0, 1) := by decide +kernel
theorem dX1_setBounds_76 : decode cX1_setBounds 76 = .ok (.iastore, 1) := by decide +kernel
theorem dX1_setBounds_77 : decode cX1_setBounds 77 = .ok (.iinc 2 1, 3) := by decide +kernel
theorem dX1_setBounds_80 : decode cX1_setBounds 80 = .ok (.goto (-67), 3) := by decide +kernel
theorem dX1_setBounds_83 : decode cX1_setBounds 83 = .ok (.return_, 1) := by decide +kernel
set_option maxRecDepth 20000 in
theorem ggX1_layKey_X1_placeOfKey : GoodIn wsX1_layKey wsX1_placeOfKey := goodIn_r _ [11, 12, 13, 17, 18, 19, 20, 21, 22, 23, 24, 25, 26, 27, 28, 29, 30, 31] (by decide +kernel) (by decide +kernel)
set_option maxRecDepth 20000 in
theorem gX1_layKey_X1_placeOfKey : GoodIn wsX1_layKey (wsV RX1 80 RX1 yX1_placeOfKey wsX1_placeOfKey) := goodIn_app (goodIn_of _ (by decide +kernel)) ggX1_layKey_X1_placeOfKey
set_option maxRecDepth 20000 in
theorem ggX1_layKey_X1_placeBehind : GoodIn wsX1_layKey wsX1_placeBehind := goodIn_r _ [16] (by decide +kernel) (by decide +kernel)
set_option maxRecDepth 20000 in
theorem gX1_layKey_X1_placeBehind : GoodIn wsX1_layKey (va_wsS RX1 70 yX1_placeBehind wsX1_placeBehind) := goodIn_app (goodIn_of _ (by decide +kernel)) ggX1_layKey_X1_placeBehind
theorem dX1_layKey_0 : decode cX1_layKey 0 = .ok (.aload_n 0, 1) := by decide +kernel
theorem dX1_layKey_1 : decode cX1_layKey 1 = .ok (.getfield 31, 3) := by decide +kernel
theorem dX1_layKey_4 : decode cX1_layKey 4 = .ok (.iload_n 1, 1) := by decide +kernel
theorem dX1_layKey_5 : decode cX1_layKey 5 = .ok (.iconst (-1), 1) := by decide +kernel
theorem dX1_layKey_6 : decode cX1_layKey 6 = .ok (.iastore, 1) := by decide +kernel
theorem dX1_layKey_7 : decode cX1_layKey 7 = .ok (.aload_n 0, 1) := by decide +kernel
theorem dX1_layKey_8 : decode cX1_layKey 8 = .ok (.getfield 34, 3) := by decide +kernel
theorem dX1_layKey_11 : decode cX1_layKey 11 = .ok (.iload_n 1, 1) := by decide +kernel
theorem dX1_layKey_12 : decode cX1_layKey 12 = .ok (.iconst (-1), 1) := by decide +kernel
theorem dX1_layKey_13 : decode cX1_layKey 13 = .ok (.iastore, 1) := by decide +kernel
theorem dX1_layKey_14 : decode cX1_layKey 14 = .ok (.aload_n 0, 1) := by decide +kernel
theorem dX1_layKey_15 : decode cX1_layKey 15 = .ok (.getfield 37, 3) := by decide +kernel
theorem dX1_layKey_18 : decode cX1_layKey 18 = .ok (.iload_n 1, 1) := by decide +kernel
theorem dX1_layKey_19 : decode cX1_layKey 19 = .ok (.iconst (-1), 1) := by decide +kernel
theorem dX1_layKey_20 : decode cX1_layKey 20 = .ok (.iastore, 1) := by decide +kernel
theorem dX1_layKey_21 : decode cX1_layKey 21 = .ok (.aload_n 0, 1) := by decide +kernel
theorem dX1_layKey_22 : decode cX1_layKey 22 = .ok (.iload_n 1, 1) := by decide +kernel
theorem dX1_layKey_23 : decode cX1_layKey 23 = .ok (.invokevirtual 80, 3) := by decide +kernel
theorem dX1_layKey_26 : decode cX1_layKey 26 = .ok (.istore_n 2, 1) := by decide +kernel
theorem dX1_layKey_27 : decode cX1_layKey 27 = .ok (.iconst 0, 1) := by decide +kernel
theorem dX1_layKey_28 : decode cX1_layKey 28 = .ok (.istore_n 3, 1) := by decide +kernel
theorem dX1_layKey_29 : decode cX1_layKey 29 = .ok (.iconst 0, 1) := by decide +kernel
theorem dX1_layKey_30 : decode cX1_layKey 30 = .ok (.istore 4, 2) := by decide +kernel
theorem dX1_layKey_32 : decode cX1_layKey 32 = .ok (.iload 4, 2) := by decide +kernel
theorem dX1_layKey_34 : decode cX1_layKey 34 = .ok (.bipush 101, 2) := by decide +kernel
theorem dX1_layKey_36 : decode cX1_layKey 36 = .ok (.if_icmp .ge 89, 3) := by decide +kernel
theorem dX1_layKey_39 : decode cX1_layKey 39 = .ok (.aload_n 0, 1) := by decide +kernel
theorem dX1_layKey_40 : decode cX1_layKey 40 = .ok (.getfield 18, 3) := by decide +kernel
theorem dX1_layKey_43 : decode cX1_layKey 43 = .ok (.iload_n 2, 1) := by decide +kernel
theorem dX1_layKey_44 : decode cX1_layKey 44 = .ok (.iaload, 1) := by decide +kernel
theorem dX1_layKey_45 : decode cX1_layKey 45 = .ok (.istore 5, 2) := by decide +kernel
theorem dX1_layKey_47 : decode cX1_layKey 47 = .ok (.iload 5, 2) := by decide +kernel
theorem dX1_layKey_49 : decode cX1_layKey 49 = .ok (.iconst (-1), 1) := by decide +kernel
theorem dX1_layKey_50 : decode cX1_layKey 50 = .ok (.if_icmp .eq 55, 3) := by decide +kernel
theorem dX1_layKey_53 : decode cX1_layKey 53 = .ok (.aload_n 0, 1) := by decide +kernel
theorem dX1_layKey_54 : decode cX1_layKey 54 = .ok (.getfield 28, 3) := by decide +kernel
theorem dX1_layKey_57 : decode cX1_layKey 57 = .ok (.iload 5, 2) := by decide +kernel
theorem dX1_layKey_59 : decode cX1_layKey 59 = .ok (.iaload, 1) := by decide +kernel
theorem dX1_layKey_60 : decode cX1_layKey 60 = .ok (.aload_n 0, 1) := by decide +kernel
theorem dX1_layKey_61 : decode cX1_layKey 61 = .ok (.getfield 25, 3) := by decide +kernel
theorem dX1_layKey_64 : decode cX1_layKey 64 = .ok (.iload 5, 2) := by decide +kernel
theorem dX1_layKey_66 : decode cX1_layKey 66 = .ok (.iaload, 1) := by decide +kernel
theorem dX1_layKey_67 : decode cX1_layKey 67 = .ok (.if_icmp .ge 38, 3) := by decide +kernel
theorem dX1_layKey_70 : decode cX1_layKey 70 = .ok (.aload_n 0, 1) := by decide +kernel
theorem dX1_layKey_71 : decode cX1_layKey 71 = .ok (.getfield 31, 3) := by decide +kernel
theorem dX1_layKey_74 : decode cX1_layKey 74 = .ok (.iload_n 1, 1) := by decide +kernel
theorem dX1_layKey_75 : decode cX1_layKey 75 = .ok (.iload 5, 2) := by decide +kernel
theorem dX1_layKey_77 : decode cX1_layKey 77 = .ok (.iastore, 1) := by decide +kernel
theorem dX1_layKey_78 : decode cX1_layKey 78 = .ok (.aload_n 0, 1) := by decide +kernel
theorem dX1_layKey_79 : decode cX1_layKey 79 = .ok (.getfield 34, 3) := by decide +kernel
theorem dX1_layKey_82 : decode cX1_layKey 82 = .ok (.iload_n 1, 1) := by decide +kernel
theorem dX1_layKey_83 : decode cX1_layKey 83 = .ok (.iload_n 3, 1) := by decide +kernel
theorem dX1_layKey_84 : decode cX1_layKey 84 = .ok (.iastore, 1) := by decide +kernel
theorem dX1_layKey_85 : decode cX1_layKey 85 = .ok (.aload_n 0, 1) := by decide +kernel
theorem dX1_layKey_86 : decode cX1_layKey 86 = .ok (.getfield 37, 3) := by decide +kernel
theorem dX1_layKey_89 : decode cX1_layKey 89 = .ok (.iload_n 1, 1) := by decide +kernel
theorem dX1_layKey_90 : decode cX1_layKey 90 = .ok (.iload 4, 2) := by decide +kernel
theorem dX1_layKey_92 : decode cX1_layKey 92 = .ok (.iastore, 1) := by decide +kernel
theorem dX1_layKey_93 : decode cX1_layKey 93 = .ok (.aload_n 0, 1) := by decide +kernel
theorem dX1_layKey_94 : decode cX1_layKey 94 = .ok (.getfield 28, 3) := by decide +kernel
theorem dX1_layKey_97 : decode cX1_layKey 97 = .ok (.iload 5, 2) := by decide +kernel
theorem dX1_layKey_99 : decode cX1_layKey 99 = .ok (.dup2, 1) := by decide +kernel
theorem dX1_layKey_100 : decode cX1_layKey 100 = .ok (.iaload, 1) := by decide +kernel
theorem dX1_layKey_101 : decode cX1_layKey 101 = .ok (.iconst 1, 1) := by decide +kernel
theorem dX1_layKey_102 : decode cX1_layKey 102 = .ok (.iadd, 1) := by decide +kernel
theorem dX1_layKey_103 : decode cX1_layKey 103 = .ok (.iastore, 1) := by decide +kernel
theorem dX1_layKey_104 : decode cX1_layKey 104 = .ok (.return_, 1) := by decide +kernel
theorem dX1_layKey_105 : decode cX1_layKey 105 = .ok (.iload 5, 2) := by decide +kernel
theorem dX1_layKey_107 : decode cX1_layKey 107 = .ok (.iconst (-1), 1) := by decide +kernel
theorem dX1_layKey_108 : decode cX1_layKey 108 = .ok (.if_icmp .eq 6, 3) := by decide +kernel
theorem dX1_layKey_111 : decode cX1_layKey 111 = .ok (.iinc 3 1, 3) := by decide +kernel
theorem dX1_layKey_114 : decode cX1_layKey 114 = .ok (.iload_n 2, 1) := by decide +kernel
theorem dX1_layKey_115 : decode cX1_layKey 115 = .ok (.invokestatic 70, 3) := by decide +kernel
theorem dX1_layKey_118 : decode cX1_layKey 118 = .ok (.istore_n 2, 1) := by decide +kernel
theorem dX1_layKey_119 : decode cX1_layKey 119 = .ok (.iinc 4 1, 3) := by decide +kernel
theorem dX1_layKey_122 : decode cX1_layKey 122 = .ok (.goto (-90), 3) := by decide +kernel
theorem dX1_layKey_125 : decode cX1_layKey 125 = .ok (.return_, 1) := by decide +kernel
theorem dX1_placeBehind_0 : decode cX1_placeBehind 0 = .ok (.iload_n 0, 1) := by decide +kernel
theorem dX1_placeBehind_1 : decode cX1_placeBehind 1 = .ok (.iconst 1, 1) := by decide +kernel
theorem dX1_placeBehind_2 : decode cX1_placeBehind 2 = .ok (.iadd, 1) := by decide +kernel
theorem dX1_placeBehind_3 : decode cX1_placeBehind 3 = .ok (.bipush 101, 2) := by decide +kernel
theorem dX1_placeBehind_5 : decode cX1_placeBehind 5 = .ok (.if_icmp .ge 9, 3) := by decide +kernel
theorem dX1_placeBehind_8 : decode cX1_placeBehind 8 = .ok (.iload_n 0, 1) := by decide +kernel
theorem dX1_placeBehind_9 : decode cX1_placeBehind 9 = .ok (.iconst 1, 1) := by decide +kernel
theorem dX1_placeBehind_10 : decode cX1_placeBehind 10 = .ok (.iadd, 1) := by decide +kernel
theorem dX1_placeBehind_11 : decode cX1_placeBehind 11 = .ok (.goto 4, 3) := by decide +kernel
theorem dX1_placeBehind_14 : decode cX1_placeBehind 14 = .ok (.iconst 0, 1) := by decide +kernel
theorem dX1_placeBehind_15 : decode cX1_placeBehind 15 = .ok (.ireturn, 1) := by decide +kernel
theorem dX1_placeOfKey_0 : decode cX1_placeOfKey 0 = .ok (.bipush 53, 2) := by decide +kernel
theorem dX1_placeOfKey_2 : decode cX1_placeOfKey 2 = .ok (.aload_n 0, 1) := by decide +kernel
theorem dX1_placeOfKey_3 : decode cX1_placeOfKey 3 = .ok (.getfield 12, 3) := by decide +kernel
theorem dX1_placeOfKey_6 : decode cX1_placeOfKey 6 = .ok (.getfield 83, 3) := by decide +kernel
theorem dX1_placeOfKey_9 : decode cX1_placeOfKey 9 = .ok (.iload_n 1, 1) := by decide +kernel
theorem dX1_placeOfKey_10 : decode cX1_placeOfKey 10 = .ok (.iaload, 1) := by decide +kernel
theorem dX1_placeOfKey_11 : decode cX1_placeOfKey 11 = .ok (.imul, 1) := by decide +kernel
theorem dX1_placeOfKey_12 : decode cX1_placeOfKey 12 = .ok (.bipush 17, 2) := by decide +kernel
theorem dX1_placeOfKey_14 : decode cX1_placeOfKey 14 = .ok (.iadd, 1) := by decide +kernel
theorem dX1_placeOfKey_15 : decode cX1_placeOfKey 15 = .ok (.bipush 101, 2) := by decide +kernel
theorem dX1_placeOfKey_17 : decode cX1_placeOfKey 17 = .ok (.irem, 1) := by decide +kernel
theorem dX1_placeOfKey_18 : decode cX1_placeOfKey 18 = .ok (.ireturn, 1) := by decide +kernel
set_option maxRecDepth 20000 in
theorem ggX1_hostNameOfKey_X3_findKey : GoodIn wsX1_hostNameOfKey wsX3_findKey := goodIn_r _ [7, 8, 9, 24, 25, 26, 27, 28, 29, 30] (by decide +kernel) (by decide +kernel)
set_option maxRecDepth 20000 in
theorem gX1_hostNameOfKey_X3_findKey : GoodIn wsX1_hostNameOfKey (wsV RX1 86 RX3 yX3_findKey wsX3_findKey) := goodIn_app (goodIn_of _ (by decide +kernel)) ggX1_hostNameOfKey_X3_findKey
set_option maxRecDepth 20000 in
theorem ggX1_hostNameOfKey_X3_nameOf : GoodIn wsX1_hostNameOfKey wsX3_nameOf := goodIn_r _ [13, 14, 15, 24, 25, 26, 27, 28, 29, 30] (by decide +kernel) (by decide +kernel)
set_option maxRecDepth 20000 in
theorem gX1_hostNameOfKey_X3_nameOf : GoodIn wsX1_hostNameOfKey (wsV RX1 89 RX3 yX3_nameOf wsX3_nameOf) := goodIn_app (goodIn_of _ (by decide +kernel)) ggX1_hostNameOfKey_X3_nameOf
theorem dX1_hostNameOfKey_0 : decode cX1_hostNameOfKey 0 = .ok (.aload_n 0, 1) := by decide +kernel
theorem dX1_hostNameOfKey_1 : decode cX1_hostNameOfKey 1 = .ok (.getfield 12, 3) := by decide +kernel
theorem dX1_hostNameOfKey_4 : decode cX1_hostNameOfKey 4 = .ok (.iload_n 1, 1) := by decide +kernel
theorem dX1_hostNameOfKey_5 : decode cX1_hostNameOfKey 5 = .ok (.invokevirtual 86, 3) := by decide +kernel
theorem dX1_hostNameOfKey_8 : decode cX1_hostNameOfKey 8 = .ok (.istore_n 2, 1) := by decide +kernel
theorem dX1_hostNameOfKey_9 : decode cX1_hostNameOfKey 9 = .ok (.iload_n 2, 1) := by decide +kernel
theorem dX1_hostNameOfKey_10 : decode cX1_hostNameOfKey 10 = .ok (.ifCond .ge 7, 3) := by decide +kernel
theorem dX1_hostNameOfKey_13 : decode cX1_hostNameOfKey 13 = .ok (.iconst (-1), 1) := by decide +kernel
theorem dX1_hostNameOfKey_14 : decode cX1_hostNameOfKey 14 = .ok (.goto 16, 3) := by decide +kernel
theorem dX1_hostNameOfKey_17 : decode cX1_hostNameOfKey 17 = .ok (.aload_n 0, 1) := by decide +kernel
theorem dX1_hostNameOfKey_18 : decode cX1_hostNameOfKey 18 = .ok (.getfield 12, 3) := by decide +kernel
theorem dX1_hostNameOfKey_21 : decode cX1_hostNameOfKey 21 = .ok (.aload_n 0, 1) := by decide +kernel
theorem dX1_hostNameOfKey_22 : decode cX1_hostNameOfKey 22 = .ok (.getfield 31, 3) := by decide +kernel
theorem dX1_hostNameOfKey_25 : decode cX1_hostNameOfKey 25 = .ok (.iload_n 2, 1) := by decide +kernel
theorem dX1_hostNameOfKey_26 : decode cX1_hostNameOfKey 26 = .ok (.iaload, 1) := by decide +kernel
theorem dX1_hostNameOfKey_27 : decode cX1_hostNameOfKey 27 = .ok (.invokevirtual 89, 3) := by decide +kernel
theorem dX1_hostNameOfKey_30 : decode cX1_hostNameOfKey 30 = .ok (.ireturn, 1) := by decide +kernel
set_option maxRecDepth 20000 in
theorem ggX1_movedSince_X3_nameOf : GoodIn wsX1_movedSince wsX3_nameOf := goodIn_r _ [9, 10, 11, 31, 32, 33, 34, 35, 36, 37] (by decide +kernel) (by decide +kernel)
set_option maxRecDepth 20000 in
theorem gX1_movedSince_X3_nameOf : GoodIn wsX1_movedSince (wsV RX1 89 RX3 yX3_nameOf wsX3_nameOf) := goodIn_app (goodIn_of _ (by decide +kernel)) ggX1_movedSince_X3_nameOf
set_option maxRecDepth 20000 in
theorem ggX1_movedSince_X3_findKey : GoodIn wsX1_movedSince wsX3_findKey := goodIn_r _ [15, 16, 17, 31, 32, 33, 34, 35, 36, 37] (by decide +kernel) (by decide +kernel)
set_option maxRecDepth 20000 in
theorem gX1_movedSince_X3_findKey : GoodIn wsX1_movedSince (wsV RX1 86 RX3 yX3_findKey wsX3_findKey) := goodIn_app (goodIn_of _ (by decide +kernel)) ggX1_movedSince_X3_findKey
set_option maxRecDepth 20000 in
theorem ggX1_movedSince_X1_hostNameOfKey : GoodIn wsX1_movedSince wsX1_hostNameOfKey := goodIn_r _ [22, 1, 4, 12, 13, 14, 8, 15, 16, 17, 5, 6, 7, 9, 10, 11, 23, 24, 25, 26, 27, 28, 29, 30, 31, 32, 33, 34, 35, 36, 37] (by decide +kernel) (by decide +kernel)
set_option maxRecDepth 20000 in
theorem gX1_movedSince_X1_hostNameOfKey : GoodIn wsX1_movedSince (wsV RX1 92 RX1 yX1_hostNameOfKey wsX1_hostNameOfKey) := goodIn_app (goodIn_of _ (by decide +kernel)) ggX1_movedSince_X1_hostNameOfKey
theorem dX1_movedSince_0 : decode cX1_movedSince 0 = .ok (.iconst 0, 1) := by decide +kernel
theorem dX1_movedSince_1 : decode cX1_movedSince 1 = .ok (.istore_n 2, 1) := by decide +kernel
theorem dX1_movedSince_2 : decode cX1_movedSince 2 = .ok (.iconst 0, 1) := by decide +kernel
theorem dX1_movedSince_3 : decode cX1_movedSince 3 = .ok (.istore_n 3, 1) := by decide +kernel
theorem dX1_movedSince_4 : decode cX1_movedSince 4 = .ok (.iload_n 3, 1) := by decide +kernel
theorem dX1_movedSince_5 : decode cX1_movedSince 5 = .ok (.aload_n 1, 1) := by decide +kernel
theorem dX1_movedSince_6 : decode cX1_movedSince 6 = .ok (.getfield 12, 3) := by decide +kernel
theorem dX1_movedSince_9 : decode cX1_movedSince 9 = .ok (.getfield 49, 3) := by decide +kernel
theorem dX1_movedSince_12 : decode cX1_movedSince 12 = .ok (.if_icmp .ge 61, 3) := by decide +kernel
theorem dX1_movedSince_15 : decode cX1_movedSince 15 = .ok (.aload_n 1, 1) := by decide +kernel
theorem dX1_movedSince_16 : decode cX1_movedSince 16 = .ok (.getfield 12, 3) := by decide +kernel
theorem dX1_movedSince_19 : decode cX1_movedSince 19 = .ok (.getfield 83, 3) := by decide +kernel
theorem dX1_movedSince_22 : decode cX1_movedSince 22 = .ok (.iload_n 3, 1) := by decide +kernel
theorem dX1_movedSince_23 : decode cX1_movedSince 23 = .ok (.iaload, 1) := by decide +kernel
theorem dX1_movedSince_24 : decode cX1_movedSince 24 = .ok (.istore 4, 2) := by decide +kernel
theorem dX1_movedSince_26 : decode cX1_movedSince 26 = .ok (.aload_n 1, 1) := by decide +kernel
theorem dX1_movedSince_27 : decode cX1_movedSince 27 = .ok (.getfield 12, 3) := by decide +kernel
theorem dX1_movedSince_30 : decode cX1_movedSince 30 = .ok (.aload_n 1, 1) := by decide +kernel
theorem dX1_movedSince_31 : decode cX1_movedSince 31 = .ok (.getfield 31, 3) := by decide +kernel
theorem dX1_movedSince_34 : decode cX1_movedSince 34 = .ok (.iload_n 3, 1) := by decide +kernel
theorem dX1_movedSince_35 : decode cX1_movedSince 35 = .ok (.iaload, 1) := by decide +kernel
theorem dX1_movedSince_36 : decode cX1_movedSince 36 = .ok (.invokevirtual 89, 3) := by decide +kernel
theorem dX1_movedSince_39 : decode cX1_movedSince 39 = .ok (.istore 5, 2) := by decide +kernel
theorem dX1_movedSince_41 : decode cX1_movedSince 41 = .ok (.aload_n 0, 1) := by decide +kernel
theorem dX1_movedSince_42 : decode cX1_movedSince 42 = .ok (.getfield 12, 3) := by decide +kernel
theorem dX1_movedSince_45 : decode cX1_movedSince 45 = .ok (.iload 4, 2) := by decide +kernel
theorem dX1_movedSince_47 : decode cX1_movedSince 47 = .ok (.invokevirtual 86, 3) := by decide +kernel
theorem dX1_movedSince_50 : decode cX1_movedSince 50 = .ok (.ifCond .lt 17, 3) := by decide +kernel
theorem dX1_movedSince_53 : decode cX1_movedSince 53 = .ok (.aload_n 0, 1) := by decide +kernel
theorem dX1_movedSince_54 : decode cX1_movedSince 54 = .ok (.iload 4, 2) := by decide +kernel
theorem dX1_movedSince_56 : decode cX1_movedSince 56 = .ok (.invokevirtual 92, 3) := by decide +kernel
theorem dX1_movedSince_59 : decode cX1_movedSince 59 = .ok (.iload 5, 2) := by decide +kernel
theorem dX1_movedSince_61 : decode cX1_movedSince 61 = .ok (.if_icmp .eq 6, 3) := by decide +kernel
theorem dX1_movedSince_64 : decode cX1_movedSince 64 = .ok (.iinc 2 1, 3) := by decide +kernel
theorem dX1_movedSince_67 : decode cX1_movedSince 67 = .ok (.iinc 3 1, 3) := by decide +kernel
theorem dX1_movedSince_70 : decode cX1_movedSince 70 = .ok (.goto (-66), 3) := by decide +kernel
theorem dX1_movedSince_73 : decode cX1_movedSince 73 = .ok (.iload_n 2, 1) := by decide +kernel
theorem dX1_movedSince_74 : decode cX1_movedSince 74 = .ok (.ireturn, 1) := by decide +kernel
set_option maxRecDepth 20000 in
theorem ggX1_hostFact_X1_keyOfHost : GoodIn wsX1_hostFact wsX1_keyOfHost := goodIn_r _ [9, 1, 10, 11, 12, 13, 14, 15, 16, 17, 18, 19, 20, 21, 22, 23, 24, 25, 26, 27] (by decide +kernel) (by decide +kernel)
set_option maxRecDepth 20000 in
theorem gX1_hostFact_X1_keyOfHost : GoodIn wsX1_hostFact (wsV RX1 95 RX1 yX1_keyOfHost wsX1_keyOfHost) := goodIn_app (goodIn_of _ (by decide +kernel)) ggX1_hostFact_X1_keyOfHost
theorem dX1_hostFact_0 : decode cX1_hostFact 0 = .ok (.iload_n 2, 1) := by decide +kernel
theorem dX1_hostFact_1 : decode cX1_hostFact 1 = .ok (.tableswitch 51 0 2 #[27, 37, 44], 27) := by decide +kernel
theorem dX1_hostFact_28 : decode cX1_hostFact 28 = .ok (.aload_n 0, 1) := by decide +kernel
theorem dX1_hostFact_29 : decode cX1_hostFact 29 = .ok (.getfield 12, 3) := by decide +kernel
theorem dX1_hostFact_32 : decode cX1_hostFact 32 = .ok (.getfield 60, 3) := by decide +kernel
theorem dX1_hostFact_35 : decode cX1_hostFact 35 = .ok (.iload_n 1, 1) := by decide +kernel
theorem dX1_hostFact_36 : decode cX1_hostFact 36 = .ok (.iaload, 1) := by decide +kernel
theorem dX1_hostFact_37 : decode cX1_hostFact 37 = .ok (.ireturn, 1) := by decide +kernel
theorem dX1_hostFact_38 : decode cX1_hostFact 38 = .ok (.aload_n 0, 1) := by decide +kernel
theorem dX1_hostFact_39 : decode cX1_hostFact 39 = .ok (.getfield 25, 3) := by decide +kernel
theorem dX1_hostFact_42 : decode cX1_hostFact 42 = .ok (.iload_n 1, 1) := by decide +kernel
theorem dX1_hostFact_43 : decode cX1_hostFact 43 = .ok (.iaload, 1) := by decide +kernel
theorem dX1_hostFact_44 : decode cX1_hostFact 44 = .ok (.ireturn, 1) := by decide +kernel
theorem dX1_hostFact_45 : decode cX1_hostFact 45 = .ok (.aload_n 0, 1) := by decide +kernel
theorem dX1_hostFact_46 : decode cX1_hostFact 46 = .ok (.getfield 28, 3) := by decide +kernel
theorem dX1_hostFact_49 : decode cX1_hostFact 49 = .ok (.iload_n 1, 1) := by decide +kernel
theorem dX1_hostFact_50 : decode cX1_hostFact 50 = .ok (.iaload, 1) := by decide +kernel
theorem dX1_hostFact_51 : decode cX1_hostFact 51 = .ok (.ireturn, 1) := by decide +kernel
theorem dX1_hostFact_52 : decode cX1_hostFact 52 = .ok (.aload_n 0, 1) := by decide +kernel
theorem dX1_hostFact_53 : decode cX1_hostFact 53 = .ok (.iload_n 1, 1) := by decide +kernel
theorem dX1_hostFact_54 : decode cX1_hostFact 54 = .ok (.iload_n 2, 1) := by decide +kernel
theorem dX1_hostFact_55 : decode cX1_hostFact 55 = .ok (.iconst 3, 1) := by decide +kernel
theorem dX1_hostFact_56 : decode cX1_hostFact 56 = .ok (.isub, 1) := by decide +kernel
theorem dX1_hostFact_57 : decode cX1_hostFact 57 = .ok (.invokevirtual 95, 3) := by decide +kernel
theorem dX1_hostFact_60 : decode cX1_hostFact 60 = .ok (.ireturn, 1) := by decide +kernel
theorem dX1_keyOfHost_0 : decode cX1_keyOfHost 0 = .ok (.iconst 0, 1) := by decide +kernel
theorem dX1_keyOfHost_1 : decode cX1_keyOfHost 1 = .ok (.istore_n 3, 1) := by decide +kernel
theorem dX1_keyOfHost_2 : decode cX1_keyOfHost 2 = .ok (.iconst 0, 1) := by decide +kernel
theorem dX1_keyOfHost_3 : decode cX1_keyOfHost 3 = .ok (.istore 4, 2) := by decide +kernel
theorem dX1_keyOfHost_5 : decode cX1_keyOfHost 5 = .ok (.iload 4, 2) := by decide +kernel
theorem dX1_keyOfHost_7 : decode cX1_keyOfHost 7 = .ok (.aload_n 0, 1) := by decide +kernel
theorem dX1_keyOfHost_8 : decode cX1_keyOfHost 8 = .ok (.getfield 12, 3) := by decide +kernel
theorem dX1_keyOfHost_11 : decode cX1_keyOfHost 11 = .ok (.getfield 49, 3) := by decide +kernel
theorem dX1_keyOfHost_14 : decode cX1_keyOfHost 14 = .ok (.if_icmp .ge 39, 3) := by decide +kernel
theorem dX1_keyOfHost_17 : decode cX1_keyOfHost 17 = .ok (.aload_n 0, 1) := by decide +kernel
theorem dX1_keyOfHost_18 : decode cX1_keyOfHost 18 = .ok (.getfield 31, 3) := by decide +kernel
theorem dX1_keyOfHost_21 : decode cX1_keyOfHost 21 = .ok (.iload 4, 2) := by decide +kernel
theorem dX1_keyOfHost_23 : decode cX1_keyOfHost 23 = .ok (.iaload, 1) := by decide +kernel
theorem dX1_keyOfHost_24 : decode cX1_keyOfHost 24 = .ok (.iload_n 1, 1) := by decide +kernel
theorem dX1_keyOfHost_25 : decode cX1_keyOfHost 25 = .ok (.if_icmp .ne 22, 3) := by decide +kernel
theorem dX1_keyOfHost_28 : decode cX1_keyOfHost 28 = .ok (.iload_n 3, 1) := by decide +kernel
theorem dX1_keyOfHost_29 : decode cX1_keyOfHost 29 = .ok (.iload_n 2, 1) := by decide +kernel
theorem dX1_keyOfHost_30 : decode cX1_keyOfHost 30 = .ok (.if_icmp .ne 14, 3) := by decide +kernel
theorem dX1_keyOfHost_33 : decode cX1_keyOfHost 33 = .ok (.aload_n 0, 1) := by decide +kernel
theorem dX1_keyOfHost_34 : decode cX1_keyOfHost 34 = .ok (.getfield 12, 3) := by decide +kernel
theorem dX1_keyOfHost_37 : decode cX1_keyOfHost 37 = .ok (.getfield 83, 3) := by decide +kernel
theorem dX1_keyOfHost_40 : decode cX1_keyOfHost 40 = .ok (.iload 4, 2) := by decide +kernel
theorem dX1_keyOfHost_42 : decode cX1_keyOfHost 42 = .ok (.iaload, 1) := by decide +kernel
theorem dX1_keyOfHost_43 : decode cX1_keyOfHost 43 = .ok (.ireturn, 1) := by decide +kernel
theorem dX1_keyOfHost_44 : decode cX1_keyOfHost 44 = .ok (.iinc 3 1, 3) := by decide +kernel
theorem dX1_keyOfHost_47 : decode cX1_keyOfHost 47 = .ok (.iinc 4 1, 3) := by decide +kernel
theorem dX1_keyOfHost_50 : decode cX1_keyOfHost 50 = .ok (.goto (-45), 3) := by decide +kernel
theorem dX1_keyOfHost_53 : decode cX1_keyOfHost 53 = .ok (.iconst (-1), 1) := by decide +kernel
theorem dX1_keyOfHost_54 : decode cX1_keyOfHost 54 = .ok (.ireturn, 1) := by decide +kernel
set_option maxRecDepth 20000 in
theorem ggX1_keyFact_X1_placeOfKey : GoodIn wsX1_keyFact wsX1_placeOfKey := goodIn_r _ [7, 8, 9, 10, 11, 12, 13, 14, 15, 16, 17, 18, 19, 20, 21, 22, 23, 24] (by decide +kernel) (by decide +kernel)
set_option maxRecDepth 20000 in
theorem gX1_keyFact_X1_placeOfKey : GoodIn wsX1_keyFact (wsV RX1 80 RX1 yX1_placeOfKey wsX1_placeOfKey) := goodIn_app (goodIn_of _ (by decide +kernel)) ggX1_keyFact_X1_placeOfKey
theorem dX1_keyFact_0 : decode cX1_keyFact 0 = .ok (.iload_n 2, 1) := by decide +kernel
theorem dX1_keyFact_1 : decode cX1_keyFact 1 = .ok (.lookupswitch 40 #[(0, 27), (1, 33)], 27) := by decide +kernel
theorem dX1_keyFact_28 : decode cX1_keyFact 28 = .ok (.aload_n 0, 1) := by decide +kernel
theorem dX1_keyFact_29 : decode cX1_keyFact 29 = .ok (.iload_n 1, 1) := by decide +kernel
theorem dX1_keyFact_30 : decode cX1_keyFact 30 = .ok (.invokevirtual 80, 3) := by decide +kernel
theorem dX1_keyFact_33 : decode cX1_keyFact 33 = .ok (.ireturn, 1) := by decide +kernel
theorem dX1_keyFact_34 : decode cX1_keyFact 34 = .ok (.aload_n 0, 1) := by decide +kernel
theorem dX1_keyFact_35 : decode cX1_keyFact 35 = .ok (.getfield 34, 3) := by decide +kernel
theorem dX1_keyFact_38 : decode cX1_keyFact 38 = .ok (.iload_n 1, 1) := by decide +kernel
theorem dX1_keyFact_39 : decode cX1_keyFact 39 = .ok (.iaload, 1) := by decide +kernel
theorem dX1_keyFact_40 : decode cX1_keyFact 40 = .ok (.ireturn, 1) := by decide +kernel
theorem dX1_keyFact_41 : decode cX1_keyFact 41 = .ok (.aload_n 0, 1) := by decide +kernel
theorem dX1_keyFact_42 : decode cX1_keyFact 42 = .ok (.getfield 37, 3) := by decide +kernel
theorem dX1_keyFact_45 : decode cX1_keyFact 45 = .ok (.iload_n 1, 1) := by decide +kernel
theorem dX1_keyFact_46 : decode cX1_keyFact 46 = .ok (.iaload, 1) := by decide +kernel
theorem dX1_keyFact_47 : decode cX1_keyFact 47 = .ok (.ireturn, 1) := by decide +kernel
theorem dX1_placeOfMark_0 : decode cX1_placeOfMark 0 = .ok (.iload_n 2, 1) := by decide +kernel
theorem dX1_placeOfMark_1 : decode cX1_placeOfMark 1 = .ok (.iconst 2, 1) := by decide +kernel
theorem dX1_placeOfMark_2 : decode cX1_placeOfMark 2 = .ok (.aload_n 0, 1) := by decide +kernel
theorem dX1_placeOfMark_3 : decode cX1_placeOfMark 3 = .ok (.getfield 12, 3) := by decide +kernel
theorem dX1_placeOfMark_6 : decode cX1_placeOfMark 6 = .ok (.getfield 60, 3) := by decide +kernel
theorem dX1_placeOfMark_9 : decode cX1_placeOfMark 9 = .ok (.iload_n 1, 1) := by decide +kernel
theorem dX1_placeOfMark_10 : decode cX1_placeOfMark 10 = .ok (.iaload, 1) := by decide +kernel
theorem dX1_placeOfMark_11 : decode cX1_placeOfMark 11 = .ok (.imul, 1) := by decide +kernel
theorem dX1_placeOfMark_12 : decode cX1_placeOfMark 12 = .ok (.if_icmp .ge 17, 3) := by decide +kernel
theorem dX1_placeOfMark_15 : decode cX1_placeOfMark 15 = .ok (.aload_n 0, 1) := by decide +kernel
theorem dX1_placeOfMark_16 : decode cX1_placeOfMark 16 = .ok (.getfield 22, 3) := by decide +kernel
theorem dX1_placeOfMark_19 : decode cX1_placeOfMark 19 = .ok (.iload_n 1, 1) := by decide +kernel
theorem dX1_placeOfMark_20 : decode cX1_placeOfMark 20 = .ok (.bipush 8, 2) := by decide +kernel
theorem dX1_placeOfMark_22 : decode cX1_placeOfMark 22 = .ok (.imul, 1) := by decide +kernel
theorem dX1_placeOfMark_23 : decode cX1_placeOfMark 23 = .ok (.iload_n 2, 1) := by decide +kernel
theorem dX1_placeOfMark_24 : decode cX1_placeOfMark 24 = .ok (.iadd, 1) := by decide +kernel
theorem dX1_placeOfMark_25 : decode cX1_placeOfMark 25 = .ok (.iaload, 1) := by decide +kernel
theorem dX1_placeOfMark_26 : decode cX1_placeOfMark 26 = .ok (.goto 4, 3) := by decide +kernel
theorem dX1_placeOfMark_29 : decode cX1_placeOfMark 29 = .ok (.iconst (-1), 1) := by decide +kernel
theorem dX1_placeOfMark_30 : decode cX1_placeOfMark 30 = .ok (.ireturn, 1) := by decide +kernel
set_option maxRecDepth 20000 in
theorem ggX1_placesLeadingTo_X1_firstOwner : GoodIn wsX1_placesLeadingTo wsX1_firstOwner := goodIn_r _ [6, 1, 7, 8, 9, 10, 11, 12, 13, 14] (by decide +kernel) (by decide +kernel)
set_option maxRecDepth 20000 in
theorem gX1_placesLeadingTo_X1_firstOwner : GoodIn wsX1_placesLeadingTo (wsV RX1 99 RX1 yX1_firstOwner wsX1_firstOwner) := goodIn_app (goodIn_of _ (by decide +kernel)) ggX1_placesLeadingTo_X1_firstOwner
theorem dX1_placesLeadingTo_0 : decode cX1_placesLeadingTo 0 = .ok (.aload_n 0, 1) := by decide +kernel
theorem dX1_placesLeadingTo_1 : decode cX1_placesLeadingTo 1 = .ok (.invokevirtual 99, 3) := by decide +kernel
theorem dX1_placesLeadingTo_4 : decode cX1_placesLeadingTo 4 = .ok (.istore_n 2, 1) := by decide +kernel
theorem dX1_placesLeadingTo_5 : decode cX1_placesLeadingTo 5 = .ok (.iconst 0, 1) := by decide +kernel
theorem dX1_placesLeadingTo_6 : decode cX1_placesLeadingTo 6 = .ok (.istore_n 3, 1) := by decide +kernel
theorem dX1_placesLeadingTo_7 : decode cX1_placesLeadingTo 7 = .ok (.bipush 100, 2) := by decide +kernel
theorem dX1_placesLeadingTo_9 : decode cX1_placesLeadingTo 9 = .ok (.istore 4, 2) := by decide +kernel
theorem dX1_placesLeadingTo_11 : decode cX1_placesLeadingTo 11 = .ok (.iload 4, 2) := by decide +kernel
theorem dX1_placesLeadingTo_13 : decode cX1_placesLeadingTo 13 = .ok (.ifCond .lt 36, 3) := by decide +kernel
theorem dX1_placesLeadingTo_16 : decode cX1_placesLeadingTo 16 = .ok (.aload_n 0, 1) := by decide +kernel
theorem dX1_placesLeadingTo_17 : decode cX1_placesLeadingTo 17 = .ok (.getfield 18, 3) := by decide +kernel
theorem dX1_placesLeadingTo_20 : decode cX1_placesLeadingTo 20 = .ok (.iload 4, 2) := by decide +kernel
theorem dX1_placesLeadingTo_22 : decode cX1_placesLeadingTo 22 = .ok (.iaload, 1) := by decide +kernel
theorem dX1_placesLeadingTo_23 : decode cX1_placesLeadingTo 23 = .ok (.iconst (-1), 1) := by decide +kernel
theorem dX1_placesLeadingTo_24 : decode cX1_placesLeadingTo 24 = .ok (.if_icmp .eq 11, 3) := by decide +kernel
theorem dX1_placesLeadingTo_27 : decode cX1_placesLeadingTo 27 = .ok (.aload_n 0, 1) := by decide +kernel
theorem dX1_placesLeadingTo_28 : decode cX1_placesLeadingTo 28 = .ok (.getfield 18, 3) := by decide +kernel
theorem dX1_placesLeadingTo_31 : decode cX1_placesLeadingTo 31 = .ok (.iload 4, 2) := by decide +kernel
theorem dX1_placesLeadingTo_33 : decode cX1_placesLeadingTo 33 = .ok (.iaload, 1) := by decide +kernel
theorem dX1_placesLeadingTo_34 : decode cX1_placesLeadingTo 34 = .ok (.istore_n 2, 1) := by decide +kernel
theorem dX1_placesLeadingTo_35 : decode cX1_placesLeadingTo 35 = .ok (.iload_n 2, 1) := by decide +kernel
theorem dX1_placesLeadingTo_36 : decode cX1_placesLeadingTo 36 = .ok (.iload_n 1, 1) := by decide +kernel
theorem dX1_placesLeadingTo_37 : decode cX1_placesLeadingTo 37 = .ok (.if_icmp .ne 6, 3) := by decide +kernel
theorem dX1_placesLeadingTo_40 : decode cX1_placesLeadingTo 40 = .ok (.iinc 3 1, 3) := by decide +kernel
theorem dX1_placesLeadingTo_43 : decode cX1_placesLeadingTo 43 = .ok (.iinc 4 (-1), 3) := by decide +kernel
theorem dX1_placesLeadingTo_46 : decode cX1_placesLeadingTo 46 = .ok (.goto (-35), 3) := by decide +kernel
theorem dX1_placesLeadingTo_49 : decode cX1_placesLeadingTo 49 = .ok (.iload_n 3, 1) := by decide +kernel
theorem dX1_placesLeadingTo_50 : decode cX1_placesLeadingTo 50 = .ok (.ireturn, 1) := by decide +kernel
theorem dX1_firstOwner_0 : decode cX1_firstOwner 0 = .ok (.iconst 0, 1) := by decide +kernel
theorem dX1_firstOwner_1 : decode cX1_firstOwner 1 = .ok (.istore_n 1, 1) := by decide +kernel
theorem dX1_firstOwner_2 : decode cX1_firstOwner 2 = .ok (.iload_n 1, 1) := by decide +kernel
theorem dX1_firstOwner_3 : decode cX1_firstOwner 3 = .ok (.bipush 101, 2) := by decide +kernel
theorem dX1_firstOwner_5 : decode cX1_firstOwner 5 = .ok (.if_icmp .ge 26, 3) := by decide +kernel
theorem dX1_firstOwner_8 : decode cX1_firstOwner 8 = .ok (.aload_n 0, 1) := by decide +kernel
theorem dX1_firstOwner_9 : decode cX1_firstOwner 9 = .ok (.getfield 18, 3) := by decide +kernel
theorem dX1_firstOwner_12 : decode cX1_firstOwner 12 = .ok (.iload_n 1, 1) := by decide +kernel
theorem dX1_firstOwner_13 : decode cX1_firstOwner 13 = .ok (.iaload, 1) := by decide +kernel
theorem dX1_firstOwner_14 : decode cX1_firstOwner 14 = .ok (.iconst (-1), 1) := by decide +kernel
theorem dX1_firstOwner_15 : decode cX1_firstOwner 15 = .ok (.if_icmp .eq 10, 3) := by decide +kernel
theorem dX1_firstOwner_18 : decode cX1_firstOwner 18 = .ok (.aload_n 0, 1) := by decide +kernel
theorem dX1_firstOwner_19 : decode cX1_firstOwner 19 = .ok (.getfield 18, 3) := by decide +kernel
theorem dX1_firstOwner_22 : decode cX1_firstOwner 22 = .ok (.iload_n 1, 1) := by decide +kernel
theorem dX1_firstOwner_23 : decode cX1_firstOwner 23 = .ok (.iaload, 1) := by decide +kernel
theorem dX1_firstOwner_24 : decode cX1_firstOwner 24 = .ok (.ireturn, 1) := by decide +kernel
theorem dX1_firstOwner_25 : decode cX1_firstOwner 25 = .ok (.iinc 1 1, 3) := by decide +kernel
theorem dX1_firstOwner_28 : decode cX1_firstOwner 28 = .ok (.goto (-26), 3) := by decide +kernel
theorem dX1_firstOwner_31 : decode cX1_firstOwner 31 = .ok (.iconst (-1), 1) := by decide +kernel
theorem dX1_firstOwner_32 : decode cX1_firstOwner 32 = .ok (.ireturn, 1) := by decide +kernel
theorem dX1_fullHosts_0 : decode cX1_fullHosts 0 = .ok (.iconst 0, 1) := by decide +kernel
theorem dX1_fullHosts_1 : decode cX1_fullHosts 1 = .ok (.istore_n 1, 1) := by decide +kernel
theorem dX1_fullHosts_2 : decode cX1_fullHosts 2 = .ok (.iconst 0, 1) := by decide +kernel
theorem dX1_fullHosts_3 : decode cX1_fullHosts 3 = .ok (.istore_n 2, 1) := by decide +kernel
theorem dX1_fullHosts_4 : decode cX1_fullHosts 4 = .ok (.iload_n 2, 1) := by decide +kernel
theorem dX1_fullHosts_5 : decode cX1_fullHosts 5 = .ok (.aload_n 0, 1) := by decide +kernel
theorem dX1_fullHosts_6 : decode cX1_fullHosts 6 = .ok (.getfield 12, 3) := by decide +kernel
theorem dX1_fullHosts_9 : decode cX1_fullHosts 9 = .ok (.getfield 57, 3) := by decide +kernel
theorem dX1_fullHosts_12 : decode cX1_fullHosts 12 = .ok (.if_icmp .ge 27, 3) := by decide +kernel
theorem dX1_fullHosts_15 : decode cX1_fullHosts 15 = .ok (.aload_n 0, 1) := by decide +kernel
theorem dX1_fullHosts_16 : decode cX1_fullHosts 16 = .ok (.getfield 28, 3) := by decide +kernel
theorem dX1_fullHosts_19 : decode cX1_fullHosts 19 = .ok (.iload_n 2, 1) := by decide +kernel
theorem dX1_fullHosts_20 : decode cX1_fullHosts 20 = .ok (.iaload, 1) := by decide +kernel
theorem dX1_fullHosts_21 : decode cX1_fullHosts 21 = .ok (.aload_n 0, 1) := by decide +kernel
theorem dX1_fullHosts_22 : decode cX1_fullHosts 22 = .ok (.getfield 25, 3) := by decide +kernel
theorem dX1_fullHosts_25 : decode cX1_fullHosts 25 = .ok (.iload_n 2, 1) := by decide +kernel
theorem dX1_fullHosts_26 : decode cX1_fullHosts 26 = .ok (.iaload, 1) := by decide +kernel
theorem dX1_fullHosts_27 : decode cX1_fullHosts 27 = .ok (.if_icmp .ne 6, 3) := by decide +kernel
theorem dX1_fullHosts_30 : decode cX1_fullHosts 30 = .ok (.iinc 1 1, 3) := by decide +kernel
theorem dX1_fullHosts_33 : decode cX1_fullHosts 33 = .ok (.iinc 2 1, 3) := by decide +kernel
theorem dX1_fullHosts_36 : decode cX1_fullHosts 36 = .ok (.goto (-32), 3) := by decide +kernel
theorem dX1_fullHosts_39 : decode cX1_fullHosts 39 = .ok (.iload_n 1, 1) := by decide +kernel
theorem dX1_fullHosts_40 : decode cX1_fullHosts 40 = .ok (.ireturn, 1) := by decide +kernel
theorem dX1_allPassed_0 : decode cX1_allPassed 0 = .ok (.iconst 0, 1) := by decide +kernel
theorem dX1_allPassed_1 : decode cX1_allPassed 1 = .ok (.istore_n 1, 1) := by decide +kernel
theorem dX1_allPassed_2 : decode cX1_allPassed 2 = .ok (.iconst 0, 1) := by decide +kernel
theorem dX1_allPassed_3 : decode cX1_allPassed 3 = .ok (.istore_n 2, 1) := by decide +kernel
theorem dX1_allPassed_4 : decode cX1_allPassed 4 = .ok (.iload_n 2, 1) := by decide +kernel
theorem dX1_allPassed_5 : decode cX1_allPassed 5 = .ok (.aload_n 0, 1) := by decide +kernel
theorem dX1_allPassed_6 : decode cX1_allPassed 6 = .ok (.getfield 12, 3) := by decide +kernel
theorem dX1_allPassed_9 : decode cX1_allPassed 9 = .ok (.getfield 49, 3) := by decide +kernel
theorem dX1_allPassed_12 : decode cX1_allPassed 12 = .ok (.if_icmp .ge 28, 3) := by decide +kernel
theorem dX1_allPassed_15 : decode cX1_allPassed 15 = .ok (.aload_n 0, 1) := by decide +kernel
theorem dX1_allPassed_16 : decode cX1_allPassed 16 = .ok (.getfield 34, 3) := by decide +kernel
theorem dX1_allPassed_19 : decode cX1_allPassed 19 = .ok (.iload_n 2, 1) := by decide +kernel
theorem dX1_allPassed_20 : decode cX1_allPassed 20 = .ok (.iaload, 1) := by decide +kernel
theorem dX1_allPassed_21 : decode cX1_allPassed 21 = .ok (.iconst (-1), 1) := by decide +kernel
theorem dX1_allPassed_22 : decode cX1_allPassed 22 = .ok (.if_icmp .eq 12, 3) := by decide +kernel
theorem dX1_allPassed_25 : decode cX1_allPassed 25 = .ok (.iload_n 1, 1) := by decide +kernel
theorem dX1_allPassed_26 : decode cX1_allPassed 26 = .ok (.aload_n 0, 1) := by decide +kernel
theorem dX1_allPassed_27 : decode cX1_allPassed 27 = .ok (.getfield 34, 3) := by decide +kernel
theorem dX1_allPassed_30 : decode cX1_allPassed 30 = .ok (.iload_n 2, 1) := by decide +kernel
theorem dX1_allPassed_31 : decode cX1_allPassed 31 = .ok (.iaload, 1) := by decide +kernel
theorem dX1_allPassed_32 : decode cX1_allPassed 32 = .ok (.iadd, 1) := by decide +kernel
theorem dX1_allPassed_33 : decode cX1_allPassed 33 = .ok (.istore_n 1, 1) := by decide +kernel
theorem dX1_allPassed_34 : decode cX1_allPassed 34 = .ok (.iinc 2 1, 3) := by decide +kernel
theorem dX1_allPassed_37 : decode cX1_allPassed 37 = .ok (.goto (-33), 3) := by decide +kernel
theorem dX1_allPassed_40 : decode cX1_allPassed 40 = .ok (.iload_n 1, 1) := by decide +kernel
theorem dX1_allPassed_41 : decode cX1_allPassed 41 = .ok (.ireturn, 1) := by decide +kernel
theorem dX1_mostLoad_0 : decode cX1_mostLoad 0 = .ok (.iconst 0, 1) := by decide +kernel
theorem dX1_mostLoad_1 : decode cX1_mostLoad 1 = .ok (.istore_n 1, 1) := by decide +kernel
theorem dX1_mostLoad_2 : decode cX1_mostLoad 2 = .ok (.iconst 0, 1) := by decide +kernel
theorem dX1_mostLoad_3 : decode cX1_mostLoad 3 = .ok (.istore_n 2, 1) := by decide +kernel
theorem dX1_mostLoad_4 : decode cX1_mostLoad 4 = .ok (.iload_n 2, 1) := by decide +kernel
theorem dX1_mostLoad_5 : decode cX1_mostLoad 5 = .ok (.aload_n 0, 1) := by decide +kernel
theorem dX1_mostLoad_6 : decode cX1_mostLoad 6 = .ok (.getfield 12, 3) := by decide +kernel
theorem dX1_mostLoad_9 : decode cX1_mostLoad 9 = .ok (.getfield 57, 3) := by decide +kernel
theorem dX1_mostLoad_12 : decode cX1_mostLoad 12 = .ok (.if_icmp .ge 20, 3) := by decide +kernel
theorem dX1_mostLoad_15 : decode cX1_mostLoad 15 = .ok (.iload_n 1, 1) := by decide +kernel
theorem dX1_mostLoad_16 : decode cX1_mostLoad 16 = .ok (.aload_n 0, 1) := by decide +kernel
theorem dX1_mostLoad_17 : decode cX1_mostLoad 17 = .ok (.getfield 28, 3) := by decide +kernel
theorem dX1_mostLoad_20 : decode cX1_mostLoad 20 = .ok (.iload_n 2, 1) := by decide +kernel
theorem dX1_mostLoad_21 : decode cX1_mostLoad 21 = .ok (.iaload, 1) := by decide +kernel
end
section
theorem dX1_mostLoad_22 : decode cX1_mostLoad 22 = .ok (.invokestatic 102, 3) := by decide +kernel
theorem dX1_mostLoad_25 : decode cX1_mostLoad 25 = .ok (.istore_n 1, 1) := by decide +kernel
theorem dX1_mostLoad_26 : decode cX1_mostLoad 26 = .ok (.iinc 2 1, 3) := by decide +kernel
theorem dX1_mostLoad_29 : decode cX1_mostLoad 29 = .ok (.goto (-25), 3) := by decide +kernel
theorem dX1_mostLoad_32 : decode cX1_mostLoad 32 = .ok (.iload_n 1, 1) := by decide +kernel
theorem dX1_mostLoad_33 : decode cX1_mostLoad 33 = .ok (.ireturn, 1) := by decide +kernel
theorem dX2_init_0 : decode cX2_init 0 = .ok (.aload_n 0, 1) := by decide +kernel
theorem dX2_init_1 : decode cX2_init 1 = .ok (.invokespecial 3, 3) := by decide +kernel
theorem dX2_init_4 : decode cX2_init 4 = .ok (.aload_n 0, 1) := by decide +kernel
theorem dX2_init_5 : decode cX2_init 5 = .ok (.bipush 120, 2) := by decide +kernel
theorem dX2_init_7 : decode cX2_init 7 = .ok (.newarray .int, 2) := by decide +kernel
theorem dX2_init_9 : decode cX2_init 9 = .ok (.putfield 9, 3) := by decide +kernel
theorem dX2_init_12 : decode cX2_init 12 = .ok (.aload_n 0, 1) := by decide +kernel
theorem dX2_init_13 : decode cX2_init 13 = .ok (.iconst 0, 1) := by decide +kernel
theorem dX2_init_14 : decode cX2_init 14 = .ok (.putfield 15, 3) := by decide +kernel
theorem dX2_init_17 : decode cX2_init 17 = .ok (.aload_n 0, 1) := by decide +kernel
theorem dX2_init_18 : decode cX2_init 18 = .ok (.bipush 40, 2) := by decide +kernel
theorem dX2_init_20 : decode cX2_init 20 = .ok (.newarray .int, 2) := by decide +kernel
theorem dX2_init_22 : decode cX2_init 22 = .ok (.putfield 19, 3) := by decide +kernel
theorem dX2_init_25 : decode cX2_init 25 = .ok (.aload_n 0, 1) := by decide +kernel
theorem dX2_init_26 : decode cX2_init 26 = .ok (.bipush 40, 2) := by decide +kernel
theorem dX2_init_28 : decode cX2_init 28 = .ok (.newarray .int, 2) := by decide +kernel
theorem dX2_init_30 : decode cX2_init 30 = .ok (.putfield 22, 3) := by decide +kernel
theorem dX2_init_33 : decode cX2_init 33 = .ok (.aload_n 0, 1) := by decide +kernel
theorem dX2_init_34 : decode cX2_init 34 = .ok (.bipush 40, 2) := by decide +kernel
theorem dX2_init_36 : decode cX2_init 36 = .ok (.newarray .int, 2) := by decide +kernel
theorem dX2_init_38 : decode cX2_init 38 = .ok (.putfield 25, 3) := by decide +kernel
theorem dX2_init_41 : decode cX2_init 41 = .ok (.aload_n 0, 1) := by decide +kernel
theorem dX2_init_42 : decode cX2_init 42 = .ok (.iconst 0, 1) := by decide +kernel
theorem dX2_init_43 : decode cX2_init 43 = .ok (.putfield 28, 3) := by decide +kernel
theorem dX2_init_46 : decode cX2_init 46 = .ok (.aload_n 0, 1) := by decide +kernel
theorem dX2_init_47 : decode cX2_init 47 = .ok (.iconst 0, 1) := by decide +kernel
theorem dX2_init_48 : decode cX2_init 48 = .ok (.putfield 31, 3) := by decide +kernel
theorem dX2_init_51 : decode cX2_init 51 = .ok (.aload_n 0, 1) := by decide +kernel
theorem dX2_init_52 : decode cX2_init 52 = .ok (.iconst 0, 1) := by decide +kernel
theorem dX2_init_53 : decode cX2_init 53 = .ok (.putfield 34, 3) := by decide +kernel
theorem dX2_init_56 : decode cX2_init 56 = .ok (.aload_n 0, 1) := by decide +kernel
theorem dX2_init_57 : decode cX2_init 57 = .ok (.iconst 0, 1) := by decide +kernel
theorem dX2_init_58 : decode cX2_init 58 = .ok (.putfield 37, 3) := by decide +kernel
theorem dX2_init_61 : decode cX2_init 61 = .ok (.aload_n 0, 1) := by decide +kernel
theorem dX2_init_62 : decode cX2_init 62 = .ok (.iconst 0, 1) := by decide +kernel
theorem dX2_init_63 : decode cX2_init 63 = .ok (.putfield 40, 3) := by decide +kernel
theorem dX2_init_66 : decode cX2_init 66 = .ok (.return_, 1) := by decide +kernel
theorem dX2_append_0 : decode cX2_append 0 = .ok (.aload_n 0, 1) := by decide +kernel
theorem dX2_append_1 : decode cX2_append 1 = .ok (.getfield 15, 3) := by decide +kernel
theorem dX2_append_4 : decode cX2_append 4 = .ok (.bipush 120, 2) := by decide +kernel
theorem dX2_append_6 : decode cX2_append 6 = .ok (.if_icmp .lt 5, 3) := by decide +kernel
theorem dX2_append_9 : decode cX2_append 9 = .ok (.iconst 0, 1) := by decide +kernel
theorem dX2_append_10 : decode cX2_append 10 = .ok (.ireturn, 1) := by decide +kernel
theorem dX2_append_11 : decode cX2_append 11 = .ok (.aload_n 0, 1) := by decide +kernel
theorem dX2_append_12 : decode cX2_append 12 = .ok (.getfield 9, 3) := by decide +kernel
theorem dX2_append_15 : decode cX2_append 15 = .ok (.aload_n 0, 1) := by decide +kernel
theorem dX2_append_16 : decode cX2_append 16 = .ok (.getfield 15, 3) := by decide +kernel
theorem dX2_append_19 : decode cX2_append 19 = .ok (.iload_n 1, 1) := by decide +kernel
theorem dX2_append_20 : decode cX2_append 20 = .ok (.iastore, 1) := by decide +kernel
theorem dX2_append_21 : decode cX2_append 21 = .ok (.aload_n 0, 1) := by decide +kernel
theorem dX2_append_22 : decode cX2_append 22 = .ok (.dup, 1) := by decide +kernel
theorem dX2_append_23 : decode cX2_append 23 = .ok (.getfield 15, 3) := by decide +kernel
theorem dX2_append_26 : decode cX2_append 26 = .ok (.iconst 1, 1) := by decide +kernel
theorem dX2_append_27 : decode cX2_append 27 = .ok (.iadd, 1) := by decide +kernel
theorem dX2_append_28 : decode cX2_append 28 = .ok (.putfield 15, 3) := by decide +kernel
theorem dX2_append_31 : decode cX2_append 31 = .ok (.iconst 1, 1) := by decide +kernel
theorem dX2_append_32 : decode cX2_append 32 = .ok (.ireturn, 1) := by decide +kernel
set_option maxRecDepth 20000 in
theorem ggX2_read_X2_accepts : GoodIn wsX2_read wsX2_accepts := goodIn_r _ [9, 2, 10, 11, 8, 12, 13, 14, 15, 16, 17, 18, 19, 20, 21, 22, 23, 24, 1, 25, 26, 27, 28, 29, 30, 31, 32, 33, 34, 35, 36, 37, 38, 39, 40, 41, 42, 43, 44, 45, 46, 47, 48, 49, 50, 51] (by decide +kernel) (by decide +kernel)
set_option maxRecDepth 20000 in
theorem gX2_read_X2_accepts : GoodIn wsX2_read (wsV RX2 43 RX2 yX2_accepts wsX2_accepts) := goodIn_app (goodIn_of _ (by decide +kernel)) ggX2_read_X2_accepts
theorem dX2_read_0 : decode cX2_read 0 = .ok (.aload_n 0, 1) := by decide +kernel
theorem dX2_read_1 : decode cX2_read 1 = .ok (.iconst 0, 1) := by decide +kernel
theorem dX2_read_2 : decode cX2_read 2 = .ok (.putfield 28, 3) := by decide +kernel
theorem dX2_read_5 : decode cX2_read 5 = .ok (.aload_n 0, 1) := by decide +kernel
theorem dX2_read_6 : decode cX2_read 6 = .ok (.iconst 0, 1) := by decide +kernel
theorem dX2_read_7 : decode cX2_read 7 = .ok (.putfield 31, 3) := by decide +kernel
theorem dX2_read_10 : decode cX2_read 10 = .ok (.iconst 0, 1) := by decide +kernel
theorem dX2_read_11 : decode cX2_read 11 = .ok (.istore_n 1, 1) := by decide +kernel
theorem dX2_read_12 : decode cX2_read 12 = .ok (.iload_n 1, 1) := by decide +kernel
theorem dX2_read_13 : decode cX2_read 13 = .ok (.aload_n 0, 1) := by decide +kernel
theorem dX2_read_14 : decode cX2_read 14 = .ok (.getfield 15, 3) := by decide +kernel
theorem dX2_read_17 : decode cX2_read 17 = .ok (.if_icmp .ge 24, 3) := by decide +kernel
theorem dX2_read_20 : decode cX2_read 20 = .ok (.aload_n 0, 1) := by decide +kernel
theorem dX2_read_21 : decode cX2_read 21 = .ok (.aload_n 0, 1) := by decide +kernel
theorem dX2_read_22 : decode cX2_read 22 = .ok (.getfield 9, 3) := by decide +kernel
theorem dX2_read_25 : decode cX2_read 25 = .ok (.iload_n 1, 1) := by decide +kernel
theorem dX2_read_26 : decode cX2_read 26 = .ok (.iaload, 1) := by decide +kernel
theorem dX2_read_27 : decode cX2_read 27 = .ok (.invokevirtual 43, 3) := by decide +kernel
theorem dX2_read_30 : decode cX2_read 30 = .ok (.ifCond .ne 5, 3) := by decide +kernel
theorem dX2_read_33 : decode cX2_read 33 = .ok (.iload_n 1, 1) := by decide +kernel
theorem dX2_read_34 : decode cX2_read 34 = .ok (.ireturn, 1) := by decide +kernel
theorem dX2_read_35 : decode cX2_read 35 = .ok (.iinc 1 1, 3) := by decide +kernel
theorem dX2_read_38 : decode cX2_read 38 = .ok (.goto (-26), 3) := by decide +kernel
theorem dX2_read_41 : decode cX2_read 41 = .ok (.aload_n 0, 1) := by decide +kernel
theorem dX2_read_42 : decode cX2_read 42 = .ok (.getfield 31, 3) := by decide +kernel
theorem dX2_read_45 : decode cX2_read 45 = .ok (.ifCond .ne 14, 3) := by decide +kernel
theorem dX2_read_48 : decode cX2_read 48 = .ok (.aload_n 0, 1) := by decide +kernel
theorem dX2_read_49 : decode cX2_read 49 = .ok (.getfield 28, 3) := by decide +kernel
theorem dX2_read_52 : decode cX2_read 52 = .ok (.ifCond .le 7, 3) := by decide +kernel
theorem dX2_read_55 : decode cX2_read 55 = .ok (.iconst (-1), 1) := by decide +kernel
theorem dX2_read_56 : decode cX2_read 56 = .ok (.goto 7, 3) := by decide +kernel
theorem dX2_read_59 : decode cX2_read 59 = .ok (.aload_n 0, 1) := by decide +kernel
theorem dX2_read_60 : decode cX2_read 60 = .ok (.getfield 15, 3) := by decide +kernel
theorem dX2_read_63 : decode cX2_read 63 = .ok (.ireturn, 1) := by decide +kernel
set_option maxRecDepth 20000 in
theorem ggX2_accepts_X2_isFigure : GoodIn wsX2_accepts wsX2_isFigure := goodIn_r _ [5] (by decide +kernel) (by decide +kernel)
set_option maxRecDepth 20000 in
theorem gX2_accepts_X2_isFigure : GoodIn wsX2_accepts (va_wsS RX2 47 yX2_isFigure wsX2_isFigure) := goodIn_app (goodIn_of _ (by decide +kernel)) ggX2_accepts_X2_isFigure
set_option maxRecDepth 20000 in
theorem ggX2_accepts_X2_addsFigure : GoodIn wsX2_accepts wsX2_addsFigure := goodIn_r _ [9, 10, 11, 36, 37, 38, 39, 40, 41, 42, 43, 44, 45] (by decide +kernel) (by decide +kernel)
set_option maxRecDepth 20000 in
theorem gX2_accepts_X2_addsFigure : GoodIn wsX2_accepts (wsV RX2 50 RX2 yX2_addsFigure wsX2_addsFigure) := goodIn_app (goodIn_of _ (by decide +kernel)) ggX2_accepts_X2_addsFigure
set_option maxRecDepth 20000 in
theorem ggX2_accepts_X2_endNumber : GoodIn wsX2_accepts wsX2_endNumber := goodIn_r _ [15, 16, 17, 18, 11, 19, 20, 1, 21, 22, 4, 23, 36, 37, 38, 39, 40, 41, 42, 43, 44, 45] (by decide +kernel) (by decide +kernel)
set_option maxRecDepth 20000 in
theorem gX2_accepts_X2_endNumber : GoodIn wsX2_accepts (wsV RX2 53 RX2 yX2_endNumber wsX2_endNumber) := goodIn_app (goodIn_of _ (by decide +kernel)) ggX2_accepts_X2_endNumber
set_option maxRecDepth 20000 in
theorem ggX2_accepts_X2_startsOrder : GoodIn wsX2_accepts wsX2_startsOrder := goodIn_r _ [27, 18, 20, 16, 1, 21, 22, 4, 23, 36, 37, 38, 39, 40, 41, 42, 43, 44, 45] (by decide +kernel) (by decide +kernel)
set_option maxRecDepth 20000 in
theorem gX2_accepts_X2_startsOrder : GoodIn wsX2_accepts (wsV RX2 56 RX2 yX2_startsOrder wsX2_startsOrder) := goodIn_app (goodIn_of _ (by decide +kernel)) ggX2_accepts_X2_startsOrder
set_option maxRecDepth 20000 in
theorem ggX2_accepts_X2_startsNumber : GoodIn wsX2_accepts wsX2_startsNumber := goodIn_r _ [31, 11, 10, 1, 2, 3, 4, 5, 6, 7, 8, 9, 36, 37, 38, 39, 40, 41, 42, 43, 44, 45] (by decide +kernel) (by decide +kernel)
set_option maxRecDepth 20000 in
theorem gX2_accepts_X2_startsNumber : GoodIn wsX2_accepts (wsV RX2 59 RX2 yX2_startsNumber wsX2_startsNumber) := goodIn_app (goodIn_of _ (by decide +kernel)) ggX2_accepts_X2_startsNumber
set_option maxRecDepth 20000 in
theorem ggX2_accepts_X2_endsOrder : GoodIn wsX2_accepts wsX2_endsOrder := goodIn_r _ [35, 18, 1, 36, 37, 38, 39, 40, 41, 42, 43, 44, 45] (by decide +kernel) (by decide +kernel)
set_option maxRecDepth 20000 in
theorem gX2_accepts_X2_endsOrder : GoodIn wsX2_accepts (wsV RX2 62 RX2 yX2_endsOrder wsX2_endsOrder) := goodIn_app (goodIn_of _ (by decide +kernel)) ggX2_accepts_X2_endsOrder
theorem dX2_accepts_0 : decode cX2_accepts 0 = .ok (.aload_n 0, 1) := by decide +kernel
theorem dX2_accepts_1 : decode cX2_accepts 1 = .ok (.getfield 31, 3) := by decide +kernel
theorem dX2_accepts_4 : decode cX2_accepts 4 = .ok (.iconst 2, 1) := by decide +kernel
theorem dX2_accepts_5 : decode cX2_accepts 5 = .ok (.if_icmp .ne 20, 3) := by decide +kernel
theorem dX2_accepts_8 : decode cX2_accepts 8 = .ok (.iload_n 1, 1) := by decide +kernel
theorem dX2_accepts_9 : decode cX2_accepts 9 = .ok (.invokestatic 47, 3) := by decide +kernel
theorem dX2_accepts_12 : decode cX2_accepts 12 = .ok (.ifCond .eq 9, 3) := by decide +kernel
theorem dX2_accepts_15 : decode cX2_accepts 15 = .ok (.aload_n 0, 1) := by decide +kernel
theorem dX2_accepts_16 : decode cX2_accepts 16 = .ok (.iload_n 1, 1) := by decide +kernel
theorem dX2_accepts_17 : decode cX2_accepts 17 = .ok (.invokevirtual 50, 3) := by decide +kernel
theorem dX2_accepts_20 : decode cX2_accepts 20 = .ok (.ireturn, 1) := by decide +kernel
theorem dX2_accepts_21 : decode cX2_accepts 21 = .ok (.aload_n 0, 1) := by decide +kernel
theorem dX2_accepts_22 : decode cX2_accepts 22 = .ok (.invokevirtual 53, 3) := by decide +kernel
theorem dX2_accepts_25 : decode cX2_accepts 25 = .ok (.iload_n 1, 1) := by decide +kernel
theorem dX2_accepts_26 : decode cX2_accepts 26 = .ok (.bipush 32, 2) := by decide +kernel
theorem dX2_accepts_28 : decode cX2_accepts 28 = .ok (.if_icmp .ne 5, 3) := by decide +kernel
theorem dX2_accepts_31 : decode cX2_accepts 31 = .ok (.iconst 1, 1) := by decide +kernel
theorem dX2_accepts_32 : decode cX2_accepts 32 = .ok (.ireturn, 1) := by decide +kernel
theorem dX2_accepts_33 : decode cX2_accepts 33 = .ok (.aload_n 0, 1) := by decide +kernel
theorem dX2_accepts_34 : decode cX2_accepts 34 = .ok (.getfield 31, 3) := by decide +kernel
theorem dX2_accepts_37 : decode cX2_accepts 37 = .ok (.lookupswitch 39 #[(0, 27), (1, 33)], 27) := by decide +kernel
theorem dX2_accepts_64 : decode cX2_accepts 64 = .ok (.aload_n 0, 1) := by decide +kernel
theorem dX2_accepts_65 : decode cX2_accepts 65 = .ok (.iload_n 1, 1) := by decide +kernel
theorem dX2_accepts_66 : decode cX2_accepts 66 = .ok (.invokevirtual 56, 3) := by decide +kernel
theorem dX2_accepts_69 : decode cX2_accepts 69 = .ok (.ireturn, 1) := by decide +kernel
theorem dX2_accepts_70 : decode cX2_accepts 70 = .ok (.aload_n 0, 1) := by decide +kernel
theorem dX2_accepts_71 : decode cX2_accepts 71 = .ok (.iload_n 1, 1) := by decide +kernel
theorem dX2_accepts_72 : decode cX2_accepts 72 = .ok (.invokevirtual 59, 3) := by decide +kernel
theorem dX2_accepts_75 : decode cX2_accepts 75 = .ok (.ireturn, 1) := by decide +kernel
theorem dX2_accepts_76 : decode cX2_accepts 76 = .ok (.aload_n 0, 1) := by decide +kernel
theorem dX2_accepts_77 : decode cX2_accepts 77 = .ok (.iload_n 1, 1) := by decide +kernel
theorem dX2_accepts_78 : decode cX2_accepts 78 = .ok (.invokevirtual 62, 3) := by decide +kernel
theorem dX2_accepts_81 : decode cX2_accepts 81 = .ok (.ireturn, 1) := by decide +kernel
set_option maxRecDepth 20000 in
theorem ggX2_startsOrder_X2_numbersOf : GoodIn wsX2_startsOrder wsX2_numbersOf := goodIn_r _ [8] (by decide +kernel) (by decide +kernel)
set_option maxRecDepth 20000 in
theorem gX2_startsOrder_X2_numbersOf : GoodIn wsX2_startsOrder (va_wsS RX2 65 yX2_numbersOf wsX2_numbersOf) := goodIn_app (goodIn_of _ (by decide +kernel)) ggX2_startsOrder_X2_numbersOf
theorem dX2_startsOrder_0 : decode cX2_startsOrder 0 = .ok (.iload_n 1, 1) := by decide +kernel
theorem dX2_startsOrder_1 : decode cX2_startsOrder 1 = .ok (.invokestatic 65, 3) := by decide +kernel
theorem dX2_startsOrder_4 : decode cX2_startsOrder 4 = .ok (.ifCond .eq 12, 3) := by decide +kernel
theorem dX2_startsOrder_7 : decode cX2_startsOrder 7 = .ok (.aload_n 0, 1) := by decide +kernel
theorem dX2_startsOrder_8 : decode cX2_startsOrder 8 = .ok (.getfield 28, 3) := by decide +kernel
theorem dX2_startsOrder_11 : decode cX2_startsOrder 11 = .ok (.bipush 40, 2) := by decide +kernel
theorem dX2_startsOrder_13 : decode cX2_startsOrder 13 = .ok (.if_icmp .lt 5, 3) := by decide +kernel
theorem dX2_startsOrder_16 : decode cX2_startsOrder 16 = .ok (.iconst 0, 1) := by decide +kernel
theorem dX2_startsOrder_17 : decode cX2_startsOrder 17 = .ok (.ireturn, 1) := by decide +kernel
theorem dX2_startsOrder_18 : decode cX2_startsOrder 18 = .ok (.aload_n 0, 1) := by decide +kernel
theorem dX2_startsOrder_19 : decode cX2_startsOrder 19 = .ok (.getfield 19, 3) := by decide +kernel
theorem dX2_startsOrder_22 : decode cX2_startsOrder 22 = .ok (.aload_n 0, 1) := by decide +kernel
theorem dX2_startsOrder_23 : decode cX2_startsOrder 23 = .ok (.getfield 28, 3) := by decide +kernel
theorem dX2_startsOrder_26 : decode cX2_startsOrder 26 = .ok (.iload_n 1, 1) := by decide +kernel
theorem dX2_startsOrder_27 : decode cX2_startsOrder 27 = .ok (.iastore, 1) := by decide +kernel
theorem dX2_startsOrder_28 : decode cX2_startsOrder 28 = .ok (.aload_n 0, 1) := by decide +kernel
theorem dX2_startsOrder_29 : decode cX2_startsOrder 29 = .ok (.iconst 0, 1) := by decide +kernel
theorem dX2_startsOrder_30 : decode cX2_startsOrder 30 = .ok (.putfield 34, 3) := by decide +kernel
theorem dX2_startsOrder_33 : decode cX2_startsOrder 33 = .ok (.aload_n 0, 1) := by decide +kernel
theorem dX2_startsOrder_34 : decode cX2_startsOrder 34 = .ok (.iconst 1, 1) := by decide +kernel
theorem dX2_startsOrder_35 : decode cX2_startsOrder 35 = .ok (.putfield 31, 3) := by decide +kernel
theorem dX2_startsOrder_38 : decode cX2_startsOrder 38 = .ok (.iconst 1, 1) := by decide +kernel
theorem dX2_startsOrder_39 : decode cX2_startsOrder 39 = .ok (.ireturn, 1) := by decide +kernel
set_option maxRecDepth 20000 in
theorem ggX2_startsNumber_X2_isFigure : GoodIn wsX2_startsNumber wsX2_isFigure := goodIn_r _ [7] (by decide +kernel) (by decide +kernel)
set_option maxRecDepth 20000 in
theorem gX2_startsNumber_X2_isFigure : GoodIn wsX2_startsNumber (va_wsS RX2 47 yX2_isFigure wsX2_isFigure) := goodIn_app (goodIn_of _ (by decide +kernel)) ggX2_startsNumber_X2_isFigure
set_option maxRecDepth 20000 in
theorem ggX2_startsNumber_X2_addsFigure : GoodIn wsX2_startsNumber wsX2_addsFigure := goodIn_r _ [11, 2, 1, 12, 13, 14, 15, 16, 17, 18, 19, 20, 21] (by decide +kernel) (by decide +kernel)
set_option maxRecDepth 20000 in
theorem gX2_startsNumber_X2_addsFigure : GoodIn wsX2_startsNumber (wsV RX2 50 RX2 yX2_addsFigure wsX2_addsFigure) := goodIn_app (goodIn_of _ (by decide +kernel)) ggX2_startsNumber_X2_addsFigure
theorem dX2_startsNumber_0 : decode cX2_startsNumber 0 = .ok (.iload_n 1, 1) := by decide +kernel
theorem dX2_startsNumber_1 : decode cX2_startsNumber 1 = .ok (.invokestatic 47, 3) := by decide +kernel
theorem dX2_startsNumber_4 : decode cX2_startsNumber 4 = .ok (.ifCond .ne 5, 3) := by decide +kernel
theorem dX2_startsNumber_7 : decode cX2_startsNumber 7 = .ok (.iconst 0, 1) := by decide +kernel
theorem dX2_startsNumber_8 : decode cX2_startsNumber 8 = .ok (.ireturn, 1) := by decide +kernel
theorem dX2_startsNumber_9 : decode cX2_startsNumber 9 = .ok (.aload_n 0, 1) := by decide +kernel
theorem dX2_startsNumber_10 : decode cX2_startsNumber 10 = .ok (.iconst 0, 1) := by decide +kernel
theorem dX2_startsNumber_11 : decode cX2_startsNumber 11 = .ok (.putfield 40, 3) := by decide +kernel
theorem dX2_startsNumber_14 : decode cX2_startsNumber 14 = .ok (.aload_n 0, 1) := by decide +kernel
theorem dX2_startsNumber_15 : decode cX2_startsNumber 15 = .ok (.iconst 0, 1) := by decide +kernel
theorem dX2_startsNumber_16 : decode cX2_startsNumber 16 = .ok (.putfield 37, 3) := by decide +kernel
theorem dX2_startsNumber_19 : decode cX2_startsNumber 19 = .ok (.aload_n 0, 1) := by decide +kernel
theorem dX2_startsNumber_20 : decode cX2_startsNumber 20 = .ok (.iconst 2, 1) := by decide +kernel
theorem dX2_startsNumber_21 : decode cX2_startsNumber 21 = .ok (.putfield 31, 3) := by decide +kernel
theorem dX2_startsNumber_24 : decode cX2_startsNumber 24 = .ok (.aload_n 0, 1) := by decide +kernel
theorem dX2_startsNumber_25 : decode cX2_startsNumber 25 = .ok (.iload_n 1, 1) := by decide +kernel
theorem dX2_startsNumber_26 : decode cX2_startsNumber 26 = .ok (.invokevirtual 50, 3) := by decide +kernel
theorem dX2_startsNumber_29 : decode cX2_startsNumber 29 = .ok (.ireturn, 1) := by decide +kernel
theorem dX2_addsFigure_0 : decode cX2_addsFigure 0 = .ok (.aload_n 0, 1) := by decide +kernel
theorem dX2_addsFigure_1 : decode cX2_addsFigure 1 = .ok (.getfield 37, 3) := by decide +kernel
theorem dX2_addsFigure_4 : decode cX2_addsFigure 4 = .ok (.iconst 3, 1) := by decide +kernel
theorem dX2_addsFigure_5 : decode cX2_addsFigure 5 = .ok (.if_icmp .lt 5, 3) := by decide +kernel
theorem dX2_addsFigure_8 : decode cX2_addsFigure 8 = .ok (.iconst 0, 1) := by decide +kernel
theorem dX2_addsFigure_9 : decode cX2_addsFigure 9 = .ok (.ireturn, 1) := by decide +kernel
theorem dX2_addsFigure_10 : decode cX2_addsFigure 10 = .ok (.aload_n 0, 1) := by decide +kernel
theorem dX2_addsFigure_11 : decode cX2_addsFigure 11 = .ok (.bipush 10, 2) := by decide +kernel
theorem dX2_addsFigure_13 : decode cX2_addsFigure 13 = .ok (.aload_n 0, 1) := by decide +kernel
theorem dX2_addsFigure_14 : decode cX2_addsFigure 14 = .ok (.getfield 40, 3) := by decide +kernel
theorem dX2_addsFigure_17 : decode cX2_addsFigure 17 = .ok (.imul, 1) := by decide +kernel
theorem dX2_addsFigure_18 : decode cX2_addsFigure 18 = .ok (.iload_n 1, 1) := by decide +kernel
theorem dX2_addsFigure_19 : decode cX2_addsFigure 19 = .ok (.bipush 48, 2) := by decide +kernel
theorem dX2_addsFigure_21 : decode cX2_addsFigure 21 = .ok (.isub, 1) := by decide +kernel
theorem dX2_addsFigure_22 : decode cX2_addsFigure 22 = .ok (.iadd, 1) := by decide +kernel
theorem dX2_addsFigure_23 : decode cX2_addsFigure 23 = .ok (.putfield 40, 3) := by decide +kernel
theorem dX2_addsFigure_26 : decode cX2_addsFigure 26 = .ok (.aload_n 0, 1) := by decide +kernel
theorem dX2_addsFigure_27 : decode cX2_addsFigure 27 = .ok (.dup, 1) := by decide +kernel
theorem dX2_addsFigure_28 : decode cX2_addsFigure 28 = .ok (.getfield 37, 3) := by decide +kernel
theorem dX2_addsFigure_31 : decode cX2_addsFigure 31 = .ok (.iconst 1, 1) := by decide +kernel
theorem dX2_addsFigure_32 : decode cX2_addsFigure 32 = .ok (.iadd, 1) := by decide +kernel
theorem dX2_addsFigure_33 : decode cX2_addsFigure 33 = .ok (.putfield 37, 3) := by decide +kernel
theorem dX2_addsFigure_36 : decode cX2_addsFigure 36 = .ok (.iconst 1, 1) := by decide +kernel
theorem dX2_addsFigure_37 : decode cX2_addsFigure 37 = .ok (.ireturn, 1) := by decide +kernel
set_option maxRecDepth 20000 in
theorem ggX2_endNumber_X2_numbersOf : GoodIn wsX2_endNumber wsX2_numbersOf := goodIn_r _ [11] (by decide +kernel) (by decide +kernel)
set_option maxRecDepth 20000 in
theorem gX2_endNumber_X2_numbersOf : GoodIn wsX2_endNumber (va_wsS RX2 65 yX2_numbersOf wsX2_numbersOf) := goodIn_app (goodIn_of _ (by decide +kernel)) ggX2_endNumber_X2_numbersOf
theorem dX2_endNumber_0 : decode cX2_endNumber 0 = .ok (.aload_n 0, 1) := by decide +kernel
theorem dX2_endNumber_1 : decode cX2_endNumber 1 = .ok (.getfield 34, 3) := by decide +kernel
theorem dX2_endNumber_4 : decode cX2_endNumber 4 = .ok (.ifCond .ne 19, 3) := by decide +kernel
theorem dX2_endNumber_7 : decode cX2_endNumber 7 = .ok (.aload_n 0, 1) := by decide +kernel
theorem dX2_endNumber_8 : decode cX2_endNumber 8 = .ok (.getfield 22, 3) := by decide +kernel
theorem dX2_endNumber_11 : decode cX2_endNumber 11 = .ok (.aload_n 0, 1) := by decide +kernel
theorem dX2_endNumber_12 : decode cX2_endNumber 12 = .ok (.getfield 28, 3) := by decide +kernel
theorem dX2_endNumber_15 : decode cX2_endNumber 15 = .ok (.aload_n 0, 1) := by decide +kernel
theorem dX2_endNumber_16 : decode cX2_endNumber 16 = .ok (.getfield 40, 3) := by decide +kernel
theorem dX2_endNumber_19 : decode cX2_endNumber 19 = .ok (.iastore, 1) := by decide +kernel
theorem dX2_endNumber_20 : decode cX2_endNumber 20 = .ok (.goto 16, 3) := by decide +kernel
theorem dX2_endNumber_23 : decode cX2_endNumber 23 = .ok (.aload_n 0, 1) := by decide +kernel
theorem dX2_endNumber_24 : decode cX2_endNumber 24 = .ok (.getfield 25, 3) := by decide +kernel
theorem dX2_endNumber_27 : decode cX2_endNumber 27 = .ok (.aload_n 0, 1) := by decide +kernel
theorem dX2_endNumber_28 : decode cX2_endNumber 28 = .ok (.getfield 28, 3) := by decide +kernel
theorem dX2_endNumber_31 : decode cX2_endNumber 31 = .ok (.aload_n 0, 1) := by decide +kernel
theorem dX2_endNumber_32 : decode cX2_endNumber 32 = .ok (.getfield 40, 3) := by decide +kernel
theorem dX2_endNumber_35 : decode cX2_endNumber 35 = .ok (.iastore, 1) := by decide +kernel
theorem dX2_endNumber_36 : decode cX2_endNumber 36 = .ok (.aload_n 0, 1) := by decide +kernel
theorem dX2_endNumber_37 : decode cX2_endNumber 37 = .ok (.dup, 1) := by decide +kernel
theorem dX2_endNumber_38 : decode cX2_endNumber 38 = .ok (.getfield 34, 3) := by decide +kernel
theorem dX2_endNumber_41 : decode cX2_endNumber 41 = .ok (.iconst 1, 1) := by decide +kernel
theorem dX2_endNumber_42 : decode cX2_endNumber 42 = .ok (.iadd, 1) := by decide +kernel
theorem dX2_endNumber_43 : decode cX2_endNumber 43 = .ok (.putfield 34, 3) := by decide +kernel
theorem dX2_endNumber_46 : decode cX2_endNumber 46 = .ok (.aload_n 0, 1) := by decide +kernel
theorem dX2_endNumber_47 : decode cX2_endNumber 47 = .ok (.aload_n 0, 1) := by decide +kernel
theorem dX2_endNumber_48 : decode cX2_endNumber 48 = .ok (.getfield 34, 3) := by decide +kernel
theorem dX2_endNumber_51 : decode cX2_endNumber 51 = .ok (.aload_n 0, 1) := by decide +kernel
theorem dX2_endNumber_52 : decode cX2_endNumber 52 = .ok (.getfield 19, 3) := by decide +kernel
theorem dX2_endNumber_55 : decode cX2_endNumber 55 = .ok (.aload_n 0, 1) := by decide +kernel
theorem dX2_endNumber_56 : decode cX2_endNumber 56 = .ok (.getfield 28, 3) := by decide +kernel
theorem dX2_endNumber_59 : decode cX2_endNumber 59 = .ok (.iaload, 1) := by decide +kernel
theorem dX2_endNumber_60 : decode cX2_endNumber 60 = .ok (.invokestatic 65, 3) := by decide +kernel
theorem dX2_endNumber_63 : decode cX2_endNumber 63 = .ok (.if_icmp .ge 7, 3) := by decide +kernel
theorem dX2_endNumber_66 : decode cX2_endNumber 66 = .ok (.iconst 1, 1) := by decide +kernel
theorem dX2_endNumber_67 : decode cX2_endNumber 67 = .ok (.goto 4, 3) := by decide +kernel
theorem dX2_endNumber_70 : decode cX2_endNumber 70 = .ok (.iconst 3, 1) := by decide +kernel
theorem dX2_endNumber_71 : decode cX2_endNumber 71 = .ok (.putfield 31, 3) := by decide +kernel
theorem dX2_endNumber_74 : decode cX2_endNumber 74 = .ok (.return_, 1) := by decide +kernel
theorem dX2_endsOrder_0 : decode cX2_endsOrder 0 = .ok (.iload_n 1, 1) := by decide +kernel
theorem dX2_endsOrder_1 : decode cX2_endsOrder 1 = .ok (.bipush 59, 2) := by decide +kernel
theorem dX2_endsOrder_3 : decode cX2_endsOrder 3 = .ok (.if_icmp .eq 5, 3) := by decide +kernel
theorem dX2_endsOrder_6 : decode cX2_endsOrder 6 = .ok (.iconst 0, 1) := by decide +kernel
theorem dX2_endsOrder_7 : decode cX2_endsOrder 7 = .ok (.ireturn, 1) := by decide +kernel
theorem dX2_endsOrder_8 : decode cX2_endsOrder 8 = .ok (.aload_n 0, 1) := by decide +kernel
theorem dX2_endsOrder_9 : decode cX2_endsOrder 9 = .ok (.dup, 1) := by decide +kernel
theorem dX2_endsOrder_10 : decode cX2_endsOrder 10 = .ok (.getfield 28, 3) := by decide +kernel
theorem dX2_endsOrder_13 : decode cX2_endsOrder 13 = .ok (.iconst 1, 1) := by decide +kernel
theorem dX2_endsOrder_14 : decode cX2_endsOrder 14 = .ok (.iadd, 1) := by decide +kernel
theorem dX2_endsOrder_15 : decode cX2_endsOrder 15 = .ok (.putfield 28, 3) := by decide +kernel
theorem dX2_endsOrder_18 : decode cX2_endsOrder 18 = .ok (.aload_n 0, 1) := by decide +kernel
theorem dX2_endsOrder_19 : decode cX2_endsOrder 19 = .ok (.iconst 0, 1) := by decide +kernel
theorem dX2_endsOrder_20 : decode cX2_endsOrder 20 = .ok (.putfield 31, 3) := by decide +kernel
theorem dX2_endsOrder_23 : decode cX2_endsOrder 23 = .ok (.iconst 1, 1) := by decide +kernel
theorem dX2_endsOrder_24 : decode cX2_endsOrder 24 = .ok (.ireturn, 1) := by decide +kernel
theorem dX2_isFigure_0 : decode cX2_isFigure 0 = .ok (.iload_n 0, 1) := by decide +kernel
theorem dX2_isFigure_1 : decode cX2_isFigure 1 = .ok (.bipush 48, 2) := by decide +kernel
theorem dX2_isFigure_3 : decode cX2_isFigure 3 = .ok (.if_icmp .lt 13, 3) := by decide +kernel
theorem dX2_isFigure_6 : decode cX2_isFigure 6 = .ok (.iload_n 0, 1) := by decide +kernel
theorem dX2_isFigure_7 : decode cX2_isFigure 7 = .ok (.bipush 57, 2) := by decide +kernel
theorem dX2_isFigure_9 : decode cX2_isFigure 9 = .ok (.if_icmp .gt 7, 3) := by decide +kernel
theorem dX2_isFigure_12 : decode cX2_isFigure 12 = .ok (.iconst 1, 1) := by decide +kernel
theorem dX2_isFigure_13 : decode cX2_isFigure 13 = .ok (.goto 4, 3) := by decide +kernel
theorem dX2_isFigure_16 : decode cX2_isFigure 16 = .ok (.iconst 0, 1) := by decide +kernel
theorem dX2_isFigure_17 : decode cX2_isFigure 17 = .ok (.ireturn, 1) := by decide +kernel
theorem dX2_numbersOf_0 : decode cX2_numbersOf 0 = .ok (.iload_n 0, 1) := by decide +kernel
theorem dX2_numbersOf_1 : decode cX2_numbersOf 1 = .ok (.tableswitch 99 100 119 #[97, 97, 99, 97, 95, 99, 99, 97, 99, 99, 99, 99, 99, 99, 99, 99, 99, 99, 99, 95], 95) := by decide +kernel
theorem dX2_numbersOf_96 : decode cX2_numbersOf 96 = .ok (.iconst 2, 1) := by decide +kernel
theorem dX2_numbersOf_97 : decode cX2_numbersOf 97 = .ok (.ireturn, 1) := by decide +kernel
theorem dX2_numbersOf_98 : decode cX2_numbersOf 98 = .ok (.iconst 1, 1) := by decide +kernel
theorem dX2_numbersOf_99 : decode cX2_numbersOf 99 = .ok (.ireturn, 1) := by decide +kernel
theorem dX2_numbersOf_100 : decode cX2_numbersOf 100 = .ok (.iconst 0, 1) := by decide +kernel
theorem dX2_numbersOf_101 : decode cX2_numbersOf 101 = .ok (.ireturn, 1) := by decide +kernel
theorem dX3_init_0 : decode cX3_init 0 = .ok (.aload_n 0, 1) := by decide +kernel
theorem dX3_init_1 : decode cX3_init 1 = .ok (.invokespecial 3, 3) := by decide +kernel
theorem dX3_init_4 : decode cX3_init 4 = .ok (.aload_n 0, 1) := by decide +kernel
theorem dX3_init_5 : decode cX3_init 5 = .ok (.bipush 6, 2) := by decide +kernel
theorem dX3_init_7 : decode cX3_init 7 = .ok (.newarray .int, 2) := by decide +kernel
theorem dX3_init_9 : decode cX3_init 9 = .ok (.putfield 9, 3) := by decide +kernel
theorem dX3_init_12 : decode cX3_init 12 = .ok (.aload_n 0, 1) := by decide +kernel
theorem dX3_init_13 : decode cX3_init 13 = .ok (.bipush 6, 2) := by decide +kernel
theorem dX3_init_15 : decode cX3_init 15 = .ok (.newarray .int, 2) := by decide +kernel
theorem dX3_init_17 : decode cX3_init 17 = .ok (.putfield 15, 3) := by decide +kernel
theorem dX3_init_20 : decode cX3_init 20 = .ok (.aload_n 0, 1) := by decide +kernel
theorem dX3_init_21 : decode cX3_init 21 = .ok (.bipush 40, 2) := by decide +kernel
theorem dX3_init_23 : decode cX3_init 23 = .ok (.newarray .int, 2) := by decide +kernel
theorem dX3_init_25 : decode cX3_init 25 = .ok (.putfield 18, 3) := by decide +kernel
theorem dX3_init_28 : decode cX3_init 28 = .ok (.aload_n 0, 1) := by decide +kernel
theorem dX3_init_29 : decode cX3_init 29 = .ok (.iconst 0, 1) := by decide +kernel
theorem dX3_init_30 : decode cX3_init 30 = .ok (.putfield 21, 3) := by decide +kernel
theorem dX3_init_33 : decode cX3_init 33 = .ok (.aload_n 0, 1) := by decide +kernel
theorem dX3_init_34 : decode cX3_init 34 = .ok (.iconst 0, 1) := by decide +kernel
theorem dX3_init_35 : decode cX3_init 35 = .ok (.putfield 25, 3) := by decide +kernel
theorem dX3_init_38 : decode cX3_init 38 = .ok (.aload_n 0, 1) := by decide +kernel
theorem dX3_init_39 : decode cX3_init 39 = .ok (.bipush 25, 2) := by decide +kernel
theorem dX3_init_41 : decode cX3_init 41 = .ok (.putfield 28, 3) := by decide +kernel
theorem dX3_init_44 : decode cX3_init 44 = .ok (.aload_n 0, 1) := by decide +kernel
theorem dX3_init_45 : decode cX3_init 45 = .ok (.iconst 0, 1) := by decide +kernel
theorem dX3_init_46 : decode cX3_init 46 = .ok (.putfield 31, 3) := by decide +kernel
theorem dX3_init_49 : decode cX3_init 49 = .ok (.return_, 1) := by decide +kernel
theorem dX3_copyFrom_0 : decode cX3_copyFrom 0 = .ok (.aload_n 1, 1) := by decide +kernel
theorem dX3_copyFrom_1 : decode cX3_copyFrom 1 = .ok (.getfield 9, 3) := by decide +kernel
theorem dX3_copyFrom_4 : decode cX3_copyFrom 4 = .ok (.iconst 0, 1) := by decide +kernel
theorem dX3_copyFrom_5 : decode cX3_copyFrom 5 = .ok (.aload_n 0, 1) := by decide +kernel
theorem dX3_copyFrom_6 : decode cX3_copyFrom 6 = .ok (.getfield 9, 3) := by decide +kernel
theorem dX3_copyFrom_9 : decode cX3_copyFrom 9 = .ok (.iconst 0, 1) := by decide +kernel
theorem dX3_copyFrom_10 : decode cX3_copyFrom 10 = .ok (.bipush 6, 2) := by decide +kernel
theorem dX3_copyFrom_12 : decode cX3_copyFrom 12 = .ok (.invokestatic 34, 3) := by decide +kernel
theorem dX3_copyFrom_15 : decode cX3_copyFrom 15 = .ok (.aload_n 1, 1) := by decide +kernel
theorem dX3_copyFrom_16 : decode cX3_copyFrom 16 = .ok (.getfield 15, 3) := by decide +kernel
theorem dX3_copyFrom_19 : decode cX3_copyFrom 19 = .ok (.iconst 0, 1) := by decide +kernel
theorem dX3_copyFrom_20 : decode cX3_copyFrom 20 = .ok (.aload_n 0, 1) := by decide +kernel
theorem dX3_copyFrom_21 : decode cX3_copyFrom 21 = .ok (.getfield 15, 3) := by decide +kernel
theorem dX3_copyFrom_24 : decode cX3_copyFrom 24 = .ok (.iconst 0, 1) := by decide +kernel
theorem dX3_copyFrom_25 : decode cX3_copyFrom 25 = .ok (.bipush 6, 2) := by decide +kernel
theorem dX3_copyFrom_27 : decode cX3_copyFrom 27 = .ok (.invokestatic 34, 3) := by decide +kernel
theorem dX3_copyFrom_30 : decode cX3_copyFrom 30 = .ok (.aload_n 1, 1) := by decide +kernel
theorem dX3_copyFrom_31 : decode cX3_copyFrom 31 = .ok (.getfield 18, 3) := by decide +kernel
theorem dX3_copyFrom_34 : decode cX3_copyFrom 34 = .ok (.iconst 0, 1) := by decide +kernel
theorem dX3_copyFrom_35 : decode cX3_copyFrom 35 = .ok (.aload_n 0, 1) := by decide +kernel
theorem dX3_copyFrom_36 : decode cX3_copyFrom 36 = .ok (.getfield 18, 3) := by decide +kernel
theorem dX3_copyFrom_39 : decode cX3_copyFrom 39 = .ok (.iconst 0, 1) := by decide +kernel
theorem dX3_copyFrom_40 : decode cX3_copyFrom 40 = .ok (.bipush 40, 2) := by decide +kernel
theorem dX3_copyFrom_42 : decode cX3_copyFrom 42 = .ok (.invokestatic 34, 3) := by decide +kernel
theorem dX3_copyFrom_45 : decode cX3_copyFrom 45 = .ok (.aload_n 0, 1) := by decide +kernel
theorem dX3_copyFrom_46 : decode cX3_copyFrom 46 = .ok (.aload_n 1, 1) := by decide +kernel
theorem dX3_copyFrom_47 : decode cX3_copyFrom 47 = .ok (.getfield 21, 3) := by decide +kernel
theorem dX3_copyFrom_50 : decode cX3_copyFrom 50 = .ok (.putfield 21, 3) := by decide +kernel
theorem dX3_copyFrom_53 : decode cX3_copyFrom 53 = .ok (.aload_n 0, 1) := by decide +kernel
theorem dX3_copyFrom_54 : decode cX3_copyFrom 54 = .ok (.aload_n 1, 1) := by decide +kernel
theorem dX3_copyFrom_55 : decode cX3_copyFrom 55 = .ok (.getfield 25, 3) := by decide +kernel
theorem dX3_copyFrom_58 : decode cX3_copyFrom 58 = .ok (.putfield 25, 3) := by decide +kernel
theorem dX3_copyFrom_61 : decode cX3_copyFrom 61 = .ok (.aload_n 0, 1) := by decide +kernel
theorem dX3_copyFrom_62 : decode cX3_copyFrom 62 = .ok (.aload_n 1, 1) := by decide +kernel
theorem dX3_copyFrom_63 : decode cX3_copyFrom 63 = .ok (.getfield 28, 3) := by decide +kernel
theorem dX3_copyFrom_66 : decode cX3_copyFrom 66 = .ok (.putfield 28, 3) := by decide +kernel
theorem dX3_copyFrom_69 : decode cX3_copyFrom 69 = .ok (.aload_n 0, 1) := by decide +kernel
theorem dX3_copyFrom_70 : decode cX3_copyFrom 70 = .ok (.aload_n 1, 1) := by decide +kernel
theorem dX3_copyFrom_71 : decode cX3_copyFrom 71 = .ok (.getfield 31, 3) := by decide +kernel
theorem dX3_copyFrom_74 : decode cX3_copyFrom 74 = .ok (.putfield 31, 3) := by decide +kernel
theorem dX3_copyFrom_77 : decode cX3_copyFrom 77 = .ok (.return_, 1) := by decide +kernel
theorem dX3_findHost_0 : decode cX3_findHost 0 = .ok (.iconst 0, 1) := by decide +kernel
theorem dX3_findHost_1 : decode cX3_findHost 1 = .ok (.istore_n 2, 1) := by decide +kernel
theorem dX3_findHost_2 : decode cX3_findHost 2 = .ok (.iload_n 2, 1) := by decide +kernel
theorem dX3_findHost_3 : decode cX3_findHost 3 = .ok (.aload_n 0, 1) := by decide +kernel
theorem dX3_findHost_4 : decode cX3_findHost 4 = .ok (.getfield 21, 3) := by decide +kernel
theorem dX3_findHost_7 : decode cX3_findHost 7 = .ok (.if_icmp .ge 21, 3) := by decide +kernel
theorem dX3_findHost_10 : decode cX3_findHost 10 = .ok (.aload_n 0, 1) := by decide +kernel
theorem dX3_findHost_11 : decode cX3_findHost 11 = .ok (.getfield 9, 3) := by decide +kernel
theorem dX3_findHost_14 : decode cX3_findHost 14 = .ok (.iload_n 2, 1) := by decide +kernel
theorem dX3_findHost_15 : decode cX3_findHost 15 = .ok (.iaload, 1) := by decide +kernel
theorem dX3_findHost_16 : decode cX3_findHost 16 = .ok (.iload_n 1, 1) := by decide +kernel
theorem dX3_findHost_17 : decode cX3_findHost 17 = .ok (.if_icmp .ne 5, 3) := by decide +kernel
theorem dX3_findHost_20 : decode cX3_findHost 20 = .ok (.iload_n 2, 1) := by decide +kernel
theorem dX3_findHost_21 : decode cX3_findHost 21 = .ok (.ireturn, 1) := by decide +kernel
theorem dX3_findHost_22 : decode cX3_findHost 22 = .ok (.iinc 2 1, 3) := by decide +kernel
theorem dX3_findHost_25 : decode cX3_findHost 25 = .ok (.goto (-23), 3) := by decide +kernel
theorem dX3_findHost_28 : decode cX3_findHost 28 = .ok (.iconst (-1), 1) := by decide +kernel
theorem dX3_findHost_29 : decode cX3_findHost 29 = .ok (.ireturn, 1) := by decide +kernel
theorem dX3_findKey_0 : decode cX3_findKey 0 = .ok (.iconst 0, 1) := by decide +kernel
theorem dX3_findKey_1 : decode cX3_findKey 1 = .ok (.istore_n 2, 1) := by decide +kernel
theorem dX3_findKey_2 : decode cX3_findKey 2 = .ok (.iload_n 2, 1) := by decide +kernel
theorem dX3_findKey_3 : decode cX3_findKey 3 = .ok (.aload_n 0, 1) := by decide +kernel
theorem dX3_findKey_4 : decode cX3_findKey 4 = .ok (.getfield 25, 3) := by decide +kernel
theorem dX3_findKey_7 : decode cX3_findKey 7 = .ok (.if_icmp .ge 21, 3) := by decide +kernel
theorem dX3_findKey_10 : decode cX3_findKey 10 = .ok (.aload_n 0, 1) := by decide +kernel
theorem dX3_findKey_11 : decode cX3_findKey 11 = .ok (.getfield 18, 3) := by decide +kernel
theorem dX3_findKey_14 : decode cX3_findKey 14 = .ok (.iload_n 2, 1) := by decide +kernel
theorem dX3_findKey_15 : decode cX3_findKey 15 = .ok (.iaload, 1) := by decide +kernel
theorem dX3_findKey_16 : decode cX3_findKey 16 = .ok (.iload_n 1, 1) := by decide +kernel
theorem dX3_findKey_17 : decode cX3_findKey 17 = .ok (.if_icmp .ne 5, 3) := by decide +kernel
theorem dX3_findKey_20 : decode cX3_findKey 20 = .ok (.iload_n 2, 1) := by decide +kernel
theorem dX3_findKey_21 : decode cX3_findKey 21 = .ok (.ireturn, 1) := by decide +kernel
theorem dX3_findKey_22 : decode cX3_findKey 22 = .ok (.iinc 2 1, 3) := by decide +kernel
theorem dX3_findKey_25 : decode cX3_findKey 25 = .ok (.goto (-23), 3) := by decide +kernel
theorem dX3_findKey_28 : decode cX3_findKey 28 = .ok (.iconst (-1), 1) := by decide +kernel
theorem dX3_findKey_29 : decode cX3_findKey 29 = .ok (.ireturn, 1) := by decide +kernel
theorem dX3_nameOf_0 : decode cX3_nameOf 0 = .ok (.iload_n 1, 1) := by decide +kernel
theorem dX3_nameOf_1 : decode cX3_nameOf 1 = .ok (.ifCond .lt 20, 3) := by decide +kernel
theorem dX3_nameOf_4 : decode cX3_nameOf 4 = .ok (.iload_n 1, 1) := by decide +kernel
theorem dX3_nameOf_5 : decode cX3_nameOf 5 = .ok (.aload_n 0, 1) := by decide +kernel
theorem dX3_nameOf_6 : decode cX3_nameOf 6 = .ok (.getfield 21, 3) := by decide +kernel
theorem dX3_nameOf_9 : decode cX3_nameOf 9 = .ok (.if_icmp .ge 12, 3) := by decide +kernel
theorem dX3_nameOf_12 : decode cX3_nameOf 12 = .ok (.aload_n 0, 1) := by decide +kernel
theorem dX3_nameOf_13 : decode cX3_nameOf 13 = .ok (.getfield 9, 3) := by decide +kernel
theorem dX3_nameOf_16 : decode cX3_nameOf 16 = .ok (.iload_n 1, 1) := by decide +kernel
theorem dX3_nameOf_17 : decode cX3_nameOf 17 = .ok (.iaload, 1) := by decide +kernel
theorem dX3_nameOf_18 : decode cX3_nameOf 18 = .ok (.goto 4, 3) := by decide +kernel
theorem dX3_nameOf_21 : decode cX3_nameOf 21 = .ok (.iconst (-1), 1) := by decide +kernel
theorem dX3_nameOf_22 : decode cX3_nameOf 22 = .ok (.ireturn, 1) := by decide +kernel
theorem dX3_allWeights_0 : decode cX3_allWeights 0 = .ok (.iconst 0, 1) := by decide +kernel
theorem dX3_allWeights_1 : decode cX3_allWeights 1 = .ok (.istore_n 1, 1) := by decide +kernel
theorem dX3_allWeights_2 : decode cX3_allWeights 2 = .ok (.iconst 0, 1) := by decide +kernel
theorem dX3_allWeights_3 : decode cX3_allWeights 3 = .ok (.istore_n 2, 1) := by decide +kernel
theorem dX3_allWeights_4 : decode cX3_allWeights 4 = .ok (.iload_n 2, 1) := by decide +kernel
theorem dX3_allWeights_5 : decode cX3_allWeights 5 = .ok (.aload_n 0, 1) := by decide +kernel
theorem dX3_allWeights_6 : decode cX3_allWeights 6 = .ok (.getfield 21, 3) := by decide +kernel
theorem dX3_allWeights_9 : decode cX3_allWeights 9 = .ok (.if_icmp .ge 18, 3) := by decide +kernel
theorem dX3_allWeights_12 : decode cX3_allWeights 12 = .ok (.iload_n 1, 1) := by decide +kernel
theorem dX3_allWeights_13 : decode cX3_allWeights 13 = .ok (.aload_n 0, 1) := by decide +kernel
theorem dX3_allWeights_14 : decode cX3_allWeights 14 = .ok (.getfield 15, 3) := by decide +kernel
theorem dX3_allWeights_17 : decode cX3_allWeights 17 = .ok (.iload_n 2, 1) := by decide +kernel
theorem dX3_allWeights_18 : decode cX3_allWeights 18 = .ok (.iaload, 1) := by decide +kernel
theorem dX3_allWeights_19 : decode cX3_allWeights 19 = .ok (.iadd, 1) := by decide +kernel
theorem dX3_allWeights_20 : decode cX3_allWeights 20 = .ok (.istore_n 1, 1) := by decide +kernel
theorem dX3_allWeights_21 : decode cX3_allWeights 21 = .ok (.iinc 2 1, 3) := by decide +kernel
theorem dX3_allWeights_24 : decode cX3_allWeights 24 = .ok (.goto (-20), 3) := by decide +kernel
theorem dX3_allWeights_27 : decode cX3_allWeights 27 = .ok (.iload_n 1, 1) := by decide +kernel
theorem dX3_allWeights_28 : decode cX3_allWeights 28 = .ok (.ireturn, 1) := by decide +kernel
set_option maxRecDepth 20000 in
theorem ggX3_take_X3_addHost : GoodIn wsX3_take wsX3_addHost := goodIn_r _ [5, 6, 7, 8, 9, 10, 11, 12, 13, 14, 15, 16, 4, 17, 47, 48, 49, 50, 51, 52, 53] (by decide +kernel) (by decide +kernel)
set_option maxRecDepth 20000 in
theorem gX3_take_X3_addHost : GoodIn wsX3_take (wsV RX3 40 RX3 yX3_addHost wsX3_addHost) := goodIn_app (goodIn_of _ (by decide +kernel)) ggX3_take_X3_addHost
set_option maxRecDepth 20000 in
theorem ggX3_take_X3_weighAnew : GoodIn wsX3_take wsX3_weighAnew := goodIn_r _ [21, 8, 9, 10, 11, 12, 13, 14, 15, 16, 4, 17, 6, 7, 47, 48, 49, 50, 51, 52, 53] (by decide +kernel) (by decide +kernel)
set_option maxRecDepth 20000 in
theorem gX3_take_X3_weighAnew : GoodIn wsX3_take (wsV RX3 44 RX3 yX3_weighAnew wsX3_weighAnew) := goodIn_app (goodIn_of _ (by decide +kernel)) ggX3_take_X3_weighAnew
set_option maxRecDepth 20000 in
theorem ggX3_take_X3_removeHost : GoodIn wsX3_take wsX3_removeHost := goodIn_r _ [25, 6, 7, 8, 9, 10, 11, 14, 15, 16, 4, 17, 47, 48, 49, 50, 51, 52, 53] (by decide +kernel) (by decide +kernel)
set_option maxRecDepth 20000 in
theorem gX3_take_X3_removeHost : GoodIn wsX3_take (wsV RX3 47 RX3 yX3_removeHost wsX3_removeHost) := goodIn_app (goodIn_of _ (by decide +kernel)) ggX3_take_X3_removeHost
set_option maxRecDepth 20000 in
theorem ggX3_take_X3_addKey : GoodIn wsX3_take wsX3_addKey := goodIn_r _ [29, 30, 31, 32, 10, 33, 34, 35, 36, 4, 37, 47, 48, 49, 50, 51, 52, 53] (by decide +kernel) (by decide +kernel)
set_option maxRecDepth 20000 in
theorem gX3_take_X3_addKey : GoodIn wsX3_take (wsV RX3 51 RX3 yX3_addKey wsX3_addKey) := goodIn_app (goodIn_of _ (by decide +kernel)) ggX3_take_X3_addKey
set_option maxRecDepth 20000 in
theorem ggX3_take_X3_removeKey : GoodIn wsX3_take wsX3_removeKey := goodIn_r _ [41, 30, 31, 32, 10, 33, 34, 35, 36, 4, 37, 47, 48, 49, 50, 51, 52, 53] (by decide +kernel) (by decide +kernel)
set_option maxRecDepth 20000 in
theorem gX3_take_X3_removeKey : GoodIn wsX3_take (wsV RX3 54 RX3 yX3_removeKey wsX3_removeKey) := goodIn_app (goodIn_of _ (by decide +kernel)) ggX3_take_X3_removeKey
set_option maxRecDepth 20000 in
theorem ggX3_take_X3_changeExtra : GoodIn wsX3_take wsX3_changeExtra := goodIn_r _ [45, 46, 47, 48, 49, 50, 51, 52, 53] (by decide +kernel) (by decide +kernel)
set_option maxRecDepth 20000 in
theorem gX3_take_X3_changeExtra : GoodIn wsX3_take (wsV RX3 57 RX3 yX3_changeExtra wsX3_changeExtra) := goodIn_app (goodIn_of _ (by decide +kernel)) ggX3_take_X3_changeExtra
theorem dX3_take_0 : decode cX3_take 0 = .ok (.iload_n 1, 1) := by decide +kernel
theorem dX3_take_1 : decode cX3_take 1 = .ok (.lookupswitch 83 #[(100, 77), (103, 65), (104, 51), (107, 71), (119, 58)], 51) := by decide +kernel
theorem dX3_take_52 : decode cX3_take 52 = .ok (.aload_n 0, 1) := by decide +kernel
theorem dX3_take_53 : decode cX3_take 53 = .ok (.iload_n 2, 1) := by decide +kernel
theorem dX3_take_54 : decode cX3_take 54 = .ok (.iload_n 3, 1) := by decide +kernel
theorem dX3_take_55 : decode cX3_take 55 = .ok (.invokevirtual 40, 3) := by decide +kernel
theorem dX3_take_58 : decode cX3_take 58 = .ok (.ireturn, 1) := by decide +kernel
theorem dX3_take_59 : decode cX3_take 59 = .ok (.aload_n 0, 1) := by decide +kernel
theorem dX3_take_60 : decode cX3_take 60 = .ok (.iload_n 2, 1) := by decide +kernel
theorem dX3_take_61 : decode cX3_take 61 = .ok (.iload_n 3, 1) := by decide +kernel
theorem dX3_take_62 : decode cX3_take 62 = .ok (.invokevirtual 44, 3) := by decide +kernel
theorem dX3_take_65 : decode cX3_take 65 = .ok (.ireturn, 1) := by decide +kernel
theorem dX3_take_66 : decode cX3_take 66 = .ok (.aload_n 0, 1) := by decide +kernel
theorem dX3_take_67 : decode cX3_take 67 = .ok (.iload_n 2, 1) := by decide +kernel
theorem dX3_take_68 : decode cX3_take 68 = .ok (.invokevirtual 47, 3) := by decide +kernel
theorem dX3_take_71 : decode cX3_take 71 = .ok (.ireturn, 1) := by decide +kernel
theorem dX3_take_72 : decode cX3_take 72 = .ok (.aload_n 0, 1) := by decide +kernel
theorem dX3_take_73 : decode cX3_take 73 = .ok (.iload_n 2, 1) := by decide +kernel
theorem dX3_take_74 : decode cX3_take 74 = .ok (.invokevirtual 51, 3) := by decide +kernel
theorem dX3_take_77 : decode cX3_take 77 = .ok (.ireturn, 1) := by decide +kernel
theorem dX3_take_78 : decode cX3_take 78 = .ok (.aload_n 0, 1) := by decide +kernel
theorem dX3_take_79 : decode cX3_take 79 = .ok (.iload_n 2, 1) := by decide +kernel
theorem dX3_take_80 : decode cX3_take 80 = .ok (.invokevirtual 54, 3) := by decide +kernel
theorem dX3_take_83 : decode cX3_take 83 = .ok (.ireturn, 1) := by decide +kernel
theorem dX3_take_84 : decode cX3_take 84 = .ok (.aload_n 0, 1) := by decide +kernel
theorem dX3_take_85 : decode cX3_take 85 = .ok (.iload_n 2, 1) := by decide +kernel
theorem dX3_take_86 : decode cX3_take 86 = .ok (.invokevirtual 57, 3) := by decide +kernel
theorem dX3_take_89 : decode cX3_take 89 = .ok (.ireturn, 1) := by decide +kernel
set_option maxRecDepth 20000 in
theorem ggX3_addHost_X4_isName : GoodIn wsX3_addHost wsX4_isName := goodIn_r _ [6] (by decide +kernel) (by decide +kernel)
set_option maxRecDepth 20000 in
theorem gX3_addHost_X4_isName_n60 : GoodIn wsX3_addHost (wsX4_isName) := ggX3_addHost_X4_isName
set_option maxRecDepth 20000 in
theorem ggX3_addHost_X4_isWeight : GoodIn wsX3_addHost wsX4_isWeight := goodIn_r _ [8] (by decide +kernel) (by decide +kernel)
set_option maxRecDepth 20000 in
theorem gX3_addHost_X4_isWeight_n64 : GoodIn wsX3_addHost (wsX4_isWeight) := ggX3_addHost_X4_isWeight
set_option maxRecDepth 20000 in
theorem ggX3_addHost_X3_findHost : GoodIn wsX3_addHost wsX3_findHost := goodIn_r _ [13, 1, 2, 14, 15, 16, 17, 18, 19, 20] (by decide +kernel) (by decide +kernel)
set_option maxRecDepth 20000 in
theorem gX3_addHost_X3_findHost : GoodIn wsX3_addHost (wsV RX3 67 RX3 yX3_findHost wsX3_findHost) := goodIn_app (goodIn_of _ (by decide +kernel)) ggX3_addHost_X3_findHost
theorem dX3_addHost_0 : decode cX3_addHost 0 = .ok (.iload_n 1, 1) := by decide +kernel
theorem dX3_addHost_1 : decode cX3_addHost 1 = .ok (.invokestatic 60, 3) := by decide +kernel
theorem dX3_addHost_4 : decode cX3_addHost 4 = .ok (.ifCond .eq 10, 3) := by decide +kernel
theorem dX3_addHost_7 : decode cX3_addHost 7 = .ok (.iload_n 2, 1) := by decide +kernel
theorem dX3_addHost_8 : decode cX3_addHost 8 = .ok (.invokestatic 64, 3) := by decide +kernel
theorem dX3_addHost_11 : decode cX3_addHost 11 = .ok (.ifCond .ne 6, 3) := by decide +kernel
theorem dX3_addHost_14 : decode cX3_addHost 14 = .ok (.bipush (-2), 2) := by decide +kernel
theorem dX3_addHost_16 : decode cX3_addHost 16 = .ok (.ireturn, 1) := by decide +kernel
theorem dX3_addHost_17 : decode cX3_addHost 17 = .ok (.aload_n 0, 1) := by decide +kernel
theorem dX3_addHost_18 : decode cX3_addHost 18 = .ok (.iload_n 1, 1) := by decide +kernel
theorem dX3_addHost_19 : decode cX3_addHost 19 = .ok (.invokevirtual 67, 3) := by decide +kernel
theorem dX3_addHost_22 : decode cX3_addHost 22 = .ok (.ifCond .lt 6, 3) := by decide +kernel
theorem dX3_addHost_25 : decode cX3_addHost 25 = .ok (.bipush (-3), 2) := by decide +kernel
theorem dX3_addHost_27 : decode cX3_addHost 27 = .ok (.ireturn, 1) := by decide +kernel
theorem dX3_addHost_28 : decode cX3_addHost 28 = .ok (.aload_n 0, 1) := by decide +kernel
theorem dX3_addHost_29 : decode cX3_addHost 29 = .ok (.getfield 21, 3) := by decide +kernel
theorem dX3_addHost_32 : decode cX3_addHost 32 = .ok (.bipush 6, 2) := by decide +kernel
theorem dX3_addHost_34 : decode cX3_addHost 34 = .ok (.if_icmp .lt 6, 3) := by decide +kernel
theorem dX3_addHost_37 : decode cX3_addHost 37 = .ok (.bipush (-4), 2) := by decide +kernel
theorem dX3_addHost_39 : decode cX3_addHost 39 = .ok (.ireturn, 1) := by decide +kernel
theorem dX3_addHost_40 : decode cX3_addHost 40 = .ok (.aload_n 0, 1) := by decide +kernel
theorem dX3_addHost_41 : decode cX3_addHost 41 = .ok (.getfield 21, 3) := by decide +kernel
theorem dX3_addHost_44 : decode cX3_addHost 44 = .ok (.istore_n 3, 1) := by decide +kernel
theorem dX3_addHost_45 : decode cX3_addHost 45 = .ok (.iload_n 3, 1) := by decide +kernel
theorem dX3_addHost_46 : decode cX3_addHost 46 = .ok (.ifCond .le 49, 3) := by decide +kernel
theorem dX3_addHost_49 : decode cX3_addHost 49 = .ok (.aload_n 0, 1) := by decide +kernel
theorem dX3_addHost_50 : decode cX3_addHost 50 = .ok (.getfield 9, 3) := by decide +kernel
theorem dX3_addHost_53 : decode cX3_addHost 53 = .ok (.iload_n 3, 1) := by decide +kernel
theorem dX3_addHost_54 : decode cX3_addHost 54 = .ok (.iconst 1, 1) := by decide +kernel
theorem dX3_addHost_55 : decode cX3_addHost 55 = .ok (.isub, 1) := by decide +kernel
theorem dX3_addHost_56 : decode cX3_addHost 56 = .ok (.iaload, 1) := by decide +kernel
theorem dX3_addHost_57 : decode cX3_addHost 57 = .ok (.iload_n 1, 1) := by decide +kernel
theorem dX3_addHost_58 : decode cX3_addHost 58 = .ok (.if_icmp .le 37, 3) := by decide +kernel
theorem dX3_addHost_61 : decode cX3_addHost 61 = .ok (.aload_n 0, 1) := by decide +kernel
theorem dX3_addHost_62 : decode cX3_addHost 62 = .ok (.getfield 9, 3) := by decide +kernel
theorem dX3_addHost_65 : decode cX3_addHost 65 = .ok (.iload_n 3, 1) := by decide +kernel
theorem dX3_addHost_66 : decode cX3_addHost 66 = .ok (.aload_n 0, 1) := by decide +kernel
theorem dX3_addHost_67 : decode cX3_addHost 67 = .ok (.getfield 9, 3) := by decide +kernel
theorem dX3_addHost_70 : decode cX3_addHost 70 = .ok (.iload_n 3, 1) := by decide +kernel
theorem dX3_addHost_71 : decode cX3_addHost 71 = .ok (.iconst 1, 1) := by decide +kernel
theorem dX3_addHost_72 : decode cX3_addHost 72 = .ok (.isub, 1) := by decide +kernel
theorem dX3_addHost_73 : decode cX3_addHost 73 = .ok (.iaload, 1) := by decide +kernel
theorem dX3_addHost_74 : decode cX3_addHost 74 = .ok (.iastore, 1) := by decide +kernel
theorem dX3_addHost_75 : decode cX3_addHost 75 = .ok (.aload_n 0, 1) := by decide +kernel
theorem dX3_addHost_76 : decode cX3_addHost 76 = .ok (.getfield 15, 3) := by decide +kernel
theorem dX3_addHost_79 : decode cX3_addHost 79 = .ok (.iload_n 3, 1) := by decide +kernel
theorem dX3_addHost_80 : decode cX3_addHost 80 = .ok (.aload_n 0, 1) := by decide +kernel
theorem dX3_addHost_81 : decode cX3_addHost 81 = .ok (.getfield 15, 3) := by decide +kernel
theorem dX3_addHost_84 : decode cX3_addHost 84 = .ok (.iload_n 3, 1) := by decide +kernel
theorem dX3_addHost_85 : decode cX3_addHost 85 = .ok (.iconst 1, 1) := by decide +kernel
theorem dX3_addHost_86 : decode cX3_addHost 86 = .ok (.isub, 1) := by decide +kernel
theorem dX3_addHost_87 : decode cX3_addHost 87 = .ok (.iaload, 1) := by decide +kernel
theorem dX3_addHost_88 : decode cX3_addHost 88 = .ok (.iastore, 1) := by decide +kernel
theorem dX3_addHost_89 : decode cX3_addHost 89 = .ok (.iinc 3 (-1), 3) := by decide +kernel
theorem dX3_addHost_92 : decode cX3_addHost 92 = .ok (.goto (-47), 3) := by decide +kernel
theorem dX3_addHost_95 : decode cX3_addHost 95 = .ok (.aload_n 0, 1) := by decide +kernel
theorem dX3_addHost_96 : decode cX3_addHost 96 = .ok (.getfield 9, 3) := by decide +kernel
theorem dX3_addHost_99 : decode cX3_addHost 99 = .ok (.iload_n 3, 1) := by decide +kernel
theorem dX3_addHost_100 : decode cX3_addHost 100 = .ok (.iload_n 1, 1) := by decide +kernel
theorem dX3_addHost_101 : decode cX3_addHost 101 = .ok (.iastore, 1) := by decide +kernel
theorem dX3_addHost_102 : decode cX3_addHost 102 = .ok (.aload_n 0, 1) := by decide +kernel
theorem dX3_addHost_103 : decode cX3_addHost 103 = .ok (.getfield 15, 3) := by decide +kernel
theorem dX3_addHost_106 : decode cX3_addHost 106 = .ok (.iload_n 3, 1) := by decide +kernel
theorem dX3_addHost_107 : decode cX3_addHost 107 = .ok (.iload_n 2, 1) := by decide +kernel
theorem dX3_addHost_108 : decode cX3_addHost 108 = .ok (.iastore, 1) := by decide +kernel
theorem dX3_addHost_109 : decode cX3_addHost 109 = .ok (.aload_n 0, 1) := by decide +kernel
theorem dX3_addHost_110 : decode cX3_addHost 110 = .ok (.dup, 1) := by decide +kernel
theorem dX3_addHost_111 : decode cX3_addHost 111 = .ok (.getfield 21, 3) := by decide +kernel
theorem dX3_addHost_114 : decode cX3_addHost 114 = .ok (.iconst 1, 1) := by decide +kernel
theorem dX3_addHost_115 : decode cX3_addHost 115 = .ok (.iadd, 1) := by decide +kernel
theorem dX3_addHost_116 : decode cX3_addHost 116 = .ok (.putfield 21, 3) := by decide +kernel
theorem dX3_addHost_119 : decode cX3_addHost 119 = .ok (.iconst 0, 1) := by decide +kernel
theorem dX3_addHost_120 : decode cX3_addHost 120 = .ok (.ireturn, 1) := by decide +kernel
set_option maxRecDepth 20000 in
theorem ggX3_weighAnew_X4_isName : GoodIn wsX3_weighAnew wsX4_isName := goodIn_r _ [4] (by decide +kernel) (by decide +kernel)
set_option maxRecDepth 20000 in
theorem gX3_weighAnew_X4_isName_n60 : GoodIn wsX3_weighAnew (wsX4_isName) := ggX3_weighAnew_X4_isName
set_option maxRecDepth 20000 in
theorem ggX3_weighAnew_X4_isWeight : GoodIn wsX3_weighAnew wsX4_isWeight := goodIn_r _ [6] (by decide +kernel) (by decide +kernel)
set_option maxRecDepth 20000 in
theorem gX3_weighAnew_X4_isWeight_n64 : GoodIn wsX3_weighAnew (wsX4_isWeight) := ggX3_weighAnew_X4_isWeight
set_option maxRecDepth 20000 in
theorem ggX3_weighAnew_X3_findHost : GoodIn wsX3_weighAnew wsX3_findHost := goodIn_r _ [11, 12, 13, 14, 15, 16, 17, 18, 19, 20] (by decide +kernel) (by decide +kernel)
set_option maxRecDepth 20000 in
theorem gX3_weighAnew_X3_findHost : GoodIn wsX3_weighAnew (wsV RX3 67 RX3 yX3_findHost wsX3_findHost) := goodIn_app (goodIn_of _ (by decide +kernel)) ggX3_weighAnew_X3_findHost
theorem dX3_weighAnew_0 : decode cX3_weighAnew 0 = .ok (.iload_n 1, 1) := by decide +kernel
theorem dX3_weighAnew_1 : decode cX3_weighAnew 1 = .ok (.invokestatic 60, 3) := by decide +kernel
theorem dX3_weighAnew_4 : decode cX3_weighAnew 4 = .ok (.ifCond .eq 10, 3) := by decide +kernel
theorem dX3_weighAnew_7 : decode cX3_weighAnew 7 = .ok (.iload_n 2, 1) := by decide +kernel
theorem dX3_weighAnew_8 : decode cX3_weighAnew 8 = .ok (.invokestatic 64, 3) := by decide +kernel
theorem dX3_weighAnew_11 : decode cX3_weighAnew 11 = .ok (.ifCond .ne 6, 3) := by decide +kernel
theorem dX3_weighAnew_14 : decode cX3_weighAnew 14 = .ok (.bipush (-2), 2) := by decide +kernel
theorem dX3_weighAnew_16 : decode cX3_weighAnew 16 = .ok (.ireturn, 1) := by decide +kernel
theorem dX3_weighAnew_17 : decode cX3_weighAnew 17 = .ok (.aload_n 0, 1) := by decide +kernel
theorem dX3_weighAnew_18 : decode cX3_weighAnew 18 = .ok (.iload_n 1, 1) := by decide +kernel
theorem dX3_weighAnew_19 : decode cX3_weighAnew 19 = .ok (.invokevirtual 67, 3) := by decide +kernel
theorem dX3_weighAnew_22 : decode cX3_weighAnew 22 = .ok (.istore_n 3, 1) := by decide +kernel
theorem dX3_weighAnew_23 : decode cX3_weighAnew 23 = .ok (.iload_n 3, 1) := by decide +kernel
theorem dX3_weighAnew_24 : decode cX3_weighAnew 24 = .ok (.ifCond .ge 6, 3) := by decide +kernel
theorem dX3_weighAnew_27 : decode cX3_weighAnew 27 = .ok (.bipush (-3), 2) := by decide +kernel
theorem dX3_weighAnew_29 : decode cX3_weighAnew 29 = .ok (.ireturn, 1) := by decide +kernel
theorem dX3_weighAnew_30 : decode cX3_weighAnew 30 = .ok (.aload_n 0, 1) := by decide +kernel
theorem dX3_weighAnew_31 : decode cX3_weighAnew 31 = .ok (.getfield 15, 3) := by decide +kernel
theorem dX3_weighAnew_34 : decode cX3_weighAnew 34 = .ok (.iload_n 3, 1) := by decide +kernel
theorem dX3_weighAnew_35 : decode cX3_weighAnew 35 = .ok (.iload_n 2, 1) := by decide +kernel
theorem dX3_weighAnew_36 : decode cX3_weighAnew 36 = .ok (.iastore, 1) := by decide +kernel
theorem dX3_weighAnew_37 : decode cX3_weighAnew 37 = .ok (.iconst 0, 1) := by decide +kernel
theorem dX3_weighAnew_38 : decode cX3_weighAnew 38 = .ok (.ireturn, 1) := by decide +kernel
set_option maxRecDepth 20000 in
theorem ggX3_removeHost_X4_isName : GoodIn wsX3_removeHost wsX4_isName := goodIn_r _ [6] (by decide +kernel) (by decide +kernel)
set_option maxRecDepth 20000 in
theorem gX3_removeHost_X4_isName_n60 : GoodIn wsX3_removeHost (wsX4_isName) := ggX3_removeHost_X4_isName
set_option maxRecDepth 20000 in
theorem ggX3_removeHost_X3_findHost : GoodIn wsX3_removeHost wsX3_findHost := goodIn_r _ [11, 1, 2, 12, 13, 14, 15, 16, 17, 18] (by decide +kernel) (by decide +kernel)
set_option maxRecDepth 20000 in
theorem gX3_removeHost_X3_findHost : GoodIn wsX3_removeHost (wsV RX3 67 RX3 yX3_findHost wsX3_findHost) := goodIn_app (goodIn_of _ (by decide +kernel)) ggX3_removeHost_X3_findHost
theorem dX3_removeHost_0 : decode cX3_removeHost 0 = .ok (.iload_n 1, 1) := by decide +kernel
theorem dX3_removeHost_1 : decode cX3_removeHost 1 = .ok (.invokestatic 60, 3) := by decide +kernel
theorem dX3_removeHost_4 : decode cX3_removeHost 4 = .ok (.ifCond .ne 6, 3) := by decide +kernel
theorem dX3_removeHost_7 : decode cX3_removeHost 7 = .ok (.bipush (-2), 2) := by decide +kernel
theorem dX3_removeHost_9 : decode cX3_removeHost 9 = .ok (.ireturn, 1) := by decide +kernel
theorem dX3_removeHost_10 : decode cX3_removeHost 10 = .ok (.aload_n 0, 1) := by decide +kernel
theorem dX3_removeHost_11 : decode cX3_removeHost 11 = .ok (.iload_n 1, 1) := by decide +kernel
theorem dX3_removeHost_12 : decode cX3_removeHost 12 = .ok (.invokevirtual 67, 3) := by decide +kernel
theorem dX3_removeHost_15 : decode cX3_removeHost 15 = .ok (.istore_n 2, 1) := by decide +kernel
theorem dX3_removeHost_16 : decode cX3_removeHost 16 = .ok (.iload_n 2, 1) := by decide +kernel
theorem dX3_removeHost_17 : decode cX3_removeHost 17 = .ok (.ifCond .ge 6, 3) := by decide +kernel
theorem dX3_removeHost_20 : decode cX3_removeHost 20 = .ok (.bipush (-3), 2) := by decide +kernel
theorem dX3_removeHost_22 : decode cX3_removeHost 22 = .ok (.ireturn, 1) := by decide +kernel
theorem dX3_removeHost_23 : decode cX3_removeHost 23 = .ok (.iload_n 2, 1) := by decide +kernel
theorem dX3_removeHost_24 : decode cX3_removeHost 24 = .ok (.iconst 1, 1) := by decide +kernel
theorem dX3_removeHost_25 : decode cX3_removeHost 25 = .ok (.iadd, 1) := by decide +kernel
theorem dX3_removeHost_26 : decode cX3_removeHost 26 = .ok (.istore_n 3, 1) := by decide +kernel
theorem dX3_removeHost_27 : decode cX3_removeHost 27 = .ok (.iload_n 3, 1) := by decide +kernel
theorem dX3_removeHost_28 : decode cX3_removeHost 28 = .ok (.aload_n 0, 1) := by decide +kernel
theorem dX3_removeHost_29 : decode cX3_removeHost 29 = .ok (.getfield 21, 3) := by decide +kernel
theorem dX3_removeHost_32 : decode cX3_removeHost 32 = .ok (.if_icmp .ge 37, 3) := by decide +kernel
theorem dX3_removeHost_35 : decode cX3_removeHost 35 = .ok (.aload_n 0, 1) := by decide +kernel
theorem dX3_removeHost_36 : decode cX3_removeHost 36 = .ok (.getfield 9, 3) := by decide +kernel
theorem dX3_removeHost_39 : decode cX3_removeHost 39 = .ok (.iload_n 3, 1) := by decide +kernel
theorem dX3_removeHost_40 : decode cX3_removeHost 40 = .ok (.iconst 1, 1) := by decide +kernel
theorem dX3_removeHost_41 : decode cX3_removeHost 41 = .ok (.isub, 1) := by decide +kernel
theorem dX3_removeHost_42 : decode cX3_removeHost 42 = .ok (.aload_n 0, 1) := by decide +kernel
theorem dX3_removeHost_43 : decode cX3_removeHost 43 = .ok (.getfield 9, 3) := by decide +kernel
theorem dX3_removeHost_46 : decode cX3_removeHost 46 = .ok (.iload_n 3, 1) := by decide +kernel
theorem dX3_removeHost_47 : decode cX3_removeHost 47 = .ok (.iaload, 1) := by decide +kernel
theorem dX3_removeHost_48 : decode cX3_removeHost 48 = .ok (.iastore, 1) := by decide +kernel
theorem dX3_removeHost_49 : decode cX3_removeHost 49 = .ok (.aload_n 0, 1) := by decide +kernel
theorem dX3_removeHost_50 : decode cX3_removeHost 50 = .ok (.getfield 15, 3) := by decide +kernel
theorem dX3_removeHost_53 : decode cX3_removeHost 53 = .ok (.iload_n 3, 1) := by decide +kernel
theorem dX3_removeHost_54 : decode cX3_removeHost 54 = .ok (.iconst 1, 1) := by decide +kernel
theorem dX3_removeHost_55 : decode cX3_removeHost 55 = .ok (.isub, 1) := by decide +kernel
theorem dX3_removeHost_56 : decode cX3_removeHost 56 = .ok (.aload_n 0, 1) := by decide +kernel
theorem dX3_removeHost_57 : decode cX3_removeHost 57 = .ok (.getfield 15, 3) := by decide +kernel
theorem dX3_removeHost_60 : decode cX3_removeHost 60 = .ok (.iload_n 3, 1) := by decide +kernel
theorem dX3_removeHost_61 : decode cX3_removeHost 61 = .ok (.iaload, 1) := by decide +kernel
theorem dX3_removeHost_62 : decode cX3_removeHost 62 = .ok (.iastore, 1) := by decide +kernel
theorem dX3_removeHost_63 : decode cX3_removeHost 63 = .ok (.iinc 3 1, 3) := by decide +kernel
theorem dX3_removeHost_66 : decode cX3_removeHost 66 = .ok (.goto (-39), 3) := by decide +kernel
theorem dX3_removeHost_69 : decode cX3_removeHost 69 = .ok (.aload_n 0, 1) := by decide +kernel
theorem dX3_removeHost_70 : decode cX3_removeHost 70 = .ok (.dup, 1) := by decide +kernel
theorem dX3_removeHost_71 : decode cX3_removeHost 71 = .ok (.getfield 21, 3) := by decide +kernel
theorem dX3_removeHost_74 : decode cX3_removeHost 74 = .ok (.iconst 1, 1) := by decide +kernel
theorem dX3_removeHost_75 : decode cX3_removeHost 75 = .ok (.isub, 1) := by decide +kernel
theorem dX3_removeHost_76 : decode cX3_removeHost 76 = .ok (.putfield 21, 3) := by decide +kernel
theorem dX3_removeHost_79 : decode cX3_removeHost 79 = .ok (.iconst 0, 1) := by decide +kernel
theorem dX3_removeHost_80 : decode cX3_removeHost 80 = .ok (.ireturn, 1) := by decide +kernel
set_option maxRecDepth 20000 in
theorem ggX3_addKey_X4_isKey : GoodIn wsX3_addKey wsX4_isKey := goodIn_r _ [5] (by decide +kernel) (by decide +kernel)
set_option maxRecDepth 20000 in
theorem gX3_addKey_X4_isKey_n70 : GoodIn wsX3_addKey (wsX4_isKey) := ggX3_addKey_X4_isKey
set_option maxRecDepth 20000 in
theorem ggX3_addKey_X3_findKey : GoodIn wsX3_addKey wsX3_findKey := goodIn_r _ [10, 1, 2, 11, 12, 13, 14, 15, 16, 17] (by decide +kernel) (by decide +kernel)
set_option maxRecDepth 20000 in
theorem gX3_addKey_X3_findKey : GoodIn wsX3_addKey (wsV RX3 73 RX3 yX3_findKey wsX3_findKey) := goodIn_app (goodIn_of _ (by decide +kernel)) ggX3_addKey_X3_findKey
theorem dX3_addKey_0 : decode cX3_addKey 0 = .ok (.iload_n 1, 1) := by decide +kernel
theorem dX3_addKey_1 : decode cX3_addKey 1 = .ok (.invokestatic 70, 3) := by decide +kernel
theorem dX3_addKey_4 : decode cX3_addKey 4 = .ok (.ifCond .ne 6, 3) := by decide +kernel
theorem dX3_addKey_7 : decode cX3_addKey 7 = .ok (.bipush (-2), 2) := by decide +kernel
theorem dX3_addKey_9 : decode cX3_addKey 9 = .ok (.ireturn, 1) := by decide +kernel
theorem dX3_addKey_10 : decode cX3_addKey 10 = .ok (.aload_n 0, 1) := by decide +kernel
theorem dX3_addKey_11 : decode cX3_addKey 11 = .ok (.iload_n 1, 1) := by decide +kernel
theorem dX3_addKey_12 : decode cX3_addKey 12 = .ok (.invokevirtual 73, 3) := by decide +kernel
theorem dX3_addKey_15 : decode cX3_addKey 15 = .ok (.ifCond .lt 6, 3) := by decide +kernel
theorem dX3_addKey_18 : decode cX3_addKey 18 = .ok (.bipush (-3), 2) := by decide +kernel
theorem dX3_addKey_20 : decode cX3_addKey 20 = .ok (.ireturn, 1) := by decide +kernel
theorem dX3_addKey_21 : decode cX3_addKey 21 = .ok (.aload_n 0, 1) := by decide +kernel
theorem dX3_addKey_22 : decode cX3_addKey 22 = .ok (.getfield 25, 3) := by decide +kernel
theorem dX3_addKey_25 : decode cX3_addKey 25 = .ok (.bipush 40, 2) := by decide +kernel
theorem dX3_addKey_27 : decode cX3_addKey 27 = .ok (.if_icmp .lt 6, 3) := by decide +kernel
theorem dX3_addKey_30 : decode cX3_addKey 30 = .ok (.bipush (-4), 2) := by decide +kernel
theorem dX3_addKey_32 : decode cX3_addKey 32 = .ok (.ireturn, 1) := by decide +kernel
theorem dX3_addKey_33 : decode cX3_addKey 33 = .ok (.aload_n 0, 1) := by decide +kernel
theorem dX3_addKey_34 : decode cX3_addKey 34 = .ok (.getfield 25, 3) := by decide +kernel
theorem dX3_addKey_37 : decode cX3_addKey 37 = .ok (.istore_n 2, 1) := by decide +kernel
theorem dX3_addKey_38 : decode cX3_addKey 38 = .ok (.iload_n 2, 1) := by decide +kernel
theorem dX3_addKey_39 : decode cX3_addKey 39 = .ok (.ifCond .le 35, 3) := by decide +kernel
theorem dX3_addKey_42 : decode cX3_addKey 42 = .ok (.aload_n 0, 1) := by decide +kernel
theorem dX3_addKey_43 : decode cX3_addKey 43 = .ok (.getfield 18, 3) := by decide +kernel
theorem dX3_addKey_46 : decode cX3_addKey 46 = .ok (.iload_n 2, 1) := by decide +kernel
theorem dX3_addKey_47 : decode cX3_addKey 47 = .ok (.iconst 1, 1) := by decide +kernel
theorem dX3_addKey_48 : decode cX3_addKey 48 = .ok (.isub, 1) := by decide +kernel
theorem dX3_addKey_49 : decode cX3_addKey 49 = .ok (.iaload, 1) := by decide +kernel
theorem dX3_addKey_50 : decode cX3_addKey 50 = .ok (.iload_n 1, 1) := by decide +kernel
theorem dX3_addKey_51 : decode cX3_addKey 51 = .ok (.if_icmp .le 23, 3) := by decide +kernel
theorem dX3_addKey_54 : decode cX3_addKey 54 = .ok (.aload_n 0, 1) := by decide +kernel
theorem dX3_addKey_55 : decode cX3_addKey 55 = .ok (.getfield 18, 3) := by decide +kernel
theorem dX3_addKey_58 : decode cX3_addKey 58 = .ok (.iload_n 2, 1) := by decide +kernel
theorem dX3_addKey_59 : decode cX3_addKey 59 = .ok (.aload_n 0, 1) := by decide +kernel
theorem dX3_addKey_60 : decode cX3_addKey 60 = .ok (.getfield 18, 3) := by decide +kernel
theorem dX3_addKey_63 : decode cX3_addKey 63 = .ok (.iload_n 2, 1) := by decide +kernel
theorem dX3_addKey_64 : decode cX3_addKey 64 = .ok (.iconst 1, 1) := by decide +kernel
theorem dX3_addKey_65 : decode cX3_addKey 65 = .ok (.isub, 1) := by decide +kernel
theorem dX3_addKey_66 : decode cX3_addKey 66 = .ok (.iaload, 1) := by decide +kernel
theorem dX3_addKey_67 : decode cX3_addKey 67 = .ok (.iastore, 1) := by decide +kernel
theorem dX3_addKey_68 : decode cX3_addKey 68 = .ok (.iinc 2 (-1), 3) := by decide +kernel
theorem dX3_addKey_71 : decode cX3_addKey 71 = .ok (.goto (-33), 3) := by decide +kernel
theorem dX3_addKey_74 : decode cX3_addKey 74 = .ok (.aload_n 0, 1) := by decide +kernel
theorem dX3_addKey_75 : decode cX3_addKey 75 = .ok (.getfield 18, 3) := by decide +kernel
theorem dX3_addKey_78 : decode cX3_addKey 78 = .ok (.iload_n 2, 1) := by decide +kernel
theorem dX3_addKey_79 : decode cX3_addKey 79 = .ok (.iload_n 1, 1) := by decide +kernel
theorem dX3_addKey_80 : decode cX3_addKey 80 = .ok (.iastore, 1) := by decide +kernel
theorem dX3_addKey_81 : decode cX3_addKey 81 = .ok (.aload_n 0, 1) := by decide +kernel
theorem dX3_addKey_82 : decode cX3_addKey 82 = .ok (.dup, 1) := by decide +kernel
theorem dX3_addKey_83 : decode cX3_addKey 83 = .ok (.getfield 25, 3) := by decide +kernel
theorem dX3_addKey_86 : decode cX3_addKey 86 = .ok (.iconst 1, 1) := by decide +kernel
theorem dX3_addKey_87 : decode cX3_addKey 87 = .ok (.iadd, 1) := by decide +kernel
theorem dX3_addKey_88 : decode cX3_addKey 88 = .ok (.putfield 25, 3) := by decide +kernel
theorem dX3_addKey_91 : decode cX3_addKey 91 = .ok (.iconst 0, 1) := by decide +kernel
theorem dX3_addKey_92 : decode cX3_addKey 92 = .ok (.ireturn, 1) := by decide +kernel
set_option maxRecDepth 20000 in
theorem ggX3_removeKey_X4_isKey : GoodIn wsX3_removeKey wsX4_isKey := goodIn_r _ [5] (by decide +kernel) (by decide +kernel)
set_option maxRecDepth 20000 in
theorem gX3_removeKey_X4_isKey_n70 : GoodIn wsX3_removeKey (wsX4_isKey) := ggX3_removeKey_X4_isKey
set_option maxRecDepth 20000 in
theorem ggX3_removeKey_X3_findKey : GoodIn wsX3_removeKey wsX3_findKey := goodIn_r _ [10, 1, 2, 11, 12, 13, 14, 15, 16, 17] (by decide +kernel) (by decide +kernel)
set_option maxRecDepth 20000 in
theorem gX3_removeKey_X3_findKey : GoodIn wsX3_removeKey (wsV RX3 73 RX3 yX3_findKey wsX3_findKey) := goodIn_app (goodIn_of _ (by decide +kernel)) ggX3_removeKey_X3_findKey
theorem dX3_removeKey_0 : decode cX3_removeKey 0 = .ok (.iload_n 1, 1) := by decide +kernel
theorem dX3_removeKey_1 : decode cX3_removeKey 1 = .ok (.invokestatic 70, 3) := by decide +kernel
theorem dX3_removeKey_4 : decode cX3_removeKey 4 = .ok (.ifCond .ne 6, 3) := by decide +kernel
theorem dX3_removeKey_7 : decode cX3_removeKey 7 = .ok (.bipush (-2), 2) := by decide +kernel
theorem dX3_removeKey_9 : decode cX3_removeKey 9 = .ok (.ireturn, 1) := by decide +kernel
theorem dX3_removeKey_10 : decode cX3_removeKey 10 = .ok (.aload_n 0, 1) := by decide +kernel
theorem dX3_removeKey_11 : decode cX3_removeKey 11 = .ok (.iload_n 1, 1) := by decide +kernel
theorem dX3_removeKey_12 : decode cX3_removeKey 12 = .ok (.invokevirtual 73, 3) := by decide +kernel
end
section
theorem dX3_removeKey_15 : decode cX3_removeKey 15 = .ok (.istore_n 2, 1) := by decide +kernel
theorem dX3_removeKey_16 : decode cX3_removeKey 16 = .ok (.iload_n 2, 1) := by decide +kernel
theorem dX3_removeKey_17 : decode cX3_removeKey 17 = .ok (.ifCond .ge 6, 3) := by decide +kernel
theorem dX3_removeKey_20 : decode cX3_removeKey 20 = .ok (.bipush (-3), 2) := by decide +kernel
theorem dX3_removeKey_22 : decode cX3_removeKey 22 = .ok (.ireturn, 1) := by decide +kernel
theorem dX3_removeKey_23 : decode cX3_removeKey 23 = .ok (.iload_n 2, 1) := by decide +kernel
theorem dX3_removeKey_24 : decode cX3_removeKey 24 = .ok (.iconst 1, 1) := by decide +kernel
theorem dX3_removeKey_25 : decode cX3_removeKey 25 = .ok (.iadd, 1) := by decide +kernel
theorem dX3_removeKey_26 : decode cX3_removeKey 26 = .ok (.istore_n 3, 1) := by decide +kernel
theorem dX3_removeKey_27 : decode cX3_removeKey 27 = .ok (.iload_n 3, 1) := by decide +kernel
theorem dX3_removeKey_28 : decode cX3_removeKey 28 = .ok (.aload_n 0, 1) := by decide +kernel
theorem dX3_removeKey_29 : decode cX3_removeKey 29 = .ok (.getfield 25, 3) := by decide +kernel
theorem dX3_removeKey_32 : decode cX3_removeKey 32 = .ok (.if_icmp .ge 23, 3) := by decide +kernel
theorem dX3_removeKey_35 : decode cX3_removeKey 35 = .ok (.aload_n 0, 1) := by decide +kernel
theorem dX3_removeKey_36 : decode cX3_removeKey 36 = .ok (.getfield 18, 3) := by decide +kernel
theorem dX3_removeKey_39 : decode cX3_removeKey 39 = .ok (.iload_n 3, 1) := by decide +kernel
theorem dX3_removeKey_40 : decode cX3_removeKey 40 = .ok (.iconst 1, 1) := by decide +kernel
theorem dX3_removeKey_41 : decode cX3_removeKey 41 = .ok (.isub, 1) := by decide +kernel
theorem dX3_removeKey_42 : decode cX3_removeKey 42 = .ok (.aload_n 0, 1) := by decide +kernel
theorem dX3_removeKey_43 : decode cX3_removeKey 43 = .ok (.getfield 18, 3) := by decide +kernel
theorem dX3_removeKey_46 : decode cX3_removeKey 46 = .ok (.iload_n 3, 1) := by decide +kernel
theorem dX3_removeKey_47 : decode cX3_removeKey 47 = .ok (.iaload, 1) := by decide +kernel
theorem dX3_removeKey_48 : decode cX3_removeKey 48 = .ok (.iastore, 1) := by decide +kernel
theorem dX3_removeKey_49 : decode cX3_removeKey 49 = .ok (.iinc 3 1, 3) := by decide +kernel
theorem dX3_removeKey_52 : decode cX3_removeKey 52 = .ok (.goto (-25), 3) := by decide +kernel
theorem dX3_removeKey_55 : decode cX3_removeKey 55 = .ok (.aload_n 0, 1) := by decide +kernel
theorem dX3_removeKey_56 : decode cX3_removeKey 56 = .ok (.dup, 1) := by decide +kernel
theorem dX3_removeKey_57 : decode cX3_removeKey 57 = .ok (.getfield 25, 3) := by decide +kernel
theorem dX3_removeKey_60 : decode cX3_removeKey 60 = .ok (.iconst 1, 1) := by decide +kernel
theorem dX3_removeKey_61 : decode cX3_removeKey 61 = .ok (.isub, 1) := by decide +kernel
theorem dX3_removeKey_62 : decode cX3_removeKey 62 = .ok (.putfield 25, 3) := by decide +kernel
theorem dX3_removeKey_65 : decode cX3_removeKey 65 = .ok (.iconst 0, 1) := by decide +kernel
theorem dX3_removeKey_66 : decode cX3_removeKey 66 = .ok (.ireturn, 1) := by decide +kernel
theorem dX3_changeExtra_0 : decode cX3_changeExtra 0 = .ok (.iload_n 1, 1) := by decide +kernel
theorem dX3_changeExtra_1 : decode cX3_changeExtra 1 = .ok (.ifCond .lt 10, 3) := by decide +kernel
theorem dX3_changeExtra_4 : decode cX3_changeExtra 4 = .ok (.iload_n 1, 1) := by decide +kernel
theorem dX3_changeExtra_5 : decode cX3_changeExtra 5 = .ok (.sipush 200, 3) := by decide +kernel
theorem dX3_changeExtra_8 : decode cX3_changeExtra 8 = .ok (.if_icmp .le 6, 3) := by decide +kernel
theorem dX3_changeExtra_11 : decode cX3_changeExtra 11 = .ok (.bipush (-2), 2) := by decide +kernel
theorem dX3_changeExtra_13 : decode cX3_changeExtra 13 = .ok (.ireturn, 1) := by decide +kernel
theorem dX3_changeExtra_14 : decode cX3_changeExtra 14 = .ok (.aload_n 0, 1) := by decide +kernel
theorem dX3_changeExtra_15 : decode cX3_changeExtra 15 = .ok (.iload_n 1, 1) := by decide +kernel
theorem dX3_changeExtra_16 : decode cX3_changeExtra 16 = .ok (.putfield 28, 3) := by decide +kernel
theorem dX3_changeExtra_19 : decode cX3_changeExtra 19 = .ok (.iconst 0, 1) := by decide +kernel
theorem dX3_changeExtra_20 : decode cX3_changeExtra 20 = .ok (.ireturn, 1) := by decide +kernel
set_option maxRecDepth 20000 in
theorem ggX4_init_X1_init : GoodIn wsX4_init wsX1_init := goodIn_r _ [22, 23, 2, 3, 24, 25, 26, 27, 28, 29, 30, 31, 32, 33, 34, 35, 36, 37, 38, 39, 40, 41, 42, 43, 44, 45, 46, 47, 48, 6, 49, 50, 51, 52, 53, 54, 55, 56, 57, 58, 59, 60, 61, 62, 63, 64, 65, 66, 67, 68, 69, 70, 71, 72, 73, 74, 75, 76, 77, 78, 79, 80, 81, 82, 130, 131, 132, 133, 134, 135, 136, 103, 104, 105, 106, 107, 108, 109, 110] (by decide +kernel) (by decide +kernel)
set_option maxRecDepth 20000 in
theorem gX4_init_X1_init : GoodIn wsX4_init (wsX1_init) := ggX4_init_X1_init
set_option maxRecDepth 20000 in
theorem ggX4_init_X0_init : GoodIn wsX4_init wsX0_init := goodIn_r _ [85, 86, 2, 3, 87, 88, 89, 25, 26, 36, 37, 38, 28, 39, 40, 41, 42, 43, 44, 45, 118, 119, 130, 131, 132, 133, 134, 135, 136] (by decide +kernel) (by decide +kernel)
set_option maxRecDepth 20000 in
theorem gX4_init_X0_init : GoodIn wsX4_init (wsX0_init) := ggX4_init_X0_init
set_option maxRecDepth 20000 in
theorem ggX4_init_X2_init : GoodIn wsX4_init wsX2_init := goodIn_r _ [91, 92, 2, 3, 28, 93, 94, 95, 96, 97, 98, 99, 100, 101, 102, 120, 121, 122, 123, 124, 125, 126, 127, 128, 129] (by decide +kernel) (by decide +kernel)
set_option maxRecDepth 20000 in
theorem gX4_init_X2_init_n28 : GoodIn wsX4_init (wsX2_init) := ggX4_init_X2_init
theorem dX4_init_0 : decode cX4_init 0 = .ok (.aload_n 0, 1) := by decide +kernel
theorem dX4_init_1 : decode cX4_init 1 = .ok (.invokespecial 3, 3) := by decide +kernel
theorem dX4_init_4 : decode cX4_init 4 = .ok (.aload_n 0, 1) := by decide +kernel
theorem dX4_init_5 : decode cX4_init 5 = .ok (.new 9, 3) := by decide +kernel
theorem dX4_init_8 : decode cX4_init 8 = .ok (.dup, 1) := by decide +kernel
theorem dX4_init_9 : decode cX4_init 9 = .ok (.invokespecial 11, 3) := by decide +kernel
theorem dX4_init_12 : decode cX4_init 12 = .ok (.putfield 12, 3) := by decide +kernel
theorem dX4_init_15 : decode cX4_init 15 = .ok (.aload_n 0, 1) := by decide +kernel
theorem dX4_init_16 : decode cX4_init 16 = .ok (.new 9, 3) := by decide +kernel
theorem dX4_init_19 : decode cX4_init 19 = .ok (.dup, 1) := by decide +kernel
theorem dX4_init_20 : decode cX4_init 20 = .ok (.invokespecial 11, 3) := by decide +kernel
theorem dX4_init_23 : decode cX4_init 23 = .ok (.putfield 16, 3) := by decide +kernel
theorem dX4_init_26 : decode cX4_init 26 = .ok (.aload_n 0, 1) := by decide +kernel
theorem dX4_init_27 : decode cX4_init 27 = .ok (.new 19, 3) := by decide +kernel
theorem dX4_init_30 : decode cX4_init 30 = .ok (.dup, 1) := by decide +kernel
theorem dX4_init_31 : decode cX4_init 31 = .ok (.invokespecial 21, 3) := by decide +kernel
theorem dX4_init_34 : decode cX4_init 34 = .ok (.putfield 22, 3) := by decide +kernel
theorem dX4_init_37 : decode cX4_init 37 = .ok (.aload_n 0, 1) := by decide +kernel
theorem dX4_init_38 : decode cX4_init 38 = .ok (.new 26, 3) := by decide +kernel
theorem dX4_init_41 : decode cX4_init 41 = .ok (.dup, 1) := by decide +kernel
theorem dX4_init_42 : decode cX4_init 42 = .ok (.invokespecial 28, 3) := by decide +kernel
theorem dX4_init_45 : decode cX4_init 45 = .ok (.putfield 29, 3) := by decide +kernel
theorem dX4_init_48 : decode cX4_init 48 = .ok (.aload_n 0, 1) := by decide +kernel
theorem dX4_init_49 : decode cX4_init 49 = .ok (.iconst 0, 1) := by decide +kernel
theorem dX4_init_50 : decode cX4_init 50 = .ok (.putfield 33, 3) := by decide +kernel
theorem dX4_init_53 : decode cX4_init 53 = .ok (.aload_n 0, 1) := by decide +kernel
theorem dX4_init_54 : decode cX4_init 54 = .ok (.iconst 0, 1) := by decide +kernel
theorem dX4_init_55 : decode cX4_init 55 = .ok (.putfield 37, 3) := by decide +kernel
theorem dX4_init_58 : decode cX4_init 58 = .ok (.aload_n 0, 1) := by decide +kernel
theorem dX4_init_59 : decode cX4_init 59 = .ok (.iconst 0, 1) := by decide +kernel
theorem dX4_init_60 : decode cX4_init 60 = .ok (.putfield 40, 3) := by decide +kernel
theorem dX4_init_63 : decode cX4_init 63 = .ok (.return_, 1) := by decide +kernel
set_option maxRecDepth 20000 in
theorem ggX4_host_X4_tellOne : GoodIn wsX4_host wsX4_tellOne := goodIn_r _ [5, 6, 7, 8, 9, 10, 11, 12, 13, 14, 15, 16, 17, 18, 19, 20, 21, 22, 23, 24, 25, 26, 27, 28, 29, 30, 31, 32, 33, 34, 4, 35, 36, 37, 38, 39, 40, 41, 42, 43, 44, 45, 46, 47, 48, 49, 50, 51, 52, 53, 54, 55, 56, 57, 58, 59, 60, 61, 62, 63, 64, 65, 66, 67, 68, 69, 70, 71, 72, 73, 74, 75, 76, 77, 78, 79, 80, 81, 82, 83, 84, 85, 86, 87, 88, 89, 90, 91, 92, 93, 94, 95, 96, 97, 98, 99, 100, 101, 102, 103, 104, 105, 106, 107, 108, 109, 110, 111, 112, 113, 114, 115, 116, 117, 118, 119, 120, 121, 122, 123, 124, 125, 126, 127, 128, 129, 130, 131, 132, 133, 134, 135, 136, 137, 138, 139, 140, 141, 142, 143, 144, 145, 146, 147, 148, 149, 150, 151, 152, 153, 154, 155, 156, 157, 158, 159, 160, 161, 162, 163, 164, 165, 166, 167, 168, 169, 170, 171, 172, 173, 174] (by decide +kernel) (by decide +kernel)
set_option maxRecDepth 20000 in
theorem gX4_host_X4_tellOne : GoodIn wsX4_host (wsV RX4 43 RX4 yX4_tellOne wsX4_tellOne) := goodIn_app (goodIn_of _ (by decide +kernel)) ggX4_host_X4_tellOne
theorem dX4_host_0 : decode cX4_host 0 = .ok (.aload_n 0, 1) := by decide +kernel
theorem dX4_host_1 : decode cX4_host 1 = .ok (.bipush 104, 2) := by decide +kernel
theorem dX4_host_3 : decode cX4_host 3 = .ok (.iload_n 1, 1) := by decide +kernel
theorem dX4_host_4 : decode cX4_host 4 = .ok (.iload_n 2, 1) := by decide +kernel
theorem dX4_host_5 : decode cX4_host 5 = .ok (.invokevirtual 43, 3) := by decide +kernel
theorem dX4_host_8 : decode cX4_host 8 = .ok (.ireturn, 1) := by decide +kernel
set_option maxRecDepth 20000 in
theorem ggX4_weighs_X4_tellOne : GoodIn wsX4_weighs wsX4_tellOne := goodIn_r _ [5, 6, 7, 8, 9, 10, 11, 12, 13, 14, 15, 16, 17, 18, 19, 20, 21, 22, 23, 24, 25, 26, 27, 28, 29, 30, 31, 32, 33, 34, 4, 35, 36, 37, 38, 39, 40, 41, 42, 43, 44, 45, 46, 47, 48, 49, 50, 51, 52, 53, 54, 55, 56, 57, 58, 59, 60, 61, 62, 63, 64, 65, 66, 67, 68, 69, 70, 71, 72, 73, 74, 75, 76, 77, 78, 79, 80, 81, 82, 83, 84, 85, 86, 87, 88, 89, 90, 91, 92, 93, 94, 95, 96, 97, 98, 99, 100, 101, 102, 103, 104, 105, 106, 107, 108, 109, 110, 111, 112, 113, 114, 115, 116, 117, 118, 119, 120, 121, 122, 123, 124, 125, 126, 127, 128, 129, 130, 131, 132, 133, 134, 135, 136, 137, 138, 139, 140, 141, 142, 143, 144, 145, 146, 147, 148, 149, 150, 151, 152, 153, 154, 155, 156, 157, 158, 159, 160, 161, 162, 163, 164, 165, 166, 167, 168, 169, 170, 171, 172, 173, 174] (by decide +kernel) (by decide +kernel)
set_option maxRecDepth 20000 in
theorem gX4_weighs_X4_tellOne : GoodIn wsX4_weighs (wsV RX4 43 RX4 yX4_tellOne wsX4_tellOne) := goodIn_app (goodIn_of _ (by decide +kernel)) ggX4_weighs_X4_tellOne
theorem dX4_weighs_0 : decode cX4_weighs 0 = .ok (.aload_n 0, 1) := by decide +kernel
theorem dX4_weighs_1 : decode cX4_weighs 1 = .ok (.bipush 119, 2) := by decide +kernel
theorem dX4_weighs_3 : decode cX4_weighs 3 = .ok (.iload_n 1, 1) := by decide +kernel
theorem dX4_weighs_4 : decode cX4_weighs 4 = .ok (.iload_n 2, 1) := by decide +kernel
theorem dX4_weighs_5 : decode cX4_weighs 5 = .ok (.invokevirtual 43, 3) := by decide +kernel
theorem dX4_weighs_8 : decode cX4_weighs 8 = .ok (.ireturn, 1) := by decide +kernel
set_option maxRecDepth 20000 in
theorem ggX4_goes_X4_tellOne : GoodIn wsX4_goes wsX4_tellOne := goodIn_r _ [5, 6, 7, 8, 9, 10, 11, 12, 13, 14, 15, 16, 17, 18, 19, 20, 21, 22, 23, 24, 25, 26, 27, 28, 29, 30, 31, 32, 33, 34, 4, 35, 36, 37, 38, 39, 40, 41, 42, 43, 44, 45, 46, 47, 48, 49, 50, 51, 52, 53, 54, 55, 56, 57, 58, 59, 60, 61, 62, 63, 64, 65, 66, 67, 68, 69, 70, 71, 72, 73, 74, 75, 76, 77, 78, 79, 80, 81, 82, 83, 84, 85, 86, 87, 88, 89, 90, 91, 92, 93, 94, 95, 96, 97, 98, 99, 100, 101, 102, 103, 104, 105, 106, 107, 108, 109, 110, 111, 112, 113, 114, 115, 116, 117, 118, 119, 120, 121, 122, 123, 124, 125, 126, 127, 128, 129, 130, 131, 132, 133, 134, 135, 136, 137, 138, 139, 140, 141, 142, 143, 144, 145, 146, 147, 148, 149, 150, 151, 152, 153, 154, 155, 156, 157, 158, 159, 160, 161, 162, 163, 164, 165, 166, 167, 168, 169, 170, 171, 172, 173, 174] (by decide +kernel) (by decide +kernel)
set_option maxRecDepth 20000 in
theorem gX4_goes_X4_tellOne : GoodIn wsX4_goes (wsV RX4 43 RX4 yX4_tellOne wsX4_tellOne) := goodIn_app (goodIn_of _ (by decide +kernel)) ggX4_goes_X4_tellOne
theorem dX4_goes_0 : decode cX4_goes 0 = .ok (.aload_n 0, 1) := by decide +kernel
theorem dX4_goes_1 : decode cX4_goes 1 = .ok (.bipush 103, 2) := by decide +kernel
theorem dX4_goes_3 : decode cX4_goes 3 = .ok (.iload_n 1, 1) := by decide +kernel
theorem dX4_goes_4 : decode cX4_goes 4 = .ok (.iconst 0, 1) := by decide +kernel
theorem dX4_goes_5 : decode cX4_goes 5 = .ok (.invokevirtual 43, 3) := by decide +kernel
theorem dX4_goes_8 : decode cX4_goes 8 = .ok (.ireturn, 1) := by decide +kernel
set_option maxRecDepth 20000 in
theorem ggX4_key_X4_tellOne : GoodIn wsX4_key wsX4_tellOne := goodIn_r _ [6, 7, 8, 1, 9, 10, 11, 12, 13, 14, 15, 16, 17, 18, 19, 20, 21, 22, 23, 24, 25, 26, 27, 28, 29, 30, 31, 32, 33, 34, 5, 35, 36, 37, 38, 39, 40, 41, 42, 43, 44, 45, 46, 47, 48, 49, 50, 51, 52, 53, 54, 55, 56, 57, 58, 59, 60, 61, 62, 63, 64, 65, 66, 67, 68, 69, 70, 71, 72, 73, 74, 75, 76, 77, 78, 79, 80, 81, 82, 83, 84, 85, 86, 87, 88, 89, 90, 91, 92, 93, 94, 95, 96, 97, 98, 99, 100, 101, 102, 103, 104, 105, 106, 107, 108, 109, 110, 111, 112, 113, 114, 115, 116, 117, 118, 119, 120, 121, 122, 123, 124, 125, 126, 127, 128, 129, 130, 131, 132, 133, 134, 135, 136, 137, 138, 139, 140, 141, 142, 143, 144, 145, 146, 147, 148, 149, 150, 152, 153, 154, 155, 156, 157, 158, 159, 160, 161, 162, 163, 164, 165, 166, 167, 168, 169, 170, 171, 172, 173, 174, 175] (by decide +kernel) (by decide +kernel)
set_option maxRecDepth 20000 in
theorem gX4_key_X4_tellOne : GoodIn wsX4_key (wsV RX4 43 RX4 yX4_tellOne wsX4_tellOne) := goodIn_app (goodIn_of _ (by decide +kernel)) ggX4_key_X4_tellOne
set_option maxRecDepth 20000 in
theorem ggX4_key_X1_hostNameOfKey : GoodIn wsX4_key wsX1_hostNameOfKey := goodIn_r _ [138, 85, 118, 134, 57, 58, 13, 59, 23, 21, 130, 131, 132, 133, 22, 15, 159, 160, 161, 162, 163, 164, 165, 166, 167, 168, 169, 170, 171, 172, 173] (by decide +kernel) (by decide +kernel)
set_option maxRecDepth 20000 in
theorem gX4_key_X1_hostNameOfKey : GoodIn wsX4_key (wsV RX4 47 RX1 yX1_hostNameOfKey wsX1_hostNameOfKey) := goodIn_app (goodIn_of _ (by decide +kernel)) ggX4_key_X1_hostNameOfKey
theorem dX4_key_0 : decode cX4_key 0 = .ok (.aload_n 0, 1) := by decide +kernel
theorem dX4_key_1 : decode cX4_key 1 = .ok (.bipush 107, 2) := by decide +kernel
theorem dX4_key_3 : decode cX4_key 3 = .ok (.iload_n 1, 1) := by decide +kernel
theorem dX4_key_4 : decode cX4_key 4 = .ok (.iconst 0, 1) := by decide +kernel
theorem dX4_key_5 : decode cX4_key 5 = .ok (.invokevirtual 43, 3) := by decide +kernel
theorem dX4_key_8 : decode cX4_key 8 = .ok (.istore_n 2, 1) := by decide +kernel
theorem dX4_key_9 : decode cX4_key 9 = .ok (.iload_n 2, 1) := by decide +kernel
theorem dX4_key_10 : decode cX4_key 10 = .ok (.ifCond .ge 7, 3) := by decide +kernel
theorem dX4_key_13 : decode cX4_key 13 = .ok (.iload_n 2, 1) := by decide +kernel
theorem dX4_key_14 : decode cX4_key 14 = .ok (.goto 11, 3) := by decide +kernel
theorem dX4_key_17 : decode cX4_key 17 = .ok (.aload_n 0, 1) := by decide +kernel
theorem dX4_key_18 : decode cX4_key 18 = .ok (.getfield 12, 3) := by decide +kernel
theorem dX4_key_21 : decode cX4_key 21 = .ok (.iload_n 1, 1) := by decide +kernel
theorem dX4_key_22 : decode cX4_key 22 = .ok (.invokevirtual 47, 3) := by decide +kernel
theorem dX4_key_25 : decode cX4_key 25 = .ok (.ireturn, 1) := by decide +kernel
set_option maxRecDepth 20000 in
theorem ggX4_drops_X4_tellOne : GoodIn wsX4_drops wsX4_tellOne := goodIn_r _ [5, 6, 7, 8, 9, 10, 11, 12, 13, 14, 15, 16, 17, 18, 19, 20, 21, 22, 23, 24, 25, 26, 27, 28, 29, 30, 31, 32, 33, 34, 4, 35, 36, 37, 38, 39, 40, 41, 42, 43, 44, 45, 46, 47, 48, 49, 50, 51, 52, 53, 54, 55, 56, 57, 58, 59, 60, 61, 62, 63, 64, 65, 66, 67, 68, 69, 70, 71, 72, 73, 74, 75, 76, 77, 78, 79, 80, 81, 82, 83, 84, 85, 86, 87, 88, 89, 90, 91, 92, 93, 94, 95, 96, 97, 98, 99, 100, 101, 102, 103, 104, 105, 106, 107, 108, 109, 110, 111, 112, 113, 114, 115, 116, 117, 118, 119, 120, 121, 122, 123, 124, 125, 126, 127, 128, 129, 130, 131, 132, 133, 134, 135, 136, 137, 138, 139, 140, 141, 142, 143, 144, 145, 146, 147, 148, 149, 150, 151, 152, 153, 154, 155, 156, 157, 158, 159, 160, 161, 162, 163, 164, 165, 166, 167, 168, 169, 170, 171, 172, 173, 174] (by decide +kernel) (by decide +kernel)
set_option maxRecDepth 20000 in
theorem gX4_drops_X4_tellOne : GoodIn wsX4_drops (wsV RX4 43 RX4 yX4_tellOne wsX4_tellOne) := goodIn_app (goodIn_of _ (by decide +kernel)) ggX4_drops_X4_tellOne
theorem dX4_drops_0 : decode cX4_drops 0 = .ok (.aload_n 0, 1) := by decide +kernel
theorem dX4_drops_1 : decode cX4_drops 1 = .ok (.bipush 100, 2) := by decide +kernel
theorem dX4_drops_3 : decode cX4_drops 3 = .ok (.iload_n 1, 1) := by decide +kernel
theorem dX4_drops_4 : decode cX4_drops 4 = .ok (.iconst 0, 1) := by decide +kernel
theorem dX4_drops_5 : decode cX4_drops 5 = .ok (.invokevirtual 43, 3) := by decide +kernel
theorem dX4_drops_8 : decode cX4_drops 8 = .ok (.ireturn, 1) := by decide +kernel
set_option maxRecDepth 20000 in
theorem ggX4_extra_X4_tellOne : GoodIn wsX4_extra wsX4_tellOne := goodIn_r _ [5, 6, 7, 8, 9, 10, 11, 12, 13, 14, 15, 16, 17, 18, 19, 20, 21, 22, 23, 24, 25, 26, 27, 28, 29, 30, 31, 32, 33, 34, 4, 35, 36, 37, 38, 39, 40, 41, 42, 43, 44, 45, 46, 47, 48, 49, 50, 51, 52, 53, 54, 55, 56, 57, 58, 59, 60, 61, 62, 63, 64, 65, 66, 67, 68, 69, 70, 71, 72, 73, 74, 75, 76, 77, 78, 79, 80, 81, 82, 83, 84, 85, 86, 87, 88, 89, 90, 91, 92, 93, 94, 95, 96, 97, 98, 99, 100, 101, 102, 103, 104, 105, 106, 107, 108, 109, 110, 111, 112, 113, 114, 115, 116, 117, 118, 119, 120, 121, 122, 123, 124, 125, 126, 127, 128, 129, 130, 131, 132, 133, 134, 135, 136, 137, 138, 139, 140, 141, 142, 143, 144, 145, 146, 147, 148, 149, 150, 151, 152, 153, 154, 155, 156, 157, 158, 159, 160, 161, 162, 163, 164, 165, 166, 167, 168, 169, 170, 171, 172, 173, 174] (by decide +kernel) (by decide +kernel)
set_option maxRecDepth 20000 in
theorem gX4_extra_X4_tellOne : GoodIn wsX4_extra (wsV RX4 43 RX4 yX4_tellOne wsX4_tellOne) := goodIn_app (goodIn_of _ (by decide +kernel)) ggX4_extra_X4_tellOne
theorem dX4_extra_0 : decode cX4_extra 0 = .ok (.aload_n 0, 1) := by decide +kernel
theorem dX4_extra_1 : decode cX4_extra 1 = .ok (.bipush 101, 2) := by decide +kernel
theorem dX4_extra_3 : decode cX4_extra 3 = .ok (.iload_n 1, 1) := by decide +kernel
theorem dX4_extra_4 : decode cX4_extra 4 = .ok (.iconst 0, 1) := by decide +kernel
theorem dX4_extra_5 : decode cX4_extra 5 = .ok (.invokevirtual 43, 3) := by decide +kernel
theorem dX4_extra_8 : decode cX4_extra 8 = .ok (.ireturn, 1) := by decide +kernel
set_option maxRecDepth 20000 in
theorem ggX4_of_X4_isName : GoodIn wsX4_of wsX4_isName := goodIn_r _ [6] (by decide +kernel) (by decide +kernel)
set_option maxRecDepth 20000 in
theorem gX4_of_X4_isName : GoodIn wsX4_of (va_wsS RX4 51 yX4_isName wsX4_isName) := goodIn_app (goodIn_of _ (by decide +kernel)) ggX4_of_X4_isName
set_option maxRecDepth 20000 in
theorem ggX4_of_X4_refuse : GoodIn wsX4_of wsX4_refuse := goodIn_r _ [10, 11, 12, 13, 37, 38, 39, 40, 41, 42, 43] (by decide +kernel) (by decide +kernel)
set_option maxRecDepth 20000 in
theorem gX4_of_X4_refuse : GoodIn wsX4_of (wsV RX4 55 RX4 yX4_refuse wsX4_refuse) := goodIn_app (goodIn_of _ (by decide +kernel)) ggX4_of_X4_refuse
set_option maxRecDepth 20000 in
theorem ggX4_of_X3_findHost : GoodIn wsX4_of wsX3_findHost := goodIn_r _ [18, 19, 20, 52, 53, 54, 55, 56, 57, 58] (by decide +kernel) (by decide +kernel)
set_option maxRecDepth 20000 in
theorem gX4_of_X3_findHost : GoodIn wsX4_of (wsV RX4 62 RX3 yX3_findHost wsX3_findHost) := goodIn_app (goodIn_of _ (by decide +kernel)) ggX4_of_X3_findHost
set_option maxRecDepth 20000 in
theorem ggX4_of_X1_hostFact : GoodIn wsX4_of wsX1_hostFact := goodIn_r _ [25, 26, 27, 28, 29, 30, 31, 32, 24, 33, 34, 35, 36, 44, 45, 46, 47, 48, 49, 50, 51, 52, 53, 54, 55, 56, 57, 58] (by decide +kernel) (by decide +kernel)
set_option maxRecDepth 20000 in
theorem gX4_of_X1_hostFact : GoodIn wsX4_of (wsV RX4 67 RX1 yX1_hostFact wsX1_hostFact) := goodIn_app (goodIn_of _ (by decide +kernel)) ggX4_of_X1_hostFact
theorem dX4_of_0 : decode cX4_of 0 = .ok (.iload_n 1, 1) := by decide +kernel
theorem dX4_of_1 : decode cX4_of 1 = .ok (.invokestatic 51, 3) := by decide +kernel
theorem dX4_of_4 : decode cX4_of 4 = .ok (.ifCond .eq 13, 3) := by decide +kernel
theorem dX4_of_7 : decode cX4_of 7 = .ok (.iload_n 2, 1) := by decide +kernel
theorem dX4_of_8 : decode cX4_of 8 = .ok (.ifCond .lt 9, 3) := by decide +kernel
theorem dX4_of_11 : decode cX4_of 11 = .ok (.iload_n 2, 1) := by decide +kernel
theorem dX4_of_12 : decode cX4_of 12 = .ok (.bipush 43, 2) := by decide +kernel
theorem dX4_of_14 : decode cX4_of 14 = .ok (.if_icmp .lt 10, 3) := by decide +kernel
theorem dX4_of_17 : decode cX4_of 17 = .ok (.aload_n 0, 1) := by decide +kernel
theorem dX4_of_18 : decode cX4_of 18 = .ok (.bipush (-2), 2) := by decide +kernel
theorem dX4_of_20 : decode cX4_of 20 = .ok (.invokevirtual 55, 3) := by decide +kernel
theorem dX4_of_23 : decode cX4_of 23 = .ok (.ireturn, 1) := by decide +kernel
theorem dX4_of_24 : decode cX4_of 24 = .ok (.aload_n 0, 1) := by decide +kernel
theorem dX4_of_25 : decode cX4_of 25 = .ok (.getfield 12, 3) := by decide +kernel
theorem dX4_of_28 : decode cX4_of 28 = .ok (.getfield 58, 3) := by decide +kernel
theorem dX4_of_31 : decode cX4_of 31 = .ok (.iload_n 1, 1) := by decide +kernel
theorem dX4_of_32 : decode cX4_of 32 = .ok (.invokevirtual 62, 3) := by decide +kernel
theorem dX4_of_35 : decode cX4_of 35 = .ok (.istore_n 3, 1) := by decide +kernel
theorem dX4_of_36 : decode cX4_of 36 = .ok (.iload_n 3, 1) := by decide +kernel
theorem dX4_of_37 : decode cX4_of 37 = .ok (.ifCond .ge 12, 3) := by decide +kernel
theorem dX4_of_40 : decode cX4_of 40 = .ok (.aload_n 0, 1) := by decide +kernel
theorem dX4_of_41 : decode cX4_of 41 = .ok (.bipush (-3), 2) := by decide +kernel
theorem dX4_of_43 : decode cX4_of 43 = .ok (.invokevirtual 55, 3) := by decide +kernel
theorem dX4_of_46 : decode cX4_of 46 = .ok (.goto 12, 3) := by decide +kernel
theorem dX4_of_49 : decode cX4_of 49 = .ok (.aload_n 0, 1) := by decide +kernel
theorem dX4_of_50 : decode cX4_of 50 = .ok (.getfield 12, 3) := by decide +kernel
theorem dX4_of_53 : decode cX4_of 53 = .ok (.iload_n 3, 1) := by decide +kernel
theorem dX4_of_54 : decode cX4_of 54 = .ok (.iload_n 2, 1) := by decide +kernel
theorem dX4_of_55 : decode cX4_of 55 = .ok (.invokevirtual 67, 3) := by decide +kernel
theorem dX4_of_58 : decode cX4_of 58 = .ok (.ireturn, 1) := by decide +kernel
set_option maxRecDepth 20000 in
theorem ggX4_mark_X4_isName : GoodIn wsX4_mark wsX4_isName := goodIn_r _ [6] (by decide +kernel) (by decide +kernel)
set_option maxRecDepth 20000 in
theorem gX4_mark_X4_isName : GoodIn wsX4_mark (va_wsS RX4 51 yX4_isName wsX4_isName) := goodIn_app (goodIn_of _ (by decide +kernel)) ggX4_mark_X4_isName
set_option maxRecDepth 20000 in
theorem ggX4_mark_X4_refuse : GoodIn wsX4_mark wsX4_refuse := goodIn_r _ [10, 11, 12, 13, 29, 30, 31, 32, 33, 34, 35] (by decide +kernel) (by decide +kernel)
set_option maxRecDepth 20000 in
theorem gX4_mark_X4_refuse : GoodIn wsX4_mark (wsV RX4 55 RX4 yX4_refuse wsX4_refuse) := goodIn_app (goodIn_of _ (by decide +kernel)) ggX4_mark_X4_refuse
set_option maxRecDepth 20000 in
theorem ggX4_mark_X3_findHost : GoodIn wsX4_mark wsX3_findHost := goodIn_r _ [18, 19, 20, 44, 45, 46, 47, 48, 49, 50] (by decide +kernel) (by decide +kernel)
set_option maxRecDepth 20000 in
theorem gX4_mark_X3_findHost : GoodIn wsX4_mark (wsV RX4 62 RX3 yX3_findHost wsX3_findHost) := goodIn_app (goodIn_of _ (by decide +kernel)) ggX4_mark_X3_findHost
set_option maxRecDepth 20000 in
theorem ggX4_mark_X1_placeOfMark : GoodIn wsX4_mark wsX1_placeOfMark := goodIn_r _ [25, 26, 27, 28, 36, 37, 38, 39, 40, 41, 42, 43, 44, 45, 46, 47, 48, 49, 50] (by decide +kernel) (by decide +kernel)
set_option maxRecDepth 20000 in
theorem gX4_mark_X1_placeOfMark : GoodIn wsX4_mark (wsV RX4 71 RX1 yX1_placeOfMark wsX1_placeOfMark) := goodIn_app (goodIn_of _ (by decide +kernel)) ggX4_mark_X1_placeOfMark
theorem dX4_mark_0 : decode cX4_mark 0 = .ok (.iload_n 1, 1) := by decide +kernel
theorem dX4_mark_1 : decode cX4_mark 1 = .ok (.invokestatic 51, 3) := by decide +kernel
theorem dX4_mark_4 : decode cX4_mark 4 = .ok (.ifCond .eq 13, 3) := by decide +kernel
theorem dX4_mark_7 : decode cX4_mark 7 = .ok (.iload_n 2, 1) := by decide +kernel
theorem dX4_mark_8 : decode cX4_mark 8 = .ok (.ifCond .lt 9, 3) := by decide +kernel
theorem dX4_mark_11 : decode cX4_mark 11 = .ok (.iload_n 2, 1) := by decide +kernel
theorem dX4_mark_12 : decode cX4_mark 12 = .ok (.bipush 8, 2) := by decide +kernel
theorem dX4_mark_14 : decode cX4_mark 14 = .ok (.if_icmp .lt 10, 3) := by decide +kernel
theorem dX4_mark_17 : decode cX4_mark 17 = .ok (.aload_n 0, 1) := by decide +kernel
theorem dX4_mark_18 : decode cX4_mark 18 = .ok (.bipush (-2), 2) := by decide +kernel
theorem dX4_mark_20 : decode cX4_mark 20 = .ok (.invokevirtual 55, 3) := by decide +kernel
theorem dX4_mark_23 : decode cX4_mark 23 = .ok (.ireturn, 1) := by decide +kernel
theorem dX4_mark_24 : decode cX4_mark 24 = .ok (.aload_n 0, 1) := by decide +kernel
theorem dX4_mark_25 : decode cX4_mark 25 = .ok (.getfield 12, 3) := by decide +kernel
theorem dX4_mark_28 : decode cX4_mark 28 = .ok (.getfield 58, 3) := by decide +kernel
theorem dX4_mark_31 : decode cX4_mark 31 = .ok (.iload_n 1, 1) := by decide +kernel
theorem dX4_mark_32 : decode cX4_mark 32 = .ok (.invokevirtual 62, 3) := by decide +kernel
theorem dX4_mark_35 : decode cX4_mark 35 = .ok (.istore_n 3, 1) := by decide +kernel
theorem dX4_mark_36 : decode cX4_mark 36 = .ok (.iload_n 3, 1) := by decide +kernel
theorem dX4_mark_37 : decode cX4_mark 37 = .ok (.ifCond .ge 12, 3) := by decide +kernel
theorem dX4_mark_40 : decode cX4_mark 40 = .ok (.aload_n 0, 1) := by decide +kernel
theorem dX4_mark_41 : decode cX4_mark 41 = .ok (.bipush (-3), 2) := by decide +kernel
theorem dX4_mark_43 : decode cX4_mark 43 = .ok (.invokevirtual 55, 3) := by decide +kernel
theorem dX4_mark_46 : decode cX4_mark 46 = .ok (.goto 12, 3) := by decide +kernel
theorem dX4_mark_49 : decode cX4_mark 49 = .ok (.aload_n 0, 1) := by decide +kernel
theorem dX4_mark_50 : decode cX4_mark 50 = .ok (.getfield 12, 3) := by decide +kernel
theorem dX4_mark_53 : decode cX4_mark 53 = .ok (.iload_n 3, 1) := by decide +kernel
theorem dX4_mark_54 : decode cX4_mark 54 = .ok (.iload_n 2, 1) := by decide +kernel
theorem dX4_mark_55 : decode cX4_mark 55 = .ok (.invokevirtual 71, 3) := by decide +kernel
theorem dX4_mark_58 : decode cX4_mark 58 = .ok (.ireturn, 1) := by decide +kernel
set_option maxRecDepth 20000 in
theorem ggX4_at_X4_refuse : GoodIn wsX4_at wsX4_refuse := goodIn_r _ [8, 9, 10, 11, 19, 20, 21, 22, 23, 24, 25] (by decide +kernel) (by decide +kernel)
set_option maxRecDepth 20000 in
theorem gX4_at_X4_refuse : GoodIn wsX4_at (wsV RX4 55 RX4 yX4_refuse wsX4_refuse) := goodIn_app (goodIn_of _ (by decide +kernel)) ggX4_at_X4_refuse
set_option maxRecDepth 20000 in
theorem ggX4_at_X3_nameOf : GoodIn wsX4_at wsX3_nameOf := goodIn_r _ [16, 17, 18, 34, 35, 36, 37, 38, 39, 40] (by decide +kernel) (by decide +kernel)
set_option maxRecDepth 20000 in
theorem gX4_at_X3_nameOf : GoodIn wsX4_at (wsV RX4 78 RX3 yX3_nameOf wsX3_nameOf) := goodIn_app (goodIn_of _ (by decide +kernel)) ggX4_at_X3_nameOf
theorem dX4_at_0 : decode cX4_at 0 = .ok (.iload_n 1, 1) := by decide +kernel
theorem dX4_at_1 : decode cX4_at 1 = .ok (.ifCond .lt 9, 3) := by decide +kernel
theorem dX4_at_4 : decode cX4_at 4 = .ok (.iload_n 1, 1) := by decide +kernel
theorem dX4_at_5 : decode cX4_at 5 = .ok (.bipush 101, 2) := by decide +kernel
theorem dX4_at_7 : decode cX4_at 7 = .ok (.if_icmp .lt 10, 3) := by decide +kernel
theorem dX4_at_10 : decode cX4_at 10 = .ok (.aload_n 0, 1) := by decide +kernel
theorem dX4_at_11 : decode cX4_at 11 = .ok (.bipush (-2), 2) := by decide +kernel
theorem dX4_at_13 : decode cX4_at 13 = .ok (.invokevirtual 55, 3) := by decide +kernel
theorem dX4_at_16 : decode cX4_at 16 = .ok (.ireturn, 1) := by decide +kernel
theorem dX4_at_17 : decode cX4_at 17 = .ok (.aload_n 0, 1) := by decide +kernel
theorem dX4_at_18 : decode cX4_at 18 = .ok (.getfield 12, 3) := by decide +kernel
theorem dX4_at_21 : decode cX4_at 21 = .ok (.getfield 58, 3) := by decide +kernel
theorem dX4_at_24 : decode cX4_at 24 = .ok (.aload_n 0, 1) := by decide +kernel
theorem dX4_at_25 : decode cX4_at 25 = .ok (.getfield 12, 3) := by decide +kernel
theorem dX4_at_28 : decode cX4_at 28 = .ok (.getfield 74, 3) := by decide +kernel
theorem dX4_at_31 : decode cX4_at 31 = .ok (.iload_n 1, 1) := by decide +kernel
theorem dX4_at_32 : decode cX4_at 32 = .ok (.iaload, 1) := by decide +kernel
theorem dX4_at_33 : decode cX4_at 33 = .ok (.invokevirtual 78, 3) := by decide +kernel
theorem dX4_at_36 : decode cX4_at 36 = .ok (.ireturn, 1) := by decide +kernel
set_option maxRecDepth 20000 in
theorem ggX4_name_X4_refuse : GoodIn wsX4_name wsX4_refuse := goodIn_r _ [7, 8, 9, 10, 18, 19, 20, 21, 22, 23, 24] (by decide +kernel) (by decide +kernel)
set_option maxRecDepth 20000 in
theorem gX4_name_X4_refuse : GoodIn wsX4_name (wsV RX4 55 RX4 yX4_refuse wsX4_refuse) := goodIn_app (goodIn_of _ (by decide +kernel)) ggX4_name_X4_refuse
set_option maxRecDepth 20000 in
theorem ggX4_name_X3_nameOf : GoodIn wsX4_name wsX3_nameOf := goodIn_r _ [15, 16, 17, 33, 34, 35, 36, 37, 38, 39] (by decide +kernel) (by decide +kernel)
set_option maxRecDepth 20000 in
theorem gX4_name_X3_nameOf : GoodIn wsX4_name (wsV RX4 78 RX3 yX3_nameOf wsX3_nameOf) := goodIn_app (goodIn_of _ (by decide +kernel)) ggX4_name_X3_nameOf
theorem dX4_name_0 : decode cX4_name 0 = .ok (.iload_n 1, 1) := by decide +kernel
theorem dX4_name_1 : decode cX4_name 1 = .ok (.ifCond .ge 12, 3) := by decide +kernel
theorem dX4_name_4 : decode cX4_name 4 = .ok (.aload_n 0, 1) := by decide +kernel
theorem dX4_name_5 : decode cX4_name 5 = .ok (.bipush (-2), 2) := by decide +kernel
theorem dX4_name_7 : decode cX4_name 7 = .ok (.invokevirtual 55, 3) := by decide +kernel
theorem dX4_name_10 : decode cX4_name 10 = .ok (.goto 14, 3) := by decide +kernel
theorem dX4_name_13 : decode cX4_name 13 = .ok (.aload_n 0, 1) := by decide +kernel
theorem dX4_name_14 : decode cX4_name 14 = .ok (.getfield 12, 3) := by decide +kernel
theorem dX4_name_17 : decode cX4_name 17 = .ok (.getfield 58, 3) := by decide +kernel
theorem dX4_name_20 : decode cX4_name 20 = .ok (.iload_n 1, 1) := by decide +kernel
theorem dX4_name_21 : decode cX4_name 21 = .ok (.invokevirtual 78, 3) := by decide +kernel
theorem dX4_name_24 : decode cX4_name 24 = .ok (.ireturn, 1) := by decide +kernel
set_option maxRecDepth 20000 in
theorem ggX4_share_X4_isName : GoodIn wsX4_share wsX4_isName := goodIn_r _ [6] (by decide +kernel) (by decide +kernel)
set_option maxRecDepth 20000 in
theorem gX4_share_X4_isName : GoodIn wsX4_share (va_wsS RX4 51 yX4_isName wsX4_isName) := goodIn_app (goodIn_of _ (by decide +kernel)) ggX4_share_X4_isName
set_option maxRecDepth 20000 in
theorem ggX4_share_X4_refuse : GoodIn wsX4_share wsX4_refuse := goodIn_r _ [10, 11, 12, 13, 31, 32, 33, 34, 35, 36, 37] (by decide +kernel) (by decide +kernel)
set_option maxRecDepth 20000 in
theorem gX4_share_X4_refuse : GoodIn wsX4_share (wsV RX4 55 RX4 yX4_refuse wsX4_refuse) := goodIn_app (goodIn_of _ (by decide +kernel)) ggX4_share_X4_refuse
set_option maxRecDepth 20000 in
theorem ggX4_share_X3_findHost : GoodIn wsX4_share wsX3_findHost := goodIn_r _ [18, 19, 20, 46, 47, 48, 49, 50, 51, 52] (by decide +kernel) (by decide +kernel)
set_option maxRecDepth 20000 in
theorem gX4_share_X3_findHost : GoodIn wsX4_share (wsV RX4 62 RX3 yX3_findHost wsX3_findHost) := goodIn_app (goodIn_of _ (by decide +kernel)) ggX4_share_X3_findHost
set_option maxRecDepth 20000 in
theorem ggX4_share_X1_placesLeadingTo : GoodIn wsX4_share wsX1_placesLeadingTo := goodIn_r _ [25, 26, 27, 28, 29, 24, 30, 38, 39, 40, 41, 42, 43, 44, 45] (by decide +kernel) (by decide +kernel)
set_option maxRecDepth 20000 in
theorem gX4_share_X1_placesLeadingTo : GoodIn wsX4_share (wsV RX4 81 RX1 yX1_placesLeadingTo wsX1_placesLeadingTo) := goodIn_app (goodIn_of _ (by decide +kernel)) ggX4_share_X1_placesLeadingTo
theorem dX4_share_0 : decode cX4_share 0 = .ok (.iload_n 1, 1) := by decide +kernel
theorem dX4_share_1 : decode cX4_share 1 = .ok (.invokestatic 51, 3) := by decide +kernel
theorem dX4_share_4 : decode cX4_share 4 = .ok (.ifCond .ne 10, 3) := by decide +kernel
theorem dX4_share_7 : decode cX4_share 7 = .ok (.aload_n 0, 1) := by decide +kernel
theorem dX4_share_8 : decode cX4_share 8 = .ok (.bipush (-2), 2) := by decide +kernel
theorem dX4_share_10 : decode cX4_share 10 = .ok (.invokevirtual 55, 3) := by decide +kernel
theorem dX4_share_13 : decode cX4_share 13 = .ok (.ireturn, 1) := by decide +kernel
theorem dX4_share_14 : decode cX4_share 14 = .ok (.aload_n 0, 1) := by decide +kernel
theorem dX4_share_15 : decode cX4_share 15 = .ok (.getfield 12, 3) := by decide +kernel
theorem dX4_share_18 : decode cX4_share 18 = .ok (.getfield 58, 3) := by decide +kernel
theorem dX4_share_21 : decode cX4_share 21 = .ok (.iload_n 1, 1) := by decide +kernel
theorem dX4_share_22 : decode cX4_share 22 = .ok (.invokevirtual 62, 3) := by decide +kernel
theorem dX4_share_25 : decode cX4_share 25 = .ok (.istore_n 2, 1) := by decide +kernel
theorem dX4_share_26 : decode cX4_share 26 = .ok (.iload_n 2, 1) := by decide +kernel
theorem dX4_share_27 : decode cX4_share 27 = .ok (.ifCond .ge 12, 3) := by decide +kernel
theorem dX4_share_30 : decode cX4_share 30 = .ok (.aload_n 0, 1) := by decide +kernel
theorem dX4_share_31 : decode cX4_share 31 = .ok (.bipush (-3), 2) := by decide +kernel
theorem dX4_share_33 : decode cX4_share 33 = .ok (.invokevirtual 55, 3) := by decide +kernel
theorem dX4_share_36 : decode cX4_share 36 = .ok (.goto 11, 3) := by decide +kernel
theorem dX4_share_39 : decode cX4_share 39 = .ok (.aload_n 0, 1) := by decide +kernel
theorem dX4_share_40 : decode cX4_share 40 = .ok (.getfield 12, 3) := by decide +kernel
theorem dX4_share_43 : decode cX4_share 43 = .ok (.iload_n 2, 1) := by decide +kernel
theorem dX4_share_44 : decode cX4_share 44 = .ok (.invokevirtual 81, 3) := by decide +kernel
theorem dX4_share_47 : decode cX4_share 47 = .ok (.ireturn, 1) := by decide +kernel
set_option maxRecDepth 20000 in
theorem ggX4_has_X4_isKey : GoodIn wsX4_has wsX4_isKey := goodIn_r _ [7] (by decide +kernel) (by decide +kernel)
set_option maxRecDepth 20000 in
theorem gX4_has_X4_isKey : GoodIn wsX4_has (va_wsS RX4 84 yX4_isKey wsX4_isKey) := goodIn_app (goodIn_of _ (by decide +kernel)) ggX4_has_X4_isKey
set_option maxRecDepth 20000 in
theorem ggX4_has_X4_refuse : GoodIn wsX4_has wsX4_refuse := goodIn_r _ [11, 12, 13, 14, 28, 29, 30, 31, 32, 33, 34] (by decide +kernel) (by decide +kernel)
set_option maxRecDepth 20000 in
theorem gX4_has_X4_refuse : GoodIn wsX4_has (wsV RX4 55 RX4 yX4_refuse wsX4_refuse) := goodIn_app (goodIn_of _ (by decide +kernel)) ggX4_has_X4_refuse
set_option maxRecDepth 20000 in
theorem ggX4_has_X3_findKey : GoodIn wsX4_has wsX3_findKey := goodIn_r _ [19, 20, 21, 43, 44, 45, 46, 47, 48, 49] (by decide +kernel) (by decide +kernel)
set_option maxRecDepth 20000 in
theorem gX4_has_X3_findKey : GoodIn wsX4_has (wsV RX4 87 RX3 yX3_findKey wsX3_findKey) := goodIn_app (goodIn_of _ (by decide +kernel)) ggX4_has_X3_findKey
set_option maxRecDepth 20000 in
theorem ggX4_has_X3_nameOf : GoodIn wsX4_has wsX3_nameOf := goodIn_r _ [25, 26, 27, 43, 44, 45, 46, 47, 48, 49] (by decide +kernel) (by decide +kernel)
set_option maxRecDepth 20000 in
theorem gX4_has_X3_nameOf : GoodIn wsX4_has (wsV RX4 78 RX3 yX3_nameOf wsX3_nameOf) := goodIn_app (goodIn_of _ (by decide +kernel)) ggX4_has_X3_nameOf
theorem dX4_has_0 : decode cX4_has 0 = .ok (.iload_n 1, 1) := by decide +kernel
theorem dX4_has_1 : decode cX4_has 1 = .ok (.invokestatic 84, 3) := by decide +kernel
theorem dX4_has_4 : decode cX4_has 4 = .ok (.ifCond .ne 10, 3) := by decide +kernel
theorem dX4_has_7 : decode cX4_has 7 = .ok (.aload_n 0, 1) := by decide +kernel
theorem dX4_has_8 : decode cX4_has 8 = .ok (.bipush (-2), 2) := by decide +kernel
theorem dX4_has_10 : decode cX4_has 10 = .ok (.invokevirtual 55, 3) := by decide +kernel
theorem dX4_has_13 : decode cX4_has 13 = .ok (.ireturn, 1) := by decide +kernel
theorem dX4_has_14 : decode cX4_has 14 = .ok (.aload_n 0, 1) := by decide +kernel
theorem dX4_has_15 : decode cX4_has 15 = .ok (.getfield 12, 3) := by decide +kernel
theorem dX4_has_18 : decode cX4_has 18 = .ok (.getfield 58, 3) := by decide +kernel
theorem dX4_has_21 : decode cX4_has 21 = .ok (.iload_n 1, 1) := by decide +kernel
theorem dX4_has_22 : decode cX4_has 22 = .ok (.invokevirtual 87, 3) := by decide +kernel
theorem dX4_has_25 : decode cX4_has 25 = .ok (.istore_n 2, 1) := by decide +kernel
theorem dX4_has_26 : decode cX4_has 26 = .ok (.iload_n 2, 1) := by decide +kernel
theorem dX4_has_27 : decode cX4_has 27 = .ok (.ifCond .ge 12, 3) := by decide +kernel
theorem dX4_has_30 : decode cX4_has 30 = .ok (.aload_n 0, 1) := by decide +kernel
theorem dX4_has_31 : decode cX4_has 31 = .ok (.bipush (-3), 2) := by decide +kernel
theorem dX4_has_33 : decode cX4_has 33 = .ok (.invokevirtual 55, 3) := by decide +kernel
theorem dX4_has_36 : decode cX4_has 36 = .ok (.goto 22, 3) := by decide +kernel
theorem dX4_has_39 : decode cX4_has 39 = .ok (.aload_n 0, 1) := by decide +kernel
theorem dX4_has_40 : decode cX4_has 40 = .ok (.getfield 12, 3) := by decide +kernel
theorem dX4_has_43 : decode cX4_has 43 = .ok (.getfield 58, 3) := by decide +kernel
theorem dX4_has_46 : decode cX4_has 46 = .ok (.aload_n 0, 1) := by decide +kernel
theorem dX4_has_47 : decode cX4_has 47 = .ok (.getfield 12, 3) := by decide +kernel
theorem dX4_has_50 : decode cX4_has 50 = .ok (.getfield 90, 3) := by decide +kernel
theorem dX4_has_53 : decode cX4_has 53 = .ok (.iload_n 2, 1) := by decide +kernel
theorem dX4_has_54 : decode cX4_has 54 = .ok (.iaload, 1) := by decide +kernel
theorem dX4_has_55 : decode cX4_has 55 = .ok (.invokevirtual 78, 3) := by decide +kernel
theorem dX4_has_58 : decode cX4_has 58 = .ok (.ireturn, 1) := by decide +kernel
set_option maxRecDepth 20000 in
theorem ggX4_about_X4_isKey : GoodIn wsX4_about wsX4_isKey := goodIn_r _ [6] (by decide +kernel) (by decide +kernel)
set_option maxRecDepth 20000 in
theorem gX4_about_X4_isKey : GoodIn wsX4_about (va_wsS RX4 84 yX4_isKey wsX4_isKey) := goodIn_app (goodIn_of _ (by decide +kernel)) ggX4_about_X4_isKey
set_option maxRecDepth 20000 in
theorem ggX4_about_X4_refuse : GoodIn wsX4_about wsX4_refuse := goodIn_r _ [10, 11, 12, 13, 34, 35, 36, 37, 38, 39, 40] (by decide +kernel) (by decide +kernel)
set_option maxRecDepth 20000 in
theorem gX4_about_X4_refuse : GoodIn wsX4_about (wsV RX4 55 RX4 yX4_refuse wsX4_refuse) := goodIn_app (goodIn_of _ (by decide +kernel)) ggX4_about_X4_refuse
set_option maxRecDepth 20000 in
theorem ggX4_about_X3_findKey : GoodIn wsX4_about wsX3_findKey := goodIn_r _ [18, 19, 20, 49, 50, 51, 52, 53, 54, 55] (by decide +kernel) (by decide +kernel)
set_option maxRecDepth 20000 in
theorem gX4_about_X3_findKey : GoodIn wsX4_about (wsV RX4 87 RX3 yX3_findKey wsX3_findKey) := goodIn_app (goodIn_of _ (by decide +kernel)) ggX4_about_X3_findKey
set_option maxRecDepth 20000 in
theorem ggX4_about_X1_keyFact : GoodIn wsX4_about wsX1_keyFact := goodIn_r _ [25, 26, 27, 28, 29, 30, 24, 31, 32, 33, 41, 42, 43, 44, 45, 46, 47, 48, 49, 50, 51, 52, 53, 54, 55] (by decide +kernel) (by decide +kernel)
set_option maxRecDepth 20000 in
theorem gX4_about_X1_keyFact : GoodIn wsX4_about (wsV RX4 93 RX1 yX1_keyFact wsX1_keyFact) := goodIn_app (goodIn_of _ (by decide +kernel)) ggX4_about_X1_keyFact
theorem dX4_about_0 : decode cX4_about 0 = .ok (.iload_n 1, 1) := by decide +kernel
theorem dX4_about_1 : decode cX4_about 1 = .ok (.invokestatic 84, 3) := by decide +kernel
theorem dX4_about_4 : decode cX4_about 4 = .ok (.ifCond .eq 12, 3) := by decide +kernel
theorem dX4_about_7 : decode cX4_about 7 = .ok (.iload_n 2, 1) := by decide +kernel
theorem dX4_about_8 : decode cX4_about 8 = .ok (.ifCond .lt 8, 3) := by decide +kernel
theorem dX4_about_11 : decode cX4_about 11 = .ok (.iload_n 2, 1) := by decide +kernel
theorem dX4_about_12 : decode cX4_about 12 = .ok (.iconst 3, 1) := by decide +kernel
theorem dX4_about_13 : decode cX4_about 13 = .ok (.if_icmp .lt 10, 3) := by decide +kernel
theorem dX4_about_16 : decode cX4_about 16 = .ok (.aload_n 0, 1) := by decide +kernel
theorem dX4_about_17 : decode cX4_about 17 = .ok (.bipush (-2), 2) := by decide +kernel
theorem dX4_about_19 : decode cX4_about 19 = .ok (.invokevirtual 55, 3) := by decide +kernel
theorem dX4_about_22 : decode cX4_about 22 = .ok (.ireturn, 1) := by decide +kernel
theorem dX4_about_23 : decode cX4_about 23 = .ok (.aload_n 0, 1) := by decide +kernel
theorem dX4_about_24 : decode cX4_about 24 = .ok (.getfield 12, 3) := by decide +kernel
theorem dX4_about_27 : decode cX4_about 27 = .ok (.getfield 58, 3) := by decide +kernel
theorem dX4_about_30 : decode cX4_about 30 = .ok (.iload_n 1, 1) := by decide +kernel
theorem dX4_about_31 : decode cX4_about 31 = .ok (.invokevirtual 87, 3) := by decide +kernel
theorem dX4_about_34 : decode cX4_about 34 = .ok (.istore_n 3, 1) := by decide +kernel
theorem dX4_about_35 : decode cX4_about 35 = .ok (.iload_n 3, 1) := by decide +kernel
theorem dX4_about_36 : decode cX4_about 36 = .ok (.ifCond .ge 12, 3) := by decide +kernel
theorem dX4_about_39 : decode cX4_about 39 = .ok (.aload_n 0, 1) := by decide +kernel
theorem dX4_about_40 : decode cX4_about 40 = .ok (.bipush (-3), 2) := by decide +kernel
theorem dX4_about_42 : decode cX4_about 42 = .ok (.invokevirtual 55, 3) := by decide +kernel
theorem dX4_about_45 : decode cX4_about 45 = .ok (.goto 12, 3) := by decide +kernel
theorem dX4_about_48 : decode cX4_about 48 = .ok (.aload_n 0, 1) := by decide +kernel
theorem dX4_about_49 : decode cX4_about 49 = .ok (.getfield 12, 3) := by decide +kernel
theorem dX4_about_52 : decode cX4_about 52 = .ok (.iload_n 3, 1) := by decide +kernel
theorem dX4_about_53 : decode cX4_about 53 = .ok (.iload_n 2, 1) := by decide +kernel
theorem dX4_about_54 : decode cX4_about 54 = .ok (.invokevirtual 93, 3) := by decide +kernel
theorem dX4_about_57 : decode cX4_about 57 = .ok (.ireturn, 1) := by decide +kernel
set_option maxRecDepth 20000 in
theorem ggX4_would_X4_tryOne : GoodIn wsX4_would wsX4_tryOne := goodIn_r _ [6, 1, 7, 8, 9, 10, 11, 12, 13, 14, 15, 16, 17, 18, 19, 20, 21, 22, 23, 24, 25, 26, 27, 28, 29, 30, 31, 32, 33, 5, 34, 35, 36, 37, 38, 39, 40, 41, 42, 43, 44, 45, 46, 47, 48, 49, 50, 51, 52, 53, 54, 55, 56, 57, 58, 59, 60, 61, 62, 63, 64, 65, 66, 67, 68, 69, 70, 71, 72, 73, 74, 75, 76, 77, 78, 79, 80, 81, 82, 83, 84, 85, 86, 87, 88, 89, 90, 91, 92, 93, 94, 95, 96, 97, 98, 99, 100, 101, 102, 103, 104, 105, 106, 107, 108, 109, 110, 111, 112, 129, 130, 131, 132, 133, 134, 135, 136, 137, 138, 139, 140, 141, 142, 143, 144, 145, 146, 147, 148, 149, 150] (by decide +kernel) (by decide +kernel)
set_option maxRecDepth 20000 in
theorem gX4_would_X4_tryOne : GoodIn wsX4_would (wsV RX4 96 RX4 yX4_tryOne wsX4_tryOne) := goodIn_app (goodIn_of _ (by decide +kernel)) ggX4_would_X4_tryOne
set_option maxRecDepth 20000 in
theorem ggX4_would_X1_hostNameOfKey : GoodIn wsX4_would wsX1_hostNameOfKey := goodIn_r _ [116, 72, 105, 117, 56, 57, 12, 58, 22, 20, 118, 119, 120, 121, 21, 14, 136, 137, 138, 139, 140, 141, 142, 143, 144, 145, 146, 147, 148, 149, 150] (by decide +kernel) (by decide +kernel)
set_option maxRecDepth 20000 in
theorem gX4_would_X1_hostNameOfKey : GoodIn wsX4_would (wsV RX4 47 RX1 yX1_hostNameOfKey wsX1_hostNameOfKey) := goodIn_app (goodIn_of _ (by decide +kernel)) ggX4_would_X1_hostNameOfKey
set_option maxRecDepth 20000 in
theorem ggX4_would_X4_refuse : GoodIn wsX4_would wsX4_refuse := goodIn_r _ [125, 126, 127, 128, 129, 130, 131, 132, 133, 134, 135] (by decide +kernel) (by decide +kernel)
set_option maxRecDepth 20000 in
theorem gX4_would_X4_refuse : GoodIn wsX4_would (wsV RX4 55 RX4 yX4_refuse wsX4_refuse) := goodIn_app (goodIn_of _ (by decide +kernel)) ggX4_would_X4_refuse
theorem dX4_would_0 : decode cX4_would 0 = .ok (.aload_n 0, 1) := by decide +kernel
theorem dX4_would_1 : decode cX4_would 1 = .ok (.bipush 107, 2) := by decide +kernel
theorem dX4_would_3 : decode cX4_would 3 = .ok (.iload_n 1, 1) := by decide +kernel
theorem dX4_would_4 : decode cX4_would 4 = .ok (.invokevirtual 96, 3) := by decide +kernel
theorem dX4_would_7 : decode cX4_would 7 = .ok (.istore_n 2, 1) := by decide +kernel
theorem dX4_would_8 : decode cX4_would 8 = .ok (.iload_n 2, 1) := by decide +kernel
theorem dX4_would_9 : decode cX4_would 9 = .ok (.ifCond .ne 14, 3) := by decide +kernel
theorem dX4_would_12 : decode cX4_would 12 = .ok (.aload_n 0, 1) := by decide +kernel
theorem dX4_would_13 : decode cX4_would 13 = .ok (.getfield 16, 3) := by decide +kernel
theorem dX4_would_16 : decode cX4_would 16 = .ok (.iload_n 1, 1) := by decide +kernel
theorem dX4_would_17 : decode cX4_would 17 = .ok (.invokevirtual 47, 3) := by decide +kernel
theorem dX4_would_20 : decode cX4_would 20 = .ok (.goto 8, 3) := by decide +kernel
theorem dX4_would_23 : decode cX4_would 23 = .ok (.aload_n 0, 1) := by decide +kernel
theorem dX4_would_24 : decode cX4_would 24 = .ok (.iload_n 2, 1) := by decide +kernel
theorem dX4_would_25 : decode cX4_would 25 = .ok (.invokevirtual 55, 3) := by decide +kernel
theorem dX4_would_28 : decode cX4_would 28 = .ok (.ireturn, 1) := by decide +kernel
set_option maxRecDepth 20000 in
theorem ggX4_without_X4_tryOne : GoodIn wsX4_without wsX4_tryOne := goodIn_r _ [7, 1, 8, 2, 9, 10, 11, 12, 13, 14, 15, 16, 17, 18, 19, 20, 21, 22, 23, 24, 25, 26, 27, 28, 29, 30, 31, 32, 33, 6, 34, 35, 36, 37, 38, 39, 40, 41, 42, 43, 44, 45, 46, 47, 48, 49, 50, 51, 52, 53, 54, 55, 56, 57, 58, 59, 60, 61, 62, 63, 64, 65, 66, 67, 68, 69, 70, 71, 72, 73, 74, 75, 76, 77, 78, 79, 80, 81, 82, 83, 84, 85, 86, 87, 88, 89, 90, 91, 92, 93, 94, 95, 96, 97, 98, 99, 100, 101, 102, 103, 104, 105, 106, 107, 108, 109, 110, 111, 112, 133, 134, 135, 136, 137, 138, 139, 140, 141, 142, 143, 144, 145, 146, 147, 148, 149, 150, 151, 152, 153, 154] (by decide +kernel) (by decide +kernel)
set_option maxRecDepth 20000 in
theorem gX4_without_X4_tryOne : GoodIn wsX4_without (wsV RX4 96 RX4 yX4_tryOne wsX4_tryOne) := goodIn_app (goodIn_of _ (by decide +kernel)) ggX4_without_X4_tryOne
set_option maxRecDepth 20000 in
theorem ggX4_without_X1_movedSince : GoodIn wsX4_without wsX1_movedSince := goodIn_r _ [116, 72, 73, 112, 105, 117, 118, 119, 12, 120, 21, 14, 121, 56, 57, 58, 22, 20, 122, 123, 124, 70, 125, 140, 141, 142, 143, 144, 145, 146, 147, 148, 149, 150, 151, 152, 153, 154] (by decide +kernel) (by decide +kernel)
set_option maxRecDepth 20000 in
theorem gX4_without_X1_movedSince : GoodIn wsX4_without (wsV RX4 99 RX1 yX1_movedSince wsX1_movedSince) := goodIn_app (goodIn_of _ (by decide +kernel)) ggX4_without_X1_movedSince
set_option maxRecDepth 20000 in
theorem ggX4_without_X4_refuse : GoodIn wsX4_without wsX4_refuse := goodIn_r _ [129, 130, 131, 132, 133, 134, 135, 136, 137, 138, 139] (by decide +kernel) (by decide +kernel)
set_option maxRecDepth 20000 in
theorem gX4_without_X4_refuse : GoodIn wsX4_without (wsV RX4 55 RX4 yX4_refuse wsX4_refuse) := goodIn_app (goodIn_of _ (by decide +kernel)) ggX4_without_X4_refuse
theorem dX4_without_0 : decode cX4_without 0 = .ok (.aload_n 0, 1) := by decide +kernel
theorem dX4_without_1 : decode cX4_without 1 = .ok (.bipush 103, 2) := by decide +kernel
theorem dX4_without_3 : decode cX4_without 3 = .ok (.iload_n 1, 1) := by decide +kernel
theorem dX4_without_4 : decode cX4_without 4 = .ok (.invokevirtual 96, 3) := by decide +kernel
theorem dX4_without_7 : decode cX4_without 7 = .ok (.istore_n 2, 1) := by decide +kernel
theorem dX4_without_8 : decode cX4_without 8 = .ok (.iload_n 2, 1) := by decide +kernel
theorem dX4_without_9 : decode cX4_without 9 = .ok (.ifCond .ne 17, 3) := by decide +kernel
theorem dX4_without_12 : decode cX4_without 12 = .ok (.aload_n 0, 1) := by decide +kernel
theorem dX4_without_13 : decode cX4_without 13 = .ok (.getfield 16, 3) := by decide +kernel
theorem dX4_without_16 : decode cX4_without 16 = .ok (.aload_n 0, 1) := by decide +kernel
theorem dX4_without_17 : decode cX4_without 17 = .ok (.getfield 12, 3) := by decide +kernel
theorem dX4_without_20 : decode cX4_without 20 = .ok (.invokevirtual 99, 3) := by decide +kernel
theorem dX4_without_23 : decode cX4_without 23 = .ok (.goto 8, 3) := by decide +kernel
theorem dX4_without_26 : decode cX4_without 26 = .ok (.aload_n 0, 1) := by decide +kernel
theorem dX4_without_27 : decode cX4_without 27 = .ok (.iload_n 2, 1) := by decide +kernel
theorem dX4_without_28 : decode cX4_without 28 = .ok (.invokevirtual 55, 3) := by decide +kernel
theorem dX4_without_31 : decode cX4_without 31 = .ok (.ireturn, 1) := by decide +kernel
set_option maxRecDepth 20000 in
theorem ggX4_count_X3_allWeights : GoodIn wsX4_count wsX3_allWeights := goodIn_r _ [11, 12, 13, 60, 61, 62, 63, 64, 65, 66] (by decide +kernel) (by decide +kernel)
set_option maxRecDepth 20000 in
theorem gX4_count_X3_allWeights : GoodIn wsX4_count (wsV RX4 112 RX3 yX3_allWeights wsX3_allWeights) := goodIn_app (goodIn_of _ (by decide +kernel)) ggX4_count_X3_allWeights
set_option maxRecDepth 20000 in
theorem ggX4_count_X1_fullHosts : GoodIn wsX4_count wsX1_fullHosts := goodIn_r _ [18, 19, 20, 21, 22, 52, 53, 54, 55, 56, 57, 58, 59, 60, 61, 62, 63, 64, 65, 66] (by decide +kernel) (by decide +kernel)
set_option maxRecDepth 20000 in
theorem gX4_count_X1_fullHosts : GoodIn wsX4_count (wsV RX4 119 RX1 yX1_fullHosts wsX1_fullHosts) := goodIn_app (goodIn_of _ (by decide +kernel)) ggX4_count_X1_fullHosts
set_option maxRecDepth 20000 in
theorem ggX4_count_X1_allPassed : GoodIn wsX4_count wsX1_allPassed := goodIn_r _ [26, 19, 27, 28, 52, 53, 54, 55, 56, 57, 58, 59, 60, 61, 62, 63, 64, 65, 66] (by decide +kernel) (by decide +kernel)
set_option maxRecDepth 20000 in
theorem gX4_count_X1_allPassed : GoodIn wsX4_count (wsV RX4 122 RX1 yX1_allPassed wsX1_allPassed) := goodIn_app (goodIn_of _ (by decide +kernel)) ggX4_count_X1_allPassed
set_option maxRecDepth 20000 in
theorem ggX4_count_X1_mostLoad : GoodIn wsX4_count wsX1_mostLoad := goodIn_r _ [32, 19, 20, 21, 33, 34, 35, 36, 52, 53, 54, 55, 56, 57, 58, 59, 60, 61, 62, 63, 64, 65, 66] (by decide +kernel) (by decide +kernel)
set_option maxRecDepth 20000 in
theorem gX4_count_X1_mostLoad : GoodIn wsX4_count (wsV RX4 125 RX1 yX1_mostLoad wsX1_mostLoad) := goodIn_app (goodIn_of _ (by decide +kernel)) ggX4_count_X1_mostLoad
set_option maxRecDepth 20000 in
theorem ggX4_count_X4_refuse : GoodIn wsX4_count wsX4_refuse := goodIn_r _ [41, 42, 43, 44, 45, 46, 47, 48, 49, 50, 51] (by decide +kernel) (by decide +kernel)
set_option maxRecDepth 20000 in
theorem gX4_count_X4_refuse : GoodIn wsX4_count (wsV RX4 55 RX4 yX4_refuse wsX4_refuse) := goodIn_app (goodIn_of _ (by decide +kernel)) ggX4_count_X4_refuse
theorem dX4_count_0 : decode cX4_count 0 = .ok (.iload_n 1, 1) := by decide +kernel
theorem dX4_count_1 : decode cX4_count 1 = .ok (.tableswitch 143 0 8 #[51, 62, 73, 84, 97, 108, 116, 124, 132], 51) := by decide +kernel
theorem dX4_count_52 : decode cX4_count 52 = .ok (.aload_n 0, 1) := by decide +kernel
theorem dX4_count_53 : decode cX4_count 53 = .ok (.getfield 12, 3) := by decide +kernel
theorem dX4_count_56 : decode cX4_count 56 = .ok (.getfield 58, 3) := by decide +kernel
theorem dX4_count_59 : decode cX4_count 59 = .ok (.getfield 103, 3) := by decide +kernel
theorem dX4_count_62 : decode cX4_count 62 = .ok (.ireturn, 1) := by decide +kernel
theorem dX4_count_63 : decode cX4_count 63 = .ok (.aload_n 0, 1) := by decide +kernel
theorem dX4_count_64 : decode cX4_count 64 = .ok (.getfield 12, 3) := by decide +kernel
theorem dX4_count_67 : decode cX4_count 67 = .ok (.getfield 58, 3) := by decide +kernel
theorem dX4_count_70 : decode cX4_count 70 = .ok (.getfield 106, 3) := by decide +kernel
theorem dX4_count_73 : decode cX4_count 73 = .ok (.ireturn, 1) := by decide +kernel
theorem dX4_count_74 : decode cX4_count 74 = .ok (.aload_n 0, 1) := by decide +kernel
theorem dX4_count_75 : decode cX4_count 75 = .ok (.getfield 12, 3) := by decide +kernel
theorem dX4_count_78 : decode cX4_count 78 = .ok (.getfield 58, 3) := by decide +kernel
theorem dX4_count_81 : decode cX4_count 81 = .ok (.getfield 109, 3) := by decide +kernel
theorem dX4_count_84 : decode cX4_count 84 = .ok (.ireturn, 1) := by decide +kernel
theorem dX4_count_85 : decode cX4_count 85 = .ok (.iconst 2, 1) := by decide +kernel
theorem dX4_count_86 : decode cX4_count 86 = .ok (.aload_n 0, 1) := by decide +kernel
theorem dX4_count_87 : decode cX4_count 87 = .ok (.getfield 12, 3) := by decide +kernel
theorem dX4_count_90 : decode cX4_count 90 = .ok (.getfield 58, 3) := by decide +kernel
theorem dX4_count_93 : decode cX4_count 93 = .ok (.invokevirtual 112, 3) := by decide +kernel
theorem dX4_count_96 : decode cX4_count 96 = .ok (.imul, 1) := by decide +kernel
theorem dX4_count_97 : decode cX4_count 97 = .ok (.ireturn, 1) := by decide +kernel
theorem dX4_count_98 : decode cX4_count 98 = .ok (.aload_n 0, 1) := by decide +kernel
theorem dX4_count_99 : decode cX4_count 99 = .ok (.getfield 12, 3) := by decide +kernel
theorem dX4_count_102 : decode cX4_count 102 = .ok (.getfield 58, 3) := by decide +kernel
theorem dX4_count_105 : decode cX4_count 105 = .ok (.getfield 116, 3) := by decide +kernel
theorem dX4_count_108 : decode cX4_count 108 = .ok (.ireturn, 1) := by decide +kernel
theorem dX4_count_109 : decode cX4_count 109 = .ok (.aload_n 0, 1) := by decide +kernel
theorem dX4_count_110 : decode cX4_count 110 = .ok (.getfield 12, 3) := by decide +kernel
theorem dX4_count_113 : decode cX4_count 113 = .ok (.invokevirtual 119, 3) := by decide +kernel
theorem dX4_count_116 : decode cX4_count 116 = .ok (.ireturn, 1) := by decide +kernel
theorem dX4_count_117 : decode cX4_count 117 = .ok (.aload_n 0, 1) := by decide +kernel
theorem dX4_count_118 : decode cX4_count 118 = .ok (.getfield 12, 3) := by decide +kernel
theorem dX4_count_121 : decode cX4_count 121 = .ok (.invokevirtual 122, 3) := by decide +kernel
theorem dX4_count_124 : decode cX4_count 124 = .ok (.ireturn, 1) := by decide +kernel
theorem dX4_count_125 : decode cX4_count 125 = .ok (.aload_n 0, 1) := by decide +kernel
theorem dX4_count_126 : decode cX4_count 126 = .ok (.getfield 12, 3) := by decide +kernel
theorem dX4_count_129 : decode cX4_count 129 = .ok (.invokevirtual 125, 3) := by decide +kernel
theorem dX4_count_132 : decode cX4_count 132 = .ok (.ireturn, 1) := by decide +kernel
theorem dX4_count_133 : decode cX4_count 133 = .ok (.aload_n 0, 1) := by decide +kernel
theorem dX4_count_134 : decode cX4_count 134 = .ok (.getfield 12, 3) := by decide +kernel
theorem dX4_count_137 : decode cX4_count 137 = .ok (.getfield 58, 3) := by decide +kernel
theorem dX4_count_140 : decode cX4_count 140 = .ok (.invokevirtual 112, 3) := by decide +kernel
theorem dX4_count_143 : decode cX4_count 143 = .ok (.ireturn, 1) := by decide +kernel
theorem dX4_count_144 : decode cX4_count 144 = .ok (.aload_n 0, 1) := by decide +kernel
theorem dX4_count_145 : decode cX4_count 145 = .ok (.bipush (-2), 2) := by decide +kernel
theorem dX4_count_147 : decode cX4_count 147 = .ok (.invokevirtual 55, 3) := by decide +kernel
theorem dX4_count_150 : decode cX4_count 150 = .ok (.ireturn, 1) := by decide +kernel
set_option maxRecDepth 20000 in
theorem ggX4_type_X4_refuse : GoodIn wsX4_type wsX4_refuse := goodIn_r _ [7, 8, 9, 10, 18, 19, 20, 21, 22, 23, 24] (by decide +kernel) (by decide +kernel)
set_option maxRecDepth 20000 in
theorem gX4_type_X4_refuse : GoodIn wsX4_type (wsV RX4 55 RX4 yX4_refuse wsX4_refuse) := goodIn_app (goodIn_of _ (by decide +kernel)) ggX4_type_X4_refuse
set_option maxRecDepth 20000 in
theorem ggX4_type_X2_append : GoodIn wsX4_type wsX2_append := goodIn_r _ [15, 16, 17, 25, 26, 27, 28, 29, 30, 31, 32, 33, 34] (by decide +kernel) (by decide +kernel)
set_option maxRecDepth 20000 in
theorem gX4_type_X2_append : GoodIn wsX4_type (wsV RX4 128 RX2 yX2_append wsX2_append) := goodIn_app (goodIn_of _ (by decide +kernel)) ggX4_type_X2_append
theorem dX4_type_0 : decode cX4_type 0 = .ok (.iload_n 1, 1) := by decide +kernel
theorem dX4_type_1 : decode cX4_type 1 = .ok (.ifCond .lt 9, 3) := by decide +kernel
theorem dX4_type_4 : decode cX4_type 4 = .ok (.iload_n 1, 1) := by decide +kernel
theorem dX4_type_5 : decode cX4_type 5 = .ok (.bipush 127, 2) := by decide +kernel
theorem dX4_type_7 : decode cX4_type 7 = .ok (.if_icmp .le 10, 3) := by decide +kernel
theorem dX4_type_10 : decode cX4_type 10 = .ok (.aload_n 0, 1) := by decide +kernel
theorem dX4_type_11 : decode cX4_type 11 = .ok (.bipush (-2), 2) := by decide +kernel
theorem dX4_type_13 : decode cX4_type 13 = .ok (.invokevirtual 55, 3) := by decide +kernel
theorem dX4_type_16 : decode cX4_type 16 = .ok (.ireturn, 1) := by decide +kernel
theorem dX4_type_17 : decode cX4_type 17 = .ok (.aload_n 0, 1) := by decide +kernel
theorem dX4_type_18 : decode cX4_type 18 = .ok (.getfield 29, 3) := by decide +kernel
theorem dX4_type_21 : decode cX4_type 21 = .ok (.iload_n 1, 1) := by decide +kernel
theorem dX4_type_22 : decode cX4_type 22 = .ok (.invokevirtual 128, 3) := by decide +kernel
theorem dX4_type_25 : decode cX4_type 25 = .ok (.ifCond .eq 13, 3) := by decide +kernel
theorem dX4_type_28 : decode cX4_type 28 = .ok (.aload_n 0, 1) := by decide +kernel
theorem dX4_type_29 : decode cX4_type 29 = .ok (.getfield 29, 3) := by decide +kernel
theorem dX4_type_32 : decode cX4_type 32 = .ok (.getfield 131, 3) := by decide +kernel
theorem dX4_type_35 : decode cX4_type 35 = .ok (.goto 9, 3) := by decide +kernel
theorem dX4_type_38 : decode cX4_type 38 = .ok (.aload_n 0, 1) := by decide +kernel
theorem dX4_type_39 : decode cX4_type 39 = .ok (.bipush (-4), 2) := by decide +kernel
theorem dX4_type_41 : decode cX4_type 41 = .ok (.invokevirtual 55, 3) := by decide +kernel
theorem dX4_type_44 : decode cX4_type 44 = .ok (.ireturn, 1) := by decide +kernel
theorem dX4_clear_0 : decode cX4_clear 0 = .ok (.aload_n 0, 1) := by decide +kernel
theorem dX4_clear_1 : decode cX4_clear 1 = .ok (.getfield 29, 3) := by decide +kernel
theorem dX4_clear_4 : decode cX4_clear 4 = .ok (.getfield 131, 3) := by decide +kernel
theorem dX4_clear_7 : decode cX4_clear 7 = .ok (.istore_n 1, 1) := by decide +kernel
theorem dX4_clear_8 : decode cX4_clear 8 = .ok (.aload_n 0, 1) := by decide +kernel
theorem dX4_clear_9 : decode cX4_clear 9 = .ok (.getfield 29, 3) := by decide +kernel
theorem dX4_clear_12 : decode cX4_clear 12 = .ok (.iconst 0, 1) := by decide +kernel
theorem dX4_clear_13 : decode cX4_clear 13 = .ok (.putfield 131, 3) := by decide +kernel
theorem dX4_clear_16 : decode cX4_clear 16 = .ok (.iload_n 1, 1) := by decide +kernel
theorem dX4_clear_17 : decode cX4_clear 17 = .ok (.ireturn, 1) := by decide +kernel
set_option maxRecDepth 20000 in
theorem ggX4_does_X2_read : GoodIn wsX4_does wsX2_read := goodIn_r _ [13, 14, 15, 16, 17, 18, 19, 20, 12, 21, 22, 23, 24, 25, 26, 27, 28, 29, 30, 31, 32, 33, 34, 35, 36, 37, 38, 39, 40, 41, 42, 43, 44, 45, 46, 47, 48, 49, 50, 51, 52, 53, 205, 206, 207, 208, 209, 210, 211, 212, 213, 214] (by decide +kernel) (by decide +kernel)
set_option maxRecDepth 20000 in
theorem gX4_does_X2_read : GoodIn wsX4_does (wsV RX4 134 RX2 yX2_read wsX2_read) := goodIn_app (goodIn_of _ (by decide +kernel)) ggX4_does_X2_read
set_option maxRecDepth 20000 in
theorem ggX4_does_X3_copyFrom : GoodIn wsX4_does wsX3_copyFrom := goodIn_r _ [58, 59, 60, 61, 62, 63, 64, 65, 66, 67, 68, 69, 215, 216, 217, 218, 219, 220, 221] (by decide +kernel) (by decide +kernel)
set_option maxRecDepth 20000 in
theorem gX4_does_X3_copyFrom : GoodIn wsX4_does (wsV RX4 137 RX3 yX3_copyFrom wsX3_copyFrom) := goodIn_app (goodIn_of _ (by decide +kernel)) ggX4_does_X3_copyFrom
set_option maxRecDepth 20000 in
theorem ggX4_does_X3_take : GoodIn wsX4_does wsX3_take := goodIn_r _ [73, 74, 75, 76, 57, 77, 66, 59, 64, 78, 79, 80, 81, 82, 83, 84, 85, 86, 87, 88, 89, 90, 91, 92, 93, 94, 95, 96, 97, 98, 67, 65, 99, 100, 101, 102, 103, 104, 105, 106, 107, 108, 109, 110, 111, 112, 68, 215, 216, 217, 218, 219, 220, 221] (by decide +kernel) (by decide +kernel)
set_option maxRecDepth 20000 in
theorem gX4_does_X3_take : GoodIn wsX4_does (wsV RX4 153 RX3 yX3_take wsX3_take) := goodIn_app (goodIn_of _ (by decide +kernel)) ggX4_does_X3_take
set_option maxRecDepth 20000 in
theorem ggX4_does_X4_keepDraft : GoodIn wsX4_does wsX4_keepDraft := goodIn_r _ [116, 2, 3, 4, 117, 118, 119, 120, 121, 122, 123, 124, 125, 126, 127, 128, 129, 130, 131, 132, 133, 134, 135, 136, 137, 138, 139, 140, 141, 142, 143, 144, 145, 146, 147, 148, 149, 150, 151, 57, 152, 66, 64, 153, 154, 155, 156, 157, 158, 159, 160, 161, 162, 163, 164, 165, 166, 167, 168, 169, 170, 171, 172, 59, 173, 102, 103, 104, 67, 65, 174, 175, 176, 177, 178, 179, 180, 181, 182, 183, 184, 185, 186, 187, 188, 189, 55, 56, 58, 60, 61, 62, 63, 68, 69, 190, 191, 192, 193, 194, 195, 196, 197, 198, 199, 200, 201, 202, 203, 204, 215, 216, 217, 218, 219, 220, 221, 222, 223] (by decide +kernel) (by decide +kernel)
set_option maxRecDepth 20000 in
theorem gX4_does_X4_keepDraft : GoodIn wsX4_does (wsV RX4 156 RX4 yX4_keepDraft wsX4_keepDraft) := goodIn_app (goodIn_of _ (by decide +kernel)) ggX4_does_X4_keepDraft
theorem dX4_does_0 : decode cX4_does 0 = .ok (.aload_n 0, 1) := by decide +kernel
theorem dX4_does_1 : decode cX4_does 1 = .ok (.getfield 29, 3) := by decide +kernel
theorem dX4_does_4 : decode cX4_does 4 = .ok (.invokevirtual 134, 3) := by decide +kernel
theorem dX4_does_7 : decode cX4_does 7 = .ok (.istore_n 1, 1) := by decide +kernel
theorem dX4_does_8 : decode cX4_does 8 = .ok (.iload_n 1, 1) := by decide +kernel
theorem dX4_does_9 : decode cX4_does 9 = .ok (.iconst (-1), 1) := by decide +kernel
theorem dX4_does_10 : decode cX4_does 10 = .ok (.if_icmp .eq 8, 3) := by decide +kernel
theorem dX4_does_13 : decode cX4_does 13 = .ok (.bipush (-10), 2) := by decide +kernel
theorem dX4_does_15 : decode cX4_does 15 = .ok (.iload_n 1, 1) := by decide +kernel
theorem dX4_does_16 : decode cX4_does 16 = .ok (.isub, 1) := by decide +kernel
theorem dX4_does_17 : decode cX4_does 17 = .ok (.ireturn, 1) := by decide +kernel
theorem dX4_does_18 : decode cX4_does 18 = .ok (.aload_n 0, 1) := by decide +kernel
theorem dX4_does_19 : decode cX4_does 19 = .ok (.getfield 16, 3) := by decide +kernel
theorem dX4_does_22 : decode cX4_does 22 = .ok (.getfield 58, 3) := by decide +kernel
theorem dX4_does_25 : decode cX4_does 25 = .ok (.aload_n 0, 1) := by decide +kernel
theorem dX4_does_26 : decode cX4_does 26 = .ok (.getfield 12, 3) := by decide +kernel
theorem dX4_does_29 : decode cX4_does 29 = .ok (.getfield 58, 3) := by decide +kernel
theorem dX4_does_32 : decode cX4_does 32 = .ok (.invokevirtual 137, 3) := by decide +kernel
theorem dX4_does_35 : decode cX4_does 35 = .ok (.iconst 0, 1) := by decide +kernel
theorem dX4_does_36 : decode cX4_does 36 = .ok (.istore_n 2, 1) := by decide +kernel
theorem dX4_does_37 : decode cX4_does 37 = .ok (.iload_n 2, 1) := by decide +kernel
theorem dX4_does_38 : decode cX4_does 38 = .ok (.aload_n 0, 1) := by decide +kernel
theorem dX4_does_39 : decode cX4_does 39 = .ok (.getfield 29, 3) := by decide +kernel
theorem dX4_does_42 : decode cX4_does 42 = .ok (.getfield 141, 3) := by decide +kernel
theorem dX4_does_45 : decode cX4_does 45 = .ok (.if_icmp .ge 55, 3) := by decide +kernel
theorem dX4_does_48 : decode cX4_does 48 = .ok (.aload_n 0, 1) := by decide +kernel
theorem dX4_does_49 : decode cX4_does 49 = .ok (.getfield 16, 3) := by decide +kernel
theorem dX4_does_52 : decode cX4_does 52 = .ok (.getfield 58, 3) := by decide +kernel
theorem dX4_does_55 : decode cX4_does 55 = .ok (.aload_n 0, 1) := by decide +kernel
theorem dX4_does_56 : decode cX4_does 56 = .ok (.getfield 29, 3) := by decide +kernel
theorem dX4_does_59 : decode cX4_does 59 = .ok (.getfield 144, 3) := by decide +kernel
theorem dX4_does_62 : decode cX4_does 62 = .ok (.iload_n 2, 1) := by decide +kernel
theorem dX4_does_63 : decode cX4_does 63 = .ok (.iaload, 1) := by decide +kernel
theorem dX4_does_64 : decode cX4_does 64 = .ok (.aload_n 0, 1) := by decide +kernel
theorem dX4_does_65 : decode cX4_does 65 = .ok (.getfield 29, 3) := by decide +kernel
theorem dX4_does_68 : decode cX4_does 68 = .ok (.getfield 147, 3) := by decide +kernel
theorem dX4_does_71 : decode cX4_does 71 = .ok (.iload_n 2, 1) := by decide +kernel
theorem dX4_does_72 : decode cX4_does 72 = .ok (.iaload, 1) := by decide +kernel
theorem dX4_does_73 : decode cX4_does 73 = .ok (.aload_n 0, 1) := by decide +kernel
theorem dX4_does_74 : decode cX4_does 74 = .ok (.getfield 29, 3) := by decide +kernel
theorem dX4_does_77 : decode cX4_does 77 = .ok (.getfield 150, 3) := by decide +kernel
theorem dX4_does_80 : decode cX4_does 80 = .ok (.iload_n 2, 1) := by decide +kernel
theorem dX4_does_81 : decode cX4_does 81 = .ok (.iaload, 1) := by decide +kernel
theorem dX4_does_82 : decode cX4_does 82 = .ok (.invokevirtual 153, 3) := by decide +kernel
theorem dX4_does_85 : decode cX4_does 85 = .ok (.ifCond .eq 9, 3) := by decide +kernel
theorem dX4_does_88 : decode cX4_does 88 = .ok (.sipush (-1000), 3) := by decide +kernel
theorem dX4_does_91 : decode cX4_does 91 = .ok (.iload_n 2, 1) := by decide +kernel
theorem dX4_does_92 : decode cX4_does 92 = .ok (.isub, 1) := by decide +kernel
theorem dX4_does_93 : decode cX4_does 93 = .ok (.ireturn, 1) := by decide +kernel
theorem dX4_does_94 : decode cX4_does 94 = .ok (.iinc 2 1, 3) := by decide +kernel
theorem dX4_does_97 : decode cX4_does 97 = .ok (.goto (-60), 3) := by decide +kernel
theorem dX4_does_100 : decode cX4_does 100 = .ok (.aload_n 0, 1) := by decide +kernel
theorem dX4_does_101 : decode cX4_does 101 = .ok (.invokevirtual 156, 3) := by decide +kernel
theorem dX4_does_104 : decode cX4_does 104 = .ok (.aload_n 0, 1) := by decide +kernel
theorem dX4_does_105 : decode cX4_does 105 = .ok (.getfield 29, 3) := by decide +kernel
theorem dX4_does_108 : decode cX4_does 108 = .ok (.getfield 141, 3) := by decide +kernel
theorem dX4_does_111 : decode cX4_does 111 = .ok (.ireturn, 1) := by decide +kernel
set_option maxRecDepth 20000 in
theorem ggX4_back_X4_refuse : GoodIn wsX4_back wsX4_refuse := goodIn_r _ [9, 10, 11, 12, 82, 83, 84, 85, 86, 87, 88] (by decide +kernel) (by decide +kernel)
set_option maxRecDepth 20000 in
theorem gX4_back_X4_refuse : GoodIn wsX4_back (wsV RX4 55 RX4 yX4_refuse wsX4_refuse) := goodIn_app (goodIn_of _ (by decide +kernel)) ggX4_back_X4_refuse
set_option maxRecDepth 20000 in
theorem ggX4_back_X0_takeBack : GoodIn wsX4_back wsX0_takeBack := goodIn_r _ [17, 18, 19, 20, 21, 22, 23, 24, 25, 26, 27, 28, 29, 30, 31, 32, 33, 34, 35, 89, 90, 99, 100, 101, 102, 103, 104, 105] (by decide +kernel) (by decide +kernel)
set_option maxRecDepth 20000 in
theorem gX4_back_X0_takeBack : GoodIn wsX4_back (wsV RX4 162 RX0 yX0_takeBack wsX0_takeBack) := goodIn_app (goodIn_of _ (by decide +kernel)) ggX4_back_X0_takeBack
set_option maxRecDepth 20000 in
theorem ggX4_back_X1_lay : GoodIn wsX4_back wsX1_lay := goodIn_r _ [40, 41, 42, 43, 44, 45, 39, 46, 47, 48, 49, 50, 51, 52, 53, 54, 55, 56, 57, 58, 59, 60, 61, 62, 63, 64, 65, 66, 67, 68, 23, 69, 32, 30, 70, 71, 72, 73, 74, 75, 76, 77, 78, 79, 80, 81, 91, 92, 93, 94, 95, 96, 97, 98, 99, 100, 101, 102, 103, 104, 105] (by decide +kernel) (by decide +kernel)
set_option maxRecDepth 20000 in
theorem gX4_back_X1_lay : GoodIn wsX4_back (wsV RX4 165 RX1 yX1_lay wsX1_lay) := goodIn_app (goodIn_of _ (by decide +kernel)) ggX4_back_X1_lay
theorem dX4_back_0 : decode cX4_back 0 = .ok (.aload_n 0, 1) := by decide +kernel
theorem dX4_back_1 : decode cX4_back 1 = .ok (.getfield 22, 3) := by decide +kernel
theorem dX4_back_4 : decode cX4_back 4 = .ok (.getfield 159, 3) := by decide +kernel
theorem dX4_back_7 : decode cX4_back 7 = .ok (.ifCond .ne 10, 3) := by decide +kernel
theorem dX4_back_10 : decode cX4_back 10 = .ok (.aload_n 0, 1) := by decide +kernel
theorem dX4_back_11 : decode cX4_back 11 = .ok (.bipush (-3), 2) := by decide +kernel
theorem dX4_back_13 : decode cX4_back 13 = .ok (.invokevirtual 55, 3) := by decide +kernel
theorem dX4_back_16 : decode cX4_back 16 = .ok (.ireturn, 1) := by decide +kernel
theorem dX4_back_17 : decode cX4_back 17 = .ok (.aload_n 0, 1) := by decide +kernel
theorem dX4_back_18 : decode cX4_back 18 = .ok (.getfield 22, 3) := by decide +kernel
theorem dX4_back_21 : decode cX4_back 21 = .ok (.aload_n 0, 1) := by decide +kernel
theorem dX4_back_22 : decode cX4_back 22 = .ok (.getfield 12, 3) := by decide +kernel
theorem dX4_back_25 : decode cX4_back 25 = .ok (.getfield 58, 3) := by decide +kernel
theorem dX4_back_28 : decode cX4_back 28 = .ok (.invokevirtual 162, 3) := by decide +kernel
theorem dX4_back_31 : decode cX4_back 31 = .ok (.aload_n 0, 1) := by decide +kernel
theorem dX4_back_32 : decode cX4_back 32 = .ok (.getfield 12, 3) := by decide +kernel
theorem dX4_back_35 : decode cX4_back 35 = .ok (.invokevirtual 165, 3) := by decide +kernel
theorem dX4_back_38 : decode cX4_back 38 = .ok (.aload_n 0, 1) := by decide +kernel
theorem dX4_back_39 : decode cX4_back 39 = .ok (.getfield 22, 3) := by decide +kernel
theorem dX4_back_42 : decode cX4_back 42 = .ok (.getfield 159, 3) := by decide +kernel
theorem dX4_back_45 : decode cX4_back 45 = .ok (.ireturn, 1) := by decide +kernel
set_option maxRecDepth 20000 in
theorem ggX4_told_X4_refuse : GoodIn wsX4_told wsX4_refuse := goodIn_r _ [12, 1, 2, 3, 13, 14, 15, 16, 17, 18, 19] (by decide +kernel) (by decide +kernel)
set_option maxRecDepth 20000 in
theorem gX4_told_X4_refuse : GoodIn wsX4_told (wsV RX4 55 RX4 yX4_refuse wsX4_refuse) := goodIn_app (goodIn_of _ (by decide +kernel)) ggX4_told_X4_refuse
theorem dX4_told_0 : decode cX4_told 0 = .ok (.iload_n 1, 1) := by decide +kernel
theorem dX4_told_1 : decode cX4_told 1 = .ok (.tableswitch 66 0 4 #[35, 40, 45, 50, 58], 35) := by decide +kernel
theorem dX4_told_36 : decode cX4_told 36 = .ok (.aload_n 0, 1) := by decide +kernel
theorem dX4_told_37 : decode cX4_told 37 = .ok (.getfield 33, 3) := by decide +kernel
theorem dX4_told_40 : decode cX4_told 40 = .ok (.ireturn, 1) := by decide +kernel
theorem dX4_told_41 : decode cX4_told 41 = .ok (.aload_n 0, 1) := by decide +kernel
theorem dX4_told_42 : decode cX4_told 42 = .ok (.getfield 37, 3) := by decide +kernel
theorem dX4_told_45 : decode cX4_told 45 = .ok (.ireturn, 1) := by decide +kernel
theorem dX4_told_46 : decode cX4_told 46 = .ok (.aload_n 0, 1) := by decide +kernel
theorem dX4_told_47 : decode cX4_told 47 = .ok (.getfield 40, 3) := by decide +kernel
theorem dX4_told_50 : decode cX4_told 50 = .ok (.ireturn, 1) := by decide +kernel
theorem dX4_told_51 : decode cX4_told 51 = .ok (.aload_n 0, 1) := by decide +kernel
theorem dX4_told_52 : decode cX4_told 52 = .ok (.getfield 29, 3) := by decide +kernel
theorem dX4_told_55 : decode cX4_told 55 = .ok (.getfield 131, 3) := by decide +kernel
theorem dX4_told_58 : decode cX4_told 58 = .ok (.ireturn, 1) := by decide +kernel
theorem dX4_told_59 : decode cX4_told 59 = .ok (.aload_n 0, 1) := by decide +kernel
theorem dX4_told_60 : decode cX4_told 60 = .ok (.getfield 22, 3) := by decide +kernel
theorem dX4_told_63 : decode cX4_told 63 = .ok (.getfield 159, 3) := by decide +kernel
theorem dX4_told_66 : decode cX4_told 66 = .ok (.ireturn, 1) := by decide +kernel
theorem dX4_told_67 : decode cX4_told 67 = .ok (.aload_n 0, 1) := by decide +kernel
theorem dX4_told_68 : decode cX4_told 68 = .ok (.bipush (-2), 2) := by decide +kernel
theorem dX4_told_70 : decode cX4_told 70 = .ok (.invokevirtual 55, 3) := by decide +kernel
theorem dX4_told_73 : decode cX4_told 73 = .ok (.ireturn, 1) := by decide +kernel
set_option maxRecDepth 20000 in
theorem ggX4_digest_X4_told : GoodIn wsX4_digest wsX4_told := goodIn_r _ [7, 8, 9, 10, 11, 12, 13, 14, 15, 16, 17, 6, 18, 100, 101, 102, 103, 104, 105, 106, 107, 108, 109, 110, 111, 112, 113, 114, 115, 116, 117, 118] (by decide +kernel) (by decide +kernel)
set_option maxRecDepth 20000 in
theorem gX4_digest_X4_told : GoodIn wsX4_digest (wsV RX4 172 RX4 yX4_told wsX4_told) := goodIn_app (goodIn_of _ (by decide +kernel)) ggX4_digest_X4_told
set_option maxRecDepth 20000 in
theorem ggX4_digest_X4_count : GoodIn wsX4_digest wsX4_count := goodIn_r _ [22, 23, 24, 25, 26, 27, 28, 29, 30, 31, 32, 33, 34, 35, 36, 37, 38, 39, 40, 41, 42, 43, 44, 45, 46, 47, 48, 49, 50, 51, 52, 53, 54, 55, 56, 57, 58, 15, 16, 17, 6, 18, 8, 9, 10, 100, 101, 102, 103, 104, 105, 106, 119, 120, 121, 122, 123, 124, 125, 126, 127, 128, 129, 130, 131, 132, 133] (by decide +kernel) (by decide +kernel)
set_option maxRecDepth 20000 in
theorem gX4_digest_X4_count : GoodIn wsX4_digest (wsV RX4 175 RX4 yX4_count wsX4_count) := goodIn_app (goodIn_of _ (by decide +kernel)) ggX4_digest_X4_count
set_option maxRecDepth 20000 in
theorem ggX4_digest_X4_at : GoodIn wsX4_digest wsX4_at := goodIn_r _ [62, 23, 24, 63, 15, 16, 17, 6, 18, 8, 9, 10, 64, 65, 66, 32, 67, 34, 68, 100, 101, 102, 103, 104, 105, 106, 119, 120, 121, 122, 123, 124, 125, 126, 127, 128, 129, 130, 131, 132, 133] (by decide +kernel) (by decide +kernel)
set_option maxRecDepth 20000 in
theorem gX4_digest_X4_at : GoodIn wsX4_digest (wsV RX4 178 RX4 yX4_at wsX4_at) := goodIn_app (goodIn_of _ (by decide +kernel)) ggX4_digest_X4_at
set_option maxRecDepth 20000 in
theorem ggX4_digest_X4_digestHosts : GoodIn wsX4_digest wsX4_digestHosts := goodIn_r _ [72, 23, 24, 25, 2, 73, 74, 75, 76, 39, 77, 41, 78, 44, 43, 79, 80, 81, 82, 49, 83, 84, 100, 101, 102, 103, 104, 105, 106, 119, 120, 121, 122, 123, 124, 125, 126, 127, 128, 129, 130, 131, 132, 133] (by decide +kernel) (by decide +kernel)
set_option maxRecDepth 20000 in
theorem gX4_digest_X4_digestHosts : GoodIn wsX4_digest (wsV RX4 181 RX4 yX4_digestHosts wsX4_digestHosts) := goodIn_app (goodIn_of _ (by decide +kernel)) ggX4_digest_X4_digestHosts
set_option maxRecDepth 20000 in
theorem ggX4_digest_X4_digestKeys : GoodIn wsX4_digest wsX4_digestKeys := goodIn_r _ [88, 23, 24, 26, 2, 89, 90, 64, 65, 66, 32, 67, 34, 68, 91, 92, 93, 39, 94, 50, 95, 96, 97, 98, 99, 41, 84, 100, 101, 102, 103, 104, 105, 106, 119, 120, 121, 122, 123, 124, 125, 126, 127, 128, 129, 130, 131, 132, 133] (by decide +kernel) (by decide +kernel)
set_option maxRecDepth 20000 in
theorem gX4_digest_X4_digestKeys : GoodIn wsX4_digest (wsV RX4 185 RX4 yX4_digestKeys wsX4_digestKeys) := goodIn_app (goodIn_of _ (by decide +kernel)) ggX4_digest_X4_digestKeys
theorem dX4_digest_0 : decode cX4_digest 0 = .ok (.ldc2_w 168, 3) := by decide +kernel
theorem dX4_digest_3 : decode cX4_digest 3 = .ok (.lstore_n 1, 1) := by decide +kernel
theorem dX4_digest_4 : decode cX4_digest 4 = .ok (.iconst 0, 1) := by decide +kernel
theorem dX4_digest_5 : decode cX4_digest 5 = .ok (.istore_n 3, 1) := by decide +kernel
theorem dX4_digest_6 : decode cX4_digest 6 = .ok (.iload_n 3, 1) := by decide +kernel
theorem dX4_digest_7 : decode cX4_digest 7 = .ok (.iconst 5, 1) := by decide +kernel
theorem dX4_digest_8 : decode cX4_digest 8 = .ok (.if_icmp .ge 22, 3) := by decide +kernel
theorem dX4_digest_11 : decode cX4_digest 11 = .ok (.ldc2_w 170, 3) := by decide +kernel
theorem dX4_digest_14 : decode cX4_digest 14 = .ok (.lload_n 1, 1) := by decide +kernel
theorem dX4_digest_15 : decode cX4_digest 15 = .ok (.lmul, 1) := by decide +kernel
theorem dX4_digest_16 : decode cX4_digest 16 = .ok (.aload_n 0, 1) := by decide +kernel
theorem dX4_digest_17 : decode cX4_digest 17 = .ok (.iload_n 3, 1) := by decide +kernel
theorem dX4_digest_18 : decode cX4_digest 18 = .ok (.invokevirtual 172, 3) := by decide +kernel
theorem dX4_digest_21 : decode cX4_digest 21 = .ok (.i2l, 1) := by decide +kernel
theorem dX4_digest_22 : decode cX4_digest 22 = .ok (.ladd, 1) := by decide +kernel
theorem dX4_digest_23 : decode cX4_digest 23 = .ok (.lstore_n 1, 1) := by decide +kernel
theorem dX4_digest_24 : decode cX4_digest 24 = .ok (.iinc 3 1, 3) := by decide +kernel
theorem dX4_digest_27 : decode cX4_digest 27 = .ok (.goto (-21), 3) := by decide +kernel
theorem dX4_digest_30 : decode cX4_digest 30 = .ok (.iconst 0, 1) := by decide +kernel
theorem dX4_digest_31 : decode cX4_digest 31 = .ok (.istore_n 3, 1) := by decide +kernel
theorem dX4_digest_32 : decode cX4_digest 32 = .ok (.iload_n 3, 1) := by decide +kernel
theorem dX4_digest_33 : decode cX4_digest 33 = .ok (.bipush 9, 2) := by decide +kernel
theorem dX4_digest_35 : decode cX4_digest 35 = .ok (.if_icmp .ge 22, 3) := by decide +kernel
theorem dX4_digest_38 : decode cX4_digest 38 = .ok (.ldc2_w 170, 3) := by decide +kernel
theorem dX4_digest_41 : decode cX4_digest 41 = .ok (.lload_n 1, 1) := by decide +kernel
theorem dX4_digest_42 : decode cX4_digest 42 = .ok (.lmul, 1) := by decide +kernel
theorem dX4_digest_43 : decode cX4_digest 43 = .ok (.aload_n 0, 1) := by decide +kernel
theorem dX4_digest_44 : decode cX4_digest 44 = .ok (.iload_n 3, 1) := by decide +kernel
theorem dX4_digest_45 : decode cX4_digest 45 = .ok (.invokevirtual 175, 3) := by decide +kernel
theorem dX4_digest_48 : decode cX4_digest 48 = .ok (.i2l, 1) := by decide +kernel
theorem dX4_digest_49 : decode cX4_digest 49 = .ok (.ladd, 1) := by decide +kernel
theorem dX4_digest_50 : decode cX4_digest 50 = .ok (.lstore_n 1, 1) := by decide +kernel
theorem dX4_digest_51 : decode cX4_digest 51 = .ok (.iinc 3 1, 3) := by decide +kernel
theorem dX4_digest_54 : decode cX4_digest 54 = .ok (.goto (-22), 3) := by decide +kernel
theorem dX4_digest_57 : decode cX4_digest 57 = .ok (.iconst 0, 1) := by decide +kernel
theorem dX4_digest_58 : decode cX4_digest 58 = .ok (.istore_n 3, 1) := by decide +kernel
theorem dX4_digest_59 : decode cX4_digest 59 = .ok (.iload_n 3, 1) := by decide +kernel
theorem dX4_digest_60 : decode cX4_digest 60 = .ok (.bipush 101, 2) := by decide +kernel
theorem dX4_digest_62 : decode cX4_digest 62 = .ok (.if_icmp .ge 22, 3) := by decide +kernel
theorem dX4_digest_65 : decode cX4_digest 65 = .ok (.ldc2_w 170, 3) := by decide +kernel
theorem dX4_digest_68 : decode cX4_digest 68 = .ok (.lload_n 1, 1) := by decide +kernel
theorem dX4_digest_69 : decode cX4_digest 69 = .ok (.lmul, 1) := by decide +kernel
theorem dX4_digest_70 : decode cX4_digest 70 = .ok (.aload_n 0, 1) := by decide +kernel
theorem dX4_digest_71 : decode cX4_digest 71 = .ok (.iload_n 3, 1) := by decide +kernel
theorem dX4_digest_72 : decode cX4_digest 72 = .ok (.invokevirtual 178, 3) := by decide +kernel
theorem dX4_digest_75 : decode cX4_digest 75 = .ok (.i2l, 1) := by decide +kernel
theorem dX4_digest_76 : decode cX4_digest 76 = .ok (.ladd, 1) := by decide +kernel
theorem dX4_digest_77 : decode cX4_digest 77 = .ok (.lstore_n 1, 1) := by decide +kernel
theorem dX4_digest_78 : decode cX4_digest 78 = .ok (.iinc 3 1, 3) := by decide +kernel
theorem dX4_digest_81 : decode cX4_digest 81 = .ok (.goto (-22), 3) := by decide +kernel
theorem dX4_digest_84 : decode cX4_digest 84 = .ok (.aload_n 0, 1) := by decide +kernel
theorem dX4_digest_85 : decode cX4_digest 85 = .ok (.aload_n 0, 1) := by decide +kernel
theorem dX4_digest_86 : decode cX4_digest 86 = .ok (.lload_n 1, 1) := by decide +kernel
theorem dX4_digest_87 : decode cX4_digest 87 = .ok (.invokevirtual 181, 3) := by decide +kernel
theorem dX4_digest_90 : decode cX4_digest 90 = .ok (.invokevirtual 185, 3) := by decide +kernel
theorem dX4_digest_93 : decode cX4_digest 93 = .ok (.lreturn, 1) := by decide +kernel
set_option maxRecDepth 20000 in
theorem ggX4_digestHosts_X1_hostFact : GoodIn wsX4_digestHosts wsX1_hostFact := goodIn_r _ [10, 11, 12, 13, 14, 15, 16, 17, 9, 18, 19, 20, 21, 29, 30, 31, 32, 33, 34, 35, 36, 37, 38, 39, 40, 41, 42, 43] (by decide +kernel) (by decide +kernel)
set_option maxRecDepth 20000 in
theorem gX4_digestHosts_X1_hostFact : GoodIn wsX4_digestHosts (wsV RX4 67 RX1 yX1_hostFact wsX1_hostFact) := goodIn_app (goodIn_of _ (by decide +kernel)) ggX4_digestHosts_X1_hostFact
theorem dX4_digestHosts_0 : decode cX4_digestHosts 0 = .ok (.lload_n 1, 1) := by decide +kernel
theorem dX4_digestHosts_1 : decode cX4_digestHosts 1 = .ok (.lstore_n 3, 1) := by decide +kernel
theorem dX4_digestHosts_2 : decode cX4_digestHosts 2 = .ok (.iconst 0, 1) := by decide +kernel
theorem dX4_digestHosts_3 : decode cX4_digestHosts 3 = .ok (.istore 5, 2) := by decide +kernel
theorem dX4_digestHosts_5 : decode cX4_digestHosts 5 = .ok (.iload 5, 2) := by decide +kernel
theorem dX4_digestHosts_7 : decode cX4_digestHosts 7 = .ok (.aload_n 0, 1) := by decide +kernel
theorem dX4_digestHosts_8 : decode cX4_digestHosts 8 = .ok (.getfield 12, 3) := by decide +kernel
theorem dX4_digestHosts_11 : decode cX4_digestHosts 11 = .ok (.getfield 58, 3) := by decide +kernel
theorem dX4_digestHosts_14 : decode cX4_digestHosts 14 = .ok (.getfield 103, 3) := by decide +kernel
theorem dX4_digestHosts_17 : decode cX4_digestHosts 17 = .ok (.if_icmp .ge 64, 3) := by decide +kernel
end
section
theorem dX4_digestHosts_20 : decode cX4_digestHosts 20 = .ok (.ldc2_w 170, 3) := by decide +kernel
theorem dX4_digestHosts_23 : decode cX4_digestHosts 23 = .ok (.lload_n 3, 1) := by decide +kernel
theorem dX4_digestHosts_24 : decode cX4_digestHosts 24 = .ok (.lmul, 1) := by decide +kernel
theorem dX4_digestHosts_25 : decode cX4_digestHosts 25 = .ok (.aload_n 0, 1) := by decide +kernel
theorem dX4_digestHosts_26 : decode cX4_digestHosts 26 = .ok (.getfield 12, 3) := by decide +kernel
theorem dX4_digestHosts_29 : decode cX4_digestHosts 29 = .ok (.getfield 58, 3) := by decide +kernel
theorem dX4_digestHosts_32 : decode cX4_digestHosts 32 = .ok (.getfield 188, 3) := by decide +kernel
theorem dX4_digestHosts_35 : decode cX4_digestHosts 35 = .ok (.iload 5, 2) := by decide +kernel
theorem dX4_digestHosts_37 : decode cX4_digestHosts 37 = .ok (.iaload, 1) := by decide +kernel
theorem dX4_digestHosts_38 : decode cX4_digestHosts 38 = .ok (.i2l, 1) := by decide +kernel
theorem dX4_digestHosts_39 : decode cX4_digestHosts 39 = .ok (.ladd, 1) := by decide +kernel
theorem dX4_digestHosts_40 : decode cX4_digestHosts 40 = .ok (.lstore_n 3, 1) := by decide +kernel
theorem dX4_digestHosts_41 : decode cX4_digestHosts 41 = .ok (.iconst 0, 1) := by decide +kernel
theorem dX4_digestHosts_42 : decode cX4_digestHosts 42 = .ok (.istore 6, 2) := by decide +kernel
theorem dX4_digestHosts_44 : decode cX4_digestHosts 44 = .ok (.iload 6, 2) := by decide +kernel
theorem dX4_digestHosts_46 : decode cX4_digestHosts 46 = .ok (.iconst 3, 1) := by decide +kernel
theorem dX4_digestHosts_47 : decode cX4_digestHosts 47 = .ok (.if_icmp .ge 28, 3) := by decide +kernel
theorem dX4_digestHosts_50 : decode cX4_digestHosts 50 = .ok (.ldc2_w 170, 3) := by decide +kernel
theorem dX4_digestHosts_53 : decode cX4_digestHosts 53 = .ok (.lload_n 3, 1) := by decide +kernel
theorem dX4_digestHosts_54 : decode cX4_digestHosts 54 = .ok (.lmul, 1) := by decide +kernel
theorem dX4_digestHosts_55 : decode cX4_digestHosts 55 = .ok (.aload_n 0, 1) := by decide +kernel
theorem dX4_digestHosts_56 : decode cX4_digestHosts 56 = .ok (.getfield 12, 3) := by decide +kernel
theorem dX4_digestHosts_59 : decode cX4_digestHosts 59 = .ok (.iload 5, 2) := by decide +kernel
theorem dX4_digestHosts_61 : decode cX4_digestHosts 61 = .ok (.iload 6, 2) := by decide +kernel
theorem dX4_digestHosts_63 : decode cX4_digestHosts 63 = .ok (.invokevirtual 67, 3) := by decide +kernel
theorem dX4_digestHosts_66 : decode cX4_digestHosts 66 = .ok (.i2l, 1) := by decide +kernel
theorem dX4_digestHosts_67 : decode cX4_digestHosts 67 = .ok (.ladd, 1) := by decide +kernel
theorem dX4_digestHosts_68 : decode cX4_digestHosts 68 = .ok (.lstore_n 3, 1) := by decide +kernel
theorem dX4_digestHosts_69 : decode cX4_digestHosts 69 = .ok (.iinc 6 1, 3) := by decide +kernel
theorem dX4_digestHosts_72 : decode cX4_digestHosts 72 = .ok (.goto (-28), 3) := by decide +kernel
theorem dX4_digestHosts_75 : decode cX4_digestHosts 75 = .ok (.iinc 5 1, 3) := by decide +kernel
theorem dX4_digestHosts_78 : decode cX4_digestHosts 78 = .ok (.goto (-73), 3) := by decide +kernel
theorem dX4_digestHosts_81 : decode cX4_digestHosts 81 = .ok (.lload_n 3, 1) := by decide +kernel
theorem dX4_digestHosts_82 : decode cX4_digestHosts 82 = .ok (.lreturn, 1) := by decide +kernel
set_option maxRecDepth 20000 in
theorem ggX4_digestKeys_X3_nameOf : GoodIn wsX4_digestKeys wsX3_nameOf := goodIn_r _ [11, 12, 13, 42, 43, 44, 45, 46, 47, 48] (by decide +kernel) (by decide +kernel)
set_option maxRecDepth 20000 in
theorem gX4_digestKeys_X3_nameOf : GoodIn wsX4_digestKeys (wsV RX4 78 RX3 yX3_nameOf wsX3_nameOf) := goodIn_app (goodIn_of _ (by decide +kernel)) ggX4_digestKeys_X3_nameOf
set_option maxRecDepth 20000 in
theorem ggX4_digestKeys_X1_keyFact : GoodIn wsX4_digestKeys wsX1_keyFact := goodIn_r _ [18, 19, 20, 21, 22, 23, 17, 24, 25, 26, 34, 35, 36, 37, 38, 39, 40, 41, 42, 43, 44, 45, 46, 47, 48] (by decide +kernel) (by decide +kernel)
set_option maxRecDepth 20000 in
theorem gX4_digestKeys_X1_keyFact : GoodIn wsX4_digestKeys (wsV RX4 93 RX1 yX1_keyFact wsX1_keyFact) := goodIn_app (goodIn_of _ (by decide +kernel)) ggX4_digestKeys_X1_keyFact
theorem dX4_digestKeys_0 : decode cX4_digestKeys 0 = .ok (.lload_n 1, 1) := by decide +kernel
theorem dX4_digestKeys_1 : decode cX4_digestKeys 1 = .ok (.lstore_n 3, 1) := by decide +kernel
theorem dX4_digestKeys_2 : decode cX4_digestKeys 2 = .ok (.iconst 0, 1) := by decide +kernel
theorem dX4_digestKeys_3 : decode cX4_digestKeys 3 = .ok (.istore 5, 2) := by decide +kernel
theorem dX4_digestKeys_5 : decode cX4_digestKeys 5 = .ok (.iload 5, 2) := by decide +kernel
theorem dX4_digestKeys_7 : decode cX4_digestKeys 7 = .ok (.aload_n 0, 1) := by decide +kernel
theorem dX4_digestKeys_8 : decode cX4_digestKeys 8 = .ok (.getfield 12, 3) := by decide +kernel
theorem dX4_digestKeys_11 : decode cX4_digestKeys 11 = .ok (.getfield 58, 3) := by decide +kernel
theorem dX4_digestKeys_14 : decode cX4_digestKeys 14 = .ok (.getfield 106, 3) := by decide +kernel
theorem dX4_digestKeys_17 : decode cX4_digestKeys 17 = .ok (.if_icmp .ge 92, 3) := by decide +kernel
theorem dX4_digestKeys_20 : decode cX4_digestKeys 20 = .ok (.ldc2_w 170, 3) := by decide +kernel
theorem dX4_digestKeys_23 : decode cX4_digestKeys 23 = .ok (.lload_n 3, 1) := by decide +kernel
theorem dX4_digestKeys_24 : decode cX4_digestKeys 24 = .ok (.lmul, 1) := by decide +kernel
theorem dX4_digestKeys_25 : decode cX4_digestKeys 25 = .ok (.aload_n 0, 1) := by decide +kernel
theorem dX4_digestKeys_26 : decode cX4_digestKeys 26 = .ok (.getfield 12, 3) := by decide +kernel
theorem dX4_digestKeys_29 : decode cX4_digestKeys 29 = .ok (.getfield 58, 3) := by decide +kernel
theorem dX4_digestKeys_32 : decode cX4_digestKeys 32 = .ok (.getfield 191, 3) := by decide +kernel
theorem dX4_digestKeys_35 : decode cX4_digestKeys 35 = .ok (.iload 5, 2) := by decide +kernel
theorem dX4_digestKeys_37 : decode cX4_digestKeys 37 = .ok (.iaload, 1) := by decide +kernel
theorem dX4_digestKeys_38 : decode cX4_digestKeys 38 = .ok (.i2l, 1) := by decide +kernel
theorem dX4_digestKeys_39 : decode cX4_digestKeys 39 = .ok (.ladd, 1) := by decide +kernel
theorem dX4_digestKeys_40 : decode cX4_digestKeys 40 = .ok (.lstore_n 3, 1) := by decide +kernel
theorem dX4_digestKeys_41 : decode cX4_digestKeys 41 = .ok (.ldc2_w 170, 3) := by decide +kernel
theorem dX4_digestKeys_44 : decode cX4_digestKeys 44 = .ok (.lload_n 3, 1) := by decide +kernel
theorem dX4_digestKeys_45 : decode cX4_digestKeys 45 = .ok (.lmul, 1) := by decide +kernel
theorem dX4_digestKeys_46 : decode cX4_digestKeys 46 = .ok (.aload_n 0, 1) := by decide +kernel
theorem dX4_digestKeys_47 : decode cX4_digestKeys 47 = .ok (.getfield 12, 3) := by decide +kernel
theorem dX4_digestKeys_50 : decode cX4_digestKeys 50 = .ok (.getfield 58, 3) := by decide +kernel
theorem dX4_digestKeys_53 : decode cX4_digestKeys 53 = .ok (.aload_n 0, 1) := by decide +kernel
theorem dX4_digestKeys_54 : decode cX4_digestKeys 54 = .ok (.getfield 12, 3) := by decide +kernel
theorem dX4_digestKeys_57 : decode cX4_digestKeys 57 = .ok (.getfield 90, 3) := by decide +kernel
theorem dX4_digestKeys_60 : decode cX4_digestKeys 60 = .ok (.iload 5, 2) := by decide +kernel
theorem dX4_digestKeys_62 : decode cX4_digestKeys 62 = .ok (.iaload, 1) := by decide +kernel
theorem dX4_digestKeys_63 : decode cX4_digestKeys 63 = .ok (.invokevirtual 78, 3) := by decide +kernel
theorem dX4_digestKeys_66 : decode cX4_digestKeys 66 = .ok (.i2l, 1) := by decide +kernel
theorem dX4_digestKeys_67 : decode cX4_digestKeys 67 = .ok (.ladd, 1) := by decide +kernel
theorem dX4_digestKeys_68 : decode cX4_digestKeys 68 = .ok (.lstore_n 3, 1) := by decide +kernel
theorem dX4_digestKeys_69 : decode cX4_digestKeys 69 = .ok (.iconst 0, 1) := by decide +kernel
theorem dX4_digestKeys_70 : decode cX4_digestKeys 70 = .ok (.istore 6, 2) := by decide +kernel
theorem dX4_digestKeys_72 : decode cX4_digestKeys 72 = .ok (.iload 6, 2) := by decide +kernel
theorem dX4_digestKeys_74 : decode cX4_digestKeys 74 = .ok (.iconst 3, 1) := by decide +kernel
theorem dX4_digestKeys_75 : decode cX4_digestKeys 75 = .ok (.if_icmp .ge 28, 3) := by decide +kernel
theorem dX4_digestKeys_78 : decode cX4_digestKeys 78 = .ok (.ldc2_w 170, 3) := by decide +kernel
theorem dX4_digestKeys_81 : decode cX4_digestKeys 81 = .ok (.lload_n 3, 1) := by decide +kernel
theorem dX4_digestKeys_82 : decode cX4_digestKeys 82 = .ok (.lmul, 1) := by decide +kernel
theorem dX4_digestKeys_83 : decode cX4_digestKeys 83 = .ok (.aload_n 0, 1) := by decide +kernel
theorem dX4_digestKeys_84 : decode cX4_digestKeys 84 = .ok (.getfield 12, 3) := by decide +kernel
theorem dX4_digestKeys_87 : decode cX4_digestKeys 87 = .ok (.iload 5, 2) := by decide +kernel
theorem dX4_digestKeys_89 : decode cX4_digestKeys 89 = .ok (.iload 6, 2) := by decide +kernel
theorem dX4_digestKeys_91 : decode cX4_digestKeys 91 = .ok (.invokevirtual 93, 3) := by decide +kernel
theorem dX4_digestKeys_94 : decode cX4_digestKeys 94 = .ok (.i2l, 1) := by decide +kernel
theorem dX4_digestKeys_95 : decode cX4_digestKeys 95 = .ok (.ladd, 1) := by decide +kernel
theorem dX4_digestKeys_96 : decode cX4_digestKeys 96 = .ok (.lstore_n 3, 1) := by decide +kernel
theorem dX4_digestKeys_97 : decode cX4_digestKeys 97 = .ok (.iinc 6 1, 3) := by decide +kernel
theorem dX4_digestKeys_100 : decode cX4_digestKeys 100 = .ok (.goto (-28), 3) := by decide +kernel
theorem dX4_digestKeys_103 : decode cX4_digestKeys 103 = .ok (.iinc 5 1, 3) := by decide +kernel
theorem dX4_digestKeys_106 : decode cX4_digestKeys 106 = .ok (.goto (-101), 3) := by decide +kernel
theorem dX4_digestKeys_109 : decode cX4_digestKeys 109 = .ok (.lload_n 3, 1) := by decide +kernel
theorem dX4_digestKeys_110 : decode cX4_digestKeys 110 = .ok (.lreturn, 1) := by decide +kernel
set_option maxRecDepth 20000 in
theorem ggX4_tellOne_X3_copyFrom : GoodIn wsX4_tellOne wsX3_copyFrom := goodIn_r _ [9, 10, 11, 12, 13, 14, 15, 16, 17, 18, 19, 20, 162, 163, 164, 165, 166, 167, 168] (by decide +kernel) (by decide +kernel)
set_option maxRecDepth 20000 in
theorem gX4_tellOne_X3_copyFrom : GoodIn wsX4_tellOne (wsV RX4 137 RX3 yX3_copyFrom wsX3_copyFrom) := goodIn_app (goodIn_of _ (by decide +kernel)) ggX4_tellOne_X3_copyFrom
set_option maxRecDepth 20000 in
theorem ggX4_tellOne_X3_take : GoodIn wsX4_tellOne wsX3_take := goodIn_r _ [24, 25, 26, 27, 8, 28, 17, 10, 15, 29, 30, 31, 32, 33, 34, 35, 36, 37, 38, 39, 40, 41, 42, 43, 44, 45, 46, 47, 48, 49, 18, 16, 50, 51, 52, 53, 54, 55, 56, 57, 58, 59, 60, 61, 62, 63, 19, 162, 163, 164, 165, 166, 167, 168] (by decide +kernel) (by decide +kernel)
set_option maxRecDepth 20000 in
theorem gX4_tellOne_X3_take : GoodIn wsX4_tellOne (wsV RX4 153 RX3 yX3_take wsX3_take) := goodIn_app (goodIn_of _ (by decide +kernel)) ggX4_tellOne_X3_take
set_option maxRecDepth 20000 in
theorem ggX4_tellOne_X4_refuse : GoodIn wsX4_tellOne wsX4_refuse := goodIn_r _ [67, 68, 69, 70, 147, 148, 149, 150, 151, 152, 153] (by decide +kernel) (by decide +kernel)
set_option maxRecDepth 20000 in
theorem gX4_tellOne_X4_refuse : GoodIn wsX4_tellOne (wsV RX4 55 RX4 yX4_refuse wsX4_refuse) := goodIn_app (goodIn_of _ (by decide +kernel)) ggX4_tellOne_X4_refuse
set_option maxRecDepth 20000 in
theorem ggX4_tellOne_X4_keepDraft : GoodIn wsX4_tellOne wsX4_keepDraft := goodIn_r _ [74, 1, 2, 3, 4, 75, 76, 77, 78, 79, 80, 81, 82, 83, 84, 85, 86, 87, 88, 89, 90, 91, 92, 93, 94, 95, 96, 97, 98, 99, 100, 101, 102, 103, 104, 105, 106, 107, 108, 8, 109, 17, 15, 110, 111, 112, 113, 114, 115, 116, 117, 118, 119, 120, 121, 122, 123, 124, 125, 126, 127, 128, 129, 10, 130, 53, 54, 55, 18, 16, 131, 132, 133, 134, 135, 136, 137, 138, 139, 140, 141, 142, 143, 144, 145, 146, 6, 7, 9, 11, 12, 13, 14, 19, 20, 147, 148, 149, 150, 151, 152, 153, 154, 155, 156, 157, 158, 159, 160, 161, 162, 163, 164, 165, 166, 167, 168, 169, 170] (by decide +kernel) (by decide +kernel)
set_option maxRecDepth 20000 in
theorem gX4_tellOne_X4_keepDraft : GoodIn wsX4_tellOne (wsV RX4 156 RX4 yX4_keepDraft wsX4_keepDraft) := goodIn_app (goodIn_of _ (by decide +kernel)) ggX4_tellOne_X4_keepDraft
theorem dX4_tellOne_0 : decode cX4_tellOne 0 = .ok (.aload_n 0, 1) := by decide +kernel
theorem dX4_tellOne_1 : decode cX4_tellOne 1 = .ok (.getfield 16, 3) := by decide +kernel
theorem dX4_tellOne_4 : decode cX4_tellOne 4 = .ok (.getfield 58, 3) := by decide +kernel
theorem dX4_tellOne_7 : decode cX4_tellOne 7 = .ok (.aload_n 0, 1) := by decide +kernel
theorem dX4_tellOne_8 : decode cX4_tellOne 8 = .ok (.getfield 12, 3) := by decide +kernel
theorem dX4_tellOne_11 : decode cX4_tellOne 11 = .ok (.getfield 58, 3) := by decide +kernel
theorem dX4_tellOne_14 : decode cX4_tellOne 14 = .ok (.invokevirtual 137, 3) := by decide +kernel
theorem dX4_tellOne_17 : decode cX4_tellOne 17 = .ok (.aload_n 0, 1) := by decide +kernel
theorem dX4_tellOne_18 : decode cX4_tellOne 18 = .ok (.getfield 16, 3) := by decide +kernel
theorem dX4_tellOne_21 : decode cX4_tellOne 21 = .ok (.getfield 58, 3) := by decide +kernel
theorem dX4_tellOne_24 : decode cX4_tellOne 24 = .ok (.iload_n 1, 1) := by decide +kernel
theorem dX4_tellOne_25 : decode cX4_tellOne 25 = .ok (.iload_n 2, 1) := by decide +kernel
theorem dX4_tellOne_26 : decode cX4_tellOne 26 = .ok (.iload_n 3, 1) := by decide +kernel
theorem dX4_tellOne_27 : decode cX4_tellOne 27 = .ok (.invokevirtual 153, 3) := by decide +kernel
theorem dX4_tellOne_30 : decode cX4_tellOne 30 = .ok (.istore 4, 2) := by decide +kernel
theorem dX4_tellOne_32 : decode cX4_tellOne 32 = .ok (.iload 4, 2) := by decide +kernel
theorem dX4_tellOne_34 : decode cX4_tellOne 34 = .ok (.ifCond .eq 10, 3) := by decide +kernel
theorem dX4_tellOne_37 : decode cX4_tellOne 37 = .ok (.aload_n 0, 1) := by decide +kernel
theorem dX4_tellOne_38 : decode cX4_tellOne 38 = .ok (.iload 4, 2) := by decide +kernel
theorem dX4_tellOne_40 : decode cX4_tellOne 40 = .ok (.invokevirtual 55, 3) := by decide +kernel
theorem dX4_tellOne_43 : decode cX4_tellOne 43 = .ok (.ireturn, 1) := by decide +kernel
theorem dX4_tellOne_44 : decode cX4_tellOne 44 = .ok (.aload_n 0, 1) := by decide +kernel
theorem dX4_tellOne_45 : decode cX4_tellOne 45 = .ok (.invokevirtual 156, 3) := by decide +kernel
theorem dX4_tellOne_48 : decode cX4_tellOne 48 = .ok (.aload_n 0, 1) := by decide +kernel
theorem dX4_tellOne_49 : decode cX4_tellOne 49 = .ok (.getfield 12, 3) := by decide +kernel
theorem dX4_tellOne_52 : decode cX4_tellOne 52 = .ok (.getfield 58, 3) := by decide +kernel
theorem dX4_tellOne_55 : decode cX4_tellOne 55 = .ok (.getfield 116, 3) := by decide +kernel
theorem dX4_tellOne_58 : decode cX4_tellOne 58 = .ok (.ireturn, 1) := by decide +kernel
set_option maxRecDepth 20000 in
theorem ggX4_tryOne_X3_copyFrom : GoodIn wsX4_tryOne wsX3_copyFrom := goodIn_r _ [8, 9, 10, 11, 12, 13, 14, 15, 16, 17, 18, 19, 124, 125, 126, 127, 128, 129, 130] (by decide +kernel) (by decide +kernel)
set_option maxRecDepth 20000 in
theorem gX4_tryOne_X3_copyFrom : GoodIn wsX4_tryOne (wsV RX4 137 RX3 yX3_copyFrom wsX3_copyFrom) := goodIn_app (goodIn_of _ (by decide +kernel)) ggX4_tryOne_X3_copyFrom
set_option maxRecDepth 20000 in
theorem ggX4_tryOne_X3_take : GoodIn wsX4_tryOne wsX3_take := goodIn_r _ [23, 24, 25, 26, 7, 27, 16, 9, 14, 28, 29, 30, 31, 32, 33, 34, 35, 36, 37, 38, 39, 40, 41, 42, 43, 44, 45, 46, 47, 48, 17, 15, 49, 50, 51, 52, 53, 54, 55, 56, 57, 58, 59, 60, 61, 62, 18, 124, 125, 126, 127, 128, 129, 130] (by decide +kernel) (by decide +kernel)
set_option maxRecDepth 20000 in
theorem gX4_tryOne_X3_take : GoodIn wsX4_tryOne (wsV RX4 153 RX3 yX3_take wsX3_take) := goodIn_app (goodIn_of _ (by decide +kernel)) ggX4_tryOne_X3_take
set_option maxRecDepth 20000 in
theorem ggX4_tryOne_X1_lay : GoodIn wsX4_tryOne wsX1_lay := goodIn_r _ [67, 68, 69, 70, 71, 72, 66, 73, 74, 75, 76, 77, 78, 79, 80, 81, 82, 83, 84, 85, 86, 87, 88, 89, 90, 91, 92, 93, 94, 95, 7, 96, 16, 14, 97, 98, 99, 100, 101, 102, 103, 104, 105, 106, 107, 108, 116, 117, 118, 119, 120, 121, 122, 123, 124, 125, 126, 127, 128, 129, 130] (by decide +kernel) (by decide +kernel)
set_option maxRecDepth 20000 in
theorem gX4_tryOne_X1_lay : GoodIn wsX4_tryOne (wsV RX4 165 RX1 yX1_lay wsX1_lay) := goodIn_app (goodIn_of _ (by decide +kernel)) ggX4_tryOne_X1_lay
theorem dX4_tryOne_0 : decode cX4_tryOne 0 = .ok (.aload_n 0, 1) := by decide +kernel
theorem dX4_tryOne_1 : decode cX4_tryOne 1 = .ok (.getfield 16, 3) := by decide +kernel
theorem dX4_tryOne_4 : decode cX4_tryOne 4 = .ok (.getfield 58, 3) := by decide +kernel
theorem dX4_tryOne_7 : decode cX4_tryOne 7 = .ok (.aload_n 0, 1) := by decide +kernel
theorem dX4_tryOne_8 : decode cX4_tryOne 8 = .ok (.getfield 12, 3) := by decide +kernel
theorem dX4_tryOne_11 : decode cX4_tryOne 11 = .ok (.getfield 58, 3) := by decide +kernel
theorem dX4_tryOne_14 : decode cX4_tryOne 14 = .ok (.invokevirtual 137, 3) := by decide +kernel
theorem dX4_tryOne_17 : decode cX4_tryOne 17 = .ok (.aload_n 0, 1) := by decide +kernel
theorem dX4_tryOne_18 : decode cX4_tryOne 18 = .ok (.getfield 16, 3) := by decide +kernel
theorem dX4_tryOne_21 : decode cX4_tryOne 21 = .ok (.getfield 58, 3) := by decide +kernel
theorem dX4_tryOne_24 : decode cX4_tryOne 24 = .ok (.iload_n 1, 1) := by decide +kernel
theorem dX4_tryOne_25 : decode cX4_tryOne 25 = .ok (.iload_n 2, 1) := by decide +kernel
theorem dX4_tryOne_26 : decode cX4_tryOne 26 = .ok (.iconst 0, 1) := by decide +kernel
theorem dX4_tryOne_27 : decode cX4_tryOne 27 = .ok (.invokevirtual 153, 3) := by decide +kernel
theorem dX4_tryOne_30 : decode cX4_tryOne 30 = .ok (.istore_n 3, 1) := by decide +kernel
theorem dX4_tryOne_31 : decode cX4_tryOne 31 = .ok (.iload_n 3, 1) := by decide +kernel
theorem dX4_tryOne_32 : decode cX4_tryOne 32 = .ok (.ifCond .ne 10, 3) := by decide +kernel
theorem dX4_tryOne_35 : decode cX4_tryOne 35 = .ok (.aload_n 0, 1) := by decide +kernel
theorem dX4_tryOne_36 : decode cX4_tryOne 36 = .ok (.getfield 16, 3) := by decide +kernel
theorem dX4_tryOne_39 : decode cX4_tryOne 39 = .ok (.invokevirtual 165, 3) := by decide +kernel
theorem dX4_tryOne_42 : decode cX4_tryOne 42 = .ok (.iload_n 3, 1) := by decide +kernel
theorem dX4_tryOne_43 : decode cX4_tryOne 43 = .ok (.ireturn, 1) := by decide +kernel
set_option maxRecDepth 20000 in
theorem ggX4_keepDraft_X1_lay : GoodIn wsX4_keepDraft wsX1_lay := goodIn_r _ [10, 11, 12, 13, 14, 15, 9, 16, 17, 18, 19, 20, 21, 22, 23, 24, 25, 26, 27, 28, 29, 30, 31, 32, 33, 34, 35, 36, 37, 38, 39, 40, 41, 42, 43, 44, 45, 46, 47, 48, 49, 50, 51, 52, 53, 54, 102, 103, 104, 105, 106, 107, 108, 109, 110, 111, 112, 113, 114, 115, 116] (by decide +kernel) (by decide +kernel)
set_option maxRecDepth 20000 in
theorem gX4_keepDraft_X1_lay : GoodIn wsX4_keepDraft (wsV RX4 165 RX1 yX1_lay wsX1_lay) := goodIn_app (goodIn_of _ (by decide +kernel)) ggX4_keepDraft_X1_lay
set_option maxRecDepth 20000 in
theorem ggX4_keepDraft_X1_movedSince : GoodIn wsX4_keepDraft wsX1_movedSince := goodIn_r _ [58, 11, 12, 54, 47, 59, 60, 61, 39, 62, 41, 63, 64, 65, 66, 67, 68, 69, 70, 71, 72, 9, 73, 102, 103, 104, 105, 106, 107, 108, 109, 110, 111, 112, 113, 114, 115, 116] (by decide +kernel) (by decide +kernel)
set_option maxRecDepth 20000 in
theorem gX4_keepDraft_X1_movedSince : GoodIn wsX4_keepDraft (wsV RX4 99 RX1 yX1_movedSince wsX1_movedSince) := goodIn_app (goodIn_of _ (by decide +kernel)) ggX4_keepDraft_X1_movedSince
set_option maxRecDepth 20000 in
theorem ggX4_keepDraft_X0_keep : GoodIn wsX4_keepDraft wsX0_keep := goodIn_r _ [78, 79, 80, 81, 82, 83, 77, 84, 85, 86, 87, 39, 88, 63, 89, 90, 91, 92, 42, 69, 41, 68, 93, 94, 117, 118, 110, 111, 112, 113, 114, 115, 116] (by decide +kernel) (by decide +kernel)
set_option maxRecDepth 20000 in
theorem gX4_keepDraft_X0_keep : GoodIn wsX4_keepDraft (wsV RX4 194 RX0 yX0_keep wsX0_keep) := goodIn_app (goodIn_of _ (by decide +kernel)) ggX4_keepDraft_X0_keep
theorem dX4_keepDraft_0 : decode cX4_keepDraft 0 = .ok (.aload_n 0, 1) := by decide +kernel
theorem dX4_keepDraft_1 : decode cX4_keepDraft 1 = .ok (.getfield 16, 3) := by decide +kernel
theorem dX4_keepDraft_4 : decode cX4_keepDraft 4 = .ok (.invokevirtual 165, 3) := by decide +kernel
theorem dX4_keepDraft_7 : decode cX4_keepDraft 7 = .ok (.aload_n 0, 1) := by decide +kernel
theorem dX4_keepDraft_8 : decode cX4_keepDraft 8 = .ok (.getfield 16, 3) := by decide +kernel
theorem dX4_keepDraft_11 : decode cX4_keepDraft 11 = .ok (.getfield 58, 3) := by decide +kernel
theorem dX4_keepDraft_14 : decode cX4_keepDraft 14 = .ok (.aload_n 0, 1) := by decide +kernel
theorem dX4_keepDraft_15 : decode cX4_keepDraft 15 = .ok (.getfield 16, 3) := by decide +kernel
theorem dX4_keepDraft_18 : decode cX4_keepDraft 18 = .ok (.aload_n 0, 1) := by decide +kernel
theorem dX4_keepDraft_19 : decode cX4_keepDraft 19 = .ok (.getfield 12, 3) := by decide +kernel
theorem dX4_keepDraft_22 : decode cX4_keepDraft 22 = .ok (.invokevirtual 99, 3) := by decide +kernel
theorem dX4_keepDraft_25 : decode cX4_keepDraft 25 = .ok (.putfield 116, 3) := by decide +kernel
theorem dX4_keepDraft_28 : decode cX4_keepDraft 28 = .ok (.aload_n 0, 1) := by decide +kernel
theorem dX4_keepDraft_29 : decode cX4_keepDraft 29 = .ok (.getfield 22, 3) := by decide +kernel
theorem dX4_keepDraft_32 : decode cX4_keepDraft 32 = .ok (.aload_n 0, 1) := by decide +kernel
theorem dX4_keepDraft_33 : decode cX4_keepDraft 33 = .ok (.getfield 12, 3) := by decide +kernel
theorem dX4_keepDraft_36 : decode cX4_keepDraft 36 = .ok (.getfield 58, 3) := by decide +kernel
theorem dX4_keepDraft_39 : decode cX4_keepDraft 39 = .ok (.invokevirtual 194, 3) := by decide +kernel
theorem dX4_keepDraft_42 : decode cX4_keepDraft 42 = .ok (.aload_n 0, 1) := by decide +kernel
theorem dX4_keepDraft_43 : decode cX4_keepDraft 43 = .ok (.getfield 12, 3) := by decide +kernel
theorem dX4_keepDraft_46 : decode cX4_keepDraft 46 = .ok (.astore_n 1, 1) := by decide +kernel
theorem dX4_keepDraft_47 : decode cX4_keepDraft 47 = .ok (.aload_n 0, 1) := by decide +kernel
theorem dX4_keepDraft_48 : decode cX4_keepDraft 48 = .ok (.aload_n 0, 1) := by decide +kernel
theorem dX4_keepDraft_49 : decode cX4_keepDraft 49 = .ok (.getfield 16, 3) := by decide +kernel
theorem dX4_keepDraft_52 : decode cX4_keepDraft 52 = .ok (.putfield 12, 3) := by decide +kernel
theorem dX4_keepDraft_55 : decode cX4_keepDraft 55 = .ok (.aload_n 0, 1) := by decide +kernel
theorem dX4_keepDraft_56 : decode cX4_keepDraft 56 = .ok (.aload_n 1, 1) := by decide +kernel
theorem dX4_keepDraft_57 : decode cX4_keepDraft 57 = .ok (.putfield 16, 3) := by decide +kernel
theorem dX4_keepDraft_60 : decode cX4_keepDraft 60 = .ok (.return_, 1) := by decide +kernel
theorem dX4_refuse_0 : decode cX4_refuse 0 = .ok (.iload_n 1, 1) := by decide +kernel
theorem dX4_refuse_1 : decode cX4_refuse 1 = .ok (.bipush (-2), 2) := by decide +kernel
theorem dX4_refuse_3 : decode cX4_refuse 3 = .ok (.if_icmp .ne 16, 3) := by decide +kernel
theorem dX4_refuse_6 : decode cX4_refuse 6 = .ok (.aload_n 0, 1) := by decide +kernel
theorem dX4_refuse_7 : decode cX4_refuse 7 = .ok (.dup, 1) := by decide +kernel
theorem dX4_refuse_8 : decode cX4_refuse 8 = .ok (.getfield 33, 3) := by decide +kernel
theorem dX4_refuse_11 : decode cX4_refuse 11 = .ok (.iconst 1, 1) := by decide +kernel
theorem dX4_refuse_12 : decode cX4_refuse 12 = .ok (.iadd, 1) := by decide +kernel
theorem dX4_refuse_13 : decode cX4_refuse 13 = .ok (.putfield 33, 3) := by decide +kernel
theorem dX4_refuse_16 : decode cX4_refuse 16 = .ok (.goto 32, 3) := by decide +kernel
theorem dX4_refuse_19 : decode cX4_refuse 19 = .ok (.iload_n 1, 1) := by decide +kernel
theorem dX4_refuse_20 : decode cX4_refuse 20 = .ok (.bipush (-3), 2) := by decide +kernel
theorem dX4_refuse_22 : decode cX4_refuse 22 = .ok (.if_icmp .ne 16, 3) := by decide +kernel
theorem dX4_refuse_25 : decode cX4_refuse 25 = .ok (.aload_n 0, 1) := by decide +kernel
theorem dX4_refuse_26 : decode cX4_refuse 26 = .ok (.dup, 1) := by decide +kernel
theorem dX4_refuse_27 : decode cX4_refuse 27 = .ok (.getfield 37, 3) := by decide +kernel
theorem dX4_refuse_30 : decode cX4_refuse 30 = .ok (.iconst 1, 1) := by decide +kernel
theorem dX4_refuse_31 : decode cX4_refuse 31 = .ok (.iadd, 1) := by decide +kernel
theorem dX4_refuse_32 : decode cX4_refuse 32 = .ok (.putfield 37, 3) := by decide +kernel
theorem dX4_refuse_35 : decode cX4_refuse 35 = .ok (.goto 13, 3) := by decide +kernel
theorem dX4_refuse_38 : decode cX4_refuse 38 = .ok (.aload_n 0, 1) := by decide +kernel
theorem dX4_refuse_39 : decode cX4_refuse 39 = .ok (.dup, 1) := by decide +kernel
theorem dX4_refuse_40 : decode cX4_refuse 40 = .ok (.getfield 40, 3) := by decide +kernel
theorem dX4_refuse_43 : decode cX4_refuse 43 = .ok (.iconst 1, 1) := by decide +kernel
theorem dX4_refuse_44 : decode cX4_refuse 44 = .ok (.iadd, 1) := by decide +kernel
theorem dX4_refuse_45 : decode cX4_refuse 45 = .ok (.putfield 40, 3) := by decide +kernel
theorem dX4_refuse_48 : decode cX4_refuse 48 = .ok (.iload_n 1, 1) := by decide +kernel
theorem dX4_refuse_49 : decode cX4_refuse 49 = .ok (.ireturn, 1) := by decide +kernel
theorem dX4_isName_0 : decode cX4_isName 0 = .ok (.iload_n 0, 1) := by decide +kernel
theorem dX4_isName_1 : decode cX4_isName 1 = .ok (.ifCond .lt 13, 3) := by decide +kernel
theorem dX4_isName_4 : decode cX4_isName 4 = .ok (.iload_n 0, 1) := by decide +kernel
theorem dX4_isName_5 : decode cX4_isName 5 = .ok (.bipush 99, 2) := by decide +kernel
theorem dX4_isName_7 : decode cX4_isName 7 = .ok (.if_icmp .gt 7, 3) := by decide +kernel
theorem dX4_isName_10 : decode cX4_isName 10 = .ok (.iconst 1, 1) := by decide +kernel
theorem dX4_isName_11 : decode cX4_isName 11 = .ok (.goto 4, 3) := by decide +kernel
theorem dX4_isName_14 : decode cX4_isName 14 = .ok (.iconst 0, 1) := by decide +kernel
theorem dX4_isName_15 : decode cX4_isName 15 = .ok (.ireturn, 1) := by decide +kernel
theorem dX4_isWeight_0 : decode cX4_isWeight 0 = .ok (.iload_n 0, 1) := by decide +kernel
theorem dX4_isWeight_1 : decode cX4_isWeight 1 = .ok (.iconst 1, 1) := by decide +kernel
theorem dX4_isWeight_2 : decode cX4_isWeight 2 = .ok (.if_icmp .lt 12, 3) := by decide +kernel
theorem dX4_isWeight_5 : decode cX4_isWeight 5 = .ok (.iload_n 0, 1) := by decide +kernel
theorem dX4_isWeight_6 : decode cX4_isWeight 6 = .ok (.iconst 4, 1) := by decide +kernel
theorem dX4_isWeight_7 : decode cX4_isWeight 7 = .ok (.if_icmp .gt 7, 3) := by decide +kernel
theorem dX4_isWeight_10 : decode cX4_isWeight 10 = .ok (.iconst 1, 1) := by decide +kernel
theorem dX4_isWeight_11 : decode cX4_isWeight 11 = .ok (.goto 4, 3) := by decide +kernel
theorem dX4_isWeight_14 : decode cX4_isWeight 14 = .ok (.iconst 0, 1) := by decide +kernel
theorem dX4_isWeight_15 : decode cX4_isWeight 15 = .ok (.ireturn, 1) := by decide +kernel
theorem dX4_isKey_0 : decode cX4_isKey 0 = .ok (.iload_n 0, 1) := by decide +kernel
theorem dX4_isKey_1 : decode cX4_isKey 1 = .ok (.ifCond .lt 14, 3) := by decide +kernel
theorem dX4_isKey_4 : decode cX4_isKey 4 = .ok (.iload_n 0, 1) := by decide +kernel
theorem dX4_isKey_5 : decode cX4_isKey 5 = .ok (.sipush 999, 3) := by decide +kernel
theorem dX4_isKey_8 : decode cX4_isKey 8 = .ok (.if_icmp .gt 7, 3) := by decide +kernel
theorem dX4_isKey_11 : decode cX4_isKey 11 = .ok (.iconst 1, 1) := by decide +kernel
theorem dX4_isKey_12 : decode cX4_isKey 12 = .ok (.goto 4, 3) := by decide +kernel
theorem dX4_isKey_15 : decode cX4_isKey 15 = .ok (.iconst 0, 1) := by decide +kernel
theorem dX4_isKey_16 : decode cX4_isKey 16 = .ok (.ireturn, 1) := by decide +kernel
set_option maxRecDepth 20000 in
theorem ggX5_init_X5_lay : GoodIn wsX5_init wsX5_lay := goodIn_r _ [23, 12, 5, 10, 9, 11, 24, 25, 26, 22, 27, 28, 29, 30, 31, 32, 33, 34, 35, 36, 37, 38, 39, 40, 41, 42, 43, 44, 45, 46, 47, 48, 49, 50, 51, 52, 53, 54, 55, 56, 57, 58, 59, 60, 61, 62, 63, 64] (by decide +kernel) (by decide +kernel)
set_option maxRecDepth 20000 in
theorem gX5_init_X5_lay : GoodIn wsX5_init (wsV RX5 50 RX5 yX5_lay wsX5_lay) := goodIn_app (goodIn_of _ (by decide +kernel)) ggX5_init_X5_lay
theorem dX5_init_0 : decode cX5_init 0 = .ok (.aload_n 0, 1) := by decide +kernel
theorem dX5_init_1 : decode cX5_init 1 = .ok (.invokespecial 1, 3) := by decide +kernel
theorem dX5_init_4 : decode cX5_init 4 = .ok (.aload_n 0, 1) := by decide +kernel
theorem dX5_init_5 : decode cX5_init 5 = .ok (.sipush 143, 3) := by decide +kernel
theorem dX5_init_8 : decode cX5_init 8 = .ok (.newarray .int, 2) := by decide +kernel
theorem dX5_init_10 : decode cX5_init 10 = .ok (.putfield 7, 3) := by decide +kernel
theorem dX5_init_13 : decode cX5_init 13 = .ok (.aload_n 0, 1) := by decide +kernel
theorem dX5_init_14 : decode cX5_init 14 = .ok (.sipush 143, 3) := by decide +kernel
theorem dX5_init_17 : decode cX5_init 17 = .ok (.newarray .int, 2) := by decide +kernel
theorem dX5_init_19 : decode cX5_init 19 = .ok (.putfield 13, 3) := by decide +kernel
theorem dX5_init_22 : decode cX5_init 22 = .ok (.aload_n 0, 1) := by decide +kernel
theorem dX5_init_23 : decode cX5_init 23 = .ok (.sipush 715, 3) := by decide +kernel
theorem dX5_init_26 : decode cX5_init 26 = .ok (.newarray .int, 2) := by decide +kernel
theorem dX5_init_28 : decode cX5_init 28 = .ok (.putfield 16, 3) := by decide +kernel
theorem dX5_init_31 : decode cX5_init 31 = .ok (.aload_n 0, 1) := by decide +kernel
theorem dX5_init_32 : decode cX5_init 32 = .ok (.iconst 3, 1) := by decide +kernel
theorem dX5_init_33 : decode cX5_init 33 = .ok (.newarray .int, 2) := by decide +kernel
theorem dX5_init_35 : decode cX5_init 35 = .ok (.putfield 19, 3) := by decide +kernel
theorem dX5_init_38 : decode cX5_init 38 = .ok (.aload_n 0, 1) := by decide +kernel
theorem dX5_init_39 : decode cX5_init 39 = .ok (.bipush 101, 2) := by decide +kernel
theorem dX5_init_41 : decode cX5_init 41 = .ok (.newarray .int, 2) := by decide +kernel
theorem dX5_init_43 : decode cX5_init 43 = .ok (.putfield 22, 3) := by decide +kernel
theorem dX5_init_46 : decode cX5_init 46 = .ok (.aload_n 0, 1) := by decide +kernel
theorem dX5_init_47 : decode cX5_init 47 = .ok (.bipush 40, 2) := by decide +kernel
theorem dX5_init_49 : decode cX5_init 49 = .ok (.newarray .int, 2) := by decide +kernel
theorem dX5_init_51 : decode cX5_init 51 = .ok (.putfield 25, 3) := by decide +kernel
theorem dX5_init_54 : decode cX5_init 54 = .ok (.aload_n 0, 1) := by decide +kernel
theorem dX5_init_55 : decode cX5_init 55 = .ok (.bipush 40, 2) := by decide +kernel
theorem dX5_init_57 : decode cX5_init 57 = .ok (.newarray .int, 2) := by decide +kernel
theorem dX5_init_59 : decode cX5_init 59 = .ok (.putfield 28, 3) := by decide +kernel
theorem dX5_init_62 : decode cX5_init 62 = .ok (.aload_n 0, 1) := by decide +kernel
theorem dX5_init_63 : decode cX5_init 63 = .ok (.bipush 100, 2) := by decide +kernel
theorem dX5_init_65 : decode cX5_init 65 = .ok (.newarray .int, 2) := by decide +kernel
theorem dX5_init_67 : decode cX5_init 67 = .ok (.putfield 31, 3) := by decide +kernel
theorem dX5_init_70 : decode cX5_init 70 = .ok (.aload_n 0, 1) := by decide +kernel
theorem dX5_init_71 : decode cX5_init 71 = .ok (.bipush 40, 2) := by decide +kernel
theorem dX5_init_73 : decode cX5_init 73 = .ok (.newarray .int, 2) := by decide +kernel
theorem dX5_init_75 : decode cX5_init 75 = .ok (.putfield 34, 3) := by decide +kernel
theorem dX5_init_78 : decode cX5_init 78 = .ok (.aload_n 0, 1) := by decide +kernel
theorem dX5_init_79 : decode cX5_init 79 = .ok (.bipush 101, 2) := by decide +kernel
theorem dX5_init_81 : decode cX5_init 81 = .ok (.newarray .boolean, 2) := by decide +kernel
theorem dX5_init_83 : decode cX5_init 83 = .ok (.putfield 37, 3) := by decide +kernel
theorem dX5_init_86 : decode cX5_init 86 = .ok (.aload_n 0, 1) := by decide +kernel
theorem dX5_init_87 : decode cX5_init 87 = .ok (.bipush 120, 2) := by decide +kernel
theorem dX5_init_89 : decode cX5_init 89 = .ok (.newarray .int, 2) := by decide +kernel
theorem dX5_init_91 : decode cX5_init 91 = .ok (.putfield 41, 3) := by decide +kernel
theorem dX5_init_94 : decode cX5_init 94 = .ok (.aload_n 0, 1) := by decide +kernel
theorem dX5_init_95 : decode cX5_init 95 = .ok (.bipush 40, 2) := by decide +kernel
theorem dX5_init_97 : decode cX5_init 97 = .ok (.newarray .int, 2) := by decide +kernel
theorem dX5_init_99 : decode cX5_init 99 = .ok (.putfield 44, 3) := by decide +kernel
theorem dX5_init_102 : decode cX5_init 102 = .ok (.aload_n 0, 1) := by decide +kernel
theorem dX5_init_103 : decode cX5_init 103 = .ok (.bipush 80, 2) := by decide +kernel
theorem dX5_init_105 : decode cX5_init 105 = .ok (.newarray .int, 2) := by decide +kernel
theorem dX5_init_107 : decode cX5_init 107 = .ok (.putfield 47, 3) := by decide +kernel
theorem dX5_init_110 : decode cX5_init 110 = .ok (.aload_n 0, 1) := by decide +kernel
theorem dX5_init_111 : decode cX5_init 111 = .ok (.getfield 7, 3) := by decide +kernel
theorem dX5_init_114 : decode cX5_init 114 = .ok (.sipush 141, 3) := by decide +kernel
theorem dX5_init_117 : decode cX5_init 117 = .ok (.bipush 25, 2) := by decide +kernel
theorem dX5_init_119 : decode cX5_init 119 = .ok (.iastore, 1) := by decide +kernel
theorem dX5_init_120 : decode cX5_init 120 = .ok (.aload_n 0, 1) := by decide +kernel
theorem dX5_init_121 : decode cX5_init 121 = .ok (.invokevirtual 50, 3) := by decide +kernel
theorem dX5_init_124 : decode cX5_init 124 = .ok (.return_, 1) := by decide +kernel
theorem dX5_in_0 : decode cX5_in 0 = .ok (.iload_n 0, 1) := by decide +kernel
theorem dX5_in_1 : decode cX5_in 1 = .ok (.iload_n 1, 1) := by decide +kernel
theorem dX5_in_2 : decode cX5_in 2 = .ok (.if_icmp .lt 12, 3) := by decide +kernel
theorem dX5_in_5 : decode cX5_in 5 = .ok (.iload_n 0, 1) := by decide +kernel
theorem dX5_in_6 : decode cX5_in 6 = .ok (.iload_n 2, 1) := by decide +kernel
theorem dX5_in_7 : decode cX5_in 7 = .ok (.if_icmp .gt 7, 3) := by decide +kernel
theorem dX5_in_10 : decode cX5_in 10 = .ok (.iconst 1, 1) := by decide +kernel
theorem dX5_in_11 : decode cX5_in 11 = .ok (.goto 4, 3) := by decide +kernel
theorem dX5_in_14 : decode cX5_in 14 = .ok (.iconst 0, 1) := by decide +kernel
theorem dX5_in_15 : decode cX5_in 15 = .ok (.ireturn, 1) := by decide +kernel
theorem dX5_refuses_0 : decode cX5_refuses 0 = .ok (.aload_n 0, 1) := by decide +kernel
theorem dX5_refuses_1 : decode cX5_refuses 1 = .ok (.getfield 19, 3) := by decide +kernel
theorem dX5_refuses_4 : decode cX5_refuses 4 = .ok (.bipush (-2), 2) := by decide +kernel
theorem dX5_refuses_6 : decode cX5_refuses 6 = .ok (.iload_n 1, 1) := by decide +kernel
theorem dX5_refuses_7 : decode cX5_refuses 7 = .ok (.isub, 1) := by decide +kernel
theorem dX5_refuses_8 : decode cX5_refuses 8 = .ok (.dup2, 1) := by decide +kernel
theorem dX5_refuses_9 : decode cX5_refuses 9 = .ok (.iaload, 1) := by decide +kernel
theorem dX5_refuses_10 : decode cX5_refuses 10 = .ok (.iconst 1, 1) := by decide +kernel
theorem dX5_refuses_11 : decode cX5_refuses 11 = .ok (.iadd, 1) := by decide +kernel
theorem dX5_refuses_12 : decode cX5_refuses 12 = .ok (.iastore, 1) := by decide +kernel
theorem dX5_refuses_13 : decode cX5_refuses 13 = .ok (.iload_n 1, 1) := by decide +kernel
theorem dX5_refuses_14 : decode cX5_refuses 14 = .ok (.ireturn, 1) := by decide +kernel
theorem dX5_weights_0 : decode cX5_weights 0 = .ok (.iconst 0, 1) := by decide +kernel
theorem dX5_weights_1 : decode cX5_weights 1 = .ok (.istore_n 1, 1) := by decide +kernel
theorem dX5_weights_2 : decode cX5_weights 2 = .ok (.iconst 0, 1) := by decide +kernel
theorem dX5_weights_3 : decode cX5_weights 3 = .ok (.istore_n 2, 1) := by decide +kernel
theorem dX5_weights_4 : decode cX5_weights 4 = .ok (.iload_n 2, 1) := by decide +kernel
theorem dX5_weights_5 : decode cX5_weights 5 = .ok (.bipush 100, 2) := by decide +kernel
theorem dX5_weights_7 : decode cX5_weights 7 = .ok (.if_icmp .ge 18, 3) := by decide +kernel
theorem dX5_weights_10 : decode cX5_weights 10 = .ok (.iload_n 1, 1) := by decide +kernel
theorem dX5_weights_11 : decode cX5_weights 11 = .ok (.aload_n 0, 1) := by decide +kernel
theorem dX5_weights_12 : decode cX5_weights 12 = .ok (.getfield 7, 3) := by decide +kernel
theorem dX5_weights_15 : decode cX5_weights 15 = .ok (.iload_n 2, 1) := by decide +kernel
theorem dX5_weights_16 : decode cX5_weights 16 = .ok (.iaload, 1) := by decide +kernel
theorem dX5_weights_17 : decode cX5_weights 17 = .ok (.iadd, 1) := by decide +kernel
theorem dX5_weights_18 : decode cX5_weights 18 = .ok (.istore_n 1, 1) := by decide +kernel
theorem dX5_weights_19 : decode cX5_weights 19 = .ok (.iinc 2 1, 3) := by decide +kernel
theorem dX5_weights_22 : decode cX5_weights 22 = .ok (.goto (-18), 3) := by decide +kernel
theorem dX5_weights_25 : decode cX5_weights 25 = .ok (.iload_n 1, 1) := by decide +kernel
theorem dX5_weights_26 : decode cX5_weights 26 = .ok (.ireturn, 1) := by decide +kernel
set_option maxRecDepth 20000 in
theorem ggX5_bound_X5_weights : GoodIn wsX5_bound wsX5_weights := goodIn_r _ [6, 1, 7, 8, 9, 10, 11, 12, 13, 14, 15, 16, 17, 18, 19, 20, 21, 22, 23, 24, 25] (by decide +kernel) (by decide +kernel)
set_option maxRecDepth 20000 in
theorem gX5_bound_X5_weights : GoodIn wsX5_bound (wsV RX5 53 RX5 yX5_weights wsX5_weights) := goodIn_app (goodIn_of _ (by decide +kernel)) ggX5_bound_X5_weights
theorem dX5_bound_0 : decode cX5_bound 0 = .ok (.aload_n 0, 1) := by decide +kernel
theorem dX5_bound_1 : decode cX5_bound 1 = .ok (.getfield 7, 3) := by decide +kernel
theorem dX5_bound_4 : decode cX5_bound 4 = .ok (.sipush 140, 3) := by decide +kernel
theorem dX5_bound_7 : decode cX5_bound 7 = .ok (.iaload, 1) := by decide +kernel
theorem dX5_bound_8 : decode cX5_bound 8 = .ok (.aload_n 0, 1) := by decide +kernel
theorem dX5_bound_9 : decode cX5_bound 9 = .ok (.getfield 7, 3) := by decide +kernel
theorem dX5_bound_12 : decode cX5_bound 12 = .ok (.iload_n 1, 1) := by decide +kernel
theorem dX5_bound_13 : decode cX5_bound 13 = .ok (.iaload, 1) := by decide +kernel
theorem dX5_bound_14 : decode cX5_bound 14 = .ok (.imul, 1) := by decide +kernel
theorem dX5_bound_15 : decode cX5_bound 15 = .ok (.bipush 100, 2) := by decide +kernel
theorem dX5_bound_17 : decode cX5_bound 17 = .ok (.aload_n 0, 1) := by decide +kernel
theorem dX5_bound_18 : decode cX5_bound 18 = .ok (.getfield 7, 3) := by decide +kernel
theorem dX5_bound_21 : decode cX5_bound 21 = .ok (.sipush 141, 3) := by decide +kernel
theorem dX5_bound_24 : decode cX5_bound 24 = .ok (.iaload, 1) := by decide +kernel
theorem dX5_bound_25 : decode cX5_bound 25 = .ok (.iadd, 1) := by decide +kernel
theorem dX5_bound_26 : decode cX5_bound 26 = .ok (.imul, 1) := by decide +kernel
theorem dX5_bound_27 : decode cX5_bound 27 = .ok (.istore_n 2, 1) := by decide +kernel
theorem dX5_bound_28 : decode cX5_bound 28 = .ok (.bipush 100, 2) := by decide +kernel
theorem dX5_bound_30 : decode cX5_bound 30 = .ok (.aload_n 0, 1) := by decide +kernel
theorem dX5_bound_31 : decode cX5_bound 31 = .ok (.invokevirtual 53, 3) := by decide +kernel
theorem dX5_bound_34 : decode cX5_bound 34 = .ok (.imul, 1) := by decide +kernel
theorem dX5_bound_35 : decode cX5_bound 35 = .ok (.istore_n 3, 1) := by decide +kernel
theorem dX5_bound_36 : decode cX5_bound 36 = .ok (.iload_n 3, 1) := by decide +kernel
theorem dX5_bound_37 : decode cX5_bound 37 = .ok (.ifCond .ne 7, 3) := by decide +kernel
theorem dX5_bound_40 : decode cX5_bound 40 = .ok (.iconst 0, 1) := by decide +kernel
theorem dX5_bound_41 : decode cX5_bound 41 = .ok (.goto 10, 3) := by decide +kernel
theorem dX5_bound_44 : decode cX5_bound 44 = .ok (.iload_n 2, 1) := by decide +kernel
theorem dX5_bound_45 : decode cX5_bound 45 = .ok (.iload_n 3, 1) := by decide +kernel
theorem dX5_bound_46 : decode cX5_bound 46 = .ok (.iadd, 1) := by decide +kernel
theorem dX5_bound_47 : decode cX5_bound 47 = .ok (.iconst 1, 1) := by decide +kernel
theorem dX5_bound_48 : decode cX5_bound 48 = .ok (.isub, 1) := by decide +kernel
theorem dX5_bound_49 : decode cX5_bound 49 = .ok (.iload_n 3, 1) := by decide +kernel
theorem dX5_bound_50 : decode cX5_bound 50 = .ok (.idiv, 1) := by decide +kernel
theorem dX5_bound_51 : decode cX5_bound 51 = .ok (.ireturn, 1) := by decide +kernel
theorem dX5_first_0 : decode cX5_first 0 = .ok (.bipush 41, 2) := by decide +kernel
theorem dX5_first_2 : decode cX5_first 2 = .ok (.iload_n 0, 1) := by decide +kernel
theorem dX5_first_3 : decode cX5_first 3 = .ok (.imul, 1) := by decide +kernel
theorem dX5_first_4 : decode cX5_first 4 = .ok (.bipush 29, 2) := by decide +kernel
theorem dX5_first_6 : decode cX5_first 6 = .ok (.iload_n 1, 1) := by decide +kernel
theorem dX5_first_7 : decode cX5_first 7 = .ok (.imul, 1) := by decide +kernel
theorem dX5_first_8 : decode cX5_first 8 = .ok (.iadd, 1) := by decide +kernel
theorem dX5_first_9 : decode cX5_first 9 = .ok (.iconst 5, 1) := by decide +kernel
theorem dX5_first_10 : decode cX5_first 10 = .ok (.iadd, 1) := by decide +kernel
theorem dX5_first_11 : decode cX5_first 11 = .ok (.bipush 101, 2) := by decide +kernel
theorem dX5_first_13 : decode cX5_first 13 = .ok (.irem, 1) := by decide +kernel
theorem dX5_first_14 : decode cX5_first 14 = .ok (.ireturn, 1) := by decide +kernel
set_option maxRecDepth 20000 in
theorem ggX5_layMarks_X5_first : GoodIn wsX5_layMarks wsX5_first := goodIn_r _ [6] (by decide +kernel) (by decide +kernel)
set_option maxRecDepth 20000 in
theorem gX5_layMarks_X5_first : GoodIn wsX5_layMarks (va_wsS RX5 57 yX5_first wsX5_first) := goodIn_app (goodIn_of _ (by decide +kernel)) ggX5_layMarks_X5_first
theorem dX5_layMarks_0 : decode cX5_layMarks 0 = .ok (.iconst 0, 1) := by decide +kernel
theorem dX5_layMarks_1 : decode cX5_layMarks 1 = .ok (.istore_n 1, 1) := by decide +kernel
theorem dX5_layMarks_2 : decode cX5_layMarks 2 = .ok (.iload_n 1, 1) := by decide +kernel
theorem dX5_layMarks_3 : decode cX5_layMarks 3 = .ok (.bipush 101, 2) := by decide +kernel
theorem dX5_layMarks_5 : decode cX5_layMarks 5 = .ok (.if_icmp .ge 16, 3) := by decide +kernel
theorem dX5_layMarks_8 : decode cX5_layMarks 8 = .ok (.aload_n 0, 1) := by decide +kernel
theorem dX5_layMarks_9 : decode cX5_layMarks 9 = .ok (.getfield 22, 3) := by decide +kernel
theorem dX5_layMarks_12 : decode cX5_layMarks 12 = .ok (.iload_n 1, 1) := by decide +kernel
theorem dX5_layMarks_13 : decode cX5_layMarks 13 = .ok (.iconst (-1), 1) := by decide +kernel
theorem dX5_layMarks_14 : decode cX5_layMarks 14 = .ok (.iastore, 1) := by decide +kernel
theorem dX5_layMarks_15 : decode cX5_layMarks 15 = .ok (.iinc 1 1, 3) := by decide +kernel
theorem dX5_layMarks_18 : decode cX5_layMarks 18 = .ok (.goto (-16), 3) := by decide +kernel
theorem dX5_layMarks_21 : decode cX5_layMarks 21 = .ok (.iconst 0, 1) := by decide +kernel
theorem dX5_layMarks_22 : decode cX5_layMarks 22 = .ok (.istore_n 1, 1) := by decide +kernel
theorem dX5_layMarks_23 : decode cX5_layMarks 23 = .ok (.iload_n 1, 1) := by decide +kernel
theorem dX5_layMarks_24 : decode cX5_layMarks 24 = .ok (.bipush 100, 2) := by decide +kernel
theorem dX5_layMarks_26 : decode cX5_layMarks 26 = .ok (.if_icmp .ge 62, 3) := by decide +kernel
theorem dX5_layMarks_29 : decode cX5_layMarks 29 = .ok (.iconst 0, 1) := by decide +kernel
theorem dX5_layMarks_30 : decode cX5_layMarks 30 = .ok (.istore_n 2, 1) := by decide +kernel
theorem dX5_layMarks_31 : decode cX5_layMarks 31 = .ok (.iload_n 2, 1) := by decide +kernel
theorem dX5_layMarks_32 : decode cX5_layMarks 32 = .ok (.iconst 2, 1) := by decide +kernel
theorem dX5_layMarks_33 : decode cX5_layMarks 33 = .ok (.aload_n 0, 1) := by decide +kernel
theorem dX5_layMarks_34 : decode cX5_layMarks 34 = .ok (.getfield 7, 3) := by decide +kernel
theorem dX5_layMarks_37 : decode cX5_layMarks 37 = .ok (.iload_n 1, 1) := by decide +kernel
theorem dX5_layMarks_38 : decode cX5_layMarks 38 = .ok (.iaload, 1) := by decide +kernel
theorem dX5_layMarks_39 : decode cX5_layMarks 39 = .ok (.imul, 1) := by decide +kernel
theorem dX5_layMarks_40 : decode cX5_layMarks 40 = .ok (.if_icmp .ge 42, 3) := by decide +kernel
theorem dX5_layMarks_43 : decode cX5_layMarks 43 = .ok (.iload_n 1, 1) := by decide +kernel
theorem dX5_layMarks_44 : decode cX5_layMarks 44 = .ok (.iload_n 2, 1) := by decide +kernel
theorem dX5_layMarks_45 : decode cX5_layMarks 45 = .ok (.invokestatic 57, 3) := by decide +kernel
theorem dX5_layMarks_48 : decode cX5_layMarks 48 = .ok (.istore_n 3, 1) := by decide +kernel
theorem dX5_layMarks_49 : decode cX5_layMarks 49 = .ok (.aload_n 0, 1) := by decide +kernel
theorem dX5_layMarks_50 : decode cX5_layMarks 50 = .ok (.getfield 22, 3) := by decide +kernel
theorem dX5_layMarks_53 : decode cX5_layMarks 53 = .ok (.iload_n 3, 1) := by decide +kernel
theorem dX5_layMarks_54 : decode cX5_layMarks 54 = .ok (.iaload, 1) := by decide +kernel
theorem dX5_layMarks_55 : decode cX5_layMarks 55 = .ok (.iconst (-1), 1) := by decide +kernel
theorem dX5_layMarks_56 : decode cX5_layMarks 56 = .ok (.if_icmp .eq 13, 3) := by decide +kernel
theorem dX5_layMarks_59 : decode cX5_layMarks 59 = .ok (.iload_n 3, 1) := by decide +kernel
theorem dX5_layMarks_60 : decode cX5_layMarks 60 = .ok (.iconst 1, 1) := by decide +kernel
theorem dX5_layMarks_61 : decode cX5_layMarks 61 = .ok (.iadd, 1) := by decide +kernel
theorem dX5_layMarks_62 : decode cX5_layMarks 62 = .ok (.bipush 101, 2) := by decide +kernel
theorem dX5_layMarks_64 : decode cX5_layMarks 64 = .ok (.irem, 1) := by decide +kernel
theorem dX5_layMarks_65 : decode cX5_layMarks 65 = .ok (.istore_n 3, 1) := by decide +kernel
theorem dX5_layMarks_66 : decode cX5_layMarks 66 = .ok (.goto (-17), 3) := by decide +kernel
theorem dX5_layMarks_69 : decode cX5_layMarks 69 = .ok (.aload_n 0, 1) := by decide +kernel
theorem dX5_layMarks_70 : decode cX5_layMarks 70 = .ok (.getfield 22, 3) := by decide +kernel
theorem dX5_layMarks_73 : decode cX5_layMarks 73 = .ok (.iload_n 3, 1) := by decide +kernel
theorem dX5_layMarks_74 : decode cX5_layMarks 74 = .ok (.iload_n 1, 1) := by decide +kernel
theorem dX5_layMarks_75 : decode cX5_layMarks 75 = .ok (.iastore, 1) := by decide +kernel
theorem dX5_layMarks_76 : decode cX5_layMarks 76 = .ok (.iinc 2 1, 3) := by decide +kernel
theorem dX5_layMarks_79 : decode cX5_layMarks 79 = .ok (.goto (-48), 3) := by decide +kernel
theorem dX5_layMarks_82 : decode cX5_layMarks 82 = .ok (.iinc 1 1, 3) := by decide +kernel
theorem dX5_layMarks_85 : decode cX5_layMarks 85 = .ok (.goto (-62), 3) := by decide +kernel
theorem dX5_layMarks_88 : decode cX5_layMarks 88 = .ok (.return_, 1) := by decide +kernel
theorem dX5_placeOf_0 : decode cX5_placeOf 0 = .ok (.bipush 53, 2) := by decide +kernel
theorem dX5_placeOf_2 : decode cX5_placeOf 2 = .ok (.iload_n 0, 1) := by decide +kernel
theorem dX5_placeOf_3 : decode cX5_placeOf 3 = .ok (.imul, 1) := by decide +kernel
theorem dX5_placeOf_4 : decode cX5_placeOf 4 = .ok (.bipush 17, 2) := by decide +kernel
theorem dX5_placeOf_6 : decode cX5_placeOf 6 = .ok (.iadd, 1) := by decide +kernel
theorem dX5_placeOf_7 : decode cX5_placeOf 7 = .ok (.bipush 101, 2) := by decide +kernel
theorem dX5_placeOf_9 : decode cX5_placeOf 9 = .ok (.irem, 1) := by decide +kernel
theorem dX5_placeOf_10 : decode cX5_placeOf 10 = .ok (.ireturn, 1) := by decide +kernel
set_option maxRecDepth 20000 in
theorem ggX5_lay_X5_layMarks : GoodIn wsX5_lay wsX5_layMarks := goodIn_r _ [10, 4, 2, 11, 12, 9, 13, 29, 30, 31, 32, 33, 34, 35, 36, 37, 38, 39, 40, 41, 42, 43, 44, 45, 46, 47] (by decide +kernel) (by decide +kernel)
set_option maxRecDepth 20000 in
theorem gX5_lay_X5_layMarks : GoodIn wsX5_lay (wsV RX5 61 RX5 yX5_layMarks wsX5_layMarks) := goodIn_app (goodIn_of _ (by decide +kernel)) ggX5_lay_X5_layMarks
set_option maxRecDepth 20000 in
theorem ggX5_lay_X5_weights : GoodIn wsX5_lay wsX5_weights := goodIn_r _ [17, 2, 29, 30, 31, 32, 33, 34, 35, 36, 37, 38, 39, 40, 41, 42, 43, 44, 45, 46, 47] (by decide +kernel) (by decide +kernel)
set_option maxRecDepth 20000 in
theorem gX5_lay_X5_weights : GoodIn wsX5_lay (wsV RX5 53 RX5 yX5_weights wsX5_weights) := goodIn_app (goodIn_of _ (by decide +kernel)) ggX5_lay_X5_weights
set_option maxRecDepth 20000 in
theorem ggX5_lay_X5_placeOf : GoodIn wsX5_lay wsX5_placeOf := goodIn_r _ [20] (by decide +kernel) (by decide +kernel)
set_option maxRecDepth 20000 in
theorem gX5_lay_X5_placeOf : GoodIn wsX5_lay (va_wsS RX5 64 yX5_placeOf wsX5_placeOf) := goodIn_app (goodIn_of _ (by decide +kernel)) ggX5_lay_X5_placeOf
set_option maxRecDepth 20000 in
theorem ggX5_lay_X5_isRoom : GoodIn wsX5_lay wsX5_isRoom := goodIn_r _ [24, 4, 1, 25, 26, 27, 9, 28, 2, 14, 15, 16, 17, 29, 30, 31, 32, 33, 34, 35, 36, 37, 38, 39, 40, 41, 42, 43, 44, 45, 46, 47] (by decide +kernel) (by decide +kernel)
set_option maxRecDepth 20000 in
theorem gX5_lay_X5_isRoom : GoodIn wsX5_lay (wsV RX5 68 RX5 yX5_isRoom wsX5_isRoom) := goodIn_app (goodIn_of _ (by decide +kernel)) ggX5_lay_X5_isRoom
theorem dX5_lay_0 : decode cX5_lay 0 = .ok (.aload_n 0, 1) := by decide +kernel
theorem dX5_lay_1 : decode cX5_lay 1 = .ok (.invokevirtual 61, 3) := by decide +kernel
theorem dX5_lay_4 : decode cX5_lay 4 = .ok (.iconst 0, 1) := by decide +kernel
theorem dX5_lay_5 : decode cX5_lay 5 = .ok (.istore_n 1, 1) := by decide +kernel
theorem dX5_lay_6 : decode cX5_lay 6 = .ok (.iload_n 1, 1) := by decide +kernel
theorem dX5_lay_7 : decode cX5_lay 7 = .ok (.bipush 100, 2) := by decide +kernel
theorem dX5_lay_9 : decode cX5_lay 9 = .ok (.if_icmp .ge 16, 3) := by decide +kernel
theorem dX5_lay_12 : decode cX5_lay 12 = .ok (.aload_n 0, 1) := by decide +kernel
theorem dX5_lay_13 : decode cX5_lay 13 = .ok (.getfield 31, 3) := by decide +kernel
theorem dX5_lay_16 : decode cX5_lay 16 = .ok (.iload_n 1, 1) := by decide +kernel
theorem dX5_lay_17 : decode cX5_lay 17 = .ok (.iconst 0, 1) := by decide +kernel
theorem dX5_lay_18 : decode cX5_lay 18 = .ok (.iastore, 1) := by decide +kernel
theorem dX5_lay_19 : decode cX5_lay 19 = .ok (.iinc 1 1, 3) := by decide +kernel
theorem dX5_lay_22 : decode cX5_lay 22 = .ok (.goto (-16), 3) := by decide +kernel
theorem dX5_lay_25 : decode cX5_lay 25 = .ok (.aload_n 0, 1) := by decide +kernel
theorem dX5_lay_26 : decode cX5_lay 26 = .ok (.invokevirtual 53, 3) := by decide +kernel
theorem dX5_lay_29 : decode cX5_lay 29 = .ok (.ifCond .ne 7, 3) := by decide +kernel
theorem dX5_lay_32 : decode cX5_lay 32 = .ok (.iconst 1, 1) := by decide +kernel
theorem dX5_lay_33 : decode cX5_lay 33 = .ok (.goto 4, 3) := by decide +kernel
theorem dX5_lay_36 : decode cX5_lay 36 = .ok (.iconst 0, 1) := by decide +kernel
theorem dX5_lay_37 : decode cX5_lay 37 = .ok (.istore_n 1, 1) := by decide +kernel
theorem dX5_lay_38 : decode cX5_lay 38 = .ok (.iconst 0, 1) := by decide +kernel
theorem dX5_lay_39 : decode cX5_lay 39 = .ok (.istore_n 2, 1) := by decide +kernel
theorem dX5_lay_40 : decode cX5_lay 40 = .ok (.iload_n 2, 1) := by decide +kernel
theorem dX5_lay_41 : decode cX5_lay 41 = .ok (.aload_n 0, 1) := by decide +kernel
theorem dX5_lay_42 : decode cX5_lay 42 = .ok (.getfield 7, 3) := by decide +kernel
theorem dX5_lay_45 : decode cX5_lay 45 = .ok (.sipush 140, 3) := by decide +kernel
theorem dX5_lay_48 : decode cX5_lay 48 = .ok (.iaload, 1) := by decide +kernel
theorem dX5_lay_49 : decode cX5_lay 49 = .ok (.if_icmp .ge 103, 3) := by decide +kernel
theorem dX5_lay_52 : decode cX5_lay 52 = .ok (.aload_n 0, 1) := by decide +kernel
theorem dX5_lay_53 : decode cX5_lay 53 = .ok (.getfield 7, 3) := by decide +kernel
theorem dX5_lay_56 : decode cX5_lay 56 = .ok (.bipush 100, 2) := by decide +kernel
theorem dX5_lay_58 : decode cX5_lay 58 = .ok (.iload_n 2, 1) := by decide +kernel
theorem dX5_lay_59 : decode cX5_lay 59 = .ok (.iadd, 1) := by decide +kernel
theorem dX5_lay_60 : decode cX5_lay 60 = .ok (.iaload, 1) := by decide +kernel
theorem dX5_lay_61 : decode cX5_lay 61 = .ok (.invokestatic 64, 3) := by decide +kernel
theorem dX5_lay_64 : decode cX5_lay 64 = .ok (.istore_n 3, 1) := by decide +kernel
theorem dX5_lay_65 : decode cX5_lay 65 = .ok (.iconst 0, 1) := by decide +kernel
theorem dX5_lay_66 : decode cX5_lay 66 = .ok (.istore 4, 2) := by decide +kernel
theorem dX5_lay_68 : decode cX5_lay 68 = .ok (.iload 4, 2) := by decide +kernel
theorem dX5_lay_70 : decode cX5_lay 70 = .ok (.bipush 101, 2) := by decide +kernel
theorem dX5_lay_72 : decode cX5_lay 72 = .ok (.if_icmp .ge 28, 3) := by decide +kernel
theorem dX5_lay_75 : decode cX5_lay 75 = .ok (.iload_n 1, 1) := by decide +kernel
theorem dX5_lay_76 : decode cX5_lay 76 = .ok (.ifCond .ne 24, 3) := by decide +kernel
theorem dX5_lay_79 : decode cX5_lay 79 = .ok (.aload_n 0, 1) := by decide +kernel
theorem dX5_lay_80 : decode cX5_lay 80 = .ok (.iload_n 3, 1) := by decide +kernel
theorem dX5_lay_81 : decode cX5_lay 81 = .ok (.invokevirtual 68, 3) := by decide +kernel
theorem dX5_lay_84 : decode cX5_lay 84 = .ok (.ifCond .ne 16, 3) := by decide +kernel
theorem dX5_lay_87 : decode cX5_lay 87 = .ok (.iload_n 3, 1) := by decide +kernel
theorem dX5_lay_88 : decode cX5_lay 88 = .ok (.iconst 1, 1) := by decide +kernel
theorem dX5_lay_89 : decode cX5_lay 89 = .ok (.iadd, 1) := by decide +kernel
theorem dX5_lay_90 : decode cX5_lay 90 = .ok (.bipush 101, 2) := by decide +kernel
theorem dX5_lay_92 : decode cX5_lay 92 = .ok (.irem, 1) := by decide +kernel
theorem dX5_lay_93 : decode cX5_lay 93 = .ok (.istore_n 3, 1) := by decide +kernel
theorem dX5_lay_94 : decode cX5_lay 94 = .ok (.iinc 4 1, 3) := by decide +kernel
theorem dX5_lay_97 : decode cX5_lay 97 = .ok (.goto (-29), 3) := by decide +kernel
theorem dX5_lay_100 : decode cX5_lay 100 = .ok (.aload_n 0, 1) := by decide +kernel
theorem dX5_lay_101 : decode cX5_lay 101 = .ok (.getfield 25, 3) := by decide +kernel
theorem dX5_lay_104 : decode cX5_lay 104 = .ok (.iload_n 2, 1) := by decide +kernel
theorem dX5_lay_105 : decode cX5_lay 105 = .ok (.iload_n 1, 1) := by decide +kernel
theorem dX5_lay_106 : decode cX5_lay 106 = .ok (.ifCond .eq 7, 3) := by decide +kernel
theorem dX5_lay_109 : decode cX5_lay 109 = .ok (.iconst (-1), 1) := by decide +kernel
theorem dX5_lay_110 : decode cX5_lay 110 = .ok (.goto 9, 3) := by decide +kernel
theorem dX5_lay_113 : decode cX5_lay 113 = .ok (.aload_n 0, 1) := by decide +kernel
theorem dX5_lay_114 : decode cX5_lay 114 = .ok (.getfield 22, 3) := by decide +kernel
theorem dX5_lay_117 : decode cX5_lay 117 = .ok (.iload_n 3, 1) := by decide +kernel
theorem dX5_lay_118 : decode cX5_lay 118 = .ok (.iaload, 1) := by decide +kernel
theorem dX5_lay_119 : decode cX5_lay 119 = .ok (.iastore, 1) := by decide +kernel
theorem dX5_lay_120 : decode cX5_lay 120 = .ok (.aload_n 0, 1) := by decide +kernel
theorem dX5_lay_121 : decode cX5_lay 121 = .ok (.getfield 28, 3) := by decide +kernel
theorem dX5_lay_124 : decode cX5_lay 124 = .ok (.iload_n 2, 1) := by decide +kernel
theorem dX5_lay_125 : decode cX5_lay 125 = .ok (.iload_n 3, 1) := by decide +kernel
theorem dX5_lay_126 : decode cX5_lay 126 = .ok (.iastore, 1) := by decide +kernel
theorem dX5_lay_127 : decode cX5_lay 127 = .ok (.iload_n 1, 1) := by decide +kernel
theorem dX5_lay_128 : decode cX5_lay 128 = .ok (.ifCond .ne 18, 3) := by decide +kernel
theorem dX5_lay_131 : decode cX5_lay 131 = .ok (.aload_n 0, 1) := by decide +kernel
theorem dX5_lay_132 : decode cX5_lay 132 = .ok (.getfield 31, 3) := by decide +kernel
theorem dX5_lay_135 : decode cX5_lay 135 = .ok (.aload_n 0, 1) := by decide +kernel
theorem dX5_lay_136 : decode cX5_lay 136 = .ok (.getfield 22, 3) := by decide +kernel
theorem dX5_lay_139 : decode cX5_lay 139 = .ok (.iload_n 3, 1) := by decide +kernel
theorem dX5_lay_140 : decode cX5_lay 140 = .ok (.iaload, 1) := by decide +kernel
theorem dX5_lay_141 : decode cX5_lay 141 = .ok (.dup2, 1) := by decide +kernel
theorem dX5_lay_142 : decode cX5_lay 142 = .ok (.iaload, 1) := by decide +kernel
theorem dX5_lay_143 : decode cX5_lay 143 = .ok (.iconst 1, 1) := by decide +kernel
theorem dX5_lay_144 : decode cX5_lay 144 = .ok (.iadd, 1) := by decide +kernel
theorem dX5_lay_145 : decode cX5_lay 145 = .ok (.iastore, 1) := by decide +kernel
theorem dX5_lay_146 : decode cX5_lay 146 = .ok (.iinc 2 1, 3) := by decide +kernel
theorem dX5_lay_149 : decode cX5_lay 149 = .ok (.goto (-109), 3) := by decide +kernel
theorem dX5_lay_152 : decode cX5_lay 152 = .ok (.return_, 1) := by decide +kernel
set_option maxRecDepth 20000 in
theorem ggX5_isRoom_X5_bound : GoodIn wsX5_isRoom wsX5_bound := goodIn_r _ [7, 8, 9, 10, 11, 6, 12, 13, 14, 15, 16, 17, 18, 19, 20, 21, 22, 23, 24, 25, 26, 27, 28, 29, 30, 31] (by decide +kernel) (by decide +kernel)
set_option maxRecDepth 20000 in
theorem gX5_isRoom_X5_bound : GoodIn wsX5_isRoom (wsV RX5 72 RX5 yX5_bound wsX5_bound) := goodIn_app (goodIn_of _ (by decide +kernel)) ggX5_isRoom_X5_bound
theorem dX5_isRoom_0 : decode cX5_isRoom 0 = .ok (.aload_n 0, 1) := by decide +kernel
theorem dX5_isRoom_1 : decode cX5_isRoom 1 = .ok (.getfield 22, 3) := by decide +kernel
theorem dX5_isRoom_4 : decode cX5_isRoom 4 = .ok (.iload_n 1, 1) := by decide +kernel
theorem dX5_isRoom_5 : decode cX5_isRoom 5 = .ok (.iaload, 1) := by decide +kernel
theorem dX5_isRoom_6 : decode cX5_isRoom 6 = .ok (.istore_n 2, 1) := by decide +kernel
theorem dX5_isRoom_7 : decode cX5_isRoom 7 = .ok (.iload_n 2, 1) := by decide +kernel
theorem dX5_isRoom_8 : decode cX5_isRoom 8 = .ok (.iconst (-1), 1) := by decide +kernel
theorem dX5_isRoom_9 : decode cX5_isRoom 9 = .ok (.if_icmp .eq 37, 3) := by decide +kernel
theorem dX5_isRoom_12 : decode cX5_isRoom 12 = .ok (.aload_n 0, 1) := by decide +kernel
theorem dX5_isRoom_13 : decode cX5_isRoom 13 = .ok (.getfield 31, 3) := by decide +kernel
theorem dX5_isRoom_16 : decode cX5_isRoom 16 = .ok (.iload_n 2, 1) := by decide +kernel
theorem dX5_isRoom_17 : decode cX5_isRoom 17 = .ok (.ifCond .ge 7, 3) := by decide +kernel
theorem dX5_isRoom_20 : decode cX5_isRoom 20 = .ok (.iconst 0, 1) := by decide +kernel
theorem dX5_isRoom_21 : decode cX5_isRoom 21 = .ok (.goto 4, 3) := by decide +kernel
theorem dX5_isRoom_24 : decode cX5_isRoom 24 = .ok (.iload_n 2, 1) := by decide +kernel
theorem dX5_isRoom_25 : decode cX5_isRoom 25 = .ok (.iaload, 1) := by decide +kernel
theorem dX5_isRoom_26 : decode cX5_isRoom 26 = .ok (.aload_n 0, 1) := by decide +kernel
theorem dX5_isRoom_27 : decode cX5_isRoom 27 = .ok (.iload_n 2, 1) := by decide +kernel
theorem dX5_isRoom_28 : decode cX5_isRoom 28 = .ok (.ifCond .ge 7, 3) := by decide +kernel
theorem dX5_isRoom_31 : decode cX5_isRoom 31 = .ok (.iconst 0, 1) := by decide +kernel
theorem dX5_isRoom_32 : decode cX5_isRoom 32 = .ok (.goto 4, 3) := by decide +kernel
theorem dX5_isRoom_35 : decode cX5_isRoom 35 = .ok (.iload_n 2, 1) := by decide +kernel
theorem dX5_isRoom_36 : decode cX5_isRoom 36 = .ok (.invokevirtual 72, 3) := by decide +kernel
theorem dX5_isRoom_39 : decode cX5_isRoom 39 = .ok (.if_icmp .ge 7, 3) := by decide +kernel
theorem dX5_isRoom_42 : decode cX5_isRoom 42 = .ok (.iconst 1, 1) := by decide +kernel
theorem dX5_isRoom_43 : decode cX5_isRoom 43 = .ok (.goto 4, 3) := by decide +kernel
theorem dX5_isRoom_46 : decode cX5_isRoom 46 = .ok (.iconst 0, 1) := by decide +kernel
theorem dX5_isRoom_47 : decode cX5_isRoom 47 = .ok (.ireturn, 1) := by decide +kernel
theorem dX5_hold_0 : decode cX5_hold 0 = .ok (.iconst 0, 1) := by decide +kernel
theorem dX5_hold_1 : decode cX5_hold 1 = .ok (.istore_n 1, 1) := by decide +kernel
theorem dX5_hold_2 : decode cX5_hold 2 = .ok (.iload_n 1, 1) := by decide +kernel
theorem dX5_hold_3 : decode cX5_hold 3 = .ok (.sipush 143, 3) := by decide +kernel
theorem dX5_hold_6 : decode cX5_hold 6 = .ok (.if_icmp .ge 21, 3) := by decide +kernel
theorem dX5_hold_9 : decode cX5_hold 9 = .ok (.aload_n 0, 1) := by decide +kernel
theorem dX5_hold_10 : decode cX5_hold 10 = .ok (.getfield 13, 3) := by decide +kernel
theorem dX5_hold_13 : decode cX5_hold 13 = .ok (.iload_n 1, 1) := by decide +kernel
theorem dX5_hold_14 : decode cX5_hold 14 = .ok (.aload_n 0, 1) := by decide +kernel
theorem dX5_hold_15 : decode cX5_hold 15 = .ok (.getfield 7, 3) := by decide +kernel
theorem dX5_hold_18 : decode cX5_hold 18 = .ok (.iload_n 1, 1) := by decide +kernel
theorem dX5_hold_19 : decode cX5_hold 19 = .ok (.iaload, 1) := by decide +kernel
theorem dX5_hold_20 : decode cX5_hold 20 = .ok (.iastore, 1) := by decide +kernel
theorem dX5_hold_21 : decode cX5_hold 21 = .ok (.iinc 1 1, 3) := by decide +kernel
theorem dX5_hold_24 : decode cX5_hold 24 = .ok (.goto (-22), 3) := by decide +kernel
theorem dX5_hold_27 : decode cX5_hold 27 = .ok (.iconst 0, 1) := by decide +kernel
theorem dX5_hold_28 : decode cX5_hold 28 = .ok (.istore_n 1, 1) := by decide +kernel
theorem dX5_hold_29 : decode cX5_hold 29 = .ok (.iload_n 1, 1) := by decide +kernel
theorem dX5_hold_30 : decode cX5_hold 30 = .ok (.bipush 40, 2) := by decide +kernel
theorem dX5_hold_32 : decode cX5_hold 32 = .ok (.if_icmp .ge 21, 3) := by decide +kernel
theorem dX5_hold_35 : decode cX5_hold 35 = .ok (.aload_n 0, 1) := by decide +kernel
theorem dX5_hold_36 : decode cX5_hold 36 = .ok (.getfield 34, 3) := by decide +kernel
theorem dX5_hold_39 : decode cX5_hold 39 = .ok (.iload_n 1, 1) := by decide +kernel
theorem dX5_hold_40 : decode cX5_hold 40 = .ok (.aload_n 0, 1) := by decide +kernel
theorem dX5_hold_41 : decode cX5_hold 41 = .ok (.getfield 25, 3) := by decide +kernel
theorem dX5_hold_44 : decode cX5_hold 44 = .ok (.iload_n 1, 1) := by decide +kernel
theorem dX5_hold_45 : decode cX5_hold 45 = .ok (.iaload, 1) := by decide +kernel
theorem dX5_hold_46 : decode cX5_hold 46 = .ok (.iastore, 1) := by decide +kernel
theorem dX5_hold_47 : decode cX5_hold 47 = .ok (.iinc 1 1, 3) := by decide +kernel
theorem dX5_hold_50 : decode cX5_hold 50 = .ok (.goto (-21), 3) := by decide +kernel
theorem dX5_hold_53 : decode cX5_hold 53 = .ok (.return_, 1) := by decide +kernel
theorem dX5_release_0 : decode cX5_release 0 = .ok (.iconst 0, 1) := by decide +kernel
theorem dX5_release_1 : decode cX5_release 1 = .ok (.istore_n 1, 1) := by decide +kernel
theorem dX5_release_2 : decode cX5_release 2 = .ok (.iload_n 1, 1) := by decide +kernel
theorem dX5_release_3 : decode cX5_release 3 = .ok (.sipush 143, 3) := by decide +kernel
theorem dX5_release_6 : decode cX5_release 6 = .ok (.if_icmp .ge 21, 3) := by decide +kernel
theorem dX5_release_9 : decode cX5_release 9 = .ok (.aload_n 0, 1) := by decide +kernel
theorem dX5_release_10 : decode cX5_release 10 = .ok (.getfield 7, 3) := by decide +kernel
theorem dX5_release_13 : decode cX5_release 13 = .ok (.iload_n 1, 1) := by decide +kernel
theorem dX5_release_14 : decode cX5_release 14 = .ok (.aload_n 0, 1) := by decide +kernel
theorem dX5_release_15 : decode cX5_release 15 = .ok (.getfield 13, 3) := by decide +kernel
theorem dX5_release_18 : decode cX5_release 18 = .ok (.iload_n 1, 1) := by decide +kernel
theorem dX5_release_19 : decode cX5_release 19 = .ok (.iaload, 1) := by decide +kernel
theorem dX5_release_20 : decode cX5_release 20 = .ok (.iastore, 1) := by decide +kernel
theorem dX5_release_21 : decode cX5_release 21 = .ok (.iinc 1 1, 3) := by decide +kernel
theorem dX5_release_24 : decode cX5_release 24 = .ok (.goto (-22), 3) := by decide +kernel
theorem dX5_release_27 : decode cX5_release 27 = .ok (.return_, 1) := by decide +kernel
theorem dX5_moved_0 : decode cX5_moved 0 = .ok (.iconst 0, 1) := by decide +kernel
theorem dX5_moved_1 : decode cX5_moved 1 = .ok (.istore_n 1, 1) := by decide +kernel
theorem dX5_moved_2 : decode cX5_moved 2 = .ok (.iconst 0, 1) := by decide +kernel
theorem dX5_moved_3 : decode cX5_moved 3 = .ok (.istore_n 2, 1) := by decide +kernel
theorem dX5_moved_4 : decode cX5_moved 4 = .ok (.iload_n 2, 1) := by decide +kernel
theorem dX5_moved_5 : decode cX5_moved 5 = .ok (.aload_n 0, 1) := by decide +kernel
theorem dX5_moved_6 : decode cX5_moved 6 = .ok (.getfield 7, 3) := by decide +kernel
theorem dX5_moved_9 : decode cX5_moved 9 = .ok (.sipush 140, 3) := by decide +kernel
theorem dX5_moved_12 : decode cX5_moved 12 = .ok (.iaload, 1) := by decide +kernel
theorem dX5_moved_13 : decode cX5_moved 13 = .ok (.if_icmp .ge 73, 3) := by decide +kernel
theorem dX5_moved_16 : decode cX5_moved 16 = .ok (.iconst 0, 1) := by decide +kernel
theorem dX5_moved_17 : decode cX5_moved 17 = .ok (.istore_n 3, 1) := by decide +kernel
theorem dX5_moved_18 : decode cX5_moved 18 = .ok (.iload_n 3, 1) := by decide +kernel
theorem dX5_moved_19 : decode cX5_moved 19 = .ok (.aload_n 0, 1) := by decide +kernel
theorem dX5_moved_20 : decode cX5_moved 20 = .ok (.getfield 13, 3) := by decide +kernel
theorem dX5_moved_23 : decode cX5_moved 23 = .ok (.sipush 140, 3) := by decide +kernel
theorem dX5_moved_26 : decode cX5_moved 26 = .ok (.iaload, 1) := by decide +kernel
theorem dX5_moved_27 : decode cX5_moved 27 = .ok (.if_icmp .ge 53, 3) := by decide +kernel
theorem dX5_moved_30 : decode cX5_moved 30 = .ok (.iload_n 1, 1) := by decide +kernel
theorem dX5_moved_31 : decode cX5_moved 31 = .ok (.aload_n 0, 1) := by decide +kernel
theorem dX5_moved_32 : decode cX5_moved 32 = .ok (.getfield 7, 3) := by decide +kernel
theorem dX5_moved_35 : decode cX5_moved 35 = .ok (.bipush 100, 2) := by decide +kernel
theorem dX5_moved_37 : decode cX5_moved 37 = .ok (.iload_n 2, 1) := by decide +kernel
theorem dX5_moved_38 : decode cX5_moved 38 = .ok (.iadd, 1) := by decide +kernel
theorem dX5_moved_39 : decode cX5_moved 39 = .ok (.iaload, 1) := by decide +kernel
theorem dX5_moved_40 : decode cX5_moved 40 = .ok (.aload_n 0, 1) := by decide +kernel
theorem dX5_moved_41 : decode cX5_moved 41 = .ok (.getfield 13, 3) := by decide +kernel
theorem dX5_moved_44 : decode cX5_moved 44 = .ok (.bipush 100, 2) := by decide +kernel
theorem dX5_moved_46 : decode cX5_moved 46 = .ok (.iload_n 3, 1) := by decide +kernel
theorem dX5_moved_47 : decode cX5_moved 47 = .ok (.iadd, 1) := by decide +kernel
theorem dX5_moved_48 : decode cX5_moved 48 = .ok (.iaload, 1) := by decide +kernel
theorem dX5_moved_49 : decode cX5_moved 49 = .ok (.if_icmp .ne 22, 3) := by decide +kernel
theorem dX5_moved_52 : decode cX5_moved 52 = .ok (.aload_n 0, 1) := by decide +kernel
theorem dX5_moved_53 : decode cX5_moved 53 = .ok (.getfield 25, 3) := by decide +kernel
theorem dX5_moved_56 : decode cX5_moved 56 = .ok (.iload_n 2, 1) := by decide +kernel
theorem dX5_moved_57 : decode cX5_moved 57 = .ok (.iaload, 1) := by decide +kernel
theorem dX5_moved_58 : decode cX5_moved 58 = .ok (.aload_n 0, 1) := by decide +kernel
theorem dX5_moved_59 : decode cX5_moved 59 = .ok (.getfield 34, 3) := by decide +kernel
theorem dX5_moved_62 : decode cX5_moved 62 = .ok (.iload_n 3, 1) := by decide +kernel
theorem dX5_moved_63 : decode cX5_moved 63 = .ok (.iaload, 1) := by decide +kernel
theorem dX5_moved_64 : decode cX5_moved 64 = .ok (.if_icmp .eq 7, 3) := by decide +kernel
theorem dX5_moved_67 : decode cX5_moved 67 = .ok (.iconst 1, 1) := by decide +kernel
theorem dX5_moved_68 : decode cX5_moved 68 = .ok (.goto 4, 3) := by decide +kernel
theorem dX5_moved_71 : decode cX5_moved 71 = .ok (.iconst 0, 1) := by decide +kernel
theorem dX5_moved_72 : decode cX5_moved 72 = .ok (.iadd, 1) := by decide +kernel
theorem dX5_moved_73 : decode cX5_moved 73 = .ok (.istore_n 1, 1) := by decide +kernel
theorem dX5_moved_74 : decode cX5_moved 74 = .ok (.iinc 3 1, 3) := by decide +kernel
theorem dX5_moved_77 : decode cX5_moved 77 = .ok (.goto (-59), 3) := by decide +kernel
theorem dX5_moved_80 : decode cX5_moved 80 = .ok (.iinc 2 1, 3) := by decide +kernel
theorem dX5_moved_83 : decode cX5_moved 83 = .ok (.goto (-79), 3) := by decide +kernel
theorem dX5_moved_86 : decode cX5_moved 86 = .ok (.iload_n 1, 1) := by decide +kernel
theorem dX5_moved_87 : decode cX5_moved 87 = .ok (.ireturn, 1) := by decide +kernel
set_option maxRecDepth 20000 in
theorem ggX5_push_X5_lay : GoodIn wsX5_push wsX5_lay := goodIn_r _ [9, 10, 1, 11, 12, 13, 14, 15, 16, 8, 17, 18, 19, 20, 21, 22, 23, 24, 25, 26, 27, 28, 29, 30, 31, 32, 33, 34, 35, 41, 42, 43, 44, 45, 46, 47, 48, 49, 50, 51, 52, 53, 54, 55, 56, 57, 58, 59] (by decide +kernel) (by decide +kernel)
set_option maxRecDepth 20000 in
theorem gX5_push_X5_lay : GoodIn wsX5_push (wsV RX5 50 RX5 yX5_lay wsX5_lay) := goodIn_app (goodIn_of _ (by decide +kernel)) ggX5_push_X5_lay
set_option maxRecDepth 20000 in
theorem ggX5_push_X5_moved : GoodIn wsX5_push wsX5_moved := goodIn_r _ [39, 1, 4, 11, 40, 41, 42, 43, 44, 45, 46, 47, 48, 49, 50, 51, 52, 53, 54, 55, 56, 57, 58, 59] (by decide +kernel) (by decide +kernel)
set_option maxRecDepth 20000 in
theorem gX5_push_X5_moved : GoodIn wsX5_push (wsV RX5 75 RX5 yX5_moved wsX5_moved) := goodIn_app (goodIn_of _ (by decide +kernel)) ggX5_push_X5_moved
theorem dX5_push_0 : decode cX5_push 0 = .ok (.aload_n 0, 1) := by decide +kernel
theorem dX5_push_1 : decode cX5_push 1 = .ok (.invokevirtual 50, 3) := by decide +kernel
end
section
theorem dX5_push_4 : decode cX5_push 4 = .ok (.aload_n 0, 1) := by decide +kernel
theorem dX5_push_5 : decode cX5_push 5 = .ok (.getfield 7, 3) := by decide +kernel
theorem dX5_push_8 : decode cX5_push 8 = .ok (.sipush 142, 3) := by decide +kernel
theorem dX5_push_11 : decode cX5_push 11 = .ok (.aload_n 0, 1) := by decide +kernel
theorem dX5_push_12 : decode cX5_push 12 = .ok (.invokevirtual 75, 3) := by decide +kernel
theorem dX5_push_15 : decode cX5_push 15 = .ok (.iastore, 1) := by decide +kernel
theorem dX5_push_16 : decode cX5_push 16 = .ok (.aload_n 0, 1) := by decide +kernel
theorem dX5_push_17 : decode cX5_push 17 = .ok (.getfield 78, 3) := by decide +kernel
theorem dX5_push_20 : decode cX5_push 20 = .ok (.iconst 5, 1) := by decide +kernel
theorem dX5_push_21 : decode cX5_push 21 = .ok (.if_icmp .ne 44, 3) := by decide +kernel
theorem dX5_push_24 : decode cX5_push 24 = .ok (.iconst 0, 1) := by decide +kernel
theorem dX5_push_25 : decode cX5_push 25 = .ok (.istore_n 1, 1) := by decide +kernel
theorem dX5_push_26 : decode cX5_push 26 = .ok (.iload_n 1, 1) := by decide +kernel
theorem dX5_push_27 : decode cX5_push 27 = .ok (.sipush 572, 3) := by decide +kernel
theorem dX5_push_30 : decode cX5_push 30 = .ok (.if_icmp .ge 25, 3) := by decide +kernel
theorem dX5_push_33 : decode cX5_push 33 = .ok (.aload_n 0, 1) := by decide +kernel
theorem dX5_push_34 : decode cX5_push 34 = .ok (.getfield 16, 3) := by decide +kernel
theorem dX5_push_37 : decode cX5_push 37 = .ok (.iload_n 1, 1) := by decide +kernel
theorem dX5_push_38 : decode cX5_push 38 = .ok (.aload_n 0, 1) := by decide +kernel
theorem dX5_push_39 : decode cX5_push 39 = .ok (.getfield 16, 3) := by decide +kernel
theorem dX5_push_42 : decode cX5_push 42 = .ok (.iload_n 1, 1) := by decide +kernel
theorem dX5_push_43 : decode cX5_push 43 = .ok (.sipush 143, 3) := by decide +kernel
theorem dX5_push_46 : decode cX5_push 46 = .ok (.iadd, 1) := by decide +kernel
theorem dX5_push_47 : decode cX5_push 47 = .ok (.iaload, 1) := by decide +kernel
theorem dX5_push_48 : decode cX5_push 48 = .ok (.iastore, 1) := by decide +kernel
theorem dX5_push_49 : decode cX5_push 49 = .ok (.iinc 1 1, 3) := by decide +kernel
theorem dX5_push_52 : decode cX5_push 52 = .ok (.goto (-26), 3) := by decide +kernel
theorem dX5_push_55 : decode cX5_push 55 = .ok (.aload_n 0, 1) := by decide +kernel
theorem dX5_push_56 : decode cX5_push 56 = .ok (.dup, 1) := by decide +kernel
theorem dX5_push_57 : decode cX5_push 57 = .ok (.getfield 78, 3) := by decide +kernel
theorem dX5_push_60 : decode cX5_push 60 = .ok (.iconst 1, 1) := by decide +kernel
theorem dX5_push_61 : decode cX5_push 61 = .ok (.isub, 1) := by decide +kernel
theorem dX5_push_62 : decode cX5_push 62 = .ok (.putfield 78, 3) := by decide +kernel
theorem dX5_push_65 : decode cX5_push 65 = .ok (.iconst 0, 1) := by decide +kernel
theorem dX5_push_66 : decode cX5_push 66 = .ok (.istore_n 1, 1) := by decide +kernel
theorem dX5_push_67 : decode cX5_push 67 = .ok (.iload_n 1, 1) := by decide +kernel
theorem dX5_push_68 : decode cX5_push 68 = .ok (.sipush 143, 3) := by decide +kernel
theorem dX5_push_71 : decode cX5_push 71 = .ok (.if_icmp .ge 30, 3) := by decide +kernel
theorem dX5_push_74 : decode cX5_push 74 = .ok (.aload_n 0, 1) := by decide +kernel
theorem dX5_push_75 : decode cX5_push 75 = .ok (.getfield 16, 3) := by decide +kernel
theorem dX5_push_78 : decode cX5_push 78 = .ok (.sipush 143, 3) := by decide +kernel
theorem dX5_push_81 : decode cX5_push 81 = .ok (.aload_n 0, 1) := by decide +kernel
theorem dX5_push_82 : decode cX5_push 82 = .ok (.getfield 78, 3) := by decide +kernel
theorem dX5_push_85 : decode cX5_push 85 = .ok (.imul, 1) := by decide +kernel
theorem dX5_push_86 : decode cX5_push 86 = .ok (.iload_n 1, 1) := by decide +kernel
theorem dX5_push_87 : decode cX5_push 87 = .ok (.iadd, 1) := by decide +kernel
theorem dX5_push_88 : decode cX5_push 88 = .ok (.aload_n 0, 1) := by decide +kernel
theorem dX5_push_89 : decode cX5_push 89 = .ok (.getfield 13, 3) := by decide +kernel
theorem dX5_push_92 : decode cX5_push 92 = .ok (.iload_n 1, 1) := by decide +kernel
theorem dX5_push_93 : decode cX5_push 93 = .ok (.iaload, 1) := by decide +kernel
theorem dX5_push_94 : decode cX5_push 94 = .ok (.iastore, 1) := by decide +kernel
theorem dX5_push_95 : decode cX5_push 95 = .ok (.iinc 1 1, 3) := by decide +kernel
theorem dX5_push_98 : decode cX5_push 98 = .ok (.goto (-31), 3) := by decide +kernel
theorem dX5_push_101 : decode cX5_push 101 = .ok (.aload_n 0, 1) := by decide +kernel
theorem dX5_push_102 : decode cX5_push 102 = .ok (.dup, 1) := by decide +kernel
theorem dX5_push_103 : decode cX5_push 103 = .ok (.getfield 78, 3) := by decide +kernel
theorem dX5_push_106 : decode cX5_push 106 = .ok (.iconst 1, 1) := by decide +kernel
theorem dX5_push_107 : decode cX5_push 107 = .ok (.iadd, 1) := by decide +kernel
theorem dX5_push_108 : decode cX5_push 108 = .ok (.putfield 78, 3) := by decide +kernel
theorem dX5_push_111 : decode cX5_push 111 = .ok (.return_, 1) := by decide +kernel
set_option maxRecDepth 20000 in
theorem ggX5_ends_X5_refuses : GoodIn wsX5_ends wsX5_refuses := goodIn_r _ [6, 7, 50, 51, 52, 53, 54, 55, 56, 57, 58, 59, 60, 61, 62, 63, 64, 65, 66, 67, 68] (by decide +kernel) (by decide +kernel)
set_option maxRecDepth 20000 in
theorem gX5_ends_X5_refuses : GoodIn wsX5_ends (wsV RX5 82 RX5 yX5_refuses wsX5_refuses) := goodIn_app (goodIn_of _ (by decide +kernel)) ggX5_ends_X5_refuses
set_option maxRecDepth 20000 in
theorem ggX5_ends_X5_push : GoodIn wsX5_ends wsX5_push := goodIn_r _ [11, 1, 12, 13, 14, 15, 16, 17, 5, 18, 19, 20, 21, 22, 23, 24, 25, 26, 27, 28, 29, 30, 31, 32, 33, 34, 35, 36, 37, 38, 39, 40, 41, 42, 43, 44, 45, 46, 47, 48, 49, 50, 51, 52, 53, 54, 55, 56, 57, 58, 59, 60, 61, 62, 63, 64, 65, 66, 67, 68] (by decide +kernel) (by decide +kernel)
set_option maxRecDepth 20000 in
theorem gX5_ends_X5_push : GoodIn wsX5_ends (wsV RX5 85 RX5 yX5_push wsX5_push) := goodIn_app (goodIn_of _ (by decide +kernel)) ggX5_ends_X5_push
theorem dX5_ends_0 : decode cX5_ends 0 = .ok (.iload_n 1, 1) := by decide +kernel
theorem dX5_ends_1 : decode cX5_ends 1 = .ok (.ifCond .eq 9, 3) := by decide +kernel
theorem dX5_ends_4 : decode cX5_ends 4 = .ok (.aload_n 0, 1) := by decide +kernel
theorem dX5_ends_5 : decode cX5_ends 5 = .ok (.iload_n 1, 1) := by decide +kernel
theorem dX5_ends_6 : decode cX5_ends 6 = .ok (.invokevirtual 82, 3) := by decide +kernel
theorem dX5_ends_9 : decode cX5_ends 9 = .ok (.ireturn, 1) := by decide +kernel
theorem dX5_ends_10 : decode cX5_ends 10 = .ok (.aload_n 0, 1) := by decide +kernel
theorem dX5_ends_11 : decode cX5_ends 11 = .ok (.invokevirtual 85, 3) := by decide +kernel
theorem dX5_ends_14 : decode cX5_ends 14 = .ok (.aload_n 0, 1) := by decide +kernel
theorem dX5_ends_15 : decode cX5_ends 15 = .ok (.getfield 7, 3) := by decide +kernel
theorem dX5_ends_18 : decode cX5_ends 18 = .ok (.sipush 142, 3) := by decide +kernel
theorem dX5_ends_21 : decode cX5_ends 21 = .ok (.iaload, 1) := by decide +kernel
theorem dX5_ends_22 : decode cX5_ends 22 = .ok (.ireturn, 1) := by decide +kernel
set_option maxRecDepth 20000 in
theorem ggX5_back_X5_refuses : GoodIn wsX5_back wsX5_refuses := goodIn_r _ [8, 9, 40, 41, 42, 43, 44, 45, 46, 47, 48, 49, 50, 51, 52, 53, 54, 55, 56, 57, 58] (by decide +kernel) (by decide +kernel)
set_option maxRecDepth 20000 in
theorem gX5_back_X5_refuses : GoodIn wsX5_back (wsV RX5 82 RX5 yX5_refuses wsX5_refuses) := goodIn_app (goodIn_of _ (by decide +kernel)) ggX5_back_X5_refuses
set_option maxRecDepth 20000 in
theorem ggX5_back_X5_lay : GoodIn wsX5_back wsX5_lay := goodIn_r _ [13, 14, 2, 15, 16, 17, 18, 19, 20, 7, 21, 22, 23, 24, 25, 26, 27, 28, 29, 30, 31, 32, 33, 34, 35, 36, 37, 38, 39, 40, 41, 42, 43, 44, 45, 46, 47, 48, 49, 50, 51, 52, 53, 54, 55, 56, 57, 58] (by decide +kernel) (by decide +kernel)
set_option maxRecDepth 20000 in
theorem gX5_back_X5_lay : GoodIn wsX5_back (wsV RX5 50 RX5 yX5_lay wsX5_lay) := goodIn_app (goodIn_of _ (by decide +kernel)) ggX5_back_X5_lay
theorem dX5_back_0 : decode cX5_back 0 = .ok (.aload_n 0, 1) := by decide +kernel
theorem dX5_back_1 : decode cX5_back 1 = .ok (.getfield 78, 3) := by decide +kernel
theorem dX5_back_4 : decode cX5_back 4 = .ok (.ifCond .ne 10, 3) := by decide +kernel
theorem dX5_back_7 : decode cX5_back 7 = .ok (.aload_n 0, 1) := by decide +kernel
theorem dX5_back_8 : decode cX5_back 8 = .ok (.bipush (-3), 2) := by decide +kernel
theorem dX5_back_10 : decode cX5_back 10 = .ok (.invokevirtual 82, 3) := by decide +kernel
theorem dX5_back_13 : decode cX5_back 13 = .ok (.ireturn, 1) := by decide +kernel
theorem dX5_back_14 : decode cX5_back 14 = .ok (.aload_n 0, 1) := by decide +kernel
theorem dX5_back_15 : decode cX5_back 15 = .ok (.dup, 1) := by decide +kernel
theorem dX5_back_16 : decode cX5_back 16 = .ok (.getfield 78, 3) := by decide +kernel
theorem dX5_back_19 : decode cX5_back 19 = .ok (.iconst 1, 1) := by decide +kernel
theorem dX5_back_20 : decode cX5_back 20 = .ok (.isub, 1) := by decide +kernel
theorem dX5_back_21 : decode cX5_back 21 = .ok (.putfield 78, 3) := by decide +kernel
theorem dX5_back_24 : decode cX5_back 24 = .ok (.iconst 0, 1) := by decide +kernel
theorem dX5_back_25 : decode cX5_back 25 = .ok (.istore_n 1, 1) := by decide +kernel
theorem dX5_back_26 : decode cX5_back 26 = .ok (.iload_n 1, 1) := by decide +kernel
theorem dX5_back_27 : decode cX5_back 27 = .ok (.sipush 143, 3) := by decide +kernel
theorem dX5_back_30 : decode cX5_back 30 = .ok (.if_icmp .ge 30, 3) := by decide +kernel
theorem dX5_back_33 : decode cX5_back 33 = .ok (.aload_n 0, 1) := by decide +kernel
theorem dX5_back_34 : decode cX5_back 34 = .ok (.getfield 7, 3) := by decide +kernel
theorem dX5_back_37 : decode cX5_back 37 = .ok (.iload_n 1, 1) := by decide +kernel
theorem dX5_back_38 : decode cX5_back 38 = .ok (.aload_n 0, 1) := by decide +kernel
theorem dX5_back_39 : decode cX5_back 39 = .ok (.getfield 16, 3) := by decide +kernel
theorem dX5_back_42 : decode cX5_back 42 = .ok (.sipush 143, 3) := by decide +kernel
theorem dX5_back_45 : decode cX5_back 45 = .ok (.aload_n 0, 1) := by decide +kernel
theorem dX5_back_46 : decode cX5_back 46 = .ok (.getfield 78, 3) := by decide +kernel
theorem dX5_back_49 : decode cX5_back 49 = .ok (.imul, 1) := by decide +kernel
theorem dX5_back_50 : decode cX5_back 50 = .ok (.iload_n 1, 1) := by decide +kernel
theorem dX5_back_51 : decode cX5_back 51 = .ok (.iadd, 1) := by decide +kernel
theorem dX5_back_52 : decode cX5_back 52 = .ok (.iaload, 1) := by decide +kernel
theorem dX5_back_53 : decode cX5_back 53 = .ok (.iastore, 1) := by decide +kernel
theorem dX5_back_54 : decode cX5_back 54 = .ok (.iinc 1 1, 3) := by decide +kernel
theorem dX5_back_57 : decode cX5_back 57 = .ok (.goto (-31), 3) := by decide +kernel
theorem dX5_back_60 : decode cX5_back 60 = .ok (.aload_n 0, 1) := by decide +kernel
theorem dX5_back_61 : decode cX5_back 61 = .ok (.invokevirtual 50, 3) := by decide +kernel
theorem dX5_back_64 : decode cX5_back 64 = .ok (.aload_n 0, 1) := by decide +kernel
theorem dX5_back_65 : decode cX5_back 65 = .ok (.getfield 78, 3) := by decide +kernel
theorem dX5_back_68 : decode cX5_back 68 = .ok (.ireturn, 1) := by decide +kernel
set_option maxRecDepth 20000 in
theorem ggX5_isName_X5_in : GoodIn wsX5_isName wsX5_in := goodIn_r _ [4] (by decide +kernel) (by decide +kernel)
set_option maxRecDepth 20000 in
theorem gX5_isName_X5_in : GoodIn wsX5_isName (va_wsS RX5 88 yX5_in wsX5_in) := goodIn_app (goodIn_of _ (by decide +kernel)) ggX5_isName_X5_in
theorem dX5_isName_0 : decode cX5_isName 0 = .ok (.iload_n 0, 1) := by decide +kernel
theorem dX5_isName_1 : decode cX5_isName 1 = .ok (.iconst 0, 1) := by decide +kernel
theorem dX5_isName_2 : decode cX5_isName 2 = .ok (.bipush 99, 2) := by decide +kernel
theorem dX5_isName_4 : decode cX5_isName 4 = .ok (.invokestatic 88, 3) := by decide +kernel
theorem dX5_isName_7 : decode cX5_isName 7 = .ok (.ireturn, 1) := by decide +kernel
theorem dX5_isHost_0 : decode cX5_isHost 0 = .ok (.aload_n 0, 1) := by decide +kernel
theorem dX5_isHost_1 : decode cX5_isHost 1 = .ok (.getfield 7, 3) := by decide +kernel
theorem dX5_isHost_4 : decode cX5_isHost 4 = .ok (.iload_n 1, 1) := by decide +kernel
theorem dX5_isHost_5 : decode cX5_isHost 5 = .ok (.iaload, 1) := by decide +kernel
theorem dX5_isHost_6 : decode cX5_isHost 6 = .ok (.ifCond .le 7, 3) := by decide +kernel
theorem dX5_isHost_9 : decode cX5_isHost 9 = .ok (.iconst 1, 1) := by decide +kernel
theorem dX5_isHost_10 : decode cX5_isHost 10 = .ok (.goto 4, 3) := by decide +kernel
theorem dX5_isHost_13 : decode cX5_isHost 13 = .ok (.iconst 0, 1) := by decide +kernel
theorem dX5_isHost_14 : decode cX5_isHost 14 = .ok (.ireturn, 1) := by decide +kernel
set_option maxRecDepth 20000 in
theorem ggX5_hostMany_X5_isHost : GoodIn wsX5_hostMany wsX5_isHost := goodIn_r _ [5, 6, 7, 8, 9, 10, 11, 12, 13, 14, 15, 16, 17, 18, 19, 20, 21, 22, 23, 24, 25] (by decide +kernel) (by decide +kernel)
set_option maxRecDepth 20000 in
theorem gX5_hostMany_X5_isHost : GoodIn wsX5_hostMany (wsV RX5 92 RX5 yX5_isHost wsX5_isHost) := goodIn_app (goodIn_of _ (by decide +kernel)) ggX5_hostMany_X5_isHost
theorem dX5_hostMany_0 : decode cX5_hostMany 0 = .ok (.iconst 0, 1) := by decide +kernel
theorem dX5_hostMany_1 : decode cX5_hostMany 1 = .ok (.istore_n 1, 1) := by decide +kernel
theorem dX5_hostMany_2 : decode cX5_hostMany 2 = .ok (.iconst 0, 1) := by decide +kernel
theorem dX5_hostMany_3 : decode cX5_hostMany 3 = .ok (.istore_n 2, 1) := by decide +kernel
theorem dX5_hostMany_4 : decode cX5_hostMany 4 = .ok (.iload_n 2, 1) := by decide +kernel
theorem dX5_hostMany_5 : decode cX5_hostMany 5 = .ok (.bipush 100, 2) := by decide +kernel
theorem dX5_hostMany_7 : decode cX5_hostMany 7 = .ok (.if_icmp .ge 25, 3) := by decide +kernel
theorem dX5_hostMany_10 : decode cX5_hostMany 10 = .ok (.iload_n 1, 1) := by decide +kernel
theorem dX5_hostMany_11 : decode cX5_hostMany 11 = .ok (.aload_n 0, 1) := by decide +kernel
theorem dX5_hostMany_12 : decode cX5_hostMany 12 = .ok (.iload_n 2, 1) := by decide +kernel
theorem dX5_hostMany_13 : decode cX5_hostMany 13 = .ok (.invokevirtual 92, 3) := by decide +kernel
theorem dX5_hostMany_16 : decode cX5_hostMany 16 = .ok (.ifCond .eq 7, 3) := by decide +kernel
theorem dX5_hostMany_19 : decode cX5_hostMany 19 = .ok (.iconst 1, 1) := by decide +kernel
theorem dX5_hostMany_20 : decode cX5_hostMany 20 = .ok (.goto 4, 3) := by decide +kernel
theorem dX5_hostMany_23 : decode cX5_hostMany 23 = .ok (.iconst 0, 1) := by decide +kernel
theorem dX5_hostMany_24 : decode cX5_hostMany 24 = .ok (.iadd, 1) := by decide +kernel
theorem dX5_hostMany_25 : decode cX5_hostMany 25 = .ok (.istore_n 1, 1) := by decide +kernel
theorem dX5_hostMany_26 : decode cX5_hostMany 26 = .ok (.iinc 2 1, 3) := by decide +kernel
theorem dX5_hostMany_29 : decode cX5_hostMany 29 = .ok (.goto (-25), 3) := by decide +kernel
theorem dX5_hostMany_32 : decode cX5_hostMany 32 = .ok (.iload_n 1, 1) := by decide +kernel
theorem dX5_hostMany_33 : decode cX5_hostMany 33 = .ok (.ireturn, 1) := by decide +kernel
set_option maxRecDepth 20000 in
theorem ggX5_isKey_X5_in : GoodIn wsX5_isKey wsX5_in := goodIn_r _ [4] (by decide +kernel) (by decide +kernel)
set_option maxRecDepth 20000 in
theorem gX5_isKey_X5_in : GoodIn wsX5_isKey (va_wsS RX5 88 yX5_in wsX5_in) := goodIn_app (goodIn_of _ (by decide +kernel)) ggX5_isKey_X5_in
theorem dX5_isKey_0 : decode cX5_isKey 0 = .ok (.iload_n 0, 1) := by decide +kernel
theorem dX5_isKey_1 : decode cX5_isKey 1 = .ok (.iconst 0, 1) := by decide +kernel
theorem dX5_isKey_2 : decode cX5_isKey 2 = .ok (.sipush 999, 3) := by decide +kernel
theorem dX5_isKey_5 : decode cX5_isKey 5 = .ok (.invokestatic 88, 3) := by decide +kernel
theorem dX5_isKey_8 : decode cX5_isKey 8 = .ok (.ireturn, 1) := by decide +kernel
theorem dX5_rowOf_0 : decode cX5_rowOf 0 = .ok (.iconst (-1), 1) := by decide +kernel
theorem dX5_rowOf_1 : decode cX5_rowOf 1 = .ok (.istore_n 2, 1) := by decide +kernel
theorem dX5_rowOf_2 : decode cX5_rowOf 2 = .ok (.iconst 0, 1) := by decide +kernel
theorem dX5_rowOf_3 : decode cX5_rowOf 3 = .ok (.istore_n 3, 1) := by decide +kernel
theorem dX5_rowOf_4 : decode cX5_rowOf 4 = .ok (.iload_n 3, 1) := by decide +kernel
theorem dX5_rowOf_5 : decode cX5_rowOf 5 = .ok (.aload_n 0, 1) := by decide +kernel
theorem dX5_rowOf_6 : decode cX5_rowOf 6 = .ok (.getfield 7, 3) := by decide +kernel
theorem dX5_rowOf_9 : decode cX5_rowOf 9 = .ok (.sipush 140, 3) := by decide +kernel
theorem dX5_rowOf_12 : decode cX5_rowOf 12 = .ok (.iaload, 1) := by decide +kernel
theorem dX5_rowOf_13 : decode cX5_rowOf 13 = .ok (.if_icmp .ge 28, 3) := by decide +kernel
theorem dX5_rowOf_16 : decode cX5_rowOf 16 = .ok (.aload_n 0, 1) := by decide +kernel
theorem dX5_rowOf_17 : decode cX5_rowOf 17 = .ok (.getfield 7, 3) := by decide +kernel
theorem dX5_rowOf_20 : decode cX5_rowOf 20 = .ok (.bipush 100, 2) := by decide +kernel
theorem dX5_rowOf_22 : decode cX5_rowOf 22 = .ok (.iload_n 3, 1) := by decide +kernel
theorem dX5_rowOf_23 : decode cX5_rowOf 23 = .ok (.iadd, 1) := by decide +kernel
theorem dX5_rowOf_24 : decode cX5_rowOf 24 = .ok (.iaload, 1) := by decide +kernel
theorem dX5_rowOf_25 : decode cX5_rowOf 25 = .ok (.iload_n 1, 1) := by decide +kernel
theorem dX5_rowOf_26 : decode cX5_rowOf 26 = .ok (.if_icmp .ne 7, 3) := by decide +kernel
theorem dX5_rowOf_29 : decode cX5_rowOf 29 = .ok (.iload_n 3, 1) := by decide +kernel
theorem dX5_rowOf_30 : decode cX5_rowOf 30 = .ok (.goto 4, 3) := by decide +kernel
theorem dX5_rowOf_33 : decode cX5_rowOf 33 = .ok (.iload_n 2, 1) := by decide +kernel
theorem dX5_rowOf_34 : decode cX5_rowOf 34 = .ok (.istore_n 2, 1) := by decide +kernel
theorem dX5_rowOf_35 : decode cX5_rowOf 35 = .ok (.iinc 3 1, 3) := by decide +kernel
theorem dX5_rowOf_38 : decode cX5_rowOf 38 = .ok (.goto (-34), 3) := by decide +kernel
theorem dX5_rowOf_41 : decode cX5_rowOf 41 = .ok (.iload_n 2, 1) := by decide +kernel
theorem dX5_rowOf_42 : decode cX5_rowOf 42 = .ok (.ireturn, 1) := by decide +kernel
set_option maxRecDepth 20000 in
theorem ggX5_doHost_X5_isName : GoodIn wsX5_doHost wsX5_isName := goodIn_r _ [5, 6, 7, 4, 8] (by decide +kernel) (by decide +kernel)
set_option maxRecDepth 20000 in
theorem gX5_doHost_X5_isName : GoodIn wsX5_doHost (va_wsS RX5 95 yX5_isName wsX5_isName) := goodIn_app (goodIn_of _ (by decide +kernel)) ggX5_doHost_X5_isName
set_option maxRecDepth 20000 in
theorem ggX5_doHost_X5_in : GoodIn wsX5_doHost wsX5_in := goodIn_r _ [8] (by decide +kernel) (by decide +kernel)
set_option maxRecDepth 20000 in
theorem gX5_doHost_X5_in : GoodIn wsX5_doHost (va_wsS RX5 88 yX5_in wsX5_in) := goodIn_app (goodIn_of _ (by decide +kernel)) ggX5_doHost_X5_in
set_option maxRecDepth 20000 in
theorem ggX5_doHost_X5_isHost : GoodIn wsX5_doHost wsX5_isHost := goodIn_r _ [12, 1, 17, 18, 19, 20, 21, 22, 23, 24, 25, 26, 27, 28, 29, 30, 31, 32, 33, 34, 35] (by decide +kernel) (by decide +kernel)
set_option maxRecDepth 20000 in
theorem gX5_doHost_X5_isHost : GoodIn wsX5_doHost (wsV RX5 92 RX5 yX5_isHost wsX5_isHost) := goodIn_app (goodIn_of _ (by decide +kernel)) ggX5_doHost_X5_isHost
set_option maxRecDepth 20000 in
theorem ggX5_doHost_X5_hostMany : GoodIn wsX5_doHost wsX5_hostMany := goodIn_r _ [16, 9, 10, 11, 4, 12, 1, 17, 18, 19, 20, 21, 22, 23, 24, 25, 26, 27, 28, 29, 30, 31, 32, 33, 34, 35] (by decide +kernel) (by decide +kernel)
set_option maxRecDepth 20000 in
theorem gX5_doHost_X5_hostMany : GoodIn wsX5_doHost (wsV RX5 98 RX5 yX5_hostMany wsX5_hostMany) := goodIn_app (goodIn_of _ (by decide +kernel)) ggX5_doHost_X5_hostMany
theorem dX5_doHost_0 : decode cX5_doHost 0 = .ok (.iload_n 1, 1) := by decide +kernel
theorem dX5_doHost_1 : decode cX5_doHost 1 = .ok (.invokestatic 95, 3) := by decide +kernel
theorem dX5_doHost_4 : decode cX5_doHost 4 = .ok (.ifCond .eq 12, 3) := by decide +kernel
theorem dX5_doHost_7 : decode cX5_doHost 7 = .ok (.iload_n 2, 1) := by decide +kernel
theorem dX5_doHost_8 : decode cX5_doHost 8 = .ok (.iconst 1, 1) := by decide +kernel
theorem dX5_doHost_9 : decode cX5_doHost 9 = .ok (.iconst 4, 1) := by decide +kernel
theorem dX5_doHost_10 : decode cX5_doHost 10 = .ok (.invokestatic 88, 3) := by decide +kernel
theorem dX5_doHost_13 : decode cX5_doHost 13 = .ok (.ifCond .ne 6, 3) := by decide +kernel
theorem dX5_doHost_16 : decode cX5_doHost 16 = .ok (.bipush (-2), 2) := by decide +kernel
theorem dX5_doHost_18 : decode cX5_doHost 18 = .ok (.ireturn, 1) := by decide +kernel
theorem dX5_doHost_19 : decode cX5_doHost 19 = .ok (.aload_n 0, 1) := by decide +kernel
theorem dX5_doHost_20 : decode cX5_doHost 20 = .ok (.iload_n 1, 1) := by decide +kernel
theorem dX5_doHost_21 : decode cX5_doHost 21 = .ok (.invokevirtual 92, 3) := by decide +kernel
theorem dX5_doHost_24 : decode cX5_doHost 24 = .ok (.ifCond .eq 6, 3) := by decide +kernel
theorem dX5_doHost_27 : decode cX5_doHost 27 = .ok (.bipush (-3), 2) := by decide +kernel
theorem dX5_doHost_29 : decode cX5_doHost 29 = .ok (.ireturn, 1) := by decide +kernel
theorem dX5_doHost_30 : decode cX5_doHost 30 = .ok (.aload_n 0, 1) := by decide +kernel
theorem dX5_doHost_31 : decode cX5_doHost 31 = .ok (.invokevirtual 98, 3) := by decide +kernel
theorem dX5_doHost_34 : decode cX5_doHost 34 = .ok (.bipush 6, 2) := by decide +kernel
theorem dX5_doHost_36 : decode cX5_doHost 36 = .ok (.if_icmp .ne 6, 3) := by decide +kernel
theorem dX5_doHost_39 : decode cX5_doHost 39 = .ok (.bipush (-4), 2) := by decide +kernel
theorem dX5_doHost_41 : decode cX5_doHost 41 = .ok (.ireturn, 1) := by decide +kernel
theorem dX5_doHost_42 : decode cX5_doHost 42 = .ok (.aload_n 0, 1) := by decide +kernel
theorem dX5_doHost_43 : decode cX5_doHost 43 = .ok (.getfield 7, 3) := by decide +kernel
theorem dX5_doHost_46 : decode cX5_doHost 46 = .ok (.iload_n 1, 1) := by decide +kernel
theorem dX5_doHost_47 : decode cX5_doHost 47 = .ok (.iload_n 2, 1) := by decide +kernel
theorem dX5_doHost_48 : decode cX5_doHost 48 = .ok (.iastore, 1) := by decide +kernel
theorem dX5_doHost_49 : decode cX5_doHost 49 = .ok (.iconst 0, 1) := by decide +kernel
theorem dX5_doHost_50 : decode cX5_doHost 50 = .ok (.ireturn, 1) := by decide +kernel
set_option maxRecDepth 20000 in
theorem ggX5_doWeighs_X5_isName : GoodIn wsX5_doWeighs wsX5_isName := goodIn_r _ [5, 6, 7, 4, 8] (by decide +kernel) (by decide +kernel)
set_option maxRecDepth 20000 in
theorem gX5_doWeighs_X5_isName : GoodIn wsX5_doWeighs (va_wsS RX5 95 yX5_isName wsX5_isName) := goodIn_app (goodIn_of _ (by decide +kernel)) ggX5_doWeighs_X5_isName
set_option maxRecDepth 20000 in
theorem ggX5_doWeighs_X5_in : GoodIn wsX5_doWeighs wsX5_in := goodIn_r _ [8] (by decide +kernel) (by decide +kernel)
set_option maxRecDepth 20000 in
theorem gX5_doWeighs_X5_in : GoodIn wsX5_doWeighs (va_wsS RX5 88 yX5_in wsX5_in) := goodIn_app (goodIn_of _ (by decide +kernel)) ggX5_doWeighs_X5_in
set_option maxRecDepth 20000 in
theorem ggX5_doWeighs_X5_isHost : GoodIn wsX5_doWeighs wsX5_isHost := goodIn_r _ [12, 1, 13, 14, 15, 16, 17, 18, 19, 20, 21, 22, 23, 24, 25, 26, 27, 28, 29, 30, 31] (by decide +kernel) (by decide +kernel)
set_option maxRecDepth 20000 in
theorem gX5_doWeighs_X5_isHost : GoodIn wsX5_doWeighs (wsV RX5 92 RX5 yX5_isHost wsX5_isHost) := goodIn_app (goodIn_of _ (by decide +kernel)) ggX5_doWeighs_X5_isHost
theorem dX5_doWeighs_0 : decode cX5_doWeighs 0 = .ok (.iload_n 1, 1) := by decide +kernel
theorem dX5_doWeighs_1 : decode cX5_doWeighs 1 = .ok (.invokestatic 95, 3) := by decide +kernel
theorem dX5_doWeighs_4 : decode cX5_doWeighs 4 = .ok (.ifCond .eq 12, 3) := by decide +kernel
theorem dX5_doWeighs_7 : decode cX5_doWeighs 7 = .ok (.iload_n 2, 1) := by decide +kernel
theorem dX5_doWeighs_8 : decode cX5_doWeighs 8 = .ok (.iconst 1, 1) := by decide +kernel
theorem dX5_doWeighs_9 : decode cX5_doWeighs 9 = .ok (.iconst 4, 1) := by decide +kernel
theorem dX5_doWeighs_10 : decode cX5_doWeighs 10 = .ok (.invokestatic 88, 3) := by decide +kernel
theorem dX5_doWeighs_13 : decode cX5_doWeighs 13 = .ok (.ifCond .ne 6, 3) := by decide +kernel
theorem dX5_doWeighs_16 : decode cX5_doWeighs 16 = .ok (.bipush (-2), 2) := by decide +kernel
theorem dX5_doWeighs_18 : decode cX5_doWeighs 18 = .ok (.ireturn, 1) := by decide +kernel
theorem dX5_doWeighs_19 : decode cX5_doWeighs 19 = .ok (.aload_n 0, 1) := by decide +kernel
theorem dX5_doWeighs_20 : decode cX5_doWeighs 20 = .ok (.iload_n 1, 1) := by decide +kernel
theorem dX5_doWeighs_21 : decode cX5_doWeighs 21 = .ok (.invokevirtual 92, 3) := by decide +kernel
theorem dX5_doWeighs_24 : decode cX5_doWeighs 24 = .ok (.ifCond .ne 6, 3) := by decide +kernel
theorem dX5_doWeighs_27 : decode cX5_doWeighs 27 = .ok (.bipush (-3), 2) := by decide +kernel
theorem dX5_doWeighs_29 : decode cX5_doWeighs 29 = .ok (.ireturn, 1) := by decide +kernel
theorem dX5_doWeighs_30 : decode cX5_doWeighs 30 = .ok (.aload_n 0, 1) := by decide +kernel
theorem dX5_doWeighs_31 : decode cX5_doWeighs 31 = .ok (.getfield 7, 3) := by decide +kernel
theorem dX5_doWeighs_34 : decode cX5_doWeighs 34 = .ok (.iload_n 1, 1) := by decide +kernel
theorem dX5_doWeighs_35 : decode cX5_doWeighs 35 = .ok (.iload_n 2, 1) := by decide +kernel
theorem dX5_doWeighs_36 : decode cX5_doWeighs 36 = .ok (.iastore, 1) := by decide +kernel
theorem dX5_doWeighs_37 : decode cX5_doWeighs 37 = .ok (.iconst 0, 1) := by decide +kernel
theorem dX5_doWeighs_38 : decode cX5_doWeighs 38 = .ok (.ireturn, 1) := by decide +kernel
set_option maxRecDepth 20000 in
theorem ggX5_doGoes_X5_isName : GoodIn wsX5_doGoes wsX5_isName := goodIn_r _ [5, 6, 7, 4, 8] (by decide +kernel) (by decide +kernel)
set_option maxRecDepth 20000 in
theorem gX5_doGoes_X5_isName : GoodIn wsX5_doGoes (va_wsS RX5 95 yX5_isName wsX5_isName) := goodIn_app (goodIn_of _ (by decide +kernel)) ggX5_doGoes_X5_isName
set_option maxRecDepth 20000 in
theorem ggX5_doGoes_X5_isHost : GoodIn wsX5_doGoes wsX5_isHost := goodIn_r _ [12, 1, 13, 14, 15, 16, 17, 18, 19, 20, 21, 22, 23, 24, 25, 26, 27, 28, 29, 30, 31] (by decide +kernel) (by decide +kernel)
set_option maxRecDepth 20000 in
theorem gX5_doGoes_X5_isHost : GoodIn wsX5_doGoes (wsV RX5 92 RX5 yX5_isHost wsX5_isHost) := goodIn_app (goodIn_of _ (by decide +kernel)) ggX5_doGoes_X5_isHost
theorem dX5_doGoes_0 : decode cX5_doGoes 0 = .ok (.iload_n 1, 1) := by decide +kernel
theorem dX5_doGoes_1 : decode cX5_doGoes 1 = .ok (.invokestatic 95, 3) := by decide +kernel
theorem dX5_doGoes_4 : decode cX5_doGoes 4 = .ok (.ifCond .ne 6, 3) := by decide +kernel
theorem dX5_doGoes_7 : decode cX5_doGoes 7 = .ok (.bipush (-2), 2) := by decide +kernel
theorem dX5_doGoes_9 : decode cX5_doGoes 9 = .ok (.ireturn, 1) := by decide +kernel
theorem dX5_doGoes_10 : decode cX5_doGoes 10 = .ok (.aload_n 0, 1) := by decide +kernel
theorem dX5_doGoes_11 : decode cX5_doGoes 11 = .ok (.iload_n 1, 1) := by decide +kernel
theorem dX5_doGoes_12 : decode cX5_doGoes 12 = .ok (.invokevirtual 92, 3) := by decide +kernel
theorem dX5_doGoes_15 : decode cX5_doGoes 15 = .ok (.ifCond .ne 6, 3) := by decide +kernel
theorem dX5_doGoes_18 : decode cX5_doGoes 18 = .ok (.bipush (-3), 2) := by decide +kernel
theorem dX5_doGoes_20 : decode cX5_doGoes 20 = .ok (.ireturn, 1) := by decide +kernel
theorem dX5_doGoes_21 : decode cX5_doGoes 21 = .ok (.aload_n 0, 1) := by decide +kernel
theorem dX5_doGoes_22 : decode cX5_doGoes 22 = .ok (.getfield 7, 3) := by decide +kernel
theorem dX5_doGoes_25 : decode cX5_doGoes 25 = .ok (.iload_n 1, 1) := by decide +kernel
theorem dX5_doGoes_26 : decode cX5_doGoes 26 = .ok (.iconst 0, 1) := by decide +kernel
theorem dX5_doGoes_27 : decode cX5_doGoes 27 = .ok (.iastore, 1) := by decide +kernel
theorem dX5_doGoes_28 : decode cX5_doGoes 28 = .ok (.iconst 0, 1) := by decide +kernel
theorem dX5_doGoes_29 : decode cX5_doGoes 29 = .ok (.ireturn, 1) := by decide +kernel
set_option maxRecDepth 20000 in
theorem ggX5_mayCome_X5_isKey : GoodIn wsX5_mayCome wsX5_isKey := goodIn_r _ [5, 6, 7, 4, 8] (by decide +kernel) (by decide +kernel)
set_option maxRecDepth 20000 in
theorem gX5_mayCome_X5_isKey : GoodIn wsX5_mayCome (va_wsS RX5 101 yX5_isKey wsX5_isKey) := goodIn_app (goodIn_of _ (by decide +kernel)) ggX5_mayCome_X5_isKey
set_option maxRecDepth 20000 in
theorem ggX5_mayCome_X5_rowOf : GoodIn wsX5_mayCome wsX5_rowOf := goodIn_r _ [12, 1, 13, 14, 15, 16, 17, 18, 19, 20, 21, 22, 23, 24, 25, 26, 27, 28, 29, 30, 31] (by decide +kernel) (by decide +kernel)
set_option maxRecDepth 20000 in
theorem gX5_mayCome_X5_rowOf : GoodIn wsX5_mayCome (wsV RX5 104 RX5 yX5_rowOf wsX5_rowOf) := goodIn_app (goodIn_of _ (by decide +kernel)) ggX5_mayCome_X5_rowOf
theorem dX5_mayCome_0 : decode cX5_mayCome 0 = .ok (.iload_n 1, 1) := by decide +kernel
theorem dX5_mayCome_1 : decode cX5_mayCome 1 = .ok (.invokestatic 101, 3) := by decide +kernel
theorem dX5_mayCome_4 : decode cX5_mayCome 4 = .ok (.ifCond .ne 6, 3) := by decide +kernel
theorem dX5_mayCome_7 : decode cX5_mayCome 7 = .ok (.bipush (-2), 2) := by decide +kernel
theorem dX5_mayCome_9 : decode cX5_mayCome 9 = .ok (.ireturn, 1) := by decide +kernel
theorem dX5_mayCome_10 : decode cX5_mayCome 10 = .ok (.aload_n 0, 1) := by decide +kernel
theorem dX5_mayCome_11 : decode cX5_mayCome 11 = .ok (.iload_n 1, 1) := by decide +kernel
theorem dX5_mayCome_12 : decode cX5_mayCome 12 = .ok (.invokevirtual 104, 3) := by decide +kernel
theorem dX5_mayCome_15 : decode cX5_mayCome 15 = .ok (.iconst (-1), 1) := by decide +kernel
theorem dX5_mayCome_16 : decode cX5_mayCome 16 = .ok (.if_icmp .eq 8, 3) := by decide +kernel
theorem dX5_mayCome_19 : decode cX5_mayCome 19 = .ok (.bipush (-3), 2) := by decide +kernel
theorem dX5_mayCome_21 : decode cX5_mayCome 21 = .ok (.goto 22, 3) := by decide +kernel
theorem dX5_mayCome_24 : decode cX5_mayCome 24 = .ok (.aload_n 0, 1) := by decide +kernel
theorem dX5_mayCome_25 : decode cX5_mayCome 25 = .ok (.getfield 7, 3) := by decide +kernel
theorem dX5_mayCome_28 : decode cX5_mayCome 28 = .ok (.sipush 140, 3) := by decide +kernel
theorem dX5_mayCome_31 : decode cX5_mayCome 31 = .ok (.iaload, 1) := by decide +kernel
theorem dX5_mayCome_32 : decode cX5_mayCome 32 = .ok (.bipush 40, 2) := by decide +kernel
theorem dX5_mayCome_34 : decode cX5_mayCome 34 = .ok (.if_icmp .ne 8, 3) := by decide +kernel
theorem dX5_mayCome_37 : decode cX5_mayCome 37 = .ok (.bipush (-4), 2) := by decide +kernel
theorem dX5_mayCome_39 : decode cX5_mayCome 39 = .ok (.goto 4, 3) := by decide +kernel
theorem dX5_mayCome_42 : decode cX5_mayCome 42 = .ok (.iconst 0, 1) := by decide +kernel
theorem dX5_mayCome_43 : decode cX5_mayCome 43 = .ok (.ireturn, 1) := by decide +kernel
set_option maxRecDepth 20000 in
theorem ggX5_doKey_X5_mayCome : GoodIn wsX5_doKey wsX5_mayCome := goodIn_r _ [6, 1, 7, 8, 5, 9, 10, 11, 12, 13, 14, 15, 16, 17, 18, 19, 20, 21, 22, 23, 24, 25, 26, 27, 28, 29, 30, 31, 32, 33, 34, 35] (by decide +kernel) (by decide +kernel)
set_option maxRecDepth 20000 in
theorem gX5_doKey_X5_mayCome : GoodIn wsX5_doKey (wsV RX5 107 RX5 yX5_mayCome wsX5_mayCome) := goodIn_app (goodIn_of _ (by decide +kernel)) ggX5_doKey_X5_mayCome
theorem dX5_doKey_0 : decode cX5_doKey 0 = .ok (.aload_n 0, 1) := by decide +kernel
theorem dX5_doKey_1 : decode cX5_doKey 1 = .ok (.iload_n 1, 1) := by decide +kernel
theorem dX5_doKey_2 : decode cX5_doKey 2 = .ok (.invokevirtual 107, 3) := by decide +kernel
theorem dX5_doKey_5 : decode cX5_doKey 5 = .ok (.istore_n 2, 1) := by decide +kernel
theorem dX5_doKey_6 : decode cX5_doKey 6 = .ok (.iload_n 2, 1) := by decide +kernel
theorem dX5_doKey_7 : decode cX5_doKey 7 = .ok (.ifCond .eq 5, 3) := by decide +kernel
theorem dX5_doKey_10 : decode cX5_doKey 10 = .ok (.iload_n 2, 1) := by decide +kernel
theorem dX5_doKey_11 : decode cX5_doKey 11 = .ok (.ireturn, 1) := by decide +kernel
theorem dX5_doKey_12 : decode cX5_doKey 12 = .ok (.aload_n 0, 1) := by decide +kernel
theorem dX5_doKey_13 : decode cX5_doKey 13 = .ok (.getfield 7, 3) := by decide +kernel
theorem dX5_doKey_16 : decode cX5_doKey 16 = .ok (.sipush 140, 3) := by decide +kernel
theorem dX5_doKey_19 : decode cX5_doKey 19 = .ok (.iaload, 1) := by decide +kernel
theorem dX5_doKey_20 : decode cX5_doKey 20 = .ok (.istore_n 3, 1) := by decide +kernel
theorem dX5_doKey_21 : decode cX5_doKey 21 = .ok (.iload_n 3, 1) := by decide +kernel
theorem dX5_doKey_22 : decode cX5_doKey 22 = .ok (.ifCond .le 44, 3) := by decide +kernel
theorem dX5_doKey_25 : decode cX5_doKey 25 = .ok (.aload_n 0, 1) := by decide +kernel
theorem dX5_doKey_26 : decode cX5_doKey 26 = .ok (.getfield 7, 3) := by decide +kernel
theorem dX5_doKey_29 : decode cX5_doKey 29 = .ok (.bipush 100, 2) := by decide +kernel
theorem dX5_doKey_31 : decode cX5_doKey 31 = .ok (.iload_n 3, 1) := by decide +kernel
theorem dX5_doKey_32 : decode cX5_doKey 32 = .ok (.iadd, 1) := by decide +kernel
theorem dX5_doKey_33 : decode cX5_doKey 33 = .ok (.iconst 1, 1) := by decide +kernel
theorem dX5_doKey_34 : decode cX5_doKey 34 = .ok (.isub, 1) := by decide +kernel
theorem dX5_doKey_35 : decode cX5_doKey 35 = .ok (.iaload, 1) := by decide +kernel
theorem dX5_doKey_36 : decode cX5_doKey 36 = .ok (.iload_n 1, 1) := by decide +kernel
theorem dX5_doKey_37 : decode cX5_doKey 37 = .ok (.if_icmp .le 29, 3) := by decide +kernel
theorem dX5_doKey_40 : decode cX5_doKey 40 = .ok (.aload_n 0, 1) := by decide +kernel
theorem dX5_doKey_41 : decode cX5_doKey 41 = .ok (.getfield 7, 3) := by decide +kernel
theorem dX5_doKey_44 : decode cX5_doKey 44 = .ok (.bipush 100, 2) := by decide +kernel
theorem dX5_doKey_46 : decode cX5_doKey 46 = .ok (.iload_n 3, 1) := by decide +kernel
theorem dX5_doKey_47 : decode cX5_doKey 47 = .ok (.iadd, 1) := by decide +kernel
theorem dX5_doKey_48 : decode cX5_doKey 48 = .ok (.aload_n 0, 1) := by decide +kernel
theorem dX5_doKey_49 : decode cX5_doKey 49 = .ok (.getfield 7, 3) := by decide +kernel
theorem dX5_doKey_52 : decode cX5_doKey 52 = .ok (.bipush 100, 2) := by decide +kernel
theorem dX5_doKey_54 : decode cX5_doKey 54 = .ok (.iload_n 3, 1) := by decide +kernel
theorem dX5_doKey_55 : decode cX5_doKey 55 = .ok (.iadd, 1) := by decide +kernel
theorem dX5_doKey_56 : decode cX5_doKey 56 = .ok (.iconst 1, 1) := by decide +kernel
theorem dX5_doKey_57 : decode cX5_doKey 57 = .ok (.isub, 1) := by decide +kernel
theorem dX5_doKey_58 : decode cX5_doKey 58 = .ok (.iaload, 1) := by decide +kernel
theorem dX5_doKey_59 : decode cX5_doKey 59 = .ok (.iastore, 1) := by decide +kernel
theorem dX5_doKey_60 : decode cX5_doKey 60 = .ok (.iinc 3 (-1), 3) := by decide +kernel
theorem dX5_doKey_63 : decode cX5_doKey 63 = .ok (.goto (-42), 3) := by decide +kernel
theorem dX5_doKey_66 : decode cX5_doKey 66 = .ok (.aload_n 0, 1) := by decide +kernel
theorem dX5_doKey_67 : decode cX5_doKey 67 = .ok (.getfield 7, 3) := by decide +kernel
theorem dX5_doKey_70 : decode cX5_doKey 70 = .ok (.bipush 100, 2) := by decide +kernel
theorem dX5_doKey_72 : decode cX5_doKey 72 = .ok (.iload_n 3, 1) := by decide +kernel
theorem dX5_doKey_73 : decode cX5_doKey 73 = .ok (.iadd, 1) := by decide +kernel
theorem dX5_doKey_74 : decode cX5_doKey 74 = .ok (.iload_n 1, 1) := by decide +kernel
theorem dX5_doKey_75 : decode cX5_doKey 75 = .ok (.iastore, 1) := by decide +kernel
theorem dX5_doKey_76 : decode cX5_doKey 76 = .ok (.aload_n 0, 1) := by decide +kernel
theorem dX5_doKey_77 : decode cX5_doKey 77 = .ok (.getfield 7, 3) := by decide +kernel
theorem dX5_doKey_80 : decode cX5_doKey 80 = .ok (.sipush 140, 3) := by decide +kernel
theorem dX5_doKey_83 : decode cX5_doKey 83 = .ok (.dup2, 1) := by decide +kernel
theorem dX5_doKey_84 : decode cX5_doKey 84 = .ok (.iaload, 1) := by decide +kernel
theorem dX5_doKey_85 : decode cX5_doKey 85 = .ok (.iconst 1, 1) := by decide +kernel
theorem dX5_doKey_86 : decode cX5_doKey 86 = .ok (.iadd, 1) := by decide +kernel
theorem dX5_doKey_87 : decode cX5_doKey 87 = .ok (.iastore, 1) := by decide +kernel
theorem dX5_doKey_88 : decode cX5_doKey 88 = .ok (.iconst 0, 1) := by decide +kernel
theorem dX5_doKey_89 : decode cX5_doKey 89 = .ok (.ireturn, 1) := by decide +kernel
set_option maxRecDepth 20000 in
theorem ggX5_doDrops_X5_isKey : GoodIn wsX5_doDrops wsX5_isKey := goodIn_r _ [5, 6, 7, 4, 8] (by decide +kernel) (by decide +kernel)
set_option maxRecDepth 20000 in
theorem gX5_doDrops_X5_isKey : GoodIn wsX5_doDrops (va_wsS RX5 101 yX5_isKey wsX5_isKey) := goodIn_app (goodIn_of _ (by decide +kernel)) ggX5_doDrops_X5_isKey
set_option maxRecDepth 20000 in
theorem ggX5_doDrops_X5_rowOf : GoodIn wsX5_doDrops wsX5_rowOf := goodIn_r _ [12, 1, 13, 14, 15, 16, 17, 18, 19, 20, 21, 22, 23, 24, 25, 26, 27, 28, 29, 30, 31] (by decide +kernel) (by decide +kernel)
set_option maxRecDepth 20000 in
theorem gX5_doDrops_X5_rowOf : GoodIn wsX5_doDrops (wsV RX5 104 RX5 yX5_rowOf wsX5_rowOf) := goodIn_app (goodIn_of _ (by decide +kernel)) ggX5_doDrops_X5_rowOf
theorem dX5_doDrops_0 : decode cX5_doDrops 0 = .ok (.iload_n 1, 1) := by decide +kernel
theorem dX5_doDrops_1 : decode cX5_doDrops 1 = .ok (.invokestatic 101, 3) := by decide +kernel
theorem dX5_doDrops_4 : decode cX5_doDrops 4 = .ok (.ifCond .ne 6, 3) := by decide +kernel
theorem dX5_doDrops_7 : decode cX5_doDrops 7 = .ok (.bipush (-2), 2) := by decide +kernel
theorem dX5_doDrops_9 : decode cX5_doDrops 9 = .ok (.ireturn, 1) := by decide +kernel
theorem dX5_doDrops_10 : decode cX5_doDrops 10 = .ok (.aload_n 0, 1) := by decide +kernel
theorem dX5_doDrops_11 : decode cX5_doDrops 11 = .ok (.iload_n 1, 1) := by decide +kernel
theorem dX5_doDrops_12 : decode cX5_doDrops 12 = .ok (.invokevirtual 104, 3) := by decide +kernel
theorem dX5_doDrops_15 : decode cX5_doDrops 15 = .ok (.istore_n 2, 1) := by decide +kernel
theorem dX5_doDrops_16 : decode cX5_doDrops 16 = .ok (.iload_n 2, 1) := by decide +kernel
theorem dX5_doDrops_17 : decode cX5_doDrops 17 = .ok (.iconst (-1), 1) := by decide +kernel
theorem dX5_doDrops_18 : decode cX5_doDrops 18 = .ok (.if_icmp .ne 6, 3) := by decide +kernel
theorem dX5_doDrops_21 : decode cX5_doDrops 21 = .ok (.bipush (-3), 2) := by decide +kernel
theorem dX5_doDrops_23 : decode cX5_doDrops 23 = .ok (.ireturn, 1) := by decide +kernel
theorem dX5_doDrops_24 : decode cX5_doDrops 24 = .ok (.aload_n 0, 1) := by decide +kernel
theorem dX5_doDrops_25 : decode cX5_doDrops 25 = .ok (.getfield 7, 3) := by decide +kernel
theorem dX5_doDrops_28 : decode cX5_doDrops 28 = .ok (.sipush 140, 3) := by decide +kernel
theorem dX5_doDrops_31 : decode cX5_doDrops 31 = .ok (.dup2, 1) := by decide +kernel
theorem dX5_doDrops_32 : decode cX5_doDrops 32 = .ok (.iaload, 1) := by decide +kernel
theorem dX5_doDrops_33 : decode cX5_doDrops 33 = .ok (.iconst 1, 1) := by decide +kernel
theorem dX5_doDrops_34 : decode cX5_doDrops 34 = .ok (.isub, 1) := by decide +kernel
theorem dX5_doDrops_35 : decode cX5_doDrops 35 = .ok (.iastore, 1) := by decide +kernel
theorem dX5_doDrops_36 : decode cX5_doDrops 36 = .ok (.iload_n 2, 1) := by decide +kernel
theorem dX5_doDrops_37 : decode cX5_doDrops 37 = .ok (.istore_n 3, 1) := by decide +kernel
theorem dX5_doDrops_38 : decode cX5_doDrops 38 = .ok (.iload_n 3, 1) := by decide +kernel
theorem dX5_doDrops_39 : decode cX5_doDrops 39 = .ok (.aload_n 0, 1) := by decide +kernel
theorem dX5_doDrops_40 : decode cX5_doDrops 40 = .ok (.getfield 7, 3) := by decide +kernel
theorem dX5_doDrops_43 : decode cX5_doDrops 43 = .ok (.sipush 140, 3) := by decide +kernel
theorem dX5_doDrops_46 : decode cX5_doDrops 46 = .ok (.iaload, 1) := by decide +kernel
theorem dX5_doDrops_47 : decode cX5_doDrops 47 = .ok (.if_icmp .ge 29, 3) := by decide +kernel
theorem dX5_doDrops_50 : decode cX5_doDrops 50 = .ok (.aload_n 0, 1) := by decide +kernel
theorem dX5_doDrops_51 : decode cX5_doDrops 51 = .ok (.getfield 7, 3) := by decide +kernel
theorem dX5_doDrops_54 : decode cX5_doDrops 54 = .ok (.bipush 100, 2) := by decide +kernel
theorem dX5_doDrops_56 : decode cX5_doDrops 56 = .ok (.iload_n 3, 1) := by decide +kernel
theorem dX5_doDrops_57 : decode cX5_doDrops 57 = .ok (.iadd, 1) := by decide +kernel
theorem dX5_doDrops_58 : decode cX5_doDrops 58 = .ok (.aload_n 0, 1) := by decide +kernel
theorem dX5_doDrops_59 : decode cX5_doDrops 59 = .ok (.getfield 7, 3) := by decide +kernel
theorem dX5_doDrops_62 : decode cX5_doDrops 62 = .ok (.bipush 100, 2) := by decide +kernel
theorem dX5_doDrops_64 : decode cX5_doDrops 64 = .ok (.iload_n 3, 1) := by decide +kernel
theorem dX5_doDrops_65 : decode cX5_doDrops 65 = .ok (.iadd, 1) := by decide +kernel
theorem dX5_doDrops_66 : decode cX5_doDrops 66 = .ok (.iconst 1, 1) := by decide +kernel
theorem dX5_doDrops_67 : decode cX5_doDrops 67 = .ok (.iadd, 1) := by decide +kernel
theorem dX5_doDrops_68 : decode cX5_doDrops 68 = .ok (.iaload, 1) := by decide +kernel
theorem dX5_doDrops_69 : decode cX5_doDrops 69 = .ok (.iastore, 1) := by decide +kernel
theorem dX5_doDrops_70 : decode cX5_doDrops 70 = .ok (.iinc 3 1, 3) := by decide +kernel
theorem dX5_doDrops_73 : decode cX5_doDrops 73 = .ok (.goto (-35), 3) := by decide +kernel
theorem dX5_doDrops_76 : decode cX5_doDrops 76 = .ok (.iconst 0, 1) := by decide +kernel
theorem dX5_doDrops_77 : decode cX5_doDrops 77 = .ok (.ireturn, 1) := by decide +kernel
set_option maxRecDepth 20000 in
theorem ggX5_doExtra_X5_in : GoodIn wsX5_doExtra wsX5_in := goodIn_r _ [5] (by decide +kernel) (by decide +kernel)
set_option maxRecDepth 20000 in
theorem gX5_doExtra_X5_in : GoodIn wsX5_doExtra (va_wsS RX5 88 yX5_in wsX5_in) := goodIn_app (goodIn_of _ (by decide +kernel)) ggX5_doExtra_X5_in
theorem dX5_doExtra_0 : decode cX5_doExtra 0 = .ok (.iload_n 1, 1) := by decide +kernel
theorem dX5_doExtra_1 : decode cX5_doExtra 1 = .ok (.iconst 0, 1) := by decide +kernel
theorem dX5_doExtra_2 : decode cX5_doExtra 2 = .ok (.sipush 200, 3) := by decide +kernel
theorem dX5_doExtra_5 : decode cX5_doExtra 5 = .ok (.invokestatic 88, 3) := by decide +kernel
theorem dX5_doExtra_8 : decode cX5_doExtra 8 = .ok (.ifCond .ne 6, 3) := by decide +kernel
theorem dX5_doExtra_11 : decode cX5_doExtra 11 = .ok (.bipush (-2), 2) := by decide +kernel
theorem dX5_doExtra_13 : decode cX5_doExtra 13 = .ok (.ireturn, 1) := by decide +kernel
theorem dX5_doExtra_14 : decode cX5_doExtra 14 = .ok (.aload_n 0, 1) := by decide +kernel
theorem dX5_doExtra_15 : decode cX5_doExtra 15 = .ok (.getfield 7, 3) := by decide +kernel
theorem dX5_doExtra_18 : decode cX5_doExtra 18 = .ok (.sipush 141, 3) := by decide +kernel
theorem dX5_doExtra_21 : decode cX5_doExtra 21 = .ok (.iload_n 1, 1) := by decide +kernel
theorem dX5_doExtra_22 : decode cX5_doExtra 22 = .ok (.iastore, 1) := by decide +kernel
theorem dX5_doExtra_23 : decode cX5_doExtra 23 = .ok (.iconst 0, 1) := by decide +kernel
theorem dX5_doExtra_24 : decode cX5_doExtra 24 = .ok (.ireturn, 1) := by decide +kernel
set_option maxRecDepth 20000 in
theorem ggX5_host_X5_hold : GoodIn wsX5_host wsX5_hold := goodIn_r _ [5, 6, 7, 8, 9, 76, 77, 78, 79, 80, 81, 82, 83, 84, 85, 86, 87, 88, 89, 90, 91, 92, 93, 94] (by decide +kernel) (by decide +kernel)
set_option maxRecDepth 20000 in
theorem gX5_host_X5_hold : GoodIn wsX5_host (wsV RX5 110 RX5 yX5_hold wsX5_hold) := goodIn_app (goodIn_of _ (by decide +kernel)) ggX5_host_X5_hold
set_option maxRecDepth 20000 in
theorem ggX5_host_X5_doHost : GoodIn wsX5_host wsX5_doHost := goodIn_r _ [13, 7, 14, 15, 4, 16, 17, 18, 19, 20, 21, 22, 23, 24, 25, 26, 27, 76, 77, 78, 79, 80, 81, 82, 83, 84, 85, 86, 87, 88, 89, 90, 91, 92, 93, 94] (by decide +kernel) (by decide +kernel)
set_option maxRecDepth 20000 in
theorem gX5_host_X5_doHost : GoodIn wsX5_host (wsV RX5 113 RX5 yX5_doHost wsX5_doHost) := goodIn_app (goodIn_of _ (by decide +kernel)) ggX5_host_X5_doHost
set_option maxRecDepth 20000 in
theorem ggX5_host_X5_ends : GoodIn wsX5_host wsX5_ends := goodIn_r _ [31, 7, 32, 33, 34, 4, 35, 36, 37, 38, 39, 40, 41, 42, 6, 43, 44, 45, 46, 47, 9, 48, 49, 50, 51, 52, 53, 54, 55, 56, 57, 58, 59, 60, 61, 62, 63, 64, 65, 66, 67, 68, 69, 70, 71, 72, 73, 74, 75, 8, 76, 77, 78, 79, 80, 81, 82, 83, 84, 85, 86, 87, 88, 89, 90, 91, 92, 93, 94] (by decide +kernel) (by decide +kernel)
set_option maxRecDepth 20000 in
theorem gX5_host_X5_ends : GoodIn wsX5_host (wsV RX5 116 RX5 yX5_ends wsX5_ends) := goodIn_app (goodIn_of _ (by decide +kernel)) ggX5_host_X5_ends
theorem dX5_host_0 : decode cX5_host 0 = .ok (.aload_n 0, 1) := by decide +kernel
theorem dX5_host_1 : decode cX5_host 1 = .ok (.invokevirtual 110, 3) := by decide +kernel
theorem dX5_host_4 : decode cX5_host 4 = .ok (.aload_n 0, 1) := by decide +kernel
theorem dX5_host_5 : decode cX5_host 5 = .ok (.aload_n 0, 1) := by decide +kernel
theorem dX5_host_6 : decode cX5_host 6 = .ok (.iload_n 1, 1) := by decide +kernel
theorem dX5_host_7 : decode cX5_host 7 = .ok (.iload_n 2, 1) := by decide +kernel
theorem dX5_host_8 : decode cX5_host 8 = .ok (.invokevirtual 113, 3) := by decide +kernel
theorem dX5_host_11 : decode cX5_host 11 = .ok (.invokevirtual 116, 3) := by decide +kernel
theorem dX5_host_14 : decode cX5_host 14 = .ok (.ireturn, 1) := by decide +kernel
set_option maxRecDepth 20000 in
theorem ggX5_weighs_X5_hold : GoodIn wsX5_weighs wsX5_hold := goodIn_r _ [5, 6, 7, 8, 9, 72, 73, 74, 75, 76, 77, 78, 79, 80, 81, 82, 83, 84, 85, 86, 87, 88, 89, 90] (by decide +kernel) (by decide +kernel)
set_option maxRecDepth 20000 in
theorem gX5_weighs_X5_hold : GoodIn wsX5_weighs (wsV RX5 110 RX5 yX5_hold wsX5_hold) := goodIn_app (goodIn_of _ (by decide +kernel)) ggX5_weighs_X5_hold
set_option maxRecDepth 20000 in
theorem ggX5_weighs_X5_doWeighs : GoodIn wsX5_weighs wsX5_doWeighs := goodIn_r _ [13, 7, 14, 15, 4, 16, 17, 18, 19, 20, 21, 22, 23, 72, 73, 74, 75, 76, 77, 78, 79, 80, 81, 82, 83, 84, 85, 86, 87, 88, 89, 90] (by decide +kernel) (by decide +kernel)
set_option maxRecDepth 20000 in
theorem gX5_weighs_X5_doWeighs : GoodIn wsX5_weighs (wsV RX5 119 RX5 yX5_doWeighs wsX5_doWeighs) := goodIn_app (goodIn_of _ (by decide +kernel)) ggX5_weighs_X5_doWeighs
set_option maxRecDepth 20000 in
theorem ggX5_weighs_X5_ends : GoodIn wsX5_weighs wsX5_ends := goodIn_r _ [27, 7, 28, 29, 30, 4, 31, 32, 33, 34, 35, 36, 37, 38, 6, 39, 40, 41, 42, 43, 9, 44, 45, 46, 47, 48, 49, 50, 51, 52, 53, 54, 55, 56, 57, 58, 59, 60, 61, 62, 63, 64, 65, 66, 67, 68, 69, 70, 71, 8, 72, 73, 74, 75, 76, 77, 78, 79, 80, 81, 82, 83, 84, 85, 86, 87, 88, 89, 90] (by decide +kernel) (by decide +kernel)
set_option maxRecDepth 20000 in
theorem gX5_weighs_X5_ends : GoodIn wsX5_weighs (wsV RX5 116 RX5 yX5_ends wsX5_ends) := goodIn_app (goodIn_of _ (by decide +kernel)) ggX5_weighs_X5_ends
theorem dX5_weighs_0 : decode cX5_weighs 0 = .ok (.aload_n 0, 1) := by decide +kernel
theorem dX5_weighs_1 : decode cX5_weighs 1 = .ok (.invokevirtual 110, 3) := by decide +kernel
theorem dX5_weighs_4 : decode cX5_weighs 4 = .ok (.aload_n 0, 1) := by decide +kernel
theorem dX5_weighs_5 : decode cX5_weighs 5 = .ok (.aload_n 0, 1) := by decide +kernel
theorem dX5_weighs_6 : decode cX5_weighs 6 = .ok (.iload_n 1, 1) := by decide +kernel
theorem dX5_weighs_7 : decode cX5_weighs 7 = .ok (.iload_n 2, 1) := by decide +kernel
theorem dX5_weighs_8 : decode cX5_weighs 8 = .ok (.invokevirtual 119, 3) := by decide +kernel
theorem dX5_weighs_11 : decode cX5_weighs 11 = .ok (.invokevirtual 116, 3) := by decide +kernel
theorem dX5_weighs_14 : decode cX5_weighs 14 = .ok (.ireturn, 1) := by decide +kernel
set_option maxRecDepth 20000 in
theorem ggX5_goes_X5_hold : GoodIn wsX5_goes wsX5_hold := goodIn_r _ [5, 6, 7, 8, 9, 72, 73, 74, 75, 76, 77, 78, 79, 80, 81, 82, 83, 84, 85, 86, 87, 88, 89, 90] (by decide +kernel) (by decide +kernel)
set_option maxRecDepth 20000 in
theorem gX5_goes_X5_hold : GoodIn wsX5_goes (wsV RX5 110 RX5 yX5_hold wsX5_hold) := goodIn_app (goodIn_of _ (by decide +kernel)) ggX5_goes_X5_hold
set_option maxRecDepth 20000 in
theorem ggX5_goes_X5_doGoes : GoodIn wsX5_goes wsX5_doGoes := goodIn_r _ [13, 7, 14, 15, 4, 16, 17, 18, 19, 20, 21, 22, 23, 72, 73, 74, 75, 76, 77, 78, 79, 80, 81, 82, 83, 84, 85, 86, 87, 88, 89, 90] (by decide +kernel) (by decide +kernel)
set_option maxRecDepth 20000 in
theorem gX5_goes_X5_doGoes : GoodIn wsX5_goes (wsV RX5 122 RX5 yX5_doGoes wsX5_doGoes) := goodIn_app (goodIn_of _ (by decide +kernel)) ggX5_goes_X5_doGoes
set_option maxRecDepth 20000 in
theorem ggX5_goes_X5_ends : GoodIn wsX5_goes wsX5_ends := goodIn_r _ [27, 7, 28, 29, 30, 4, 31, 32, 33, 34, 35, 36, 37, 38, 6, 39, 40, 41, 42, 43, 9, 44, 45, 46, 47, 48, 49, 50, 51, 52, 53, 54, 55, 56, 57, 58, 59, 60, 61, 62, 63, 64, 65, 66, 67, 68, 69, 70, 71, 8, 72, 73, 74, 75, 76, 77, 78, 79, 80, 81, 82, 83, 84, 85, 86, 87, 88, 89, 90] (by decide +kernel) (by decide +kernel)
set_option maxRecDepth 20000 in
theorem gX5_goes_X5_ends : GoodIn wsX5_goes (wsV RX5 116 RX5 yX5_ends wsX5_ends) := goodIn_app (goodIn_of _ (by decide +kernel)) ggX5_goes_X5_ends
theorem dX5_goes_0 : decode cX5_goes 0 = .ok (.aload_n 0, 1) := by decide +kernel
theorem dX5_goes_1 : decode cX5_goes 1 = .ok (.invokevirtual 110, 3) := by decide +kernel
theorem dX5_goes_4 : decode cX5_goes 4 = .ok (.aload_n 0, 1) := by decide +kernel
theorem dX5_goes_5 : decode cX5_goes 5 = .ok (.aload_n 0, 1) := by decide +kernel
theorem dX5_goes_6 : decode cX5_goes 6 = .ok (.iload_n 1, 1) := by decide +kernel
theorem dX5_goes_7 : decode cX5_goes 7 = .ok (.invokevirtual 122, 3) := by decide +kernel
theorem dX5_goes_10 : decode cX5_goes 10 = .ok (.invokevirtual 116, 3) := by decide +kernel
theorem dX5_goes_13 : decode cX5_goes 13 = .ok (.ireturn, 1) := by decide +kernel
set_option maxRecDepth 20000 in
theorem ggX5_key_X5_hold : GoodIn wsX5_key wsX5_hold := goodIn_r _ [6, 7, 8, 9, 1, 72, 73, 74, 75, 76, 77, 78, 79, 80, 81, 82, 83, 84, 85, 86, 87, 88, 89, 90] (by decide +kernel) (by decide +kernel)
set_option maxRecDepth 20000 in
theorem gX5_key_X5_hold : GoodIn wsX5_key (wsV RX5 110 RX5 yX5_hold wsX5_hold) := goodIn_app (goodIn_of _ (by decide +kernel)) ggX5_key_X5_hold
set_option maxRecDepth 20000 in
theorem ggX5_key_X5_doKey : GoodIn wsX5_key wsX5_doKey := goodIn_r _ [13, 8, 14, 15, 16, 5, 17, 18, 19, 20, 21, 22, 23, 24, 25, 26, 27, 72, 73, 74, 75, 76, 77, 78, 79, 80, 81, 82, 83, 84, 85, 86, 87, 88, 89, 90] (by decide +kernel) (by decide +kernel)
set_option maxRecDepth 20000 in
theorem gX5_key_X5_doKey : GoodIn wsX5_key (wsV RX5 125 RX5 yX5_doKey wsX5_doKey) := goodIn_app (goodIn_of _ (by decide +kernel)) ggX5_key_X5_doKey
set_option maxRecDepth 20000 in
theorem ggX5_key_X5_refuses : GoodIn wsX5_key wsX5_refuses := goodIn_r _ [31, 32, 72, 73, 74, 75, 76, 77, 78, 79, 80, 81, 82, 83, 84, 85, 86, 87, 88, 89, 90] (by decide +kernel) (by decide +kernel)
set_option maxRecDepth 20000 in
theorem gX5_key_X5_refuses : GoodIn wsX5_key (wsV RX5 82 RX5 yX5_refuses wsX5_refuses) := goodIn_app (goodIn_of _ (by decide +kernel)) ggX5_key_X5_refuses
set_option maxRecDepth 20000 in
theorem ggX5_key_X5_push : GoodIn wsX5_key wsX5_push := goodIn_r _ [36, 8, 37, 38, 7, 39, 40, 41, 5, 42, 43, 1, 44, 45, 46, 47, 48, 49, 50, 51, 52, 53, 54, 55, 56, 57, 58, 59, 60, 61, 62, 63, 64, 65, 66, 67, 68, 69, 70, 71, 9, 72, 73, 74, 75, 76, 77, 78, 79, 80, 81, 82, 83, 84, 85, 86, 87, 88, 89, 90] (by decide +kernel) (by decide +kernel)
set_option maxRecDepth 20000 in
theorem gX5_key_X5_push : GoodIn wsX5_key (wsV RX5 85 RX5 yX5_push wsX5_push) := goodIn_app (goodIn_of _ (by decide +kernel)) ggX5_key_X5_push
set_option maxRecDepth 20000 in
theorem ggX5_key_X5_rowOf : GoodIn wsX5_key wsX5_rowOf := goodIn_r _ [27, 8, 72, 73, 74, 75, 76, 77, 78, 79, 80, 81, 82, 83, 84, 85, 86, 87, 88, 89, 90] (by decide +kernel) (by decide +kernel)
set_option maxRecDepth 20000 in
theorem gX5_key_X5_rowOf : GoodIn wsX5_key (wsV RX5 104 RX5 yX5_rowOf wsX5_rowOf) := goodIn_app (goodIn_of _ (by decide +kernel)) ggX5_key_X5_rowOf
theorem dX5_key_0 : decode cX5_key 0 = .ok (.aload_n 0, 1) := by decide +kernel
theorem dX5_key_1 : decode cX5_key 1 = .ok (.invokevirtual 110, 3) := by decide +kernel
theorem dX5_key_4 : decode cX5_key 4 = .ok (.aload_n 0, 1) := by decide +kernel
theorem dX5_key_5 : decode cX5_key 5 = .ok (.iload_n 1, 1) := by decide +kernel
theorem dX5_key_6 : decode cX5_key 6 = .ok (.invokevirtual 125, 3) := by decide +kernel
theorem dX5_key_9 : decode cX5_key 9 = .ok (.istore_n 2, 1) := by decide +kernel
theorem dX5_key_10 : decode cX5_key 10 = .ok (.iload_n 2, 1) := by decide +kernel
theorem dX5_key_11 : decode cX5_key 11 = .ok (.ifCond .eq 9, 3) := by decide +kernel
theorem dX5_key_14 : decode cX5_key 14 = .ok (.aload_n 0, 1) := by decide +kernel
theorem dX5_key_15 : decode cX5_key 15 = .ok (.iload_n 2, 1) := by decide +kernel
theorem dX5_key_16 : decode cX5_key 16 = .ok (.invokevirtual 82, 3) := by decide +kernel
theorem dX5_key_19 : decode cX5_key 19 = .ok (.ireturn, 1) := by decide +kernel
theorem dX5_key_20 : decode cX5_key 20 = .ok (.aload_n 0, 1) := by decide +kernel
theorem dX5_key_21 : decode cX5_key 21 = .ok (.invokevirtual 85, 3) := by decide +kernel
theorem dX5_key_24 : decode cX5_key 24 = .ok (.aload_n 0, 1) := by decide +kernel
theorem dX5_key_25 : decode cX5_key 25 = .ok (.getfield 25, 3) := by decide +kernel
theorem dX5_key_28 : decode cX5_key 28 = .ok (.aload_n 0, 1) := by decide +kernel
theorem dX5_key_29 : decode cX5_key 29 = .ok (.iload_n 1, 1) := by decide +kernel
theorem dX5_key_30 : decode cX5_key 30 = .ok (.invokevirtual 104, 3) := by decide +kernel
theorem dX5_key_33 : decode cX5_key 33 = .ok (.iaload, 1) := by decide +kernel
theorem dX5_key_34 : decode cX5_key 34 = .ok (.ireturn, 1) := by decide +kernel
set_option maxRecDepth 20000 in
theorem ggX5_drops_X5_hold : GoodIn wsX5_drops wsX5_hold := goodIn_r _ [5, 6, 7, 8, 9, 72, 73, 74, 75, 76, 77, 78, 79, 80, 81, 82, 83, 84, 85, 86, 87, 88, 89, 90] (by decide +kernel) (by decide +kernel)
set_option maxRecDepth 20000 in
theorem gX5_drops_X5_hold : GoodIn wsX5_drops (wsV RX5 110 RX5 yX5_hold wsX5_hold) := goodIn_app (goodIn_of _ (by decide +kernel)) ggX5_drops_X5_hold
set_option maxRecDepth 20000 in
theorem ggX5_drops_X5_doDrops : GoodIn wsX5_drops wsX5_doDrops := goodIn_r _ [13, 7, 14, 15, 4, 16, 17, 18, 19, 20, 21, 22, 23, 72, 73, 74, 75, 76, 77, 78, 79, 80, 81, 82, 83, 84, 85, 86, 87, 88, 89, 90] (by decide +kernel) (by decide +kernel)
set_option maxRecDepth 20000 in
theorem gX5_drops_X5_doDrops : GoodIn wsX5_drops (wsV RX5 128 RX5 yX5_doDrops wsX5_doDrops) := goodIn_app (goodIn_of _ (by decide +kernel)) ggX5_drops_X5_doDrops
set_option maxRecDepth 20000 in
theorem ggX5_drops_X5_ends : GoodIn wsX5_drops wsX5_ends := goodIn_r _ [27, 7, 28, 29, 30, 4, 31, 32, 33, 34, 35, 36, 37, 38, 6, 39, 40, 41, 42, 43, 9, 44, 45, 46, 47, 48, 49, 50, 51, 52, 53, 54, 55, 56, 57, 58, 59, 60, 61, 62, 63, 64, 65, 66, 67, 68, 69, 70, 71, 8, 72, 73, 74, 75, 76, 77, 78, 79, 80, 81, 82, 83, 84, 85, 86, 87, 88, 89, 90] (by decide +kernel) (by decide +kernel)
set_option maxRecDepth 20000 in
theorem gX5_drops_X5_ends : GoodIn wsX5_drops (wsV RX5 116 RX5 yX5_ends wsX5_ends) := goodIn_app (goodIn_of _ (by decide +kernel)) ggX5_drops_X5_ends
theorem dX5_drops_0 : decode cX5_drops 0 = .ok (.aload_n 0, 1) := by decide +kernel
theorem dX5_drops_1 : decode cX5_drops 1 = .ok (.invokevirtual 110, 3) := by decide +kernel
theorem dX5_drops_4 : decode cX5_drops 4 = .ok (.aload_n 0, 1) := by decide +kernel
theorem dX5_drops_5 : decode cX5_drops 5 = .ok (.aload_n 0, 1) := by decide +kernel
theorem dX5_drops_6 : decode cX5_drops 6 = .ok (.iload_n 1, 1) := by decide +kernel
theorem dX5_drops_7 : decode cX5_drops 7 = .ok (.invokevirtual 128, 3) := by decide +kernel
theorem dX5_drops_10 : decode cX5_drops 10 = .ok (.invokevirtual 116, 3) := by decide +kernel
theorem dX5_drops_13 : decode cX5_drops 13 = .ok (.ireturn, 1) := by decide +kernel
set_option maxRecDepth 20000 in
theorem ggX5_extra_X5_hold : GoodIn wsX5_extra wsX5_hold := goodIn_r _ [5, 6, 7, 8, 9, 65, 66, 67, 68, 69, 70, 71, 72, 73, 74, 75, 76, 77, 78, 79, 80, 81, 82, 83] (by decide +kernel) (by decide +kernel)
set_option maxRecDepth 20000 in
theorem gX5_extra_X5_hold : GoodIn wsX5_extra (wsV RX5 110 RX5 yX5_hold wsX5_hold) := goodIn_app (goodIn_of _ (by decide +kernel)) ggX5_extra_X5_hold
set_option maxRecDepth 20000 in
theorem ggX5_extra_X5_doExtra : GoodIn wsX5_extra wsX5_doExtra := goodIn_r _ [13, 7, 14, 15, 4, 16, 65, 66, 67, 68, 69, 70, 71, 72, 73, 74, 75, 76, 77, 78, 79, 80, 81, 82, 83] (by decide +kernel) (by decide +kernel)
set_option maxRecDepth 20000 in
theorem gX5_extra_X5_doExtra : GoodIn wsX5_extra (wsV RX5 131 RX5 yX5_doExtra wsX5_doExtra) := goodIn_app (goodIn_of _ (by decide +kernel)) ggX5_extra_X5_doExtra
set_option maxRecDepth 20000 in
theorem ggX5_extra_X5_ends : GoodIn wsX5_extra wsX5_ends := goodIn_r _ [20, 7, 21, 22, 23, 4, 24, 25, 26, 27, 28, 29, 30, 31, 6, 32, 33, 34, 35, 36, 9, 37, 38, 39, 40, 41, 42, 43, 44, 45, 46, 47, 48, 49, 50, 51, 52, 53, 54, 55, 56, 57, 58, 59, 60, 61, 62, 63, 64, 8, 65, 66, 67, 68, 69, 70, 71, 72, 73, 74, 75, 76, 77, 78, 79, 80, 81, 82, 83] (by decide +kernel) (by decide +kernel)
set_option maxRecDepth 20000 in
theorem gX5_extra_X5_ends : GoodIn wsX5_extra (wsV RX5 116 RX5 yX5_ends wsX5_ends) := goodIn_app (goodIn_of _ (by decide +kernel)) ggX5_extra_X5_ends
theorem dX5_extra_0 : decode cX5_extra 0 = .ok (.aload_n 0, 1) := by decide +kernel
theorem dX5_extra_1 : decode cX5_extra 1 = .ok (.invokevirtual 110, 3) := by decide +kernel
theorem dX5_extra_4 : decode cX5_extra 4 = .ok (.aload_n 0, 1) := by decide +kernel
theorem dX5_extra_5 : decode cX5_extra 5 = .ok (.aload_n 0, 1) := by decide +kernel
theorem dX5_extra_6 : decode cX5_extra 6 = .ok (.iload_n 1, 1) := by decide +kernel
theorem dX5_extra_7 : decode cX5_extra 7 = .ok (.invokevirtual 131, 3) := by decide +kernel
theorem dX5_extra_10 : decode cX5_extra 10 = .ok (.invokevirtual 116, 3) := by decide +kernel
theorem dX5_extra_13 : decode cX5_extra 13 = .ok (.ireturn, 1) := by decide +kernel
set_option maxRecDepth 20000 in
theorem ggX5_ofHost_X5_bound : GoodIn wsX5_ofHost wsX5_bound := goodIn_r _ [8, 1, 9, 10, 11, 7, 12, 13, 14, 15, 16, 17, 18, 19, 20, 21, 22, 23, 24, 25, 26, 27, 28, 29, 30, 31] (by decide +kernel) (by decide +kernel)
set_option maxRecDepth 20000 in
theorem gX5_ofHost_X5_bound : GoodIn wsX5_ofHost (wsV RX5 72 RX5 yX5_bound wsX5_bound) := goodIn_app (goodIn_of _ (by decide +kernel)) ggX5_ofHost_X5_bound
theorem dX5_ofHost_0 : decode cX5_ofHost 0 = .ok (.iload_n 2, 1) := by decide +kernel
theorem dX5_ofHost_1 : decode cX5_ofHost 1 = .ok (.iconst 3, 1) := by decide +kernel
theorem dX5_ofHost_2 : decode cX5_ofHost 2 = .ok (.if_icmp .ge 36, 3) := by decide +kernel
theorem dX5_ofHost_5 : decode cX5_ofHost 5 = .ok (.iload_n 2, 1) := by decide +kernel
theorem dX5_ofHost_6 : decode cX5_ofHost 6 = .ok (.ifCond .ne 12, 3) := by decide +kernel
theorem dX5_ofHost_9 : decode cX5_ofHost 9 = .ok (.aload_n 0, 1) := by decide +kernel
theorem dX5_ofHost_10 : decode cX5_ofHost 10 = .ok (.getfield 7, 3) := by decide +kernel
theorem dX5_ofHost_13 : decode cX5_ofHost 13 = .ok (.iload_n 1, 1) := by decide +kernel
theorem dX5_ofHost_14 : decode cX5_ofHost 14 = .ok (.iaload, 1) := by decide +kernel
theorem dX5_ofHost_15 : decode cX5_ofHost 15 = .ok (.goto 22, 3) := by decide +kernel
theorem dX5_ofHost_18 : decode cX5_ofHost 18 = .ok (.iload_n 2, 1) := by decide +kernel
theorem dX5_ofHost_19 : decode cX5_ofHost 19 = .ok (.iconst 1, 1) := by decide +kernel
theorem dX5_ofHost_20 : decode cX5_ofHost 20 = .ok (.if_icmp .ne 11, 3) := by decide +kernel
theorem dX5_ofHost_23 : decode cX5_ofHost 23 = .ok (.aload_n 0, 1) := by decide +kernel
theorem dX5_ofHost_24 : decode cX5_ofHost 24 = .ok (.iload_n 1, 1) := by decide +kernel
theorem dX5_ofHost_25 : decode cX5_ofHost 25 = .ok (.invokevirtual 72, 3) := by decide +kernel
theorem dX5_ofHost_28 : decode cX5_ofHost 28 = .ok (.goto 9, 3) := by decide +kernel
theorem dX5_ofHost_31 : decode cX5_ofHost 31 = .ok (.aload_n 0, 1) := by decide +kernel
theorem dX5_ofHost_32 : decode cX5_ofHost 32 = .ok (.getfield 31, 3) := by decide +kernel
theorem dX5_ofHost_35 : decode cX5_ofHost 35 = .ok (.iload_n 1, 1) := by decide +kernel
theorem dX5_ofHost_36 : decode cX5_ofHost 36 = .ok (.iaload, 1) := by decide +kernel
theorem dX5_ofHost_37 : decode cX5_ofHost 37 = .ok (.ireturn, 1) := by decide +kernel
theorem dX5_ofHost_38 : decode cX5_ofHost 38 = .ok (.iload_n 2, 1) := by decide +kernel
theorem dX5_ofHost_39 : decode cX5_ofHost 39 = .ok (.iconst 3, 1) := by decide +kernel
theorem dX5_ofHost_40 : decode cX5_ofHost 40 = .ok (.isub, 1) := by decide +kernel
theorem dX5_ofHost_41 : decode cX5_ofHost 41 = .ok (.istore_n 3, 1) := by decide +kernel
theorem dX5_ofHost_42 : decode cX5_ofHost 42 = .ok (.iconst 0, 1) := by decide +kernel
theorem dX5_ofHost_43 : decode cX5_ofHost 43 = .ok (.istore 4, 2) := by decide +kernel
theorem dX5_ofHost_45 : decode cX5_ofHost 45 = .ok (.iload 4, 2) := by decide +kernel
theorem dX5_ofHost_47 : decode cX5_ofHost 47 = .ok (.aload_n 0, 1) := by decide +kernel
theorem dX5_ofHost_48 : decode cX5_ofHost 48 = .ok (.getfield 7, 3) := by decide +kernel
theorem dX5_ofHost_51 : decode cX5_ofHost 51 = .ok (.sipush 140, 3) := by decide +kernel
theorem dX5_ofHost_54 : decode cX5_ofHost 54 = .ok (.iaload, 1) := by decide +kernel
theorem dX5_ofHost_55 : decode cX5_ofHost 55 = .ok (.if_icmp .ge 38, 3) := by decide +kernel
theorem dX5_ofHost_58 : decode cX5_ofHost 58 = .ok (.aload_n 0, 1) := by decide +kernel
theorem dX5_ofHost_59 : decode cX5_ofHost 59 = .ok (.getfield 25, 3) := by decide +kernel
theorem dX5_ofHost_62 : decode cX5_ofHost 62 = .ok (.iload 4, 2) := by decide +kernel
theorem dX5_ofHost_64 : decode cX5_ofHost 64 = .ok (.iaload, 1) := by decide +kernel
theorem dX5_ofHost_65 : decode cX5_ofHost 65 = .ok (.iload_n 1, 1) := by decide +kernel
theorem dX5_ofHost_66 : decode cX5_ofHost 66 = .ok (.if_icmp .ne 21, 3) := by decide +kernel
theorem dX5_ofHost_69 : decode cX5_ofHost 69 = .ok (.iload_n 3, 1) := by decide +kernel
theorem dX5_ofHost_70 : decode cX5_ofHost 70 = .ok (.ifCond .ne 14, 3) := by decide +kernel
theorem dX5_ofHost_73 : decode cX5_ofHost 73 = .ok (.aload_n 0, 1) := by decide +kernel
theorem dX5_ofHost_74 : decode cX5_ofHost 74 = .ok (.getfield 7, 3) := by decide +kernel
theorem dX5_ofHost_77 : decode cX5_ofHost 77 = .ok (.bipush 100, 2) := by decide +kernel
theorem dX5_ofHost_79 : decode cX5_ofHost 79 = .ok (.iload 4, 2) := by decide +kernel
theorem dX5_ofHost_81 : decode cX5_ofHost 81 = .ok (.iadd, 1) := by decide +kernel
theorem dX5_ofHost_82 : decode cX5_ofHost 82 = .ok (.iaload, 1) := by decide +kernel
theorem dX5_ofHost_83 : decode cX5_ofHost 83 = .ok (.ireturn, 1) := by decide +kernel
theorem dX5_ofHost_84 : decode cX5_ofHost 84 = .ok (.iinc 3 (-1), 3) := by decide +kernel
theorem dX5_ofHost_87 : decode cX5_ofHost 87 = .ok (.iinc 4 1, 3) := by decide +kernel
theorem dX5_ofHost_90 : decode cX5_ofHost 90 = .ok (.goto (-45), 3) := by decide +kernel
theorem dX5_ofHost_93 : decode cX5_ofHost 93 = .ok (.iconst (-1), 1) := by decide +kernel
theorem dX5_ofHost_94 : decode cX5_ofHost 94 = .ok (.ireturn, 1) := by decide +kernel
set_option maxRecDepth 20000 in
theorem ggX5_of_X5_isName : GoodIn wsX5_of wsX5_isName := goodIn_r _ [4, 5, 6, 3, 7] (by decide +kernel) (by decide +kernel)
set_option maxRecDepth 20000 in
theorem gX5_of_X5_isName : GoodIn wsX5_of (va_wsS RX5 95 yX5_isName wsX5_isName) := goodIn_app (goodIn_of _ (by decide +kernel)) ggX5_of_X5_isName
set_option maxRecDepth 20000 in
theorem ggX5_of_X5_in : GoodIn wsX5_of wsX5_in := goodIn_r _ [7] (by decide +kernel) (by decide +kernel)
set_option maxRecDepth 20000 in
theorem gX5_of_X5_in : GoodIn wsX5_of (va_wsS RX5 88 yX5_in wsX5_in) := goodIn_app (goodIn_of _ (by decide +kernel)) ggX5_of_X5_in
set_option maxRecDepth 20000 in
theorem ggX5_of_X5_refuses : GoodIn wsX5_of wsX5_refuses := goodIn_r _ [11, 12, 32, 33, 34, 35, 36, 37, 38, 39, 40, 41, 42, 43, 44, 45, 46, 47, 48, 49, 50] (by decide +kernel) (by decide +kernel)
set_option maxRecDepth 20000 in
theorem gX5_of_X5_refuses : GoodIn wsX5_of (wsV RX5 82 RX5 yX5_refuses wsX5_refuses) := goodIn_app (goodIn_of _ (by decide +kernel)) ggX5_of_X5_refuses
set_option maxRecDepth 20000 in
theorem ggX5_of_X5_isHost : GoodIn wsX5_of wsX5_isHost := goodIn_r _ [16, 17, 32, 33, 34, 35, 36, 37, 38, 39, 40, 41, 42, 43, 44, 45, 46, 47, 48, 49, 50] (by decide +kernel) (by decide +kernel)
set_option maxRecDepth 20000 in
theorem gX5_of_X5_isHost : GoodIn wsX5_of (wsV RX5 92 RX5 yX5_isHost wsX5_isHost) := goodIn_app (goodIn_of _ (by decide +kernel)) ggX5_of_X5_isHost
set_option maxRecDepth 20000 in
theorem ggX5_of_X5_ofHost : GoodIn wsX5_of wsX5_ofHost := goodIn_r _ [21, 17, 22, 23, 24, 25, 26, 3, 27, 28, 29, 30, 31, 32, 33, 34, 35, 36, 37, 38, 39, 40, 41, 42, 43, 44, 45, 46, 47, 48, 49, 50] (by decide +kernel) (by decide +kernel)
set_option maxRecDepth 20000 in
theorem gX5_of_X5_ofHost : GoodIn wsX5_of (wsV RX5 134 RX5 yX5_ofHost wsX5_ofHost) := goodIn_app (goodIn_of _ (by decide +kernel)) ggX5_of_X5_ofHost
theorem dX5_of_0 : decode cX5_of 0 = .ok (.iload_n 1, 1) := by decide +kernel
theorem dX5_of_1 : decode cX5_of 1 = .ok (.invokestatic 95, 3) := by decide +kernel
theorem dX5_of_4 : decode cX5_of 4 = .ok (.ifCond .eq 13, 3) := by decide +kernel
theorem dX5_of_7 : decode cX5_of 7 = .ok (.iload_n 2, 1) := by decide +kernel
theorem dX5_of_8 : decode cX5_of 8 = .ok (.iconst 0, 1) := by decide +kernel
theorem dX5_of_9 : decode cX5_of 9 = .ok (.bipush 42, 2) := by decide +kernel
theorem dX5_of_11 : decode cX5_of 11 = .ok (.invokestatic 88, 3) := by decide +kernel
theorem dX5_of_14 : decode cX5_of 14 = .ok (.ifCond .ne 10, 3) := by decide +kernel
theorem dX5_of_17 : decode cX5_of 17 = .ok (.aload_n 0, 1) := by decide +kernel
theorem dX5_of_18 : decode cX5_of 18 = .ok (.bipush (-2), 2) := by decide +kernel
theorem dX5_of_20 : decode cX5_of 20 = .ok (.invokevirtual 82, 3) := by decide +kernel
theorem dX5_of_23 : decode cX5_of 23 = .ok (.ireturn, 1) := by decide +kernel
theorem dX5_of_24 : decode cX5_of 24 = .ok (.aload_n 0, 1) := by decide +kernel
theorem dX5_of_25 : decode cX5_of 25 = .ok (.iload_n 1, 1) := by decide +kernel
theorem dX5_of_26 : decode cX5_of 26 = .ok (.invokevirtual 92, 3) := by decide +kernel
theorem dX5_of_29 : decode cX5_of 29 = .ok (.ifCond .eq 12, 3) := by decide +kernel
theorem dX5_of_32 : decode cX5_of 32 = .ok (.aload_n 0, 1) := by decide +kernel
theorem dX5_of_33 : decode cX5_of 33 = .ok (.iload_n 1, 1) := by decide +kernel
theorem dX5_of_34 : decode cX5_of 34 = .ok (.iload_n 2, 1) := by decide +kernel
theorem dX5_of_35 : decode cX5_of 35 = .ok (.invokevirtual 134, 3) := by decide +kernel
theorem dX5_of_38 : decode cX5_of 38 = .ok (.goto 9, 3) := by decide +kernel
theorem dX5_of_41 : decode cX5_of 41 = .ok (.aload_n 0, 1) := by decide +kernel
theorem dX5_of_42 : decode cX5_of 42 = .ok (.bipush (-3), 2) := by decide +kernel
theorem dX5_of_44 : decode cX5_of 44 = .ok (.invokevirtual 82, 3) := by decide +kernel
theorem dX5_of_47 : decode cX5_of 47 = .ok (.ireturn, 1) := by decide +kernel
set_option maxRecDepth 20000 in
theorem ggX5_mark_X5_isName : GoodIn wsX5_mark wsX5_isName := goodIn_r _ [5, 6, 7, 4, 8] (by decide +kernel) (by decide +kernel)
set_option maxRecDepth 20000 in
theorem gX5_mark_X5_isName : GoodIn wsX5_mark (va_wsS RX5 95 yX5_isName wsX5_isName) := goodIn_app (goodIn_of _ (by decide +kernel)) ggX5_mark_X5_isName
set_option maxRecDepth 20000 in
theorem ggX5_mark_X5_in : GoodIn wsX5_mark wsX5_in := goodIn_r _ [8] (by decide +kernel) (by decide +kernel)
set_option maxRecDepth 20000 in
theorem gX5_mark_X5_in : GoodIn wsX5_mark (va_wsS RX5 88 yX5_in wsX5_in) := goodIn_app (goodIn_of _ (by decide +kernel)) ggX5_mark_X5_in
set_option maxRecDepth 20000 in
theorem ggX5_mark_X5_refuses : GoodIn wsX5_mark wsX5_refuses := goodIn_r _ [12, 13, 26, 27, 28, 29, 30, 31, 32, 33, 34, 35, 36, 37, 38, 39, 40, 41, 42, 43, 44] (by decide +kernel) (by decide +kernel)
set_option maxRecDepth 20000 in
theorem gX5_mark_X5_refuses : GoodIn wsX5_mark (wsV RX5 82 RX5 yX5_refuses wsX5_refuses) := goodIn_app (goodIn_of _ (by decide +kernel)) ggX5_mark_X5_refuses
set_option maxRecDepth 20000 in
theorem ggX5_mark_X5_isHost : GoodIn wsX5_mark wsX5_isHost := goodIn_r _ [17, 1, 26, 27, 28, 29, 30, 31, 32, 33, 34, 35, 36, 37, 38, 39, 40, 41, 42, 43, 44] (by decide +kernel) (by decide +kernel)
set_option maxRecDepth 20000 in
theorem gX5_mark_X5_isHost : GoodIn wsX5_mark (wsV RX5 92 RX5 yX5_isHost wsX5_isHost) := goodIn_app (goodIn_of _ (by decide +kernel)) ggX5_mark_X5_isHost
set_option maxRecDepth 20000 in
theorem ggX5_mark_X5_markOf : GoodIn wsX5_mark wsX5_markOf := goodIn_r _ [21, 22, 1, 23, 24, 4, 25, 26, 27, 28, 29, 30, 31, 32, 33, 34, 35, 36, 37, 38, 39, 40, 41, 42, 43, 44] (by decide +kernel) (by decide +kernel)
set_option maxRecDepth 20000 in
theorem gX5_mark_X5_markOf : GoodIn wsX5_mark (wsV RX5 137 RX5 yX5_markOf wsX5_markOf) := goodIn_app (goodIn_of _ (by decide +kernel)) ggX5_mark_X5_markOf
theorem dX5_mark_0 : decode cX5_mark 0 = .ok (.iload_n 1, 1) := by decide +kernel
theorem dX5_mark_1 : decode cX5_mark 1 = .ok (.invokestatic 95, 3) := by decide +kernel
theorem dX5_mark_4 : decode cX5_mark 4 = .ok (.ifCond .eq 13, 3) := by decide +kernel
theorem dX5_mark_7 : decode cX5_mark 7 = .ok (.iload_n 2, 1) := by decide +kernel
theorem dX5_mark_8 : decode cX5_mark 8 = .ok (.iconst 0, 1) := by decide +kernel
theorem dX5_mark_9 : decode cX5_mark 9 = .ok (.bipush 7, 2) := by decide +kernel
theorem dX5_mark_11 : decode cX5_mark 11 = .ok (.invokestatic 88, 3) := by decide +kernel
theorem dX5_mark_14 : decode cX5_mark 14 = .ok (.ifCond .ne 10, 3) := by decide +kernel
theorem dX5_mark_17 : decode cX5_mark 17 = .ok (.aload_n 0, 1) := by decide +kernel
theorem dX5_mark_18 : decode cX5_mark 18 = .ok (.bipush (-2), 2) := by decide +kernel
theorem dX5_mark_20 : decode cX5_mark 20 = .ok (.invokevirtual 82, 3) := by decide +kernel
theorem dX5_mark_23 : decode cX5_mark 23 = .ok (.ireturn, 1) := by decide +kernel
theorem dX5_mark_24 : decode cX5_mark 24 = .ok (.aload_n 0, 1) := by decide +kernel
theorem dX5_mark_25 : decode cX5_mark 25 = .ok (.iload_n 1, 1) := by decide +kernel
theorem dX5_mark_26 : decode cX5_mark 26 = .ok (.invokevirtual 92, 3) := by decide +kernel
theorem dX5_mark_29 : decode cX5_mark 29 = .ok (.ifCond .ne 10, 3) := by decide +kernel
theorem dX5_mark_32 : decode cX5_mark 32 = .ok (.aload_n 0, 1) := by decide +kernel
theorem dX5_mark_33 : decode cX5_mark 33 = .ok (.bipush (-3), 2) := by decide +kernel
theorem dX5_mark_35 : decode cX5_mark 35 = .ok (.invokevirtual 82, 3) := by decide +kernel
theorem dX5_mark_38 : decode cX5_mark 38 = .ok (.ireturn, 1) := by decide +kernel
theorem dX5_mark_39 : decode cX5_mark 39 = .ok (.iload_n 2, 1) := by decide +kernel
theorem dX5_mark_40 : decode cX5_mark 40 = .ok (.iconst 2, 1) := by decide +kernel
theorem dX5_mark_41 : decode cX5_mark 41 = .ok (.aload_n 0, 1) := by decide +kernel
theorem dX5_mark_42 : decode cX5_mark 42 = .ok (.getfield 7, 3) := by decide +kernel
theorem dX5_mark_45 : decode cX5_mark 45 = .ok (.iload_n 1, 1) := by decide +kernel
theorem dX5_mark_46 : decode cX5_mark 46 = .ok (.iaload, 1) := by decide +kernel
theorem dX5_mark_47 : decode cX5_mark 47 = .ok (.imul, 1) := by decide +kernel
theorem dX5_mark_48 : decode cX5_mark 48 = .ok (.if_icmp .ge 12, 3) := by decide +kernel
theorem dX5_mark_51 : decode cX5_mark 51 = .ok (.aload_n 0, 1) := by decide +kernel
theorem dX5_mark_52 : decode cX5_mark 52 = .ok (.iload_n 1, 1) := by decide +kernel
theorem dX5_mark_53 : decode cX5_mark 53 = .ok (.iload_n 2, 1) := by decide +kernel
theorem dX5_mark_54 : decode cX5_mark 54 = .ok (.invokevirtual 137, 3) := by decide +kernel
theorem dX5_mark_57 : decode cX5_mark 57 = .ok (.goto 4, 3) := by decide +kernel
theorem dX5_mark_60 : decode cX5_mark 60 = .ok (.iconst (-1), 1) := by decide +kernel
theorem dX5_mark_61 : decode cX5_mark 61 = .ok (.ireturn, 1) := by decide +kernel
set_option maxRecDepth 20000 in
theorem ggX5_markOf_X5_first : GoodIn wsX5_markOf wsX5_first := goodIn_r _ [6] (by decide +kernel) (by decide +kernel)
set_option maxRecDepth 20000 in
theorem gX5_markOf_X5_first : GoodIn wsX5_markOf (va_wsS RX5 57 yX5_first wsX5_first) := goodIn_app (goodIn_of _ (by decide +kernel)) ggX5_markOf_X5_first
theorem dX5_markOf_0 : decode cX5_markOf 0 = .ok (.iconst 0, 1) := by decide +kernel
theorem dX5_markOf_1 : decode cX5_markOf 1 = .ok (.istore_n 3, 1) := by decide +kernel
theorem dX5_markOf_2 : decode cX5_markOf 2 = .ok (.iload_n 3, 1) := by decide +kernel
theorem dX5_markOf_3 : decode cX5_markOf 3 = .ok (.bipush 101, 2) := by decide +kernel
theorem dX5_markOf_5 : decode cX5_markOf 5 = .ok (.if_icmp .ge 16, 3) := by decide +kernel
theorem dX5_markOf_8 : decode cX5_markOf 8 = .ok (.aload_n 0, 1) := by decide +kernel
theorem dX5_markOf_9 : decode cX5_markOf 9 = .ok (.getfield 37, 3) := by decide +kernel
theorem dX5_markOf_12 : decode cX5_markOf 12 = .ok (.iload_n 3, 1) := by decide +kernel
theorem dX5_markOf_13 : decode cX5_markOf 13 = .ok (.iconst 0, 1) := by decide +kernel
theorem dX5_markOf_14 : decode cX5_markOf 14 = .ok (.bastore, 1) := by decide +kernel
theorem dX5_markOf_15 : decode cX5_markOf 15 = .ok (.iinc 3 1, 3) := by decide +kernel
theorem dX5_markOf_18 : decode cX5_markOf 18 = .ok (.goto (-16), 3) := by decide +kernel
theorem dX5_markOf_21 : decode cX5_markOf 21 = .ok (.iconst (-1), 1) := by decide +kernel
theorem dX5_markOf_22 : decode cX5_markOf 22 = .ok (.istore_n 3, 1) := by decide +kernel
theorem dX5_markOf_23 : decode cX5_markOf 23 = .ok (.iconst 0, 1) := by decide +kernel
theorem dX5_markOf_24 : decode cX5_markOf 24 = .ok (.istore 4, 2) := by decide +kernel
theorem dX5_markOf_26 : decode cX5_markOf 26 = .ok (.iload 4, 2) := by decide +kernel
theorem dX5_markOf_28 : decode cX5_markOf 28 = .ok (.iload_n 1, 1) := by decide +kernel
theorem dX5_markOf_29 : decode cX5_markOf 29 = .ok (.if_icmp .gt 86, 3) := by decide +kernel
theorem dX5_markOf_32 : decode cX5_markOf 32 = .ok (.iconst 0, 1) := by decide +kernel
theorem dX5_markOf_33 : decode cX5_markOf 33 = .ok (.istore 5, 2) := by decide +kernel
theorem dX5_markOf_35 : decode cX5_markOf 35 = .ok (.iload 5, 2) := by decide +kernel
theorem dX5_markOf_37 : decode cX5_markOf 37 = .ok (.iconst 2, 1) := by decide +kernel
theorem dX5_markOf_38 : decode cX5_markOf 38 = .ok (.aload_n 0, 1) := by decide +kernel
theorem dX5_markOf_39 : decode cX5_markOf 39 = .ok (.getfield 7, 3) := by decide +kernel
theorem dX5_markOf_42 : decode cX5_markOf 42 = .ok (.iload 4, 2) := by decide +kernel
end
section
theorem dX5_markOf_44 : decode cX5_markOf 44 = .ok (.iaload, 1) := by decide +kernel
theorem dX5_markOf_45 : decode cX5_markOf 45 = .ok (.imul, 1) := by decide +kernel
theorem dX5_markOf_46 : decode cX5_markOf 46 = .ok (.if_icmp .ge 63, 3) := by decide +kernel
theorem dX5_markOf_49 : decode cX5_markOf 49 = .ok (.iload 4, 2) := by decide +kernel
theorem dX5_markOf_51 : decode cX5_markOf 51 = .ok (.iload_n 1, 1) := by decide +kernel
theorem dX5_markOf_52 : decode cX5_markOf 52 = .ok (.if_icmp .lt 9, 3) := by decide +kernel
theorem dX5_markOf_55 : decode cX5_markOf 55 = .ok (.iload 5, 2) := by decide +kernel
theorem dX5_markOf_57 : decode cX5_markOf 57 = .ok (.iload_n 2, 1) := by decide +kernel
theorem dX5_markOf_58 : decode cX5_markOf 58 = .ok (.if_icmp .gt 51, 3) := by decide +kernel
theorem dX5_markOf_61 : decode cX5_markOf 61 = .ok (.iload 4, 2) := by decide +kernel
theorem dX5_markOf_63 : decode cX5_markOf 63 = .ok (.iload 5, 2) := by decide +kernel
theorem dX5_markOf_65 : decode cX5_markOf 65 = .ok (.invokestatic 57, 3) := by decide +kernel
theorem dX5_markOf_68 : decode cX5_markOf 68 = .ok (.istore 6, 2) := by decide +kernel
theorem dX5_markOf_70 : decode cX5_markOf 70 = .ok (.aload_n 0, 1) := by decide +kernel
theorem dX5_markOf_71 : decode cX5_markOf 71 = .ok (.getfield 37, 3) := by decide +kernel
theorem dX5_markOf_74 : decode cX5_markOf 74 = .ok (.iload 6, 2) := by decide +kernel
theorem dX5_markOf_76 : decode cX5_markOf 76 = .ok (.baload, 1) := by decide +kernel
theorem dX5_markOf_77 : decode cX5_markOf 77 = .ok (.ifCond .eq 15, 3) := by decide +kernel
theorem dX5_markOf_80 : decode cX5_markOf 80 = .ok (.iload 6, 2) := by decide +kernel
theorem dX5_markOf_82 : decode cX5_markOf 82 = .ok (.iconst 1, 1) := by decide +kernel
theorem dX5_markOf_83 : decode cX5_markOf 83 = .ok (.iadd, 1) := by decide +kernel
theorem dX5_markOf_84 : decode cX5_markOf 84 = .ok (.bipush 101, 2) := by decide +kernel
theorem dX5_markOf_86 : decode cX5_markOf 86 = .ok (.irem, 1) := by decide +kernel
theorem dX5_markOf_87 : decode cX5_markOf 87 = .ok (.istore 6, 2) := by decide +kernel
theorem dX5_markOf_89 : decode cX5_markOf 89 = .ok (.goto (-19), 3) := by decide +kernel
theorem dX5_markOf_92 : decode cX5_markOf 92 = .ok (.aload_n 0, 1) := by decide +kernel
theorem dX5_markOf_93 : decode cX5_markOf 93 = .ok (.getfield 37, 3) := by decide +kernel
theorem dX5_markOf_96 : decode cX5_markOf 96 = .ok (.iload 6, 2) := by decide +kernel
theorem dX5_markOf_98 : decode cX5_markOf 98 = .ok (.iconst 1, 1) := by decide +kernel
theorem dX5_markOf_99 : decode cX5_markOf 99 = .ok (.bastore, 1) := by decide +kernel
theorem dX5_markOf_100 : decode cX5_markOf 100 = .ok (.iload 6, 2) := by decide +kernel
theorem dX5_markOf_102 : decode cX5_markOf 102 = .ok (.istore_n 3, 1) := by decide +kernel
theorem dX5_markOf_103 : decode cX5_markOf 103 = .ok (.iinc 5 1, 3) := by decide +kernel
theorem dX5_markOf_106 : decode cX5_markOf 106 = .ok (.goto (-71), 3) := by decide +kernel
theorem dX5_markOf_109 : decode cX5_markOf 109 = .ok (.iinc 4 1, 3) := by decide +kernel
theorem dX5_markOf_112 : decode cX5_markOf 112 = .ok (.goto (-86), 3) := by decide +kernel
theorem dX5_markOf_115 : decode cX5_markOf 115 = .ok (.iload_n 3, 1) := by decide +kernel
theorem dX5_markOf_116 : decode cX5_markOf 116 = .ok (.ireturn, 1) := by decide +kernel
set_option maxRecDepth 20000 in
theorem ggX5_at_X5_in : GoodIn wsX5_at wsX5_in := goodIn_r _ [5] (by decide +kernel) (by decide +kernel)
set_option maxRecDepth 20000 in
theorem gX5_at_X5_in : GoodIn wsX5_at (va_wsS RX5 88 yX5_in wsX5_in) := goodIn_app (goodIn_of _ (by decide +kernel)) ggX5_at_X5_in
set_option maxRecDepth 20000 in
theorem ggX5_at_X5_refuses : GoodIn wsX5_at wsX5_refuses := goodIn_r _ [9, 10, 11, 12, 13, 14, 15, 16, 17, 18, 19, 20, 21, 22, 23, 24, 25, 26, 27, 28, 29] (by decide +kernel) (by decide +kernel)
set_option maxRecDepth 20000 in
theorem gX5_at_X5_refuses : GoodIn wsX5_at (wsV RX5 82 RX5 yX5_refuses wsX5_refuses) := goodIn_app (goodIn_of _ (by decide +kernel)) ggX5_at_X5_refuses
theorem dX5_at_0 : decode cX5_at 0 = .ok (.iload_n 1, 1) := by decide +kernel
theorem dX5_at_1 : decode cX5_at 1 = .ok (.iconst 0, 1) := by decide +kernel
theorem dX5_at_2 : decode cX5_at 2 = .ok (.bipush 100, 2) := by decide +kernel
theorem dX5_at_4 : decode cX5_at 4 = .ok (.invokestatic 88, 3) := by decide +kernel
theorem dX5_at_7 : decode cX5_at 7 = .ok (.ifCond .eq 12, 3) := by decide +kernel
theorem dX5_at_10 : decode cX5_at 10 = .ok (.aload_n 0, 1) := by decide +kernel
theorem dX5_at_11 : decode cX5_at 11 = .ok (.getfield 22, 3) := by decide +kernel
theorem dX5_at_14 : decode cX5_at 14 = .ok (.iload_n 1, 1) := by decide +kernel
theorem dX5_at_15 : decode cX5_at 15 = .ok (.iaload, 1) := by decide +kernel
theorem dX5_at_16 : decode cX5_at 16 = .ok (.goto 9, 3) := by decide +kernel
theorem dX5_at_19 : decode cX5_at 19 = .ok (.aload_n 0, 1) := by decide +kernel
theorem dX5_at_20 : decode cX5_at 20 = .ok (.bipush (-2), 2) := by decide +kernel
theorem dX5_at_22 : decode cX5_at 22 = .ok (.invokevirtual 82, 3) := by decide +kernel
theorem dX5_at_25 : decode cX5_at 25 = .ok (.ireturn, 1) := by decide +kernel
set_option maxRecDepth 20000 in
theorem ggX5_name_X5_refuses : GoodIn wsX5_name wsX5_refuses := goodIn_r _ [5, 6, 12, 13, 14, 15, 16, 17, 18, 19, 20, 21, 22, 23, 24, 25, 26, 27, 28, 29, 30] (by decide +kernel) (by decide +kernel)
set_option maxRecDepth 20000 in
theorem gX5_name_X5_refuses : GoodIn wsX5_name (wsV RX5 82 RX5 yX5_refuses wsX5_refuses) := goodIn_app (goodIn_of _ (by decide +kernel)) ggX5_name_X5_refuses
set_option maxRecDepth 20000 in
theorem ggX5_name_X5_isHost : GoodIn wsX5_name wsX5_isHost := goodIn_r _ [10, 11, 12, 13, 14, 15, 16, 17, 18, 19, 20, 21, 22, 23, 24, 25, 26, 27, 28, 29, 30] (by decide +kernel) (by decide +kernel)
set_option maxRecDepth 20000 in
theorem gX5_name_X5_isHost : GoodIn wsX5_name (wsV RX5 92 RX5 yX5_isHost wsX5_isHost) := goodIn_app (goodIn_of _ (by decide +kernel)) ggX5_name_X5_isHost
theorem dX5_name_0 : decode cX5_name 0 = .ok (.iload_n 1, 1) := by decide +kernel
theorem dX5_name_1 : decode cX5_name 1 = .ok (.ifCond .ge 10, 3) := by decide +kernel
theorem dX5_name_4 : decode cX5_name 4 = .ok (.aload_n 0, 1) := by decide +kernel
theorem dX5_name_5 : decode cX5_name 5 = .ok (.bipush (-2), 2) := by decide +kernel
theorem dX5_name_7 : decode cX5_name 7 = .ok (.invokevirtual 82, 3) := by decide +kernel
theorem dX5_name_10 : decode cX5_name 10 = .ok (.ireturn, 1) := by decide +kernel
theorem dX5_name_11 : decode cX5_name 11 = .ok (.iload_n 1, 1) := by decide +kernel
theorem dX5_name_12 : decode cX5_name 12 = .ok (.istore_n 2, 1) := by decide +kernel
theorem dX5_name_13 : decode cX5_name 13 = .ok (.iconst 0, 1) := by decide +kernel
theorem dX5_name_14 : decode cX5_name 14 = .ok (.istore_n 3, 1) := by decide +kernel
theorem dX5_name_15 : decode cX5_name 15 = .ok (.iload_n 3, 1) := by decide +kernel
theorem dX5_name_16 : decode cX5_name 16 = .ok (.bipush 100, 2) := by decide +kernel
theorem dX5_name_18 : decode cX5_name 18 = .ok (.if_icmp .ge 26, 3) := by decide +kernel
theorem dX5_name_21 : decode cX5_name 21 = .ok (.aload_n 0, 1) := by decide +kernel
theorem dX5_name_22 : decode cX5_name 22 = .ok (.iload_n 3, 1) := by decide +kernel
theorem dX5_name_23 : decode cX5_name 23 = .ok (.invokevirtual 92, 3) := by decide +kernel
theorem dX5_name_26 : decode cX5_name 26 = .ok (.ifCond .eq 12, 3) := by decide +kernel
theorem dX5_name_29 : decode cX5_name 29 = .ok (.iload_n 2, 1) := by decide +kernel
theorem dX5_name_30 : decode cX5_name 30 = .ok (.ifCond .ne 5, 3) := by decide +kernel
theorem dX5_name_33 : decode cX5_name 33 = .ok (.iload_n 3, 1) := by decide +kernel
theorem dX5_name_34 : decode cX5_name 34 = .ok (.ireturn, 1) := by decide +kernel
theorem dX5_name_35 : decode cX5_name 35 = .ok (.iinc 2 (-1), 3) := by decide +kernel
theorem dX5_name_38 : decode cX5_name 38 = .ok (.iinc 3 1, 3) := by decide +kernel
theorem dX5_name_41 : decode cX5_name 41 = .ok (.goto (-26), 3) := by decide +kernel
theorem dX5_name_44 : decode cX5_name 44 = .ok (.iconst (-1), 1) := by decide +kernel
theorem dX5_name_45 : decode cX5_name 45 = .ok (.ireturn, 1) := by decide +kernel
theorem dX5_shareOf_0 : decode cX5_shareOf 0 = .ok (.iconst 0, 1) := by decide +kernel
theorem dX5_shareOf_1 : decode cX5_shareOf 1 = .ok (.istore_n 2, 1) := by decide +kernel
theorem dX5_shareOf_2 : decode cX5_shareOf 2 = .ok (.iconst 0, 1) := by decide +kernel
theorem dX5_shareOf_3 : decode cX5_shareOf 3 = .ok (.istore_n 3, 1) := by decide +kernel
theorem dX5_shareOf_4 : decode cX5_shareOf 4 = .ok (.iload_n 3, 1) := by decide +kernel
theorem dX5_shareOf_5 : decode cX5_shareOf 5 = .ok (.bipush 101, 2) := by decide +kernel
theorem dX5_shareOf_7 : decode cX5_shareOf 7 = .ok (.if_icmp .ge 54, 3) := by decide +kernel
theorem dX5_shareOf_10 : decode cX5_shareOf 10 = .ok (.iload_n 3, 1) := by decide +kernel
theorem dX5_shareOf_11 : decode cX5_shareOf 11 = .ok (.istore 4, 2) := by decide +kernel
theorem dX5_shareOf_13 : decode cX5_shareOf 13 = .ok (.aload_n 0, 1) := by decide +kernel
theorem dX5_shareOf_14 : decode cX5_shareOf 14 = .ok (.getfield 22, 3) := by decide +kernel
theorem dX5_shareOf_17 : decode cX5_shareOf 17 = .ok (.iload 4, 2) := by decide +kernel
theorem dX5_shareOf_19 : decode cX5_shareOf 19 = .ok (.iaload, 1) := by decide +kernel
theorem dX5_shareOf_20 : decode cX5_shareOf 20 = .ok (.iconst (-1), 1) := by decide +kernel
theorem dX5_shareOf_21 : decode cX5_shareOf 21 = .ok (.if_icmp .ne 15, 3) := by decide +kernel
theorem dX5_shareOf_24 : decode cX5_shareOf 24 = .ok (.iload 4, 2) := by decide +kernel
theorem dX5_shareOf_26 : decode cX5_shareOf 26 = .ok (.iconst 1, 1) := by decide +kernel
theorem dX5_shareOf_27 : decode cX5_shareOf 27 = .ok (.iadd, 1) := by decide +kernel
theorem dX5_shareOf_28 : decode cX5_shareOf 28 = .ok (.bipush 101, 2) := by decide +kernel
theorem dX5_shareOf_30 : decode cX5_shareOf 30 = .ok (.irem, 1) := by decide +kernel
theorem dX5_shareOf_31 : decode cX5_shareOf 31 = .ok (.istore 4, 2) := by decide +kernel
theorem dX5_shareOf_33 : decode cX5_shareOf 33 = .ok (.goto (-20), 3) := by decide +kernel
theorem dX5_shareOf_36 : decode cX5_shareOf 36 = .ok (.iload_n 2, 1) := by decide +kernel
theorem dX5_shareOf_37 : decode cX5_shareOf 37 = .ok (.aload_n 0, 1) := by decide +kernel
theorem dX5_shareOf_38 : decode cX5_shareOf 38 = .ok (.getfield 22, 3) := by decide +kernel
theorem dX5_shareOf_41 : decode cX5_shareOf 41 = .ok (.iload 4, 2) := by decide +kernel
theorem dX5_shareOf_43 : decode cX5_shareOf 43 = .ok (.iaload, 1) := by decide +kernel
theorem dX5_shareOf_44 : decode cX5_shareOf 44 = .ok (.iload_n 1, 1) := by decide +kernel
theorem dX5_shareOf_45 : decode cX5_shareOf 45 = .ok (.if_icmp .ne 7, 3) := by decide +kernel
theorem dX5_shareOf_48 : decode cX5_shareOf 48 = .ok (.iconst 1, 1) := by decide +kernel
theorem dX5_shareOf_49 : decode cX5_shareOf 49 = .ok (.goto 4, 3) := by decide +kernel
theorem dX5_shareOf_52 : decode cX5_shareOf 52 = .ok (.iconst 0, 1) := by decide +kernel
theorem dX5_shareOf_53 : decode cX5_shareOf 53 = .ok (.iadd, 1) := by decide +kernel
theorem dX5_shareOf_54 : decode cX5_shareOf 54 = .ok (.istore_n 2, 1) := by decide +kernel
theorem dX5_shareOf_55 : decode cX5_shareOf 55 = .ok (.iinc 3 1, 3) := by decide +kernel
theorem dX5_shareOf_58 : decode cX5_shareOf 58 = .ok (.goto (-54), 3) := by decide +kernel
theorem dX5_shareOf_61 : decode cX5_shareOf 61 = .ok (.iload_n 2, 1) := by decide +kernel
theorem dX5_shareOf_62 : decode cX5_shareOf 62 = .ok (.ireturn, 1) := by decide +kernel
set_option maxRecDepth 20000 in
theorem ggX5_share_X5_isName : GoodIn wsX5_share wsX5_isName := goodIn_r _ [4, 5, 6, 3, 7] (by decide +kernel) (by decide +kernel)
set_option maxRecDepth 20000 in
theorem gX5_share_X5_isName : GoodIn wsX5_share (va_wsS RX5 95 yX5_isName wsX5_isName) := goodIn_app (goodIn_of _ (by decide +kernel)) ggX5_share_X5_isName
set_option maxRecDepth 20000 in
theorem ggX5_share_X5_refuses : GoodIn wsX5_share wsX5_refuses := goodIn_r _ [11, 12, 23, 24, 25, 26, 27, 28, 29, 30, 31, 32, 33, 34, 35, 36, 37, 38, 39, 40, 41] (by decide +kernel) (by decide +kernel)
set_option maxRecDepth 20000 in
theorem gX5_share_X5_refuses : GoodIn wsX5_share (wsV RX5 82 RX5 yX5_refuses wsX5_refuses) := goodIn_app (goodIn_of _ (by decide +kernel)) ggX5_share_X5_refuses
set_option maxRecDepth 20000 in
theorem ggX5_share_X5_isHost : GoodIn wsX5_share wsX5_isHost := goodIn_r _ [16, 17, 23, 24, 25, 26, 27, 28, 29, 30, 31, 32, 33, 34, 35, 36, 37, 38, 39, 40, 41] (by decide +kernel) (by decide +kernel)
set_option maxRecDepth 20000 in
theorem gX5_share_X5_isHost : GoodIn wsX5_share (wsV RX5 92 RX5 yX5_isHost wsX5_isHost) := goodIn_app (goodIn_of _ (by decide +kernel)) ggX5_share_X5_isHost
set_option maxRecDepth 20000 in
theorem ggX5_share_X5_shareOf : GoodIn wsX5_share wsX5_shareOf := goodIn_r _ [21, 22, 23, 24, 25, 26, 27, 28, 29, 30, 31, 32, 33, 34, 35, 36, 37, 38, 39, 40, 41] (by decide +kernel) (by decide +kernel)
set_option maxRecDepth 20000 in
theorem gX5_share_X5_shareOf : GoodIn wsX5_share (wsV RX5 140 RX5 yX5_shareOf wsX5_shareOf) := goodIn_app (goodIn_of _ (by decide +kernel)) ggX5_share_X5_shareOf
theorem dX5_share_0 : decode cX5_share 0 = .ok (.iload_n 1, 1) := by decide +kernel
theorem dX5_share_1 : decode cX5_share 1 = .ok (.invokestatic 95, 3) := by decide +kernel
theorem dX5_share_4 : decode cX5_share 4 = .ok (.ifCond .ne 10, 3) := by decide +kernel
theorem dX5_share_7 : decode cX5_share 7 = .ok (.aload_n 0, 1) := by decide +kernel
theorem dX5_share_8 : decode cX5_share 8 = .ok (.bipush (-2), 2) := by decide +kernel
theorem dX5_share_10 : decode cX5_share 10 = .ok (.invokevirtual 82, 3) := by decide +kernel
theorem dX5_share_13 : decode cX5_share 13 = .ok (.ireturn, 1) := by decide +kernel
theorem dX5_share_14 : decode cX5_share 14 = .ok (.aload_n 0, 1) := by decide +kernel
theorem dX5_share_15 : decode cX5_share 15 = .ok (.iload_n 1, 1) := by decide +kernel
theorem dX5_share_16 : decode cX5_share 16 = .ok (.invokevirtual 92, 3) := by decide +kernel
theorem dX5_share_19 : decode cX5_share 19 = .ok (.ifCond .eq 11, 3) := by decide +kernel
theorem dX5_share_22 : decode cX5_share 22 = .ok (.aload_n 0, 1) := by decide +kernel
theorem dX5_share_23 : decode cX5_share 23 = .ok (.iload_n 1, 1) := by decide +kernel
theorem dX5_share_24 : decode cX5_share 24 = .ok (.invokevirtual 140, 3) := by decide +kernel
theorem dX5_share_27 : decode cX5_share 27 = .ok (.goto 9, 3) := by decide +kernel
theorem dX5_share_30 : decode cX5_share 30 = .ok (.aload_n 0, 1) := by decide +kernel
theorem dX5_share_31 : decode cX5_share 31 = .ok (.bipush (-3), 2) := by decide +kernel
theorem dX5_share_33 : decode cX5_share 33 = .ok (.invokevirtual 82, 3) := by decide +kernel
theorem dX5_share_36 : decode cX5_share 36 = .ok (.ireturn, 1) := by decide +kernel
set_option maxRecDepth 20000 in
theorem ggX5_has_X5_isKey : GoodIn wsX5_has wsX5_isKey := goodIn_r _ [5, 6, 7, 4, 8] (by decide +kernel) (by decide +kernel)
set_option maxRecDepth 20000 in
theorem gX5_has_X5_isKey : GoodIn wsX5_has (va_wsS RX5 101 yX5_isKey wsX5_isKey) := goodIn_app (goodIn_of _ (by decide +kernel)) ggX5_has_X5_isKey
set_option maxRecDepth 20000 in
theorem ggX5_has_X5_refuses : GoodIn wsX5_has wsX5_refuses := goodIn_r _ [12, 13, 19, 20, 21, 22, 23, 24, 25, 26, 27, 28, 29, 30, 31, 32, 33, 34, 35, 36, 37] (by decide +kernel) (by decide +kernel)
set_option maxRecDepth 20000 in
theorem gX5_has_X5_refuses : GoodIn wsX5_has (wsV RX5 82 RX5 yX5_refuses wsX5_refuses) := goodIn_app (goodIn_of _ (by decide +kernel)) ggX5_has_X5_refuses
set_option maxRecDepth 20000 in
theorem ggX5_has_X5_rowOf : GoodIn wsX5_has wsX5_rowOf := goodIn_r _ [17, 18, 19, 20, 21, 22, 23, 24, 25, 26, 27, 28, 29, 30, 31, 32, 33, 34, 35, 36, 37] (by decide +kernel) (by decide +kernel)
set_option maxRecDepth 20000 in
theorem gX5_has_X5_rowOf : GoodIn wsX5_has (wsV RX5 104 RX5 yX5_rowOf wsX5_rowOf) := goodIn_app (goodIn_of _ (by decide +kernel)) ggX5_has_X5_rowOf
theorem dX5_has_0 : decode cX5_has 0 = .ok (.iload_n 1, 1) := by decide +kernel
theorem dX5_has_1 : decode cX5_has 1 = .ok (.invokestatic 101, 3) := by decide +kernel
theorem dX5_has_4 : decode cX5_has 4 = .ok (.ifCond .ne 10, 3) := by decide +kernel
theorem dX5_has_7 : decode cX5_has 7 = .ok (.aload_n 0, 1) := by decide +kernel
theorem dX5_has_8 : decode cX5_has 8 = .ok (.bipush (-2), 2) := by decide +kernel
theorem dX5_has_10 : decode cX5_has 10 = .ok (.invokevirtual 82, 3) := by decide +kernel
theorem dX5_has_13 : decode cX5_has 13 = .ok (.ireturn, 1) := by decide +kernel
theorem dX5_has_14 : decode cX5_has 14 = .ok (.aload_n 0, 1) := by decide +kernel
theorem dX5_has_15 : decode cX5_has 15 = .ok (.iload_n 1, 1) := by decide +kernel
theorem dX5_has_16 : decode cX5_has 16 = .ok (.invokevirtual 104, 3) := by decide +kernel
theorem dX5_has_19 : decode cX5_has 19 = .ok (.istore_n 2, 1) := by decide +kernel
theorem dX5_has_20 : decode cX5_has 20 = .ok (.iload_n 2, 1) := by decide +kernel
theorem dX5_has_21 : decode cX5_has 21 = .ok (.iconst (-1), 1) := by decide +kernel
theorem dX5_has_22 : decode cX5_has 22 = .ok (.if_icmp .ne 12, 3) := by decide +kernel
theorem dX5_has_25 : decode cX5_has 25 = .ok (.aload_n 0, 1) := by decide +kernel
theorem dX5_has_26 : decode cX5_has 26 = .ok (.bipush (-3), 2) := by decide +kernel
theorem dX5_has_28 : decode cX5_has 28 = .ok (.invokevirtual 82, 3) := by decide +kernel
theorem dX5_has_31 : decode cX5_has 31 = .ok (.goto 17, 3) := by decide +kernel
theorem dX5_has_34 : decode cX5_has 34 = .ok (.aload_n 0, 1) := by decide +kernel
theorem dX5_has_35 : decode cX5_has 35 = .ok (.getfield 25, 3) := by decide +kernel
theorem dX5_has_38 : decode cX5_has 38 = .ok (.iload_n 2, 1) := by decide +kernel
theorem dX5_has_39 : decode cX5_has 39 = .ok (.ifCond .ge 7, 3) := by decide +kernel
theorem dX5_has_42 : decode cX5_has 42 = .ok (.iconst 0, 1) := by decide +kernel
theorem dX5_has_43 : decode cX5_has 43 = .ok (.goto 4, 3) := by decide +kernel
theorem dX5_has_46 : decode cX5_has 46 = .ok (.iload_n 2, 1) := by decide +kernel
theorem dX5_has_47 : decode cX5_has 47 = .ok (.iaload, 1) := by decide +kernel
theorem dX5_has_48 : decode cX5_has 48 = .ok (.ireturn, 1) := by decide +kernel
set_option maxRecDepth 20000 in
theorem ggX5_aboutKey_X5_placeOf : GoodIn wsX5_aboutKey wsX5_placeOf := goodIn_r _ [8] (by decide +kernel) (by decide +kernel)
set_option maxRecDepth 20000 in
theorem gX5_aboutKey_X5_placeOf : GoodIn wsX5_aboutKey (va_wsS RX5 64 yX5_placeOf wsX5_placeOf) := goodIn_app (goodIn_of _ (by decide +kernel)) ggX5_aboutKey_X5_placeOf
theorem dX5_aboutKey_0 : decode cX5_aboutKey 0 = .ok (.aload_n 0, 1) := by decide +kernel
theorem dX5_aboutKey_1 : decode cX5_aboutKey 1 = .ok (.getfield 7, 3) := by decide +kernel
theorem dX5_aboutKey_4 : decode cX5_aboutKey 4 = .ok (.bipush 100, 2) := by decide +kernel
theorem dX5_aboutKey_6 : decode cX5_aboutKey 6 = .ok (.iload_n 1, 1) := by decide +kernel
theorem dX5_aboutKey_7 : decode cX5_aboutKey 7 = .ok (.iadd, 1) := by decide +kernel
theorem dX5_aboutKey_8 : decode cX5_aboutKey 8 = .ok (.iaload, 1) := by decide +kernel
theorem dX5_aboutKey_9 : decode cX5_aboutKey 9 = .ok (.invokestatic 64, 3) := by decide +kernel
theorem dX5_aboutKey_12 : decode cX5_aboutKey 12 = .ok (.istore_n 3, 1) := by decide +kernel
theorem dX5_aboutKey_13 : decode cX5_aboutKey 13 = .ok (.iload_n 2, 1) := by decide +kernel
theorem dX5_aboutKey_14 : decode cX5_aboutKey 14 = .ok (.ifCond .eq 13, 3) := by decide +kernel
theorem dX5_aboutKey_17 : decode cX5_aboutKey 17 = .ok (.aload_n 0, 1) := by decide +kernel
theorem dX5_aboutKey_18 : decode cX5_aboutKey 18 = .ok (.getfield 25, 3) := by decide +kernel
theorem dX5_aboutKey_21 : decode cX5_aboutKey 21 = .ok (.iload_n 1, 1) := by decide +kernel
theorem dX5_aboutKey_22 : decode cX5_aboutKey 22 = .ok (.iaload, 1) := by decide +kernel
theorem dX5_aboutKey_23 : decode cX5_aboutKey 23 = .ok (.iconst (-1), 1) := by decide +kernel
theorem dX5_aboutKey_24 : decode cX5_aboutKey 24 = .ok (.if_icmp .ne 13, 3) := by decide +kernel
theorem dX5_aboutKey_27 : decode cX5_aboutKey 27 = .ok (.iload_n 2, 1) := by decide +kernel
theorem dX5_aboutKey_28 : decode cX5_aboutKey 28 = .ok (.ifCond .ne 7, 3) := by decide +kernel
theorem dX5_aboutKey_31 : decode cX5_aboutKey 31 = .ok (.iload_n 3, 1) := by decide +kernel
theorem dX5_aboutKey_32 : decode cX5_aboutKey 32 = .ok (.goto 4, 3) := by decide +kernel
theorem dX5_aboutKey_35 : decode cX5_aboutKey 35 = .ok (.iconst (-1), 1) := by decide +kernel
theorem dX5_aboutKey_36 : decode cX5_aboutKey 36 = .ok (.ireturn, 1) := by decide +kernel
theorem dX5_aboutKey_37 : decode cX5_aboutKey 37 = .ok (.iconst 0, 1) := by decide +kernel
theorem dX5_aboutKey_38 : decode cX5_aboutKey 38 = .ok (.istore 4, 2) := by decide +kernel
theorem dX5_aboutKey_40 : decode cX5_aboutKey 40 = .ok (.iconst 0, 1) := by decide +kernel
theorem dX5_aboutKey_41 : decode cX5_aboutKey 41 = .ok (.istore 5, 2) := by decide +kernel
theorem dX5_aboutKey_43 : decode cX5_aboutKey 43 = .ok (.iload_n 3, 1) := by decide +kernel
theorem dX5_aboutKey_44 : decode cX5_aboutKey 44 = .ok (.istore 6, 2) := by decide +kernel
theorem dX5_aboutKey_46 : decode cX5_aboutKey 46 = .ok (.iload 6, 2) := by decide +kernel
theorem dX5_aboutKey_48 : decode cX5_aboutKey 48 = .ok (.aload_n 0, 1) := by decide +kernel
theorem dX5_aboutKey_49 : decode cX5_aboutKey 49 = .ok (.getfield 28, 3) := by decide +kernel
theorem dX5_aboutKey_52 : decode cX5_aboutKey 52 = .ok (.iload_n 1, 1) := by decide +kernel
theorem dX5_aboutKey_53 : decode cX5_aboutKey 53 = .ok (.iaload, 1) := by decide +kernel
theorem dX5_aboutKey_54 : decode cX5_aboutKey 54 = .ok (.if_icmp .eq 39, 3) := by decide +kernel
theorem dX5_aboutKey_57 : decode cX5_aboutKey 57 = .ok (.iload 4, 2) := by decide +kernel
theorem dX5_aboutKey_59 : decode cX5_aboutKey 59 = .ok (.aload_n 0, 1) := by decide +kernel
theorem dX5_aboutKey_60 : decode cX5_aboutKey 60 = .ok (.getfield 22, 3) := by decide +kernel
theorem dX5_aboutKey_63 : decode cX5_aboutKey 63 = .ok (.iload 6, 2) := by decide +kernel
theorem dX5_aboutKey_65 : decode cX5_aboutKey 65 = .ok (.iaload, 1) := by decide +kernel
theorem dX5_aboutKey_66 : decode cX5_aboutKey 66 = .ok (.iconst (-1), 1) := by decide +kernel
theorem dX5_aboutKey_67 : decode cX5_aboutKey 67 = .ok (.if_icmp .ne 7, 3) := by decide +kernel
theorem dX5_aboutKey_70 : decode cX5_aboutKey 70 = .ok (.iconst 0, 1) := by decide +kernel
theorem dX5_aboutKey_71 : decode cX5_aboutKey 71 = .ok (.goto 4, 3) := by decide +kernel
theorem dX5_aboutKey_74 : decode cX5_aboutKey 74 = .ok (.iconst 1, 1) := by decide +kernel
theorem dX5_aboutKey_75 : decode cX5_aboutKey 75 = .ok (.iadd, 1) := by decide +kernel
theorem dX5_aboutKey_76 : decode cX5_aboutKey 76 = .ok (.istore 4, 2) := by decide +kernel
theorem dX5_aboutKey_78 : decode cX5_aboutKey 78 = .ok (.iinc 5 1, 3) := by decide +kernel
theorem dX5_aboutKey_81 : decode cX5_aboutKey 81 = .ok (.iload 6, 2) := by decide +kernel
theorem dX5_aboutKey_83 : decode cX5_aboutKey 83 = .ok (.iconst 1, 1) := by decide +kernel
theorem dX5_aboutKey_84 : decode cX5_aboutKey 84 = .ok (.iadd, 1) := by decide +kernel
theorem dX5_aboutKey_85 : decode cX5_aboutKey 85 = .ok (.bipush 101, 2) := by decide +kernel
theorem dX5_aboutKey_87 : decode cX5_aboutKey 87 = .ok (.irem, 1) := by decide +kernel
theorem dX5_aboutKey_88 : decode cX5_aboutKey 88 = .ok (.istore 6, 2) := by decide +kernel
theorem dX5_aboutKey_90 : decode cX5_aboutKey 90 = .ok (.goto (-44), 3) := by decide +kernel
theorem dX5_aboutKey_93 : decode cX5_aboutKey 93 = .ok (.iload_n 2, 1) := by decide +kernel
theorem dX5_aboutKey_94 : decode cX5_aboutKey 94 = .ok (.iconst 1, 1) := by decide +kernel
theorem dX5_aboutKey_95 : decode cX5_aboutKey 95 = .ok (.if_icmp .ne 8, 3) := by decide +kernel
theorem dX5_aboutKey_98 : decode cX5_aboutKey 98 = .ok (.iload 4, 2) := by decide +kernel
theorem dX5_aboutKey_100 : decode cX5_aboutKey 100 = .ok (.goto 5, 3) := by decide +kernel
theorem dX5_aboutKey_103 : decode cX5_aboutKey 103 = .ok (.iload 5, 2) := by decide +kernel
theorem dX5_aboutKey_105 : decode cX5_aboutKey 105 = .ok (.ireturn, 1) := by decide +kernel
set_option maxRecDepth 20000 in
theorem ggX5_about_X5_isKey : GoodIn wsX5_about wsX5_isKey := goodIn_r _ [4, 5, 6, 3, 7] (by decide +kernel) (by decide +kernel)
set_option maxRecDepth 20000 in
theorem gX5_about_X5_isKey : GoodIn wsX5_about (va_wsS RX5 101 yX5_isKey wsX5_isKey) := goodIn_app (goodIn_of _ (by decide +kernel)) ggX5_about_X5_isKey
set_option maxRecDepth 20000 in
theorem ggX5_about_X5_in : GoodIn wsX5_about wsX5_in := goodIn_r _ [7] (by decide +kernel) (by decide +kernel)
set_option maxRecDepth 20000 in
theorem gX5_about_X5_in : GoodIn wsX5_about (va_wsS RX5 88 yX5_in wsX5_in) := goodIn_app (goodIn_of _ (by decide +kernel)) ggX5_about_X5_in
set_option maxRecDepth 20000 in
theorem ggX5_about_X5_refuses : GoodIn wsX5_about wsX5_refuses := goodIn_r _ [11, 12, 28, 29, 30, 31, 32, 33, 34, 35, 36, 37, 38, 39, 40, 41, 42, 43, 44, 45, 46] (by decide +kernel) (by decide +kernel)
set_option maxRecDepth 20000 in
theorem gX5_about_X5_refuses : GoodIn wsX5_about (wsV RX5 82 RX5 yX5_refuses wsX5_refuses) := goodIn_app (goodIn_of _ (by decide +kernel)) ggX5_about_X5_refuses
set_option maxRecDepth 20000 in
theorem ggX5_about_X5_rowOf : GoodIn wsX5_about wsX5_rowOf := goodIn_r _ [16, 17, 28, 29, 30, 31, 32, 33, 34, 35, 36, 37, 38, 39, 40, 41, 42, 43, 44, 45, 46] (by decide +kernel) (by decide +kernel)
set_option maxRecDepth 20000 in
theorem gX5_about_X5_rowOf : GoodIn wsX5_about (wsV RX5 104 RX5 yX5_rowOf wsX5_rowOf) := goodIn_app (goodIn_of _ (by decide +kernel)) ggX5_about_X5_rowOf
set_option maxRecDepth 20000 in
theorem ggX5_about_X5_aboutKey : GoodIn wsX5_about wsX5_aboutKey := goodIn_r _ [21, 17, 22, 23, 24, 25, 26, 3, 27, 28, 29, 30, 31, 32, 33, 34, 35, 36, 37, 38, 39, 40, 41, 42, 43, 44, 45, 46] (by decide +kernel) (by decide +kernel)
set_option maxRecDepth 20000 in
theorem gX5_about_X5_aboutKey : GoodIn wsX5_about (wsV RX5 143 RX5 yX5_aboutKey wsX5_aboutKey) := goodIn_app (goodIn_of _ (by decide +kernel)) ggX5_about_X5_aboutKey
theorem dX5_about_0 : decode cX5_about 0 = .ok (.iload_n 1, 1) := by decide +kernel
theorem dX5_about_1 : decode cX5_about 1 = .ok (.invokestatic 101, 3) := by decide +kernel
theorem dX5_about_4 : decode cX5_about 4 = .ok (.ifCond .eq 12, 3) := by decide +kernel
theorem dX5_about_7 : decode cX5_about 7 = .ok (.iload_n 2, 1) := by decide +kernel
theorem dX5_about_8 : decode cX5_about 8 = .ok (.iconst 0, 1) := by decide +kernel
theorem dX5_about_9 : decode cX5_about 9 = .ok (.iconst 2, 1) := by decide +kernel
theorem dX5_about_10 : decode cX5_about 10 = .ok (.invokestatic 88, 3) := by decide +kernel
theorem dX5_about_13 : decode cX5_about 13 = .ok (.ifCond .ne 10, 3) := by decide +kernel
theorem dX5_about_16 : decode cX5_about 16 = .ok (.aload_n 0, 1) := by decide +kernel
theorem dX5_about_17 : decode cX5_about 17 = .ok (.bipush (-2), 2) := by decide +kernel
theorem dX5_about_19 : decode cX5_about 19 = .ok (.invokevirtual 82, 3) := by decide +kernel
theorem dX5_about_22 : decode cX5_about 22 = .ok (.ireturn, 1) := by decide +kernel
theorem dX5_about_23 : decode cX5_about 23 = .ok (.aload_n 0, 1) := by decide +kernel
theorem dX5_about_24 : decode cX5_about 24 = .ok (.iload_n 1, 1) := by decide +kernel
theorem dX5_about_25 : decode cX5_about 25 = .ok (.invokevirtual 104, 3) := by decide +kernel
theorem dX5_about_28 : decode cX5_about 28 = .ok (.istore_n 3, 1) := by decide +kernel
theorem dX5_about_29 : decode cX5_about 29 = .ok (.iload_n 3, 1) := by decide +kernel
theorem dX5_about_30 : decode cX5_about 30 = .ok (.iconst (-1), 1) := by decide +kernel
theorem dX5_about_31 : decode cX5_about 31 = .ok (.if_icmp .ne 12, 3) := by decide +kernel
theorem dX5_about_34 : decode cX5_about 34 = .ok (.aload_n 0, 1) := by decide +kernel
theorem dX5_about_35 : decode cX5_about 35 = .ok (.bipush (-3), 2) := by decide +kernel
theorem dX5_about_37 : decode cX5_about 37 = .ok (.invokevirtual 82, 3) := by decide +kernel
theorem dX5_about_40 : decode cX5_about 40 = .ok (.goto 17, 3) := by decide +kernel
theorem dX5_about_43 : decode cX5_about 43 = .ok (.aload_n 0, 1) := by decide +kernel
theorem dX5_about_44 : decode cX5_about 44 = .ok (.iload_n 3, 1) := by decide +kernel
theorem dX5_about_45 : decode cX5_about 45 = .ok (.ifCond .ge 7, 3) := by decide +kernel
theorem dX5_about_48 : decode cX5_about 48 = .ok (.iconst 0, 1) := by decide +kernel
theorem dX5_about_49 : decode cX5_about 49 = .ok (.goto 4, 3) := by decide +kernel
theorem dX5_about_52 : decode cX5_about 52 = .ok (.iload_n 3, 1) := by decide +kernel
theorem dX5_about_53 : decode cX5_about 53 = .ok (.iload_n 2, 1) := by decide +kernel
theorem dX5_about_54 : decode cX5_about 54 = .ok (.invokevirtual 143, 3) := by decide +kernel
theorem dX5_about_57 : decode cX5_about 57 = .ok (.ireturn, 1) := by decide +kernel
set_option maxRecDepth 20000 in
theorem ggX5_would_X5_mayCome : GoodIn wsX5_would wsX5_mayCome := goodIn_r _ [6, 7, 8, 9, 5, 10, 11, 12, 13, 14, 15, 16, 17, 66, 67, 68, 69, 70, 71, 72, 73, 74, 75, 76, 77, 78, 79, 80, 81, 82, 83, 84] (by decide +kernel) (by decide +kernel)
set_option maxRecDepth 20000 in
theorem gX5_would_X5_mayCome : GoodIn wsX5_would (wsV RX5 107 RX5 yX5_mayCome wsX5_mayCome) := goodIn_app (goodIn_of _ (by decide +kernel)) ggX5_would_X5_mayCome
set_option maxRecDepth 20000 in
theorem ggX5_would_X5_refuses : GoodIn wsX5_would wsX5_refuses := goodIn_r _ [21, 22, 66, 67, 68, 69, 70, 71, 72, 73, 74, 75, 76, 77, 78, 79, 80, 81, 82, 83, 84] (by decide +kernel) (by decide +kernel)
set_option maxRecDepth 20000 in
theorem gX5_would_X5_refuses : GoodIn wsX5_would (wsV RX5 82 RX5 yX5_refuses wsX5_refuses) := goodIn_app (goodIn_of _ (by decide +kernel)) ggX5_would_X5_refuses
set_option maxRecDepth 20000 in
theorem ggX5_would_X5_hold : GoodIn wsX5_would wsX5_hold := goodIn_r _ [26, 27, 7, 28, 1, 66, 67, 68, 69, 70, 71, 72, 73, 74, 75, 76, 77, 78, 79, 80, 81, 82, 83, 84] (by decide +kernel) (by decide +kernel)
set_option maxRecDepth 20000 in
theorem gX5_would_X5_hold : GoodIn wsX5_would (wsV RX5 110 RX5 yX5_hold wsX5_hold) := goodIn_app (goodIn_of _ (by decide +kernel)) ggX5_would_X5_hold
set_option maxRecDepth 20000 in
theorem ggX5_would_X5_doKey : GoodIn wsX5_would wsX5_doKey := goodIn_r _ [32, 7, 2, 3, 4, 5, 6, 8, 9, 10, 11, 12, 13, 14, 15, 16, 17, 66, 67, 68, 69, 70, 71, 72, 73, 74, 75, 76, 77, 78, 79, 80, 81, 82, 83, 84] (by decide +kernel) (by decide +kernel)
set_option maxRecDepth 20000 in
theorem gX5_would_X5_doKey : GoodIn wsX5_would (wsV RX5 125 RX5 yX5_doKey wsX5_doKey) := goodIn_app (goodIn_of _ (by decide +kernel)) ggX5_would_X5_doKey
set_option maxRecDepth 20000 in
theorem ggX5_would_X5_lay : GoodIn wsX5_would wsX5_lay := goodIn_r _ [36, 37, 7, 1, 38, 39, 40, 41, 42, 5, 43, 44, 45, 46, 47, 48, 49, 50, 51, 52, 53, 54, 55, 56, 57, 58, 59, 60, 61, 66, 67, 68, 69, 70, 71, 72, 73, 74, 75, 76, 77, 78, 79, 80, 81, 82, 83, 84] (by decide +kernel) (by decide +kernel)
set_option maxRecDepth 20000 in
theorem gX5_would_X5_lay : GoodIn wsX5_would (wsV RX5 50 RX5 yX5_lay wsX5_lay) := goodIn_app (goodIn_of _ (by decide +kernel)) ggX5_would_X5_lay
set_option maxRecDepth 20000 in
theorem ggX5_would_X5_rowOf : GoodIn wsX5_would wsX5_rowOf := goodIn_r _ [17, 7, 66, 67, 68, 69, 70, 71, 72, 73, 74, 75, 76, 77, 78, 79, 80, 81, 82, 83, 84] (by decide +kernel) (by decide +kernel)
set_option maxRecDepth 20000 in
theorem gX5_would_X5_rowOf : GoodIn wsX5_would (wsV RX5 104 RX5 yX5_rowOf wsX5_rowOf) := goodIn_app (goodIn_of _ (by decide +kernel)) ggX5_would_X5_rowOf
set_option maxRecDepth 20000 in
theorem ggX5_would_X5_release : GoodIn wsX5_would wsX5_release := goodIn_r _ [65, 7, 27, 66, 67, 68, 69, 70, 71, 72, 73, 74, 75, 76, 77, 78, 79, 80, 81, 82, 83, 84] (by decide +kernel) (by decide +kernel)
set_option maxRecDepth 20000 in
theorem gX5_would_X5_release : GoodIn wsX5_would (wsV RX5 146 RX5 yX5_release wsX5_release) := goodIn_app (goodIn_of _ (by decide +kernel)) ggX5_would_X5_release
theorem dX5_would_0 : decode cX5_would 0 = .ok (.aload_n 0, 1) := by decide +kernel
theorem dX5_would_1 : decode cX5_would 1 = .ok (.iload_n 1, 1) := by decide +kernel
theorem dX5_would_2 : decode cX5_would 2 = .ok (.invokevirtual 107, 3) := by decide +kernel
theorem dX5_would_5 : decode cX5_would 5 = .ok (.istore_n 2, 1) := by decide +kernel
theorem dX5_would_6 : decode cX5_would 6 = .ok (.iload_n 2, 1) := by decide +kernel
theorem dX5_would_7 : decode cX5_would 7 = .ok (.ifCond .eq 9, 3) := by decide +kernel
theorem dX5_would_10 : decode cX5_would 10 = .ok (.aload_n 0, 1) := by decide +kernel
theorem dX5_would_11 : decode cX5_would 11 = .ok (.iload_n 2, 1) := by decide +kernel
theorem dX5_would_12 : decode cX5_would 12 = .ok (.invokevirtual 82, 3) := by decide +kernel
theorem dX5_would_15 : decode cX5_would 15 = .ok (.ireturn, 1) := by decide +kernel
theorem dX5_would_16 : decode cX5_would 16 = .ok (.aload_n 0, 1) := by decide +kernel
theorem dX5_would_17 : decode cX5_would 17 = .ok (.invokevirtual 110, 3) := by decide +kernel
theorem dX5_would_20 : decode cX5_would 20 = .ok (.aload_n 0, 1) := by decide +kernel
theorem dX5_would_21 : decode cX5_would 21 = .ok (.iload_n 1, 1) := by decide +kernel
theorem dX5_would_22 : decode cX5_would 22 = .ok (.invokevirtual 125, 3) := by decide +kernel
theorem dX5_would_25 : decode cX5_would 25 = .ok (.pop, 1) := by decide +kernel
theorem dX5_would_26 : decode cX5_would 26 = .ok (.aload_n 0, 1) := by decide +kernel
theorem dX5_would_27 : decode cX5_would 27 = .ok (.invokevirtual 50, 3) := by decide +kernel
theorem dX5_would_30 : decode cX5_would 30 = .ok (.aload_n 0, 1) := by decide +kernel
theorem dX5_would_31 : decode cX5_would 31 = .ok (.getfield 25, 3) := by decide +kernel
theorem dX5_would_34 : decode cX5_would 34 = .ok (.aload_n 0, 1) := by decide +kernel
theorem dX5_would_35 : decode cX5_would 35 = .ok (.iload_n 1, 1) := by decide +kernel
theorem dX5_would_36 : decode cX5_would 36 = .ok (.invokevirtual 104, 3) := by decide +kernel
theorem dX5_would_39 : decode cX5_would 39 = .ok (.iaload, 1) := by decide +kernel
theorem dX5_would_40 : decode cX5_would 40 = .ok (.istore_n 3, 1) := by decide +kernel
theorem dX5_would_41 : decode cX5_would 41 = .ok (.aload_n 0, 1) := by decide +kernel
theorem dX5_would_42 : decode cX5_would 42 = .ok (.invokevirtual 146, 3) := by decide +kernel
theorem dX5_would_45 : decode cX5_would 45 = .ok (.aload_n 0, 1) := by decide +kernel
theorem dX5_would_46 : decode cX5_would 46 = .ok (.invokevirtual 50, 3) := by decide +kernel
theorem dX5_would_49 : decode cX5_would 49 = .ok (.iload_n 3, 1) := by decide +kernel
theorem dX5_would_50 : decode cX5_would 50 = .ok (.ireturn, 1) := by decide +kernel
set_option maxRecDepth 20000 in
theorem ggX5_without_X5_isName : GoodIn wsX5_without wsX5_isName := goodIn_r _ [4, 5, 6, 3, 7] (by decide +kernel) (by decide +kernel)
set_option maxRecDepth 20000 in
theorem gX5_without_X5_isName : GoodIn wsX5_without (va_wsS RX5 95 yX5_isName wsX5_isName) := goodIn_app (goodIn_of _ (by decide +kernel)) ggX5_without_X5_isName
set_option maxRecDepth 20000 in
theorem ggX5_without_X5_refuses : GoodIn wsX5_without wsX5_refuses := goodIn_r _ [11, 12, 66, 67, 68, 69, 70, 71, 72, 73, 74, 75, 76, 77, 78, 79, 80, 81, 82, 83, 84] (by decide +kernel) (by decide +kernel)
set_option maxRecDepth 20000 in
theorem gX5_without_X5_refuses : GoodIn wsX5_without (wsV RX5 82 RX5 yX5_refuses wsX5_refuses) := goodIn_app (goodIn_of _ (by decide +kernel)) ggX5_without_X5_refuses
set_option maxRecDepth 20000 in
theorem ggX5_without_X5_isHost : GoodIn wsX5_without wsX5_isHost := goodIn_r _ [16, 17, 66, 67, 68, 69, 70, 71, 72, 73, 74, 75, 76, 77, 78, 79, 80, 81, 82, 83, 84] (by decide +kernel) (by decide +kernel)
set_option maxRecDepth 20000 in
theorem gX5_without_X5_isHost : GoodIn wsX5_without (wsV RX5 92 RX5 yX5_isHost wsX5_isHost) := goodIn_app (goodIn_of _ (by decide +kernel)) ggX5_without_X5_isHost
set_option maxRecDepth 20000 in
theorem ggX5_without_X5_hold : GoodIn wsX5_without wsX5_hold := goodIn_r _ [21, 22, 17, 23, 24, 66, 67, 68, 69, 70, 71, 72, 73, 74, 75, 76, 77, 78, 79, 80, 81, 82, 83, 84] (by decide +kernel) (by decide +kernel)
set_option maxRecDepth 20000 in
theorem gX5_without_X5_hold : GoodIn wsX5_without (wsV RX5 110 RX5 yX5_hold wsX5_hold) := goodIn_app (goodIn_of _ (by decide +kernel)) ggX5_without_X5_hold
set_option maxRecDepth 20000 in
theorem ggX5_without_X5_doGoes : GoodIn wsX5_without wsX5_doGoes := goodIn_r _ [28, 17, 1, 2, 3, 4, 5, 6, 7, 13, 14, 15, 16, 66, 67, 68, 69, 70, 71, 72, 73, 74, 75, 76, 77, 78, 79, 80, 81, 82, 83, 84] (by decide +kernel) (by decide +kernel)
set_option maxRecDepth 20000 in
theorem gX5_without_X5_doGoes : GoodIn wsX5_without (wsV RX5 122 RX5 yX5_doGoes wsX5_doGoes) := goodIn_app (goodIn_of _ (by decide +kernel)) ggX5_without_X5_doGoes
set_option maxRecDepth 20000 in
theorem ggX5_without_X5_lay : GoodIn wsX5_without wsX5_lay := goodIn_r _ [32, 33, 17, 24, 34, 35, 36, 37, 38, 3, 39, 40, 41, 42, 43, 44, 45, 46, 47, 48, 49, 50, 51, 52, 53, 54, 55, 56, 57, 66, 67, 68, 69, 70, 71, 72, 73, 74, 75, 76, 77, 78, 79, 80, 81, 82, 83, 84] (by decide +kernel) (by decide +kernel)
set_option maxRecDepth 20000 in
theorem gX5_without_X5_lay : GoodIn wsX5_without (wsV RX5 50 RX5 yX5_lay wsX5_lay) := goodIn_app (goodIn_of _ (by decide +kernel)) ggX5_without_X5_lay
set_option maxRecDepth 20000 in
theorem ggX5_without_X5_moved : GoodIn wsX5_without wsX5_moved := goodIn_r _ [61, 17, 22, 24, 23, 66, 67, 68, 69, 70, 71, 72, 73, 74, 75, 76, 77, 78, 79, 80, 81, 82, 83, 84] (by decide +kernel) (by decide +kernel)
set_option maxRecDepth 20000 in
theorem gX5_without_X5_moved : GoodIn wsX5_without (wsV RX5 75 RX5 yX5_moved wsX5_moved) := goodIn_app (goodIn_of _ (by decide +kernel)) ggX5_without_X5_moved
set_option maxRecDepth 20000 in
theorem ggX5_without_X5_release : GoodIn wsX5_without wsX5_release := goodIn_r _ [65, 17, 22, 66, 67, 68, 69, 70, 71, 72, 73, 74, 75, 76, 77, 78, 79, 80, 81, 82, 83, 84] (by decide +kernel) (by decide +kernel)
set_option maxRecDepth 20000 in
theorem gX5_without_X5_release : GoodIn wsX5_without (wsV RX5 146 RX5 yX5_release wsX5_release) := goodIn_app (goodIn_of _ (by decide +kernel)) ggX5_without_X5_release
theorem dX5_without_0 : decode cX5_without 0 = .ok (.iload_n 1, 1) := by decide +kernel
theorem dX5_without_1 : decode cX5_without 1 = .ok (.invokestatic 95, 3) := by decide +kernel
theorem dX5_without_4 : decode cX5_without 4 = .ok (.ifCond .ne 10, 3) := by decide +kernel
theorem dX5_without_7 : decode cX5_without 7 = .ok (.aload_n 0, 1) := by decide +kernel
theorem dX5_without_8 : decode cX5_without 8 = .ok (.bipush (-2), 2) := by decide +kernel
theorem dX5_without_10 : decode cX5_without 10 = .ok (.invokevirtual 82, 3) := by decide +kernel
theorem dX5_without_13 : decode cX5_without 13 = .ok (.ireturn, 1) := by decide +kernel
theorem dX5_without_14 : decode cX5_without 14 = .ok (.aload_n 0, 1) := by decide +kernel
theorem dX5_without_15 : decode cX5_without 15 = .ok (.iload_n 1, 1) := by decide +kernel
theorem dX5_without_16 : decode cX5_without 16 = .ok (.invokevirtual 92, 3) := by decide +kernel
theorem dX5_without_19 : decode cX5_without 19 = .ok (.ifCond .ne 10, 3) := by decide +kernel
theorem dX5_without_22 : decode cX5_without 22 = .ok (.aload_n 0, 1) := by decide +kernel
theorem dX5_without_23 : decode cX5_without 23 = .ok (.bipush (-3), 2) := by decide +kernel
theorem dX5_without_25 : decode cX5_without 25 = .ok (.invokevirtual 82, 3) := by decide +kernel
theorem dX5_without_28 : decode cX5_without 28 = .ok (.ireturn, 1) := by decide +kernel
theorem dX5_without_29 : decode cX5_without 29 = .ok (.aload_n 0, 1) := by decide +kernel
theorem dX5_without_30 : decode cX5_without 30 = .ok (.invokevirtual 110, 3) := by decide +kernel
theorem dX5_without_33 : decode cX5_without 33 = .ok (.aload_n 0, 1) := by decide +kernel
theorem dX5_without_34 : decode cX5_without 34 = .ok (.iload_n 1, 1) := by decide +kernel
theorem dX5_without_35 : decode cX5_without 35 = .ok (.invokevirtual 122, 3) := by decide +kernel
theorem dX5_without_38 : decode cX5_without 38 = .ok (.pop, 1) := by decide +kernel
theorem dX5_without_39 : decode cX5_without 39 = .ok (.aload_n 0, 1) := by decide +kernel
theorem dX5_without_40 : decode cX5_without 40 = .ok (.invokevirtual 50, 3) := by decide +kernel
theorem dX5_without_43 : decode cX5_without 43 = .ok (.aload_n 0, 1) := by decide +kernel
theorem dX5_without_44 : decode cX5_without 44 = .ok (.invokevirtual 75, 3) := by decide +kernel
theorem dX5_without_47 : decode cX5_without 47 = .ok (.istore_n 2, 1) := by decide +kernel
theorem dX5_without_48 : decode cX5_without 48 = .ok (.aload_n 0, 1) := by decide +kernel
theorem dX5_without_49 : decode cX5_without 49 = .ok (.invokevirtual 146, 3) := by decide +kernel
theorem dX5_without_52 : decode cX5_without 52 = .ok (.aload_n 0, 1) := by decide +kernel
theorem dX5_without_53 : decode cX5_without 53 = .ok (.invokevirtual 50, 3) := by decide +kernel
theorem dX5_without_56 : decode cX5_without 56 = .ok (.iload_n 2, 1) := by decide +kernel
theorem dX5_without_57 : decode cX5_without 57 = .ok (.ireturn, 1) := by decide +kernel
set_option maxRecDepth 20000 in
theorem ggX5_marks_X5_weights : GoodIn wsX5_marks wsX5_weights := goodIn_r _ [5, 6, 7, 8, 9, 10, 11, 12, 13, 14, 15, 16, 17, 18, 19, 20, 21, 22, 23, 24, 25] (by decide +kernel) (by decide +kernel)
set_option maxRecDepth 20000 in
theorem gX5_marks_X5_weights : GoodIn wsX5_marks (wsV RX5 53 RX5 yX5_weights wsX5_weights) := goodIn_app (goodIn_of _ (by decide +kernel)) ggX5_marks_X5_weights
theorem dX5_marks_0 : decode cX5_marks 0 = .ok (.iconst 2, 1) := by decide +kernel
theorem dX5_marks_1 : decode cX5_marks 1 = .ok (.aload_n 0, 1) := by decide +kernel
theorem dX5_marks_2 : decode cX5_marks 2 = .ok (.invokevirtual 53, 3) := by decide +kernel
theorem dX5_marks_5 : decode cX5_marks 5 = .ok (.imul, 1) := by decide +kernel
theorem dX5_marks_6 : decode cX5_marks 6 = .ok (.ireturn, 1) := by decide +kernel
set_option maxRecDepth 20000 in
theorem ggX5_byHosts_X5_isHost : GoodIn wsX5_byHosts wsX5_isHost := goodIn_r _ [6, 7, 16, 17, 18, 19, 20, 21, 22, 23, 24, 25, 26, 27, 28, 29, 30, 31, 32, 33, 34] (by decide +kernel) (by decide +kernel)
set_option maxRecDepth 20000 in
theorem gX5_byHosts_X5_isHost : GoodIn wsX5_byHosts (wsV RX5 92 RX5 yX5_isHost wsX5_isHost) := goodIn_app (goodIn_of _ (by decide +kernel)) ggX5_byHosts_X5_isHost
set_option maxRecDepth 20000 in
theorem ggX5_byHosts_X5_bound : GoodIn wsX5_byHosts wsX5_bound := goodIn_r _ [11, 7, 12, 13, 14, 5, 15, 16, 17, 18, 19, 20, 21, 22, 23, 24, 25, 26, 27, 28, 29, 30, 31, 32, 33, 34] (by decide +kernel) (by decide +kernel)
set_option maxRecDepth 20000 in
theorem gX5_byHosts_X5_bound : GoodIn wsX5_byHosts (wsV RX5 72 RX5 yX5_bound wsX5_bound) := goodIn_app (goodIn_of _ (by decide +kernel)) ggX5_byHosts_X5_bound
theorem dX5_byHosts_0 : decode cX5_byHosts 0 = .ok (.iconst 0, 1) := by decide +kernel
theorem dX5_byHosts_1 : decode cX5_byHosts 1 = .ok (.istore_n 2, 1) := by decide +kernel
theorem dX5_byHosts_2 : decode cX5_byHosts 2 = .ok (.iconst 0, 1) := by decide +kernel
theorem dX5_byHosts_3 : decode cX5_byHosts 3 = .ok (.istore_n 3, 1) := by decide +kernel
theorem dX5_byHosts_4 : decode cX5_byHosts 4 = .ok (.iconst 0, 1) := by decide +kernel
theorem dX5_byHosts_5 : decode cX5_byHosts 5 = .ok (.istore 4, 2) := by decide +kernel
theorem dX5_byHosts_7 : decode cX5_byHosts 7 = .ok (.iload 4, 2) := by decide +kernel
theorem dX5_byHosts_9 : decode cX5_byHosts 9 = .ok (.bipush 100, 2) := by decide +kernel
theorem dX5_byHosts_11 : decode cX5_byHosts 11 = .ok (.if_icmp .ge 65, 3) := by decide +kernel
theorem dX5_byHosts_14 : decode cX5_byHosts 14 = .ok (.iload_n 2, 1) := by decide +kernel
theorem dX5_byHosts_15 : decode cX5_byHosts 15 = .ok (.aload_n 0, 1) := by decide +kernel
theorem dX5_byHosts_16 : decode cX5_byHosts 16 = .ok (.iload 4, 2) := by decide +kernel
theorem dX5_byHosts_18 : decode cX5_byHosts 18 = .ok (.invokevirtual 92, 3) := by decide +kernel
theorem dX5_byHosts_21 : decode cX5_byHosts 21 = .ok (.ifCond .eq 23, 3) := by decide +kernel
theorem dX5_byHosts_24 : decode cX5_byHosts 24 = .ok (.aload_n 0, 1) := by decide +kernel
theorem dX5_byHosts_25 : decode cX5_byHosts 25 = .ok (.getfield 31, 3) := by decide +kernel
theorem dX5_byHosts_28 : decode cX5_byHosts 28 = .ok (.iload 4, 2) := by decide +kernel
theorem dX5_byHosts_30 : decode cX5_byHosts 30 = .ok (.iaload, 1) := by decide +kernel
theorem dX5_byHosts_31 : decode cX5_byHosts 31 = .ok (.aload_n 0, 1) := by decide +kernel
theorem dX5_byHosts_32 : decode cX5_byHosts 32 = .ok (.iload 4, 2) := by decide +kernel
theorem dX5_byHosts_34 : decode cX5_byHosts 34 = .ok (.invokevirtual 72, 3) := by decide +kernel
theorem dX5_byHosts_37 : decode cX5_byHosts 37 = .ok (.if_icmp .ne 7, 3) := by decide +kernel
theorem dX5_byHosts_40 : decode cX5_byHosts 40 = .ok (.iconst 1, 1) := by decide +kernel
theorem dX5_byHosts_41 : decode cX5_byHosts 41 = .ok (.goto 4, 3) := by decide +kernel
theorem dX5_byHosts_44 : decode cX5_byHosts 44 = .ok (.iconst 0, 1) := by decide +kernel
theorem dX5_byHosts_45 : decode cX5_byHosts 45 = .ok (.iadd, 1) := by decide +kernel
theorem dX5_byHosts_46 : decode cX5_byHosts 46 = .ok (.istore_n 2, 1) := by decide +kernel
theorem dX5_byHosts_47 : decode cX5_byHosts 47 = .ok (.aload_n 0, 1) := by decide +kernel
theorem dX5_byHosts_48 : decode cX5_byHosts 48 = .ok (.getfield 31, 3) := by decide +kernel
theorem dX5_byHosts_51 : decode cX5_byHosts 51 = .ok (.iload 4, 2) := by decide +kernel
theorem dX5_byHosts_53 : decode cX5_byHosts 53 = .ok (.iaload, 1) := by decide +kernel
theorem dX5_byHosts_54 : decode cX5_byHosts 54 = .ok (.iload_n 3, 1) := by decide +kernel
theorem dX5_byHosts_55 : decode cX5_byHosts 55 = .ok (.if_icmp .le 13, 3) := by decide +kernel
theorem dX5_byHosts_58 : decode cX5_byHosts 58 = .ok (.aload_n 0, 1) := by decide +kernel
theorem dX5_byHosts_59 : decode cX5_byHosts 59 = .ok (.getfield 31, 3) := by decide +kernel
theorem dX5_byHosts_62 : decode cX5_byHosts 62 = .ok (.iload 4, 2) := by decide +kernel
theorem dX5_byHosts_64 : decode cX5_byHosts 64 = .ok (.iaload, 1) := by decide +kernel
theorem dX5_byHosts_65 : decode cX5_byHosts 65 = .ok (.goto 4, 3) := by decide +kernel
theorem dX5_byHosts_68 : decode cX5_byHosts 68 = .ok (.iload_n 3, 1) := by decide +kernel
theorem dX5_byHosts_69 : decode cX5_byHosts 69 = .ok (.istore_n 3, 1) := by decide +kernel
theorem dX5_byHosts_70 : decode cX5_byHosts 70 = .ok (.iinc 4 1, 3) := by decide +kernel
theorem dX5_byHosts_73 : decode cX5_byHosts 73 = .ok (.goto (-66), 3) := by decide +kernel
theorem dX5_byHosts_76 : decode cX5_byHosts 76 = .ok (.iload_n 1, 1) := by decide +kernel
theorem dX5_byHosts_77 : decode cX5_byHosts 77 = .ok (.ifCond .eq 7, 3) := by decide +kernel
theorem dX5_byHosts_80 : decode cX5_byHosts 80 = .ok (.iload_n 2, 1) := by decide +kernel
theorem dX5_byHosts_81 : decode cX5_byHosts 81 = .ok (.goto 4, 3) := by decide +kernel
theorem dX5_byHosts_84 : decode cX5_byHosts 84 = .ok (.iload_n 3, 1) := by decide +kernel
theorem dX5_byHosts_85 : decode cX5_byHosts 85 = .ok (.ireturn, 1) := by decide +kernel
set_option maxRecDepth 20000 in
theorem ggX5_passedAll_X5_aboutKey : GoodIn wsX5_passedAll wsX5_aboutKey := goodIn_r _ [7, 1, 2, 8, 9, 10, 11, 6, 12, 13, 14, 15, 16, 17, 18, 19, 20, 21, 22, 23, 24, 25, 26, 27, 28, 29, 30, 31] (by decide +kernel) (by decide +kernel)
set_option maxRecDepth 20000 in
theorem gX5_passedAll_X5_aboutKey : GoodIn wsX5_passedAll (wsV RX5 143 RX5 yX5_aboutKey wsX5_aboutKey) := goodIn_app (goodIn_of _ (by decide +kernel)) ggX5_passedAll_X5_aboutKey
theorem dX5_passedAll_0 : decode cX5_passedAll 0 = .ok (.iconst 0, 1) := by decide +kernel
theorem dX5_passedAll_1 : decode cX5_passedAll 1 = .ok (.istore_n 1, 1) := by decide +kernel
theorem dX5_passedAll_2 : decode cX5_passedAll 2 = .ok (.iconst 0, 1) := by decide +kernel
theorem dX5_passedAll_3 : decode cX5_passedAll 3 = .ok (.istore_n 2, 1) := by decide +kernel
theorem dX5_passedAll_4 : decode cX5_passedAll 4 = .ok (.iload_n 2, 1) := by decide +kernel
theorem dX5_passedAll_5 : decode cX5_passedAll 5 = .ok (.aload_n 0, 1) := by decide +kernel
theorem dX5_passedAll_6 : decode cX5_passedAll 6 = .ok (.getfield 7, 3) := by decide +kernel
theorem dX5_passedAll_9 : decode cX5_passedAll 9 = .ok (.sipush 140, 3) := by decide +kernel
theorem dX5_passedAll_12 : decode cX5_passedAll 12 = .ok (.iaload, 1) := by decide +kernel
theorem dX5_passedAll_13 : decode cX5_passedAll 13 = .ok (.if_icmp .ge 32, 3) := by decide +kernel
theorem dX5_passedAll_16 : decode cX5_passedAll 16 = .ok (.iload_n 1, 1) := by decide +kernel
theorem dX5_passedAll_17 : decode cX5_passedAll 17 = .ok (.aload_n 0, 1) := by decide +kernel
theorem dX5_passedAll_18 : decode cX5_passedAll 18 = .ok (.getfield 25, 3) := by decide +kernel
theorem dX5_passedAll_21 : decode cX5_passedAll 21 = .ok (.iload_n 2, 1) := by decide +kernel
theorem dX5_passedAll_22 : decode cX5_passedAll 22 = .ok (.iaload, 1) := by decide +kernel
theorem dX5_passedAll_23 : decode cX5_passedAll 23 = .ok (.iconst (-1), 1) := by decide +kernel
theorem dX5_passedAll_24 : decode cX5_passedAll 24 = .ok (.if_icmp .ne 7, 3) := by decide +kernel
theorem dX5_passedAll_27 : decode cX5_passedAll 27 = .ok (.iconst 0, 1) := by decide +kernel
theorem dX5_passedAll_28 : decode cX5_passedAll 28 = .ok (.goto 9, 3) := by decide +kernel
theorem dX5_passedAll_31 : decode cX5_passedAll 31 = .ok (.aload_n 0, 1) := by decide +kernel
theorem dX5_passedAll_32 : decode cX5_passedAll 32 = .ok (.iload_n 2, 1) := by decide +kernel
theorem dX5_passedAll_33 : decode cX5_passedAll 33 = .ok (.iconst 1, 1) := by decide +kernel
theorem dX5_passedAll_34 : decode cX5_passedAll 34 = .ok (.invokevirtual 143, 3) := by decide +kernel
theorem dX5_passedAll_37 : decode cX5_passedAll 37 = .ok (.iadd, 1) := by decide +kernel
theorem dX5_passedAll_38 : decode cX5_passedAll 38 = .ok (.istore_n 1, 1) := by decide +kernel
theorem dX5_passedAll_39 : decode cX5_passedAll 39 = .ok (.iinc 2 1, 3) := by decide +kernel
theorem dX5_passedAll_42 : decode cX5_passedAll 42 = .ok (.goto (-38), 3) := by decide +kernel
theorem dX5_passedAll_45 : decode cX5_passedAll 45 = .ok (.iload_n 1, 1) := by decide +kernel
theorem dX5_passedAll_46 : decode cX5_passedAll 46 = .ok (.ireturn, 1) := by decide +kernel
set_option maxRecDepth 20000 in
theorem ggX5_counted_X5_hostMany : GoodIn wsX5_counted wsX5_hostMany := goodIn_r _ [6, 7, 8, 9, 5, 10, 1, 42, 43, 44, 45, 46, 47, 48, 49, 50, 51, 52, 53, 54, 55, 56, 57, 58, 59, 60] (by decide +kernel) (by decide +kernel)
set_option maxRecDepth 20000 in
theorem gX5_counted_X5_hostMany : GoodIn wsX5_counted (wsV RX5 98 RX5 yX5_hostMany wsX5_hostMany) := goodIn_app (goodIn_of _ (by decide +kernel)) ggX5_counted_X5_hostMany
set_option maxRecDepth 20000 in
theorem ggX5_counted_X5_marks : GoodIn wsX5_counted wsX5_marks := goodIn_r _ [14, 15, 16, 17, 5, 18, 1, 42, 43, 44, 45, 46, 47, 48, 49, 50, 51, 52, 53, 54, 55, 56, 57, 58, 59, 60] (by decide +kernel) (by decide +kernel)
set_option maxRecDepth 20000 in
theorem gX5_counted_X5_marks : GoodIn wsX5_counted (wsV RX5 149 RX5 yX5_marks wsX5_marks) := goodIn_app (goodIn_of _ (by decide +kernel)) ggX5_counted_X5_marks
set_option maxRecDepth 20000 in
theorem ggX5_counted_X5_byHosts : GoodIn wsX5_counted wsX5_byHosts := goodIn_r _ [22, 23, 7, 8, 9, 5, 10, 1, 24, 25, 26, 27, 15, 16, 17, 18, 42, 43, 44, 45, 46, 47, 48, 49, 50, 51, 52, 53, 54, 55, 56, 57, 58, 59, 60] (by decide +kernel) (by decide +kernel)
set_option maxRecDepth 20000 in
theorem gX5_counted_X5_byHosts : GoodIn wsX5_counted (wsV RX5 152 RX5 yX5_byHosts wsX5_byHosts) := goodIn_app (goodIn_of _ (by decide +kernel)) ggX5_counted_X5_byHosts
set_option maxRecDepth 20000 in
theorem ggX5_counted_X5_passedAll : GoodIn wsX5_counted wsX5_passedAll := goodIn_r _ [31, 1, 32, 33, 34, 35, 5, 36, 37, 38, 39, 40, 41, 42, 43, 44, 45, 46, 47, 48, 49, 50, 51, 52, 53, 54, 55, 56, 57, 58, 59, 60] (by decide +kernel) (by decide +kernel)
set_option maxRecDepth 20000 in
theorem gX5_counted_X5_passedAll : GoodIn wsX5_counted (wsV RX5 156 RX5 yX5_passedAll wsX5_passedAll) := goodIn_app (goodIn_of _ (by decide +kernel)) ggX5_counted_X5_passedAll
set_option maxRecDepth 20000 in
theorem ggX5_counted_X5_weights : GoodIn wsX5_counted wsX5_weights := goodIn_r _ [18, 1, 42, 43, 44, 45, 46, 47, 48, 49, 50, 51, 52, 53, 54, 55, 56, 57, 58, 59, 60] (by decide +kernel) (by decide +kernel)
set_option maxRecDepth 20000 in
theorem gX5_counted_X5_weights : GoodIn wsX5_counted (wsV RX5 53 RX5 yX5_weights wsX5_weights) := goodIn_app (goodIn_of _ (by decide +kernel)) ggX5_counted_X5_weights
theorem dX5_counted_0 : decode cX5_counted 0 = .ok (.iload_n 1, 1) := by decide +kernel
theorem dX5_counted_1 : decode cX5_counted 1 = .ok (.tableswitch 101 0 7 #[47, 52, 61, 70, 75, 84, 90, 95], 47) := by decide +kernel
theorem dX5_counted_48 : decode cX5_counted 48 = .ok (.aload_n 0, 1) := by decide +kernel
theorem dX5_counted_49 : decode cX5_counted 49 = .ok (.invokevirtual 98, 3) := by decide +kernel
theorem dX5_counted_52 : decode cX5_counted 52 = .ok (.ireturn, 1) := by decide +kernel
theorem dX5_counted_53 : decode cX5_counted 53 = .ok (.aload_n 0, 1) := by decide +kernel
theorem dX5_counted_54 : decode cX5_counted 54 = .ok (.getfield 7, 3) := by decide +kernel
theorem dX5_counted_57 : decode cX5_counted 57 = .ok (.sipush 140, 3) := by decide +kernel
theorem dX5_counted_60 : decode cX5_counted 60 = .ok (.iaload, 1) := by decide +kernel
theorem dX5_counted_61 : decode cX5_counted 61 = .ok (.ireturn, 1) := by decide +kernel
theorem dX5_counted_62 : decode cX5_counted 62 = .ok (.aload_n 0, 1) := by decide +kernel
theorem dX5_counted_63 : decode cX5_counted 63 = .ok (.getfield 7, 3) := by decide +kernel
theorem dX5_counted_66 : decode cX5_counted 66 = .ok (.sipush 141, 3) := by decide +kernel
theorem dX5_counted_69 : decode cX5_counted 69 = .ok (.iaload, 1) := by decide +kernel
theorem dX5_counted_70 : decode cX5_counted 70 = .ok (.ireturn, 1) := by decide +kernel
theorem dX5_counted_71 : decode cX5_counted 71 = .ok (.aload_n 0, 1) := by decide +kernel
theorem dX5_counted_72 : decode cX5_counted 72 = .ok (.invokevirtual 149, 3) := by decide +kernel
theorem dX5_counted_75 : decode cX5_counted 75 = .ok (.ireturn, 1) := by decide +kernel
theorem dX5_counted_76 : decode cX5_counted 76 = .ok (.aload_n 0, 1) := by decide +kernel
theorem dX5_counted_77 : decode cX5_counted 77 = .ok (.getfield 7, 3) := by decide +kernel
theorem dX5_counted_80 : decode cX5_counted 80 = .ok (.sipush 142, 3) := by decide +kernel
theorem dX5_counted_83 : decode cX5_counted 83 = .ok (.iaload, 1) := by decide +kernel
theorem dX5_counted_84 : decode cX5_counted 84 = .ok (.ireturn, 1) := by decide +kernel
theorem dX5_counted_85 : decode cX5_counted 85 = .ok (.aload_n 0, 1) := by decide +kernel
theorem dX5_counted_86 : decode cX5_counted 86 = .ok (.iconst 1, 1) := by decide +kernel
theorem dX5_counted_87 : decode cX5_counted 87 = .ok (.invokevirtual 152, 3) := by decide +kernel
theorem dX5_counted_90 : decode cX5_counted 90 = .ok (.ireturn, 1) := by decide +kernel
theorem dX5_counted_91 : decode cX5_counted 91 = .ok (.aload_n 0, 1) := by decide +kernel
theorem dX5_counted_92 : decode cX5_counted 92 = .ok (.invokevirtual 156, 3) := by decide +kernel
theorem dX5_counted_95 : decode cX5_counted 95 = .ok (.ireturn, 1) := by decide +kernel
theorem dX5_counted_96 : decode cX5_counted 96 = .ok (.aload_n 0, 1) := by decide +kernel
theorem dX5_counted_97 : decode cX5_counted 97 = .ok (.iconst 0, 1) := by decide +kernel
theorem dX5_counted_98 : decode cX5_counted 98 = .ok (.invokevirtual 152, 3) := by decide +kernel
theorem dX5_counted_101 : decode cX5_counted 101 = .ok (.ireturn, 1) := by decide +kernel
theorem dX5_counted_102 : decode cX5_counted 102 = .ok (.aload_n 0, 1) := by decide +kernel
theorem dX5_counted_103 : decode cX5_counted 103 = .ok (.invokevirtual 53, 3) := by decide +kernel
theorem dX5_counted_106 : decode cX5_counted 106 = .ok (.ireturn, 1) := by decide +kernel
set_option maxRecDepth 20000 in
theorem ggX5_count_X5_in : GoodIn wsX5_count wsX5_in := goodIn_r _ [4] (by decide +kernel) (by decide +kernel)
set_option maxRecDepth 20000 in
theorem gX5_count_X5_in : GoodIn wsX5_count (va_wsS RX5 88 yX5_in wsX5_in) := goodIn_app (goodIn_of _ (by decide +kernel)) ggX5_count_X5_in
set_option maxRecDepth 20000 in
theorem ggX5_count_X5_counted : GoodIn wsX5_count wsX5_counted := goodIn_r _ [8, 9, 10, 11, 12, 3, 13, 14, 15, 16, 17, 18, 19, 20, 21, 22, 23, 24, 25, 26, 27, 28, 29, 30, 31, 32, 33, 34, 35, 36, 37, 38, 39, 40, 41, 42, 43, 44, 45, 46, 47, 48, 54, 55, 56, 57, 58, 59, 60, 61, 62, 63, 64, 65, 66, 67, 68, 69, 70, 71, 72] (by decide +kernel) (by decide +kernel)
set_option maxRecDepth 20000 in
theorem gX5_count_X5_counted : GoodIn wsX5_count (wsV RX5 159 RX5 yX5_counted wsX5_counted) := goodIn_app (goodIn_of _ (by decide +kernel)) ggX5_count_X5_counted
set_option maxRecDepth 20000 in
theorem ggX5_count_X5_refuses : GoodIn wsX5_count wsX5_refuses := goodIn_r _ [52, 53, 54, 55, 56, 57, 58, 59, 60, 61, 62, 63, 64, 65, 66, 67, 68, 69, 70, 71, 72] (by decide +kernel) (by decide +kernel)
set_option maxRecDepth 20000 in
theorem gX5_count_X5_refuses : GoodIn wsX5_count (wsV RX5 82 RX5 yX5_refuses wsX5_refuses) := goodIn_app (goodIn_of _ (by decide +kernel)) ggX5_count_X5_refuses
theorem dX5_count_0 : decode cX5_count 0 = .ok (.iload_n 1, 1) := by decide +kernel
theorem dX5_count_1 : decode cX5_count 1 = .ok (.iconst 0, 1) := by decide +kernel
theorem dX5_count_2 : decode cX5_count 2 = .ok (.bipush 8, 2) := by decide +kernel
theorem dX5_count_4 : decode cX5_count 4 = .ok (.invokestatic 88, 3) := by decide +kernel
theorem dX5_count_7 : decode cX5_count 7 = .ok (.ifCond .eq 11, 3) := by decide +kernel
theorem dX5_count_10 : decode cX5_count 10 = .ok (.aload_n 0, 1) := by decide +kernel
theorem dX5_count_11 : decode cX5_count 11 = .ok (.iload_n 1, 1) := by decide +kernel
theorem dX5_count_12 : decode cX5_count 12 = .ok (.invokevirtual 159, 3) := by decide +kernel
theorem dX5_count_15 : decode cX5_count 15 = .ok (.goto 9, 3) := by decide +kernel
theorem dX5_count_18 : decode cX5_count 18 = .ok (.aload_n 0, 1) := by decide +kernel
theorem dX5_count_19 : decode cX5_count 19 = .ok (.bipush (-2), 2) := by decide +kernel
theorem dX5_count_21 : decode cX5_count 21 = .ok (.invokevirtual 82, 3) := by decide +kernel
theorem dX5_count_24 : decode cX5_count 24 = .ok (.ireturn, 1) := by decide +kernel
set_option maxRecDepth 20000 in
theorem ggX5_type_X5_in : GoodIn wsX5_type wsX5_in := goodIn_r _ [6] (by decide +kernel) (by decide +kernel)
set_option maxRecDepth 20000 in
theorem gX5_type_X5_in : GoodIn wsX5_type (va_wsS RX5 88 yX5_in wsX5_in) := goodIn_app (goodIn_of _ (by decide +kernel)) ggX5_type_X5_in
set_option maxRecDepth 20000 in
theorem ggX5_type_X5_refuses : GoodIn wsX5_type wsX5_refuses := goodIn_r _ [10, 11, 12, 13, 14, 15, 16, 17, 18, 19, 20, 21, 22, 23, 24, 25, 26, 27, 28, 29, 30] (by decide +kernel) (by decide +kernel)
set_option maxRecDepth 20000 in
theorem gX5_type_X5_refuses : GoodIn wsX5_type (wsV RX5 82 RX5 yX5_refuses wsX5_refuses) := goodIn_app (goodIn_of _ (by decide +kernel)) ggX5_type_X5_refuses
theorem dX5_type_0 : decode cX5_type 0 = .ok (.iload_n 1, 1) := by decide +kernel
theorem dX5_type_1 : decode cX5_type 1 = .ok (.iconst 0, 1) := by decide +kernel
theorem dX5_type_2 : decode cX5_type 2 = .ok (.bipush 127, 2) := by decide +kernel
theorem dX5_type_4 : decode cX5_type 4 = .ok (.invokestatic 88, 3) := by decide +kernel
theorem dX5_type_7 : decode cX5_type 7 = .ok (.ifCond .ne 10, 3) := by decide +kernel
theorem dX5_type_10 : decode cX5_type 10 = .ok (.aload_n 0, 1) := by decide +kernel
theorem dX5_type_11 : decode cX5_type 11 = .ok (.bipush (-2), 2) := by decide +kernel
theorem dX5_type_13 : decode cX5_type 13 = .ok (.invokevirtual 82, 3) := by decide +kernel
theorem dX5_type_16 : decode cX5_type 16 = .ok (.ireturn, 1) := by decide +kernel
theorem dX5_type_17 : decode cX5_type 17 = .ok (.aload_n 0, 1) := by decide +kernel
theorem dX5_type_18 : decode cX5_type 18 = .ok (.getfield 162, 3) := by decide +kernel
theorem dX5_type_21 : decode cX5_type 21 = .ok (.bipush 120, 2) := by decide +kernel
theorem dX5_type_23 : decode cX5_type 23 = .ok (.if_icmp .ne 10, 3) := by decide +kernel
theorem dX5_type_26 : decode cX5_type 26 = .ok (.aload_n 0, 1) := by decide +kernel
theorem dX5_type_27 : decode cX5_type 27 = .ok (.bipush (-4), 2) := by decide +kernel
theorem dX5_type_29 : decode cX5_type 29 = .ok (.invokevirtual 82, 3) := by decide +kernel
theorem dX5_type_32 : decode cX5_type 32 = .ok (.ireturn, 1) := by decide +kernel
theorem dX5_type_33 : decode cX5_type 33 = .ok (.aload_n 0, 1) := by decide +kernel
theorem dX5_type_34 : decode cX5_type 34 = .ok (.getfield 41, 3) := by decide +kernel
theorem dX5_type_37 : decode cX5_type 37 = .ok (.aload_n 0, 1) := by decide +kernel
theorem dX5_type_38 : decode cX5_type 38 = .ok (.getfield 162, 3) := by decide +kernel
theorem dX5_type_41 : decode cX5_type 41 = .ok (.iload_n 1, 1) := by decide +kernel
theorem dX5_type_42 : decode cX5_type 42 = .ok (.iastore, 1) := by decide +kernel
theorem dX5_type_43 : decode cX5_type 43 = .ok (.aload_n 0, 1) := by decide +kernel
theorem dX5_type_44 : decode cX5_type 44 = .ok (.dup, 1) := by decide +kernel
theorem dX5_type_45 : decode cX5_type 45 = .ok (.getfield 162, 3) := by decide +kernel
theorem dX5_type_48 : decode cX5_type 48 = .ok (.iconst 1, 1) := by decide +kernel
theorem dX5_type_49 : decode cX5_type 49 = .ok (.iadd, 1) := by decide +kernel
theorem dX5_type_50 : decode cX5_type 50 = .ok (.putfield 162, 3) := by decide +kernel
theorem dX5_type_53 : decode cX5_type 53 = .ok (.aload_n 0, 1) := by decide +kernel
theorem dX5_type_54 : decode cX5_type 54 = .ok (.getfield 162, 3) := by decide +kernel
theorem dX5_type_57 : decode cX5_type 57 = .ok (.ireturn, 1) := by decide +kernel
theorem dX5_clear_0 : decode cX5_clear 0 = .ok (.aload_n 0, 1) := by decide +kernel
theorem dX5_clear_1 : decode cX5_clear 1 = .ok (.getfield 162, 3) := by decide +kernel
theorem dX5_clear_4 : decode cX5_clear 4 = .ok (.istore_n 1, 1) := by decide +kernel
theorem dX5_clear_5 : decode cX5_clear 5 = .ok (.aload_n 0, 1) := by decide +kernel
theorem dX5_clear_6 : decode cX5_clear 6 = .ok (.iconst 0, 1) := by decide +kernel
theorem dX5_clear_7 : decode cX5_clear 7 = .ok (.putfield 162, 3) := by decide +kernel
theorem dX5_clear_10 : decode cX5_clear 10 = .ok (.iload_n 1, 1) := by decide +kernel
theorem dX5_clear_11 : decode cX5_clear 11 = .ok (.ireturn, 1) := by decide +kernel
theorem dX5_here_0 : decode cX5_here 0 = .ok (.aload_n 0, 1) := by decide +kernel
theorem dX5_here_1 : decode cX5_here 1 = .ok (.getfield 165, 3) := by decide +kernel
theorem dX5_here_4 : decode cX5_here 4 = .ok (.aload_n 0, 1) := by decide +kernel
theorem dX5_here_5 : decode cX5_here 5 = .ok (.getfield 162, 3) := by decide +kernel
theorem dX5_here_8 : decode cX5_here 8 = .ok (.if_icmp .ge 30, 3) := by decide +kernel
theorem dX5_here_11 : decode cX5_here 11 = .ok (.aload_n 0, 1) := by decide +kernel
theorem dX5_here_12 : decode cX5_here 12 = .ok (.getfield 41, 3) := by decide +kernel
theorem dX5_here_15 : decode cX5_here 15 = .ok (.aload_n 0, 1) := by decide +kernel
theorem dX5_here_16 : decode cX5_here 16 = .ok (.getfield 165, 3) := by decide +kernel
theorem dX5_here_19 : decode cX5_here 19 = .ok (.iaload, 1) := by decide +kernel
theorem dX5_here_20 : decode cX5_here 20 = .ok (.bipush 32, 2) := by decide +kernel
theorem dX5_here_22 : decode cX5_here 22 = .ok (.if_icmp .ne 16, 3) := by decide +kernel
theorem dX5_here_25 : decode cX5_here 25 = .ok (.aload_n 0, 1) := by decide +kernel
theorem dX5_here_26 : decode cX5_here 26 = .ok (.dup, 1) := by decide +kernel
theorem dX5_here_27 : decode cX5_here 27 = .ok (.getfield 165, 3) := by decide +kernel
theorem dX5_here_30 : decode cX5_here 30 = .ok (.iconst 1, 1) := by decide +kernel
theorem dX5_here_31 : decode cX5_here 31 = .ok (.iadd, 1) := by decide +kernel
theorem dX5_here_32 : decode cX5_here 32 = .ok (.putfield 165, 3) := by decide +kernel
theorem dX5_here_35 : decode cX5_here 35 = .ok (.goto (-35), 3) := by decide +kernel
theorem dX5_here_38 : decode cX5_here 38 = .ok (.aload_n 0, 1) := by decide +kernel
theorem dX5_here_39 : decode cX5_here 39 = .ok (.getfield 165, 3) := by decide +kernel
theorem dX5_here_42 : decode cX5_here 42 = .ok (.aload_n 0, 1) := by decide +kernel
theorem dX5_here_43 : decode cX5_here 43 = .ok (.getfield 162, 3) := by decide +kernel
theorem dX5_here_46 : decode cX5_here 46 = .ok (.if_icmp .ge 15, 3) := by decide +kernel
theorem dX5_here_49 : decode cX5_here 49 = .ok (.aload_n 0, 1) := by decide +kernel
theorem dX5_here_50 : decode cX5_here 50 = .ok (.getfield 41, 3) := by decide +kernel
theorem dX5_here_53 : decode cX5_here 53 = .ok (.aload_n 0, 1) := by decide +kernel
theorem dX5_here_54 : decode cX5_here 54 = .ok (.getfield 165, 3) := by decide +kernel
theorem dX5_here_57 : decode cX5_here 57 = .ok (.iaload, 1) := by decide +kernel
theorem dX5_here_58 : decode cX5_here 58 = .ok (.goto 4, 3) := by decide +kernel
theorem dX5_here_61 : decode cX5_here 61 = .ok (.iconst (-1), 1) := by decide +kernel
theorem dX5_here_62 : decode cX5_here 62 = .ok (.ireturn, 1) := by decide +kernel
theorem dX5_must_0 : decode cX5_must 0 = .ok (.aload_n 0, 1) := by decide +kernel
theorem dX5_must_1 : decode cX5_must 1 = .ok (.getfield 168, 3) := by decide +kernel
theorem dX5_must_4 : decode cX5_must 4 = .ok (.iconst (-1), 1) := by decide +kernel
theorem dX5_must_5 : decode cX5_must 5 = .ok (.if_icmp .ne 28, 3) := by decide +kernel
theorem dX5_must_8 : decode cX5_must 8 = .ok (.iload_n 1, 1) := by decide +kernel
theorem dX5_must_9 : decode cX5_must 9 = .ok (.ifCond .eq 16, 3) := by decide +kernel
theorem dX5_must_12 : decode cX5_must 12 = .ok (.aload_n 0, 1) := by decide +kernel
theorem dX5_must_13 : decode cX5_must 13 = .ok (.dup, 1) := by decide +kernel
theorem dX5_must_14 : decode cX5_must 14 = .ok (.getfield 165, 3) := by decide +kernel
theorem dX5_must_17 : decode cX5_must 17 = .ok (.iconst 1, 1) := by decide +kernel
theorem dX5_must_18 : decode cX5_must 18 = .ok (.iadd, 1) := by decide +kernel
theorem dX5_must_19 : decode cX5_must 19 = .ok (.putfield 165, 3) := by decide +kernel
theorem dX5_must_22 : decode cX5_must 22 = .ok (.goto 11, 3) := by decide +kernel
theorem dX5_must_25 : decode cX5_must 25 = .ok (.aload_n 0, 1) := by decide +kernel
theorem dX5_must_26 : decode cX5_must 26 = .ok (.aload_n 0, 1) := by decide +kernel
theorem dX5_must_27 : decode cX5_must 27 = .ok (.getfield 165, 3) := by decide +kernel
theorem dX5_must_30 : decode cX5_must 30 = .ok (.putfield 168, 3) := by decide +kernel
theorem dX5_must_33 : decode cX5_must 33 = .ok (.return_, 1) := by decide +kernel
set_option maxRecDepth 20000 in
theorem ggX5_isFigure_X5_in : GoodIn wsX5_isFigure wsX5_in := goodIn_r _ [7] (by decide +kernel) (by decide +kernel)
set_option maxRecDepth 20000 in
theorem gX5_isFigure_X5_in : GoodIn wsX5_isFigure (va_wsS RX5 88 yX5_in wsX5_in) := goodIn_app (goodIn_of _ (by decide +kernel)) ggX5_isFigure_X5_in
theorem dX5_isFigure_0 : decode cX5_isFigure 0 = .ok (.aload_n 0, 1) := by decide +kernel
theorem dX5_isFigure_1 : decode cX5_isFigure 1 = .ok (.getfield 165, 3) := by decide +kernel
theorem dX5_isFigure_4 : decode cX5_isFigure 4 = .ok (.aload_n 0, 1) := by decide +kernel
theorem dX5_isFigure_5 : decode cX5_isFigure 5 = .ok (.getfield 162, 3) := by decide +kernel
theorem dX5_isFigure_8 : decode cX5_isFigure 8 = .ok (.if_icmp .ge 26, 3) := by decide +kernel
theorem dX5_isFigure_11 : decode cX5_isFigure 11 = .ok (.aload_n 0, 1) := by decide +kernel
theorem dX5_isFigure_12 : decode cX5_isFigure 12 = .ok (.getfield 41, 3) := by decide +kernel
theorem dX5_isFigure_15 : decode cX5_isFigure 15 = .ok (.aload_n 0, 1) := by decide +kernel
theorem dX5_isFigure_16 : decode cX5_isFigure 16 = .ok (.getfield 165, 3) := by decide +kernel
theorem dX5_isFigure_19 : decode cX5_isFigure 19 = .ok (.iaload, 1) := by decide +kernel
theorem dX5_isFigure_20 : decode cX5_isFigure 20 = .ok (.bipush 48, 2) := by decide +kernel
theorem dX5_isFigure_22 : decode cX5_isFigure 22 = .ok (.bipush 57, 2) := by decide +kernel
theorem dX5_isFigure_24 : decode cX5_isFigure 24 = .ok (.invokestatic 88, 3) := by decide +kernel
theorem dX5_isFigure_27 : decode cX5_isFigure 27 = .ok (.ifCond .eq 7, 3) := by decide +kernel
theorem dX5_isFigure_30 : decode cX5_isFigure 30 = .ok (.iconst 1, 1) := by decide +kernel
theorem dX5_isFigure_31 : decode cX5_isFigure 31 = .ok (.goto 4, 3) := by decide +kernel
theorem dX5_isFigure_34 : decode cX5_isFigure 34 = .ok (.iconst 0, 1) := by decide +kernel
theorem dX5_isFigure_35 : decode cX5_isFigure 35 = .ok (.ireturn, 1) := by decide +kernel
set_option maxRecDepth 20000 in
theorem ggX5_number_X5_here : GoodIn wsX5_number wsX5_here := goodIn_r _ [8, 3, 9, 2, 21, 22, 23, 24, 25, 26, 27, 28, 29, 30, 31, 32, 33, 34, 35, 36, 37, 38, 39] (by decide +kernel) (by decide +kernel)
set_option maxRecDepth 20000 in
theorem gX5_number_X5_here : GoodIn wsX5_number (wsV RX5 171 RX5 yX5_here wsX5_here) := goodIn_app (goodIn_of _ (by decide +kernel)) ggX5_number_X5_here
set_option maxRecDepth 20000 in
theorem ggX5_number_X5_in : GoodIn wsX5_number wsX5_in := goodIn_r _ [12] (by decide +kernel) (by decide +kernel)
set_option maxRecDepth 20000 in
theorem gX5_number_X5_in : GoodIn wsX5_number (va_wsS RX5 88 yX5_in wsX5_in) := goodIn_app (goodIn_of _ (by decide +kernel)) ggX5_number_X5_in
set_option maxRecDepth 20000 in
theorem ggX5_number_X5_must : GoodIn wsX5_number wsX5_must := goodIn_r _ [16, 1, 3, 21, 22, 23, 24, 25, 26, 27, 28, 29, 30, 31, 32, 33, 34, 35, 36, 37, 38, 39] (by decide +kernel) (by decide +kernel)
set_option maxRecDepth 20000 in
theorem gX5_number_X5_must : GoodIn wsX5_number (wsV RX5 174 RX5 yX5_must wsX5_must) := goodIn_app (goodIn_of _ (by decide +kernel)) ggX5_number_X5_must
set_option maxRecDepth 20000 in
theorem ggX5_number_X5_isFigure : GoodIn wsX5_number wsX5_isFigure := goodIn_r _ [20, 3, 9, 2, 10, 11, 7, 12, 21, 22, 23, 24, 25, 26, 27, 28, 29, 30, 31, 32, 33, 34, 35, 36, 37, 38, 39] (by decide +kernel) (by decide +kernel)
set_option maxRecDepth 20000 in
theorem gX5_number_X5_isFigure : GoodIn wsX5_number (wsV RX5 178 RX5 yX5_isFigure wsX5_isFigure) := goodIn_app (goodIn_of _ (by decide +kernel)) ggX5_number_X5_isFigure
theorem dX5_number_0 : decode cX5_number 0 = .ok (.aload_n 0, 1) := by decide +kernel
theorem dX5_number_1 : decode cX5_number 1 = .ok (.aload_n 0, 1) := by decide +kernel
theorem dX5_number_2 : decode cX5_number 2 = .ok (.invokevirtual 171, 3) := by decide +kernel
theorem dX5_number_5 : decode cX5_number 5 = .ok (.bipush 48, 2) := by decide +kernel
theorem dX5_number_7 : decode cX5_number 7 = .ok (.bipush 57, 2) := by decide +kernel
theorem dX5_number_9 : decode cX5_number 9 = .ok (.invokestatic 88, 3) := by decide +kernel
theorem dX5_number_12 : decode cX5_number 12 = .ok (.invokevirtual 174, 3) := by decide +kernel
theorem dX5_number_15 : decode cX5_number 15 = .ok (.aload_n 0, 1) := by decide +kernel
theorem dX5_number_16 : decode cX5_number 16 = .ok (.getfield 168, 3) := by decide +kernel
theorem dX5_number_19 : decode cX5_number 19 = .ok (.iconst (-1), 1) := by decide +kernel
theorem dX5_number_20 : decode cX5_number 20 = .ok (.if_icmp .eq 5, 3) := by decide +kernel
theorem dX5_number_23 : decode cX5_number 23 = .ok (.iconst 0, 1) := by decide +kernel
theorem dX5_number_24 : decode cX5_number 24 = .ok (.ireturn, 1) := by decide +kernel
theorem dX5_number_25 : decode cX5_number 25 = .ok (.aload_n 0, 1) := by decide +kernel
theorem dX5_number_26 : decode cX5_number 26 = .ok (.getfield 41, 3) := by decide +kernel
theorem dX5_number_29 : decode cX5_number 29 = .ok (.aload_n 0, 1) := by decide +kernel
theorem dX5_number_30 : decode cX5_number 30 = .ok (.getfield 165, 3) := by decide +kernel
theorem dX5_number_33 : decode cX5_number 33 = .ok (.iconst 1, 1) := by decide +kernel
theorem dX5_number_34 : decode cX5_number 34 = .ok (.isub, 1) := by decide +kernel
theorem dX5_number_35 : decode cX5_number 35 = .ok (.iaload, 1) := by decide +kernel
theorem dX5_number_36 : decode cX5_number 36 = .ok (.bipush 48, 2) := by decide +kernel
theorem dX5_number_38 : decode cX5_number 38 = .ok (.isub, 1) := by decide +kernel
theorem dX5_number_39 : decode cX5_number 39 = .ok (.istore_n 1, 1) := by decide +kernel
theorem dX5_number_40 : decode cX5_number 40 = .ok (.iconst 0, 1) := by decide +kernel
theorem dX5_number_41 : decode cX5_number 41 = .ok (.istore_n 2, 1) := by decide +kernel
theorem dX5_number_42 : decode cX5_number 42 = .ok (.iload_n 2, 1) := by decide +kernel
theorem dX5_number_43 : decode cX5_number 43 = .ok (.iconst 2, 1) := by decide +kernel
theorem dX5_number_44 : decode cX5_number 44 = .ok (.if_icmp .ge 44, 3) := by decide +kernel
theorem dX5_number_47 : decode cX5_number 47 = .ok (.aload_n 0, 1) := by decide +kernel
theorem dX5_number_48 : decode cX5_number 48 = .ok (.invokevirtual 178, 3) := by decide +kernel
theorem dX5_number_51 : decode cX5_number 51 = .ok (.ifCond .eq 37, 3) := by decide +kernel
theorem dX5_number_54 : decode cX5_number 54 = .ok (.bipush 10, 2) := by decide +kernel
theorem dX5_number_56 : decode cX5_number 56 = .ok (.iload_n 1, 1) := by decide +kernel
theorem dX5_number_57 : decode cX5_number 57 = .ok (.imul, 1) := by decide +kernel
theorem dX5_number_58 : decode cX5_number 58 = .ok (.aload_n 0, 1) := by decide +kernel
theorem dX5_number_59 : decode cX5_number 59 = .ok (.getfield 41, 3) := by decide +kernel
theorem dX5_number_62 : decode cX5_number 62 = .ok (.aload_n 0, 1) := by decide +kernel
theorem dX5_number_63 : decode cX5_number 63 = .ok (.getfield 165, 3) := by decide +kernel
theorem dX5_number_66 : decode cX5_number 66 = .ok (.iaload, 1) := by decide +kernel
theorem dX5_number_67 : decode cX5_number 67 = .ok (.iadd, 1) := by decide +kernel
end
section
theorem dX5_number_68 : decode cX5_number 68 = .ok (.bipush 48, 2) := by decide +kernel
theorem dX5_number_70 : decode cX5_number 70 = .ok (.isub, 1) := by decide +kernel
theorem dX5_number_71 : decode cX5_number 71 = .ok (.istore_n 1, 1) := by decide +kernel
theorem dX5_number_72 : decode cX5_number 72 = .ok (.aload_n 0, 1) := by decide +kernel
theorem dX5_number_73 : decode cX5_number 73 = .ok (.dup, 1) := by decide +kernel
theorem dX5_number_74 : decode cX5_number 74 = .ok (.getfield 165, 3) := by decide +kernel
theorem dX5_number_77 : decode cX5_number 77 = .ok (.iconst 1, 1) := by decide +kernel
theorem dX5_number_78 : decode cX5_number 78 = .ok (.iadd, 1) := by decide +kernel
theorem dX5_number_79 : decode cX5_number 79 = .ok (.putfield 165, 3) := by decide +kernel
theorem dX5_number_82 : decode cX5_number 82 = .ok (.iinc 2 1, 3) := by decide +kernel
theorem dX5_number_85 : decode cX5_number 85 = .ok (.goto (-43), 3) := by decide +kernel
theorem dX5_number_88 : decode cX5_number 88 = .ok (.aload_n 0, 1) := by decide +kernel
theorem dX5_number_89 : decode cX5_number 89 = .ok (.invokevirtual 178, 3) := by decide +kernel
theorem dX5_number_92 : decode cX5_number 92 = .ok (.ifCond .eq 11, 3) := by decide +kernel
theorem dX5_number_95 : decode cX5_number 95 = .ok (.aload_n 0, 1) := by decide +kernel
theorem dX5_number_96 : decode cX5_number 96 = .ok (.aload_n 0, 1) := by decide +kernel
theorem dX5_number_97 : decode cX5_number 97 = .ok (.getfield 165, 3) := by decide +kernel
theorem dX5_number_100 : decode cX5_number 100 = .ok (.putfield 168, 3) := by decide +kernel
theorem dX5_number_103 : decode cX5_number 103 = .ok (.iload_n 1, 1) := by decide +kernel
theorem dX5_number_104 : decode cX5_number 104 = .ok (.ireturn, 1) := by decide +kernel
theorem dX5_numbersOf_0 : decode cX5_numbersOf 0 = .ok (.iload_n 0, 1) := by decide +kernel
theorem dX5_numbersOf_1 : decode cX5_numbersOf 1 = .ok (.tableswitch 99 100 119 #[97, 97, 99, 97, 95, 99, 99, 97, 99, 99, 99, 99, 99, 99, 99, 99, 99, 99, 99, 95], 95) := by decide +kernel
theorem dX5_numbersOf_96 : decode cX5_numbersOf 96 = .ok (.iconst 2, 1) := by decide +kernel
theorem dX5_numbersOf_97 : decode cX5_numbersOf 97 = .ok (.ireturn, 1) := by decide +kernel
theorem dX5_numbersOf_98 : decode cX5_numbersOf 98 = .ok (.iconst 1, 1) := by decide +kernel
theorem dX5_numbersOf_99 : decode cX5_numbersOf 99 = .ok (.ireturn, 1) := by decide +kernel
theorem dX5_numbersOf_100 : decode cX5_numbersOf 100 = .ok (.iconst (-1), 1) := by decide +kernel
theorem dX5_numbersOf_101 : decode cX5_numbersOf 101 = .ok (.ireturn, 1) := by decide +kernel
set_option maxRecDepth 20000 in
theorem ggX5_readOrder_X5_here : GoodIn wsX5_readOrder wsX5_here := goodIn_r _ [9, 10, 11, 12, 31, 32, 33, 34, 35, 36, 37, 38, 39, 40, 41, 42, 43, 44, 45, 46, 47, 48, 49] (by decide +kernel) (by decide +kernel)
set_option maxRecDepth 20000 in
theorem gX5_readOrder_X5_here : GoodIn wsX5_readOrder (wsV RX5 171 RX5 yX5_here wsX5_here) := goodIn_app (goodIn_of _ (by decide +kernel)) ggX5_readOrder_X5_here
set_option maxRecDepth 20000 in
theorem ggX5_readOrder_X5_numbersOf : GoodIn wsX5_readOrder wsX5_numbersOf := goodIn_r _ [15] (by decide +kernel) (by decide +kernel)
set_option maxRecDepth 20000 in
theorem gX5_readOrder_X5_numbersOf : GoodIn wsX5_readOrder (va_wsS RX5 182 yX5_numbersOf wsX5_numbersOf) := goodIn_app (goodIn_of _ (by decide +kernel)) ggX5_readOrder_X5_numbersOf
set_option maxRecDepth 20000 in
theorem ggX5_readOrder_X5_must : GoodIn wsX5_readOrder wsX5_must := goodIn_r _ [19, 1, 10, 31, 32, 33, 34, 35, 36, 37, 38, 39, 40, 41, 42, 43, 44, 45, 46, 47, 48, 49] (by decide +kernel) (by decide +kernel)
set_option maxRecDepth 20000 in
theorem gX5_readOrder_X5_must : GoodIn wsX5_readOrder (wsV RX5 174 RX5 yX5_must wsX5_must) := goodIn_app (goodIn_of _ (by decide +kernel)) ggX5_readOrder_X5_must
set_option maxRecDepth 20000 in
theorem ggX5_readOrder_X5_number : GoodIn wsX5_readOrder wsX5_number := goodIn_r _ [23, 1, 12, 10, 5, 6, 7, 8, 9, 11, 24, 25, 26, 16, 17, 18, 19, 27, 28, 29, 30, 31, 32, 33, 34, 35, 36, 37, 38, 39, 40, 41, 42, 43, 44, 45, 46, 47, 48, 49] (by decide +kernel) (by decide +kernel)
set_option maxRecDepth 20000 in
theorem gX5_readOrder_X5_number : GoodIn wsX5_readOrder (wsV RX5 188 RX5 yX5_number wsX5_number) := goodIn_app (goodIn_of _ (by decide +kernel)) ggX5_readOrder_X5_number
theorem dX5_readOrder_0 : decode cX5_readOrder 0 = .ok (.aload_n 0, 1) := by decide +kernel
theorem dX5_readOrder_1 : decode cX5_readOrder 1 = .ok (.invokevirtual 171, 3) := by decide +kernel
theorem dX5_readOrder_4 : decode cX5_readOrder 4 = .ok (.istore_n 1, 1) := by decide +kernel
theorem dX5_readOrder_5 : decode cX5_readOrder 5 = .ok (.iload_n 1, 1) := by decide +kernel
theorem dX5_readOrder_6 : decode cX5_readOrder 6 = .ok (.invokestatic 182, 3) := by decide +kernel
theorem dX5_readOrder_9 : decode cX5_readOrder 9 = .ok (.istore_n 2, 1) := by decide +kernel
theorem dX5_readOrder_10 : decode cX5_readOrder 10 = .ok (.aload_n 0, 1) := by decide +kernel
theorem dX5_readOrder_11 : decode cX5_readOrder 11 = .ok (.iload_n 2, 1) := by decide +kernel
theorem dX5_readOrder_12 : decode cX5_readOrder 12 = .ok (.iconst (-1), 1) := by decide +kernel
theorem dX5_readOrder_13 : decode cX5_readOrder 13 = .ok (.if_icmp .eq 7, 3) := by decide +kernel
theorem dX5_readOrder_16 : decode cX5_readOrder 16 = .ok (.iconst 1, 1) := by decide +kernel
theorem dX5_readOrder_17 : decode cX5_readOrder 17 = .ok (.goto 4, 3) := by decide +kernel
theorem dX5_readOrder_20 : decode cX5_readOrder 20 = .ok (.iconst 0, 1) := by decide +kernel
theorem dX5_readOrder_21 : decode cX5_readOrder 21 = .ok (.invokevirtual 174, 3) := by decide +kernel
theorem dX5_readOrder_24 : decode cX5_readOrder 24 = .ok (.iconst 0, 1) := by decide +kernel
theorem dX5_readOrder_25 : decode cX5_readOrder 25 = .ok (.istore_n 3, 1) := by decide +kernel
theorem dX5_readOrder_26 : decode cX5_readOrder 26 = .ok (.iload_n 3, 1) := by decide +kernel
theorem dX5_readOrder_27 : decode cX5_readOrder 27 = .ok (.iload_n 2, 1) := by decide +kernel
theorem dX5_readOrder_28 : decode cX5_readOrder 28 = .ok (.if_icmp .ge 34, 3) := by decide +kernel
theorem dX5_readOrder_31 : decode cX5_readOrder 31 = .ok (.aload_n 0, 1) := by decide +kernel
theorem dX5_readOrder_32 : decode cX5_readOrder 32 = .ok (.getfield 168, 3) := by decide +kernel
theorem dX5_readOrder_35 : decode cX5_readOrder 35 = .ok (.iconst (-1), 1) := by decide +kernel
theorem dX5_readOrder_36 : decode cX5_readOrder 36 = .ok (.if_icmp .ne 26, 3) := by decide +kernel
theorem dX5_readOrder_39 : decode cX5_readOrder 39 = .ok (.aload_n 0, 1) := by decide +kernel
theorem dX5_readOrder_40 : decode cX5_readOrder 40 = .ok (.getfield 47, 3) := by decide +kernel
theorem dX5_readOrder_43 : decode cX5_readOrder 43 = .ok (.iconst 2, 1) := by decide +kernel
theorem dX5_readOrder_44 : decode cX5_readOrder 44 = .ok (.aload_n 0, 1) := by decide +kernel
theorem dX5_readOrder_45 : decode cX5_readOrder 45 = .ok (.getfield 185, 3) := by decide +kernel
theorem dX5_readOrder_48 : decode cX5_readOrder 48 = .ok (.imul, 1) := by decide +kernel
theorem dX5_readOrder_49 : decode cX5_readOrder 49 = .ok (.iload_n 3, 1) := by decide +kernel
theorem dX5_readOrder_50 : decode cX5_readOrder 50 = .ok (.iadd, 1) := by decide +kernel
theorem dX5_readOrder_51 : decode cX5_readOrder 51 = .ok (.aload_n 0, 1) := by decide +kernel
theorem dX5_readOrder_52 : decode cX5_readOrder 52 = .ok (.invokevirtual 188, 3) := by decide +kernel
theorem dX5_readOrder_55 : decode cX5_readOrder 55 = .ok (.iastore, 1) := by decide +kernel
theorem dX5_readOrder_56 : decode cX5_readOrder 56 = .ok (.iinc 3 1, 3) := by decide +kernel
theorem dX5_readOrder_59 : decode cX5_readOrder 59 = .ok (.goto (-33), 3) := by decide +kernel
theorem dX5_readOrder_62 : decode cX5_readOrder 62 = .ok (.aload_n 0, 1) := by decide +kernel
theorem dX5_readOrder_63 : decode cX5_readOrder 63 = .ok (.getfield 168, 3) := by decide +kernel
theorem dX5_readOrder_66 : decode cX5_readOrder 66 = .ok (.iconst (-1), 1) := by decide +kernel
theorem dX5_readOrder_67 : decode cX5_readOrder 67 = .ok (.if_icmp .ne 41, 3) := by decide +kernel
theorem dX5_readOrder_70 : decode cX5_readOrder 70 = .ok (.aload_n 0, 1) := by decide +kernel
theorem dX5_readOrder_71 : decode cX5_readOrder 71 = .ok (.getfield 44, 3) := by decide +kernel
theorem dX5_readOrder_74 : decode cX5_readOrder 74 = .ok (.aload_n 0, 1) := by decide +kernel
theorem dX5_readOrder_75 : decode cX5_readOrder 75 = .ok (.getfield 185, 3) := by decide +kernel
theorem dX5_readOrder_78 : decode cX5_readOrder 78 = .ok (.iload_n 1, 1) := by decide +kernel
theorem dX5_readOrder_79 : decode cX5_readOrder 79 = .ok (.iastore, 1) := by decide +kernel
theorem dX5_readOrder_80 : decode cX5_readOrder 80 = .ok (.aload_n 0, 1) := by decide +kernel
theorem dX5_readOrder_81 : decode cX5_readOrder 81 = .ok (.dup, 1) := by decide +kernel
theorem dX5_readOrder_82 : decode cX5_readOrder 82 = .ok (.getfield 185, 3) := by decide +kernel
theorem dX5_readOrder_85 : decode cX5_readOrder 85 = .ok (.iconst 1, 1) := by decide +kernel
theorem dX5_readOrder_86 : decode cX5_readOrder 86 = .ok (.iadd, 1) := by decide +kernel
theorem dX5_readOrder_87 : decode cX5_readOrder 87 = .ok (.putfield 185, 3) := by decide +kernel
theorem dX5_readOrder_90 : decode cX5_readOrder 90 = .ok (.aload_n 0, 1) := by decide +kernel
theorem dX5_readOrder_91 : decode cX5_readOrder 91 = .ok (.aload_n 0, 1) := by decide +kernel
theorem dX5_readOrder_92 : decode cX5_readOrder 92 = .ok (.invokevirtual 171, 3) := by decide +kernel
theorem dX5_readOrder_95 : decode cX5_readOrder 95 = .ok (.bipush 59, 2) := by decide +kernel
theorem dX5_readOrder_97 : decode cX5_readOrder 97 = .ok (.if_icmp .ne 7, 3) := by decide +kernel
theorem dX5_readOrder_100 : decode cX5_readOrder 100 = .ok (.iconst 1, 1) := by decide +kernel
theorem dX5_readOrder_101 : decode cX5_readOrder 101 = .ok (.goto 4, 3) := by decide +kernel
theorem dX5_readOrder_104 : decode cX5_readOrder 104 = .ok (.iconst 0, 1) := by decide +kernel
theorem dX5_readOrder_105 : decode cX5_readOrder 105 = .ok (.invokevirtual 174, 3) := by decide +kernel
theorem dX5_readOrder_108 : decode cX5_readOrder 108 = .ok (.return_, 1) := by decide +kernel
set_option maxRecDepth 20000 in
theorem ggX5_doOrder_X5_doHost : GoodIn wsX5_doOrder wsX5_doHost := goodIn_r _ [7, 8, 9, 10, 6, 11, 12, 13, 14, 15, 16, 17, 18, 19, 20, 21, 22, 54, 55, 56, 57, 58, 59, 60, 61, 62, 63, 64, 65, 66, 67, 68, 69, 70, 71, 72] (by decide +kernel) (by decide +kernel)
set_option maxRecDepth 20000 in
theorem gX5_doOrder_X5_doHost : GoodIn wsX5_doOrder (wsV RX5 113 RX5 yX5_doHost wsX5_doHost) := goodIn_app (goodIn_of _ (by decide +kernel)) ggX5_doOrder_X5_doHost
set_option maxRecDepth 20000 in
theorem ggX5_doOrder_X5_doWeighs : GoodIn wsX5_doOrder wsX5_doWeighs := goodIn_r _ [26, 8, 9, 10, 6, 11, 12, 13, 14, 15, 16, 17, 18, 54, 55, 56, 57, 58, 59, 60, 61, 62, 63, 64, 65, 66, 67, 68, 69, 70, 71, 72] (by decide +kernel) (by decide +kernel)
set_option maxRecDepth 20000 in
theorem gX5_doOrder_X5_doWeighs : GoodIn wsX5_doOrder (wsV RX5 119 RX5 yX5_doWeighs wsX5_doWeighs) := goodIn_app (goodIn_of _ (by decide +kernel)) ggX5_doOrder_X5_doWeighs
set_option maxRecDepth 20000 in
theorem ggX5_doOrder_X5_doGoes : GoodIn wsX5_doOrder wsX5_doGoes := goodIn_r _ [30, 8, 9, 10, 6, 11, 12, 13, 14, 15, 16, 17, 18, 54, 55, 56, 57, 58, 59, 60, 61, 62, 63, 64, 65, 66, 67, 68, 69, 70, 71, 72] (by decide +kernel) (by decide +kernel)
set_option maxRecDepth 20000 in
theorem gX5_doOrder_X5_doGoes : GoodIn wsX5_doOrder (wsV RX5 122 RX5 yX5_doGoes wsX5_doGoes) := goodIn_app (goodIn_of _ (by decide +kernel)) ggX5_doOrder_X5_doGoes
set_option maxRecDepth 20000 in
theorem ggX5_doOrder_X5_doKey : GoodIn wsX5_doOrder wsX5_doKey := goodIn_r _ [34, 8, 35, 36, 37, 6, 38, 39, 40, 41, 12, 13, 14, 42, 43, 44, 45, 54, 55, 56, 57, 58, 59, 60, 61, 62, 63, 64, 65, 66, 67, 68, 69, 70, 71, 72] (by decide +kernel) (by decide +kernel)
set_option maxRecDepth 20000 in
theorem gX5_doOrder_X5_doKey : GoodIn wsX5_doOrder (wsV RX5 125 RX5 yX5_doKey wsX5_doKey) := goodIn_app (goodIn_of _ (by decide +kernel)) ggX5_doOrder_X5_doKey
set_option maxRecDepth 20000 in
theorem ggX5_doOrder_X5_doDrops : GoodIn wsX5_doOrder wsX5_doDrops := goodIn_r _ [49, 8, 39, 40, 6, 41, 12, 13, 14, 42, 43, 44, 45, 54, 55, 56, 57, 58, 59, 60, 61, 62, 63, 64, 65, 66, 67, 68, 69, 70, 71, 72] (by decide +kernel) (by decide +kernel)
set_option maxRecDepth 20000 in
theorem gX5_doOrder_X5_doDrops : GoodIn wsX5_doOrder (wsV RX5 128 RX5 yX5_doDrops wsX5_doDrops) := goodIn_app (goodIn_of _ (by decide +kernel)) ggX5_doOrder_X5_doDrops
set_option maxRecDepth 20000 in
theorem ggX5_doOrder_X5_doExtra : GoodIn wsX5_doOrder wsX5_doExtra := goodIn_r _ [53, 8, 12, 13, 6, 14, 54, 55, 56, 57, 58, 59, 60, 61, 62, 63, 64, 65, 66, 67, 68, 69, 70, 71, 72] (by decide +kernel) (by decide +kernel)
set_option maxRecDepth 20000 in
theorem gX5_doOrder_X5_doExtra : GoodIn wsX5_doOrder (wsV RX5 131 RX5 yX5_doExtra wsX5_doExtra) := goodIn_app (goodIn_of _ (by decide +kernel)) ggX5_doOrder_X5_doExtra
theorem dX5_doOrder_0 : decode cX5_doOrder 0 = .ok (.aload_n 0, 1) := by decide +kernel
theorem dX5_doOrder_1 : decode cX5_doOrder 1 = .ok (.getfield 47, 3) := by decide +kernel
theorem dX5_doOrder_4 : decode cX5_doOrder 4 = .ok (.iconst 2, 1) := by decide +kernel
theorem dX5_doOrder_5 : decode cX5_doOrder 5 = .ok (.iload_n 1, 1) := by decide +kernel
theorem dX5_doOrder_6 : decode cX5_doOrder 6 = .ok (.imul, 1) := by decide +kernel
theorem dX5_doOrder_7 : decode cX5_doOrder 7 = .ok (.iaload, 1) := by decide +kernel
theorem dX5_doOrder_8 : decode cX5_doOrder 8 = .ok (.istore_n 2, 1) := by decide +kernel
theorem dX5_doOrder_9 : decode cX5_doOrder 9 = .ok (.aload_n 0, 1) := by decide +kernel
theorem dX5_doOrder_10 : decode cX5_doOrder 10 = .ok (.getfield 47, 3) := by decide +kernel
theorem dX5_doOrder_13 : decode cX5_doOrder 13 = .ok (.iconst 2, 1) := by decide +kernel
theorem dX5_doOrder_14 : decode cX5_doOrder 14 = .ok (.iload_n 1, 1) := by decide +kernel
theorem dX5_doOrder_15 : decode cX5_doOrder 15 = .ok (.imul, 1) := by decide +kernel
theorem dX5_doOrder_16 : decode cX5_doOrder 16 = .ok (.iconst 1, 1) := by decide +kernel
theorem dX5_doOrder_17 : decode cX5_doOrder 17 = .ok (.iadd, 1) := by decide +kernel
theorem dX5_doOrder_18 : decode cX5_doOrder 18 = .ok (.iaload, 1) := by decide +kernel
theorem dX5_doOrder_19 : decode cX5_doOrder 19 = .ok (.istore_n 3, 1) := by decide +kernel
theorem dX5_doOrder_20 : decode cX5_doOrder 20 = .ok (.aload_n 0, 1) := by decide +kernel
theorem dX5_doOrder_21 : decode cX5_doOrder 21 = .ok (.getfield 44, 3) := by decide +kernel
theorem dX5_doOrder_24 : decode cX5_doOrder 24 = .ok (.iload_n 1, 1) := by decide +kernel
theorem dX5_doOrder_25 : decode cX5_doOrder 25 = .ok (.iaload, 1) := by decide +kernel
theorem dX5_doOrder_26 : decode cX5_doOrder 26 = .ok (.lookupswitch 82 #[(100, 76), (103, 64), (104, 50), (107, 70), (119, 57)], 50) := by decide +kernel
theorem dX5_doOrder_76 : decode cX5_doOrder 76 = .ok (.aload_n 0, 1) := by decide +kernel
theorem dX5_doOrder_77 : decode cX5_doOrder 77 = .ok (.iload_n 2, 1) := by decide +kernel
theorem dX5_doOrder_78 : decode cX5_doOrder 78 = .ok (.iload_n 3, 1) := by decide +kernel
theorem dX5_doOrder_79 : decode cX5_doOrder 79 = .ok (.invokevirtual 113, 3) := by decide +kernel
theorem dX5_doOrder_82 : decode cX5_doOrder 82 = .ok (.ireturn, 1) := by decide +kernel
theorem dX5_doOrder_83 : decode cX5_doOrder 83 = .ok (.aload_n 0, 1) := by decide +kernel
theorem dX5_doOrder_84 : decode cX5_doOrder 84 = .ok (.iload_n 2, 1) := by decide +kernel
theorem dX5_doOrder_85 : decode cX5_doOrder 85 = .ok (.iload_n 3, 1) := by decide +kernel
theorem dX5_doOrder_86 : decode cX5_doOrder 86 = .ok (.invokevirtual 119, 3) := by decide +kernel
theorem dX5_doOrder_89 : decode cX5_doOrder 89 = .ok (.ireturn, 1) := by decide +kernel
theorem dX5_doOrder_90 : decode cX5_doOrder 90 = .ok (.aload_n 0, 1) := by decide +kernel
theorem dX5_doOrder_91 : decode cX5_doOrder 91 = .ok (.iload_n 2, 1) := by decide +kernel
theorem dX5_doOrder_92 : decode cX5_doOrder 92 = .ok (.invokevirtual 122, 3) := by decide +kernel
theorem dX5_doOrder_95 : decode cX5_doOrder 95 = .ok (.ireturn, 1) := by decide +kernel
theorem dX5_doOrder_96 : decode cX5_doOrder 96 = .ok (.aload_n 0, 1) := by decide +kernel
theorem dX5_doOrder_97 : decode cX5_doOrder 97 = .ok (.iload_n 2, 1) := by decide +kernel
theorem dX5_doOrder_98 : decode cX5_doOrder 98 = .ok (.invokevirtual 125, 3) := by decide +kernel
theorem dX5_doOrder_101 : decode cX5_doOrder 101 = .ok (.ireturn, 1) := by decide +kernel
theorem dX5_doOrder_102 : decode cX5_doOrder 102 = .ok (.aload_n 0, 1) := by decide +kernel
theorem dX5_doOrder_103 : decode cX5_doOrder 103 = .ok (.iload_n 2, 1) := by decide +kernel
theorem dX5_doOrder_104 : decode cX5_doOrder 104 = .ok (.invokevirtual 128, 3) := by decide +kernel
theorem dX5_doOrder_107 : decode cX5_doOrder 107 = .ok (.ireturn, 1) := by decide +kernel
theorem dX5_doOrder_108 : decode cX5_doOrder 108 = .ok (.aload_n 0, 1) := by decide +kernel
theorem dX5_doOrder_109 : decode cX5_doOrder 109 = .ok (.iload_n 2, 1) := by decide +kernel
theorem dX5_doOrder_110 : decode cX5_doOrder 110 = .ok (.invokevirtual 131, 3) := by decide +kernel
theorem dX5_doOrder_113 : decode cX5_doOrder 113 = .ok (.ireturn, 1) := by decide +kernel
set_option maxRecDepth 20000 in
theorem ggX5_does_X5_here : GoodIn wsX5_does wsX5_here := goodIn_r _ [9, 1, 4, 10, 136, 137, 138, 139, 140, 141, 142, 143, 144, 145, 146, 147, 148, 149, 150, 151, 152, 153, 154] (by decide +kernel) (by decide +kernel)
set_option maxRecDepth 20000 in
theorem gX5_does_X5_here : GoodIn wsX5_does (wsV RX5 171 RX5 yX5_here wsX5_here) := goodIn_app (goodIn_of _ (by decide +kernel)) ggX5_does_X5_here
set_option maxRecDepth 20000 in
theorem ggX5_does_X5_readOrder : GoodIn wsX5_does wsX5_readOrder := goodIn_r _ [14, 2, 15, 3, 16, 5, 6, 7, 8, 9, 1, 4, 10, 17, 18, 19, 20, 21, 22, 23, 24, 25, 26, 27, 28, 29, 30, 31, 32, 33, 34, 136, 137, 138, 139, 140, 141, 142, 143, 144, 145, 146, 147, 148, 149, 150, 151, 152, 153, 154] (by decide +kernel) (by decide +kernel)
set_option maxRecDepth 20000 in
theorem gX5_does_X5_readOrder : GoodIn wsX5_does (wsV RX5 191 RX5 yX5_readOrder wsX5_readOrder) := goodIn_app (goodIn_of _ (by decide +kernel)) ggX5_does_X5_readOrder
set_option maxRecDepth 20000 in
theorem ggX5_does_X5_hold : GoodIn wsX5_does wsX5_hold := goodIn_r _ [38, 39, 40, 41, 42, 136, 137, 138, 139, 140, 141, 142, 143, 144, 145, 146, 147, 148, 149, 150, 151, 152, 153, 154] (by decide +kernel) (by decide +kernel)
set_option maxRecDepth 20000 in
theorem gX5_does_X5_hold : GoodIn wsX5_does (wsV RX5 110 RX5 yX5_hold wsX5_hold) := goodIn_app (goodIn_of _ (by decide +kernel)) ggX5_does_X5_hold
set_option maxRecDepth 20000 in
theorem ggX5_does_X5_doOrder : GoodIn wsX5_does wsX5_doOrder := goodIn_r _ [46, 15, 16, 47, 48, 49, 8, 50, 40, 51, 52, 53, 28, 29, 30, 54, 55, 56, 57, 58, 59, 60, 61, 62, 63, 64, 65, 66, 67, 68, 69, 70, 71, 72, 73, 74, 75, 76, 77, 78, 79, 80, 81, 82, 83, 84, 85, 86, 87, 88, 89, 90, 91, 92, 136, 137, 138, 139, 140, 141, 142, 143, 144, 145, 146, 147, 148, 149, 150, 151, 152, 153, 154] (by decide +kernel) (by decide +kernel)
set_option maxRecDepth 20000 in
theorem gX5_does_X5_doOrder : GoodIn wsX5_does (wsV RX5 194 RX5 yX5_doOrder wsX5_doOrder) := goodIn_app (goodIn_of _ (by decide +kernel)) ggX5_does_X5_doOrder
set_option maxRecDepth 20000 in
theorem ggX5_does_X5_release : GoodIn wsX5_does wsX5_release := goodIn_r _ [96, 40, 39, 136, 137, 138, 139, 140, 141, 142, 143, 144, 145, 146, 147, 148, 149, 150, 151, 152, 153, 154] (by decide +kernel) (by decide +kernel)
set_option maxRecDepth 20000 in
theorem gX5_does_X5_release : GoodIn wsX5_does (wsV RX5 146 RX5 yX5_release wsX5_release) := goodIn_app (goodIn_of _ (by decide +kernel)) ggX5_does_X5_release
set_option maxRecDepth 20000 in
theorem ggX5_does_X5_push : GoodIn wsX5_does wsX5_push := goodIn_r _ [100, 40, 101, 102, 39, 103, 104, 105, 8, 106, 107, 42, 108, 109, 110, 111, 112, 113, 114, 115, 116, 117, 118, 119, 120, 121, 122, 123, 124, 125, 126, 127, 128, 129, 130, 131, 132, 133, 134, 135, 41, 136, 137, 138, 139, 140, 141, 142, 143, 144, 145, 146, 147, 148, 149, 150, 151, 152, 153, 154] (by decide +kernel) (by decide +kernel)
set_option maxRecDepth 20000 in
theorem gX5_does_X5_push : GoodIn wsX5_does (wsV RX5 85 RX5 yX5_push wsX5_push) := goodIn_app (goodIn_of _ (by decide +kernel)) ggX5_does_X5_push
theorem dX5_does_0 : decode cX5_does 0 = .ok (.aload_n 0, 1) := by decide +kernel
theorem dX5_does_1 : decode cX5_does 1 = .ok (.iconst 0, 1) := by decide +kernel
theorem dX5_does_2 : decode cX5_does 2 = .ok (.putfield 165, 3) := by decide +kernel
theorem dX5_does_5 : decode cX5_does 5 = .ok (.aload_n 0, 1) := by decide +kernel
theorem dX5_does_6 : decode cX5_does 6 = .ok (.iconst (-1), 1) := by decide +kernel
theorem dX5_does_7 : decode cX5_does 7 = .ok (.putfield 168, 3) := by decide +kernel
theorem dX5_does_10 : decode cX5_does 10 = .ok (.aload_n 0, 1) := by decide +kernel
theorem dX5_does_11 : decode cX5_does 11 = .ok (.iconst 0, 1) := by decide +kernel
theorem dX5_does_12 : decode cX5_does 12 = .ok (.putfield 185, 3) := by decide +kernel
theorem dX5_does_15 : decode cX5_does 15 = .ok (.aload_n 0, 1) := by decide +kernel
theorem dX5_does_16 : decode cX5_does 16 = .ok (.invokevirtual 171, 3) := by decide +kernel
theorem dX5_does_19 : decode cX5_does 19 = .ok (.iconst (-1), 1) := by decide +kernel
theorem dX5_does_20 : decode cX5_does 20 = .ok (.if_icmp .ne 11, 3) := by decide +kernel
theorem dX5_does_23 : decode cX5_does 23 = .ok (.bipush (-10), 2) := by decide +kernel
theorem dX5_does_25 : decode cX5_does 25 = .ok (.aload_n 0, 1) := by decide +kernel
theorem dX5_does_26 : decode cX5_does 26 = .ok (.getfield 162, 3) := by decide +kernel
theorem dX5_does_29 : decode cX5_does 29 = .ok (.isub, 1) := by decide +kernel
theorem dX5_does_30 : decode cX5_does 30 = .ok (.ireturn, 1) := by decide +kernel
theorem dX5_does_31 : decode cX5_does 31 = .ok (.aload_n 0, 1) := by decide +kernel
theorem dX5_does_32 : decode cX5_does 32 = .ok (.getfield 168, 3) := by decide +kernel
theorem dX5_does_35 : decode cX5_does 35 = .ok (.iconst (-1), 1) := by decide +kernel
theorem dX5_does_36 : decode cX5_does 36 = .ok (.if_icmp .ne 18, 3) := by decide +kernel
theorem dX5_does_39 : decode cX5_does 39 = .ok (.aload_n 0, 1) := by decide +kernel
theorem dX5_does_40 : decode cX5_does 40 = .ok (.invokevirtual 171, 3) := by decide +kernel
theorem dX5_does_43 : decode cX5_does 43 = .ok (.iconst (-1), 1) := by decide +kernel
theorem dX5_does_44 : decode cX5_does 44 = .ok (.if_icmp .eq 10, 3) := by decide +kernel
theorem dX5_does_47 : decode cX5_does 47 = .ok (.aload_n 0, 1) := by decide +kernel
theorem dX5_does_48 : decode cX5_does 48 = .ok (.invokevirtual 191, 3) := by decide +kernel
theorem dX5_does_51 : decode cX5_does 51 = .ok (.goto (-20), 3) := by decide +kernel
theorem dX5_does_54 : decode cX5_does 54 = .ok (.aload_n 0, 1) := by decide +kernel
theorem dX5_does_55 : decode cX5_does 55 = .ok (.getfield 168, 3) := by decide +kernel
theorem dX5_does_58 : decode cX5_does 58 = .ok (.iconst (-1), 1) := by decide +kernel
theorem dX5_does_59 : decode cX5_does 59 = .ok (.if_icmp .eq 11, 3) := by decide +kernel
theorem dX5_does_62 : decode cX5_does 62 = .ok (.bipush (-10), 2) := by decide +kernel
theorem dX5_does_64 : decode cX5_does 64 = .ok (.aload_n 0, 1) := by decide +kernel
theorem dX5_does_65 : decode cX5_does 65 = .ok (.getfield 168, 3) := by decide +kernel
theorem dX5_does_68 : decode cX5_does 68 = .ok (.isub, 1) := by decide +kernel
theorem dX5_does_69 : decode cX5_does 69 = .ok (.ireturn, 1) := by decide +kernel
theorem dX5_does_70 : decode cX5_does 70 = .ok (.aload_n 0, 1) := by decide +kernel
theorem dX5_does_71 : decode cX5_does 71 = .ok (.invokevirtual 110, 3) := by decide +kernel
theorem dX5_does_74 : decode cX5_does 74 = .ok (.iconst 0, 1) := by decide +kernel
theorem dX5_does_75 : decode cX5_does 75 = .ok (.istore_n 1, 1) := by decide +kernel
theorem dX5_does_76 : decode cX5_does 76 = .ok (.iload_n 1, 1) := by decide +kernel
theorem dX5_does_77 : decode cX5_does 77 = .ok (.aload_n 0, 1) := by decide +kernel
theorem dX5_does_78 : decode cX5_does 78 = .ok (.getfield 185, 3) := by decide +kernel
theorem dX5_does_81 : decode cX5_does 81 = .ok (.if_icmp .ge 27, 3) := by decide +kernel
theorem dX5_does_84 : decode cX5_does 84 = .ok (.aload_n 0, 1) := by decide +kernel
theorem dX5_does_85 : decode cX5_does 85 = .ok (.iload_n 1, 1) := by decide +kernel
theorem dX5_does_86 : decode cX5_does 86 = .ok (.invokevirtual 194, 3) := by decide +kernel
theorem dX5_does_89 : decode cX5_does 89 = .ok (.ifCond .eq 13, 3) := by decide +kernel
theorem dX5_does_92 : decode cX5_does 92 = .ok (.aload_n 0, 1) := by decide +kernel
theorem dX5_does_93 : decode cX5_does 93 = .ok (.invokevirtual 146, 3) := by decide +kernel
theorem dX5_does_96 : decode cX5_does 96 = .ok (.sipush (-1000), 3) := by decide +kernel
theorem dX5_does_99 : decode cX5_does 99 = .ok (.iload_n 1, 1) := by decide +kernel
theorem dX5_does_100 : decode cX5_does 100 = .ok (.isub, 1) := by decide +kernel
theorem dX5_does_101 : decode cX5_does 101 = .ok (.ireturn, 1) := by decide +kernel
theorem dX5_does_102 : decode cX5_does 102 = .ok (.iinc 1 1, 3) := by decide +kernel
theorem dX5_does_105 : decode cX5_does 105 = .ok (.goto (-29), 3) := by decide +kernel
theorem dX5_does_108 : decode cX5_does 108 = .ok (.aload_n 0, 1) := by decide +kernel
theorem dX5_does_109 : decode cX5_does 109 = .ok (.invokevirtual 85, 3) := by decide +kernel
theorem dX5_does_112 : decode cX5_does 112 = .ok (.aload_n 0, 1) := by decide +kernel
theorem dX5_does_113 : decode cX5_does 113 = .ok (.getfield 185, 3) := by decide +kernel
theorem dX5_does_116 : decode cX5_does 116 = .ok (.ireturn, 1) := by decide +kernel
theorem dX5_toldOf_0 : decode cX5_toldOf 0 = .ok (.iload_n 1, 1) := by decide +kernel
theorem dX5_toldOf_1 : decode cX5_toldOf 1 = .ok (.iconst 3, 1) := by decide +kernel
theorem dX5_toldOf_2 : decode cX5_toldOf 2 = .ok (.if_icmp .ge 12, 3) := by decide +kernel
theorem dX5_toldOf_5 : decode cX5_toldOf 5 = .ok (.aload_n 0, 1) := by decide +kernel
theorem dX5_toldOf_6 : decode cX5_toldOf 6 = .ok (.getfield 19, 3) := by decide +kernel
theorem dX5_toldOf_9 : decode cX5_toldOf 9 = .ok (.iload_n 1, 1) := by decide +kernel
theorem dX5_toldOf_10 : decode cX5_toldOf 10 = .ok (.iaload, 1) := by decide +kernel
theorem dX5_toldOf_11 : decode cX5_toldOf 11 = .ok (.goto 19, 3) := by decide +kernel
theorem dX5_toldOf_14 : decode cX5_toldOf 14 = .ok (.iload_n 1, 1) := by decide +kernel
theorem dX5_toldOf_15 : decode cX5_toldOf 15 = .ok (.iconst 3, 1) := by decide +kernel
theorem dX5_toldOf_16 : decode cX5_toldOf 16 = .ok (.if_icmp .ne 10, 3) := by decide +kernel
theorem dX5_toldOf_19 : decode cX5_toldOf 19 = .ok (.aload_n 0, 1) := by decide +kernel
theorem dX5_toldOf_20 : decode cX5_toldOf 20 = .ok (.getfield 162, 3) := by decide +kernel
theorem dX5_toldOf_23 : decode cX5_toldOf 23 = .ok (.goto 7, 3) := by decide +kernel
theorem dX5_toldOf_26 : decode cX5_toldOf 26 = .ok (.aload_n 0, 1) := by decide +kernel
theorem dX5_toldOf_27 : decode cX5_toldOf 27 = .ok (.getfield 78, 3) := by decide +kernel
theorem dX5_toldOf_30 : decode cX5_toldOf 30 = .ok (.ireturn, 1) := by decide +kernel
set_option maxRecDepth 20000 in
theorem ggX5_told_X5_in : GoodIn wsX5_told wsX5_in := goodIn_r _ [4] (by decide +kernel) (by decide +kernel)
set_option maxRecDepth 20000 in
theorem gX5_told_X5_in : GoodIn wsX5_told (va_wsS RX5 88 yX5_in wsX5_in) := goodIn_app (goodIn_of _ (by decide +kernel)) ggX5_told_X5_in
set_option maxRecDepth 20000 in
theorem ggX5_told_X5_toldOf : GoodIn wsX5_told wsX5_toldOf := goodIn_r _ [8, 9, 10, 11, 16, 17, 18, 19, 20, 21, 22, 23, 24, 25, 26, 27, 28, 29, 30, 31, 32, 33, 34] (by decide +kernel) (by decide +kernel)
set_option maxRecDepth 20000 in
theorem gX5_told_X5_toldOf : GoodIn wsX5_told (wsV RX5 197 RX5 yX5_toldOf wsX5_toldOf) := goodIn_app (goodIn_of _ (by decide +kernel)) ggX5_told_X5_toldOf
set_option maxRecDepth 20000 in
theorem ggX5_told_X5_refuses : GoodIn wsX5_told wsX5_refuses := goodIn_r _ [15, 9, 16, 17, 18, 19, 20, 21, 22, 23, 24, 25, 26, 27, 28, 29, 30, 31, 32, 33, 34] (by decide +kernel) (by decide +kernel)
set_option maxRecDepth 20000 in
theorem gX5_told_X5_refuses : GoodIn wsX5_told (wsV RX5 82 RX5 yX5_refuses wsX5_refuses) := goodIn_app (goodIn_of _ (by decide +kernel)) ggX5_told_X5_refuses
theorem dX5_told_0 : decode cX5_told 0 = .ok (.iload_n 1, 1) := by decide +kernel
theorem dX5_told_1 : decode cX5_told 1 = .ok (.iconst 0, 1) := by decide +kernel
theorem dX5_told_2 : decode cX5_told 2 = .ok (.iconst 4, 1) := by decide +kernel
theorem dX5_told_3 : decode cX5_told 3 = .ok (.invokestatic 88, 3) := by decide +kernel
theorem dX5_told_6 : decode cX5_told 6 = .ok (.ifCond .eq 11, 3) := by decide +kernel
theorem dX5_told_9 : decode cX5_told 9 = .ok (.aload_n 0, 1) := by decide +kernel
theorem dX5_told_10 : decode cX5_told 10 = .ok (.iload_n 1, 1) := by decide +kernel
theorem dX5_told_11 : decode cX5_told 11 = .ok (.invokevirtual 197, 3) := by decide +kernel
theorem dX5_told_14 : decode cX5_told 14 = .ok (.goto 9, 3) := by decide +kernel
theorem dX5_told_17 : decode cX5_told 17 = .ok (.aload_n 0, 1) := by decide +kernel
theorem dX5_told_18 : decode cX5_told 18 = .ok (.bipush (-2), 2) := by decide +kernel
theorem dX5_told_20 : decode cX5_told 20 = .ok (.invokevirtual 82, 3) := by decide +kernel
theorem dX5_told_23 : decode cX5_told 23 = .ok (.ireturn, 1) := by decide +kernel
theorem dX5_mix_0 : decode cX5_mix 0 = .ok (.aload_n 0, 1) := by decide +kernel
theorem dX5_mix_1 : decode cX5_mix 1 = .ok (.ldc2_w 200, 3) := by decide +kernel
theorem dX5_mix_4 : decode cX5_mix 4 = .ok (.aload_n 0, 1) := by decide +kernel
theorem dX5_mix_5 : decode cX5_mix 5 = .ok (.getfield 202, 3) := by decide +kernel
theorem dX5_mix_8 : decode cX5_mix 8 = .ok (.lmul, 1) := by decide +kernel
theorem dX5_mix_9 : decode cX5_mix 9 = .ok (.iload_n 1, 1) := by decide +kernel
theorem dX5_mix_10 : decode cX5_mix 10 = .ok (.i2l, 1) := by decide +kernel
theorem dX5_mix_11 : decode cX5_mix 11 = .ok (.ladd, 1) := by decide +kernel
theorem dX5_mix_12 : decode cX5_mix 12 = .ok (.putfield 202, 3) := by decide +kernel
theorem dX5_mix_15 : decode cX5_mix 15 = .ok (.return_, 1) := by decide +kernel
set_option maxRecDepth 20000 in
theorem ggX5_digest_X5_toldOf : GoodIn wsX5_digest wsX5_toldOf := goodIn_r _ [10, 11, 12, 13, 64, 65, 66, 67, 68, 69, 70, 71, 72, 73, 74, 75, 76, 77, 78, 79, 80, 81, 82] (by decide +kernel) (by decide +kernel)
set_option maxRecDepth 20000 in
theorem gX5_digest_X5_toldOf : GoodIn wsX5_digest (wsV RX5 197 RX5 yX5_toldOf wsX5_toldOf) := goodIn_app (goodIn_of _ (by decide +kernel)) ggX5_digest_X5_toldOf
set_option maxRecDepth 20000 in
theorem ggX5_digest_X5_mix : GoodIn wsX5_digest wsX5_mix := goodIn_r _ [17, 18, 2, 64, 65, 66, 67, 68, 69, 70, 71, 72, 73, 74, 75, 76, 77, 78, 79, 80, 81, 82] (by decide +kernel) (by decide +kernel)
set_option maxRecDepth 20000 in
theorem gX5_digest_X5_mix : GoodIn wsX5_digest (wsV RX5 208 RX5 yX5_mix wsX5_mix) := goodIn_app (goodIn_of _ (by decide +kernel)) ggX5_digest_X5_mix
set_option maxRecDepth 20000 in
theorem ggX5_digest_X5_counted : GoodIn wsX5_digest wsX5_counted := goodIn_r _ [22, 4, 23, 24, 25, 9, 26, 27, 28, 29, 30, 31, 32, 33, 34, 35, 36, 37, 38, 39, 40, 41, 42, 43, 44, 45, 46, 47, 48, 49, 50, 51, 5, 52, 53, 54, 55, 56, 3, 57, 58, 59, 64, 65, 66, 67, 68, 69, 70, 71, 72, 73, 74, 75, 76, 77, 78, 79, 80, 81, 82] (by decide +kernel) (by decide +kernel)
set_option maxRecDepth 20000 in
theorem gX5_digest_X5_counted : GoodIn wsX5_digest (wsV RX5 159 RX5 yX5_counted wsX5_counted) := goodIn_app (goodIn_of _ (by decide +kernel)) ggX5_digest_X5_counted
set_option maxRecDepth 20000 in
theorem ggX5_digest_X5_isHost : GoodIn wsX5_digest wsX5_isHost := goodIn_r _ [30, 4, 64, 65, 66, 67, 68, 69, 70, 71, 72, 73, 74, 75, 76, 77, 78, 79, 80, 81, 82] (by decide +kernel) (by decide +kernel)
set_option maxRecDepth 20000 in
theorem gX5_digest_X5_isHost : GoodIn wsX5_digest (wsV RX5 92 RX5 yX5_isHost wsX5_isHost) := goodIn_app (goodIn_of _ (by decide +kernel)) ggX5_digest_X5_isHost
set_option maxRecDepth 20000 in
theorem ggX5_digest_X5_ofHost : GoodIn wsX5_digest wsX5_ofHost := goodIn_r _ [63, 4, 43, 5, 44, 45, 46, 9, 47, 35, 36, 37, 38, 64, 65, 66, 67, 68, 69, 70, 71, 72, 73, 74, 75, 76, 77, 78, 79, 80, 81, 82] (by decide +kernel) (by decide +kernel)
set_option maxRecDepth 20000 in
theorem gX5_digest_X5_ofHost : GoodIn wsX5_digest (wsV RX5 134 RX5 yX5_ofHost wsX5_ofHost) := goodIn_app (goodIn_of _ (by decide +kernel)) ggX5_digest_X5_ofHost
set_option maxRecDepth 20000 in
theorem ggX5_digest_X5_aboutKey : GoodIn wsX5_digest wsX5_aboutKey := goodIn_r _ [55, 4, 5, 56, 3, 57, 58, 9, 59, 64, 65, 66, 67, 68, 69, 70, 71, 72, 73, 74, 75, 76, 77, 78, 79, 80, 81, 82] (by decide +kernel) (by decide +kernel)
set_option maxRecDepth 20000 in
theorem gX5_digest_X5_aboutKey : GoodIn wsX5_digest (wsV RX5 143 RX5 yX5_aboutKey wsX5_aboutKey) := goodIn_app (goodIn_of _ (by decide +kernel)) ggX5_digest_X5_aboutKey
theorem dX5_digest_0 : decode cX5_digest 0 = .ok (.aload_n 0, 1) := by decide +kernel
theorem dX5_digest_1 : decode cX5_digest 1 = .ok (.ldc2_w 206, 3) := by decide +kernel
theorem dX5_digest_4 : decode cX5_digest 4 = .ok (.putfield 202, 3) := by decide +kernel
theorem dX5_digest_7 : decode cX5_digest 7 = .ok (.iconst 0, 1) := by decide +kernel
theorem dX5_digest_8 : decode cX5_digest 8 = .ok (.istore_n 1, 1) := by decide +kernel
theorem dX5_digest_9 : decode cX5_digest 9 = .ok (.iload_n 1, 1) := by decide +kernel
theorem dX5_digest_10 : decode cX5_digest 10 = .ok (.iconst 5, 1) := by decide +kernel
theorem dX5_digest_11 : decode cX5_digest 11 = .ok (.if_icmp .ge 18, 3) := by decide +kernel
theorem dX5_digest_14 : decode cX5_digest 14 = .ok (.aload_n 0, 1) := by decide +kernel
theorem dX5_digest_15 : decode cX5_digest 15 = .ok (.aload_n 0, 1) := by decide +kernel
theorem dX5_digest_16 : decode cX5_digest 16 = .ok (.iload_n 1, 1) := by decide +kernel
theorem dX5_digest_17 : decode cX5_digest 17 = .ok (.invokevirtual 197, 3) := by decide +kernel
theorem dX5_digest_20 : decode cX5_digest 20 = .ok (.invokevirtual 208, 3) := by decide +kernel
theorem dX5_digest_23 : decode cX5_digest 23 = .ok (.iinc 1 1, 3) := by decide +kernel
theorem dX5_digest_26 : decode cX5_digest 26 = .ok (.goto (-17), 3) := by decide +kernel
theorem dX5_digest_29 : decode cX5_digest 29 = .ok (.iconst 0, 1) := by decide +kernel
theorem dX5_digest_30 : decode cX5_digest 30 = .ok (.istore_n 1, 1) := by decide +kernel
theorem dX5_digest_31 : decode cX5_digest 31 = .ok (.iload_n 1, 1) := by decide +kernel
theorem dX5_digest_32 : decode cX5_digest 32 = .ok (.bipush 9, 2) := by decide +kernel
theorem dX5_digest_34 : decode cX5_digest 34 = .ok (.if_icmp .ge 18, 3) := by decide +kernel
theorem dX5_digest_37 : decode cX5_digest 37 = .ok (.aload_n 0, 1) := by decide +kernel
theorem dX5_digest_38 : decode cX5_digest 38 = .ok (.aload_n 0, 1) := by decide +kernel
theorem dX5_digest_39 : decode cX5_digest 39 = .ok (.iload_n 1, 1) := by decide +kernel
theorem dX5_digest_40 : decode cX5_digest 40 = .ok (.invokevirtual 159, 3) := by decide +kernel
theorem dX5_digest_43 : decode cX5_digest 43 = .ok (.invokevirtual 208, 3) := by decide +kernel
theorem dX5_digest_46 : decode cX5_digest 46 = .ok (.iinc 1 1, 3) := by decide +kernel
theorem dX5_digest_49 : decode cX5_digest 49 = .ok (.goto (-18), 3) := by decide +kernel
theorem dX5_digest_52 : decode cX5_digest 52 = .ok (.iconst 0, 1) := by decide +kernel
theorem dX5_digest_53 : decode cX5_digest 53 = .ok (.istore_n 1, 1) := by decide +kernel
theorem dX5_digest_54 : decode cX5_digest 54 = .ok (.iload_n 1, 1) := by decide +kernel
theorem dX5_digest_55 : decode cX5_digest 55 = .ok (.bipush 101, 2) := by decide +kernel
theorem dX5_digest_57 : decode cX5_digest 57 = .ok (.if_icmp .ge 19, 3) := by decide +kernel
theorem dX5_digest_60 : decode cX5_digest 60 = .ok (.aload_n 0, 1) := by decide +kernel
theorem dX5_digest_61 : decode cX5_digest 61 = .ok (.aload_n 0, 1) := by decide +kernel
theorem dX5_digest_62 : decode cX5_digest 62 = .ok (.getfield 22, 3) := by decide +kernel
theorem dX5_digest_65 : decode cX5_digest 65 = .ok (.iload_n 1, 1) := by decide +kernel
theorem dX5_digest_66 : decode cX5_digest 66 = .ok (.iaload, 1) := by decide +kernel
theorem dX5_digest_67 : decode cX5_digest 67 = .ok (.invokevirtual 208, 3) := by decide +kernel
theorem dX5_digest_70 : decode cX5_digest 70 = .ok (.iinc 1 1, 3) := by decide +kernel
theorem dX5_digest_73 : decode cX5_digest 73 = .ok (.goto (-19), 3) := by decide +kernel
theorem dX5_digest_76 : decode cX5_digest 76 = .ok (.iconst 0, 1) := by decide +kernel
theorem dX5_digest_77 : decode cX5_digest 77 = .ok (.istore_n 1, 1) := by decide +kernel
theorem dX5_digest_78 : decode cX5_digest 78 = .ok (.iload_n 1, 1) := by decide +kernel
theorem dX5_digest_79 : decode cX5_digest 79 = .ok (.bipush 100, 2) := by decide +kernel
theorem dX5_digest_81 : decode cX5_digest 81 = .ok (.if_icmp .ge 52, 3) := by decide +kernel
theorem dX5_digest_84 : decode cX5_digest 84 = .ok (.aload_n 0, 1) := by decide +kernel
theorem dX5_digest_85 : decode cX5_digest 85 = .ok (.iload_n 1, 1) := by decide +kernel
theorem dX5_digest_86 : decode cX5_digest 86 = .ok (.invokevirtual 92, 3) := by decide +kernel
theorem dX5_digest_89 : decode cX5_digest 89 = .ok (.ifCond .eq 38, 3) := by decide +kernel
theorem dX5_digest_92 : decode cX5_digest 92 = .ok (.aload_n 0, 1) := by decide +kernel
theorem dX5_digest_93 : decode cX5_digest 93 = .ok (.iload_n 1, 1) := by decide +kernel
theorem dX5_digest_94 : decode cX5_digest 94 = .ok (.invokevirtual 208, 3) := by decide +kernel
theorem dX5_digest_97 : decode cX5_digest 97 = .ok (.aload_n 0, 1) := by decide +kernel
theorem dX5_digest_98 : decode cX5_digest 98 = .ok (.aload_n 0, 1) := by decide +kernel
theorem dX5_digest_99 : decode cX5_digest 99 = .ok (.iload_n 1, 1) := by decide +kernel
theorem dX5_digest_100 : decode cX5_digest 100 = .ok (.iconst 0, 1) := by decide +kernel
theorem dX5_digest_101 : decode cX5_digest 101 = .ok (.invokevirtual 134, 3) := by decide +kernel
theorem dX5_digest_104 : decode cX5_digest 104 = .ok (.invokevirtual 208, 3) := by decide +kernel
theorem dX5_digest_107 : decode cX5_digest 107 = .ok (.aload_n 0, 1) := by decide +kernel
theorem dX5_digest_108 : decode cX5_digest 108 = .ok (.aload_n 0, 1) := by decide +kernel
theorem dX5_digest_109 : decode cX5_digest 109 = .ok (.iload_n 1, 1) := by decide +kernel
theorem dX5_digest_110 : decode cX5_digest 110 = .ok (.iconst 1, 1) := by decide +kernel
theorem dX5_digest_111 : decode cX5_digest 111 = .ok (.invokevirtual 134, 3) := by decide +kernel
theorem dX5_digest_114 : decode cX5_digest 114 = .ok (.invokevirtual 208, 3) := by decide +kernel
theorem dX5_digest_117 : decode cX5_digest 117 = .ok (.aload_n 0, 1) := by decide +kernel
theorem dX5_digest_118 : decode cX5_digest 118 = .ok (.aload_n 0, 1) := by decide +kernel
theorem dX5_digest_119 : decode cX5_digest 119 = .ok (.iload_n 1, 1) := by decide +kernel
theorem dX5_digest_120 : decode cX5_digest 120 = .ok (.iconst 2, 1) := by decide +kernel
theorem dX5_digest_121 : decode cX5_digest 121 = .ok (.invokevirtual 134, 3) := by decide +kernel
theorem dX5_digest_124 : decode cX5_digest 124 = .ok (.invokevirtual 208, 3) := by decide +kernel
theorem dX5_digest_127 : decode cX5_digest 127 = .ok (.iinc 1 1, 3) := by decide +kernel
theorem dX5_digest_130 : decode cX5_digest 130 = .ok (.goto (-52), 3) := by decide +kernel
theorem dX5_digest_133 : decode cX5_digest 133 = .ok (.iconst 0, 1) := by decide +kernel
theorem dX5_digest_134 : decode cX5_digest 134 = .ok (.istore_n 1, 1) := by decide +kernel
theorem dX5_digest_135 : decode cX5_digest 135 = .ok (.iload_n 1, 1) := by decide +kernel
theorem dX5_digest_136 : decode cX5_digest 136 = .ok (.aload_n 0, 1) := by decide +kernel
theorem dX5_digest_137 : decode cX5_digest 137 = .ok (.getfield 7, 3) := by decide +kernel
theorem dX5_digest_140 : decode cX5_digest 140 = .ok (.sipush 140, 3) := by decide +kernel
theorem dX5_digest_143 : decode cX5_digest 143 = .ok (.iaload, 1) := by decide +kernel
theorem dX5_digest_144 : decode cX5_digest 144 = .ok (.if_icmp .ge 55, 3) := by decide +kernel
theorem dX5_digest_147 : decode cX5_digest 147 = .ok (.aload_n 0, 1) := by decide +kernel
theorem dX5_digest_148 : decode cX5_digest 148 = .ok (.aload_n 0, 1) := by decide +kernel
theorem dX5_digest_149 : decode cX5_digest 149 = .ok (.getfield 7, 3) := by decide +kernel
theorem dX5_digest_152 : decode cX5_digest 152 = .ok (.bipush 100, 2) := by decide +kernel
theorem dX5_digest_154 : decode cX5_digest 154 = .ok (.iload_n 1, 1) := by decide +kernel
theorem dX5_digest_155 : decode cX5_digest 155 = .ok (.iadd, 1) := by decide +kernel
theorem dX5_digest_156 : decode cX5_digest 156 = .ok (.iaload, 1) := by decide +kernel
theorem dX5_digest_157 : decode cX5_digest 157 = .ok (.invokevirtual 208, 3) := by decide +kernel
theorem dX5_digest_160 : decode cX5_digest 160 = .ok (.aload_n 0, 1) := by decide +kernel
theorem dX5_digest_161 : decode cX5_digest 161 = .ok (.aload_n 0, 1) := by decide +kernel
theorem dX5_digest_162 : decode cX5_digest 162 = .ok (.getfield 25, 3) := by decide +kernel
theorem dX5_digest_165 : decode cX5_digest 165 = .ok (.iload_n 1, 1) := by decide +kernel
theorem dX5_digest_166 : decode cX5_digest 166 = .ok (.iaload, 1) := by decide +kernel
theorem dX5_digest_167 : decode cX5_digest 167 = .ok (.invokevirtual 208, 3) := by decide +kernel
theorem dX5_digest_170 : decode cX5_digest 170 = .ok (.iconst 0, 1) := by decide +kernel
theorem dX5_digest_171 : decode cX5_digest 171 = .ok (.istore_n 2, 1) := by decide +kernel
theorem dX5_digest_172 : decode cX5_digest 172 = .ok (.iload_n 2, 1) := by decide +kernel
theorem dX5_digest_173 : decode cX5_digest 173 = .ok (.iconst 3, 1) := by decide +kernel
theorem dX5_digest_174 : decode cX5_digest 174 = .ok (.if_icmp .ge 19, 3) := by decide +kernel
theorem dX5_digest_177 : decode cX5_digest 177 = .ok (.aload_n 0, 1) := by decide +kernel
theorem dX5_digest_178 : decode cX5_digest 178 = .ok (.aload_n 0, 1) := by decide +kernel
theorem dX5_digest_179 : decode cX5_digest 179 = .ok (.iload_n 1, 1) := by decide +kernel
theorem dX5_digest_180 : decode cX5_digest 180 = .ok (.iload_n 2, 1) := by decide +kernel
theorem dX5_digest_181 : decode cX5_digest 181 = .ok (.invokevirtual 143, 3) := by decide +kernel
theorem dX5_digest_184 : decode cX5_digest 184 = .ok (.invokevirtual 208, 3) := by decide +kernel
theorem dX5_digest_187 : decode cX5_digest 187 = .ok (.iinc 2 1, 3) := by decide +kernel
theorem dX5_digest_190 : decode cX5_digest 190 = .ok (.goto (-18), 3) := by decide +kernel
theorem dX5_digest_193 : decode cX5_digest 193 = .ok (.iinc 1 1, 3) := by decide +kernel
theorem dX5_digest_196 : decode cX5_digest 196 = .ok (.goto (-61), 3) := by decide +kernel
theorem dX5_digest_199 : decode cX5_digest 199 = .ok (.aload_n 0, 1) := by decide +kernel
theorem dX5_digest_200 : decode cX5_digest 200 = .ok (.getfield 202, 3) := by decide +kernel
theorem dX5_digest_203 : decode cX5_digest 203 = .ok (.lreturn, 1) := by decide +kernel
theorem dJ9_max_7cf53_0 : decode cJ9_max_7cf53 0 = .ok (.iload_n 0, 1) := by decide +kernel
theorem dJ9_max_7cf53_1 : decode cJ9_max_7cf53 1 = .ok (.iload_n 1, 1) := by decide +kernel
theorem dJ9_max_7cf53_2 : decode cJ9_max_7cf53 2 = .ok (.if_icmp .lt 7, 3) := by decide +kernel
theorem dJ9_max_7cf53_5 : decode cJ9_max_7cf53 5 = .ok (.iload_n 0, 1) := by decide +kernel
theorem dJ9_max_7cf53_6 : decode cJ9_max_7cf53 6 = .ok (.goto 4, 3) := by decide +kernel
theorem dJ9_max_7cf53_9 : decode cJ9_max_7cf53 9 = .ok (.iload_n 1, 1) := by decide +kernel
theorem dJ9_max_7cf53_10 : decode cJ9_max_7cf53 10 = .ok (.ireturn, 1) := by decide +kernel
set_option maxRecDepth 20000 in
theorem ggL_law_X4_init : GoodIn wsL_law wsX4_init := goodIn_r _ [8, 9, 10, 11, 12, 13, 14, 15, 16, 17, 18, 19, 20, 21, 22, 23, 24, 25, 26, 27, 28, 29, 30, 31, 32, 33, 34, 35, 36, 37, 38, 39, 40, 41, 42, 43, 44, 45, 46, 47, 48, 49, 50, 51, 52, 53, 54, 55, 56, 57, 58, 59, 60, 61, 62, 63, 64, 65, 66, 67, 68, 69, 70, 71, 72, 73, 74, 75, 76, 77, 78, 79, 80, 81, 82, 83, 84, 85, 86, 87, 88, 89, 90, 91, 92, 93, 94, 95, 96, 97, 98, 99, 100, 101, 102, 103, 104, 105, 106, 107, 108, 109, 110, 711, 712, 713, 714, 715, 716, 717, 718, 685, 686, 687, 688, 689, 690, 691, 719, 720, 721, 722, 723, 724, 725, 726, 727, 728, 729, 730, 731, 732, 733, 734, 735, 736, 737] (by decide +kernel) (by decide +kernel)
set_option maxRecDepth 20000 in
theorem gL_law_X4_init : GoodIn wsL_law (wsX4_init) := ggL_law_X4_init
set_option maxRecDepth 20000 in
theorem ggL_law_X5_init : GoodIn wsL_law wsX5_init := goodIn_r _ [113, 114, 10, 11, 36, 115, 116, 117, 118, 119, 120, 121, 122, 123, 124, 125, 126, 127, 128, 129, 130, 131, 5, 132, 133, 134, 135, 136, 137, 138, 139, 140, 141, 142, 143, 144, 145, 146, 147, 148, 149, 150, 151, 152, 153, 154, 692, 693, 694, 695, 696, 697, 698, 699, 700, 701, 702, 703, 704, 705, 706, 707, 708, 709, 710] (by decide +kernel) (by decide +kernel)
set_option maxRecDepth 20000 in
theorem gL_law_X5_init : GoodIn wsL_law (wsX5_init) := ggL_law_X5_init
set_option maxRecDepth 20000 in
theorem ggL_law_X4_host : GoodIn wsL_law wsX4_host := goodIn_r _ [158, 159, 160, 161, 2, 162, 16, 163, 15, 164, 165, 166, 167, 34, 168, 47, 169, 170, 171, 172, 48, 49, 50, 51, 52, 53, 173, 174, 175, 176, 177, 178, 179, 180, 181, 182, 183, 184, 185, 186, 187, 188, 189, 190, 191, 192, 193, 194, 195, 196, 197, 198, 199, 200, 201, 202, 203, 204, 205, 206, 207, 208, 209, 210, 211, 212, 213, 214, 215, 216, 217, 218, 25, 26, 27, 219, 220, 221, 222, 20, 223, 55, 56, 14, 57, 35, 58, 59, 60, 61, 62, 37, 63, 64, 65, 38, 66, 67, 68, 69, 70, 71, 72, 73, 74, 75, 76, 77, 39, 40, 78, 79, 80, 81, 82, 83, 84, 85, 41, 42, 43, 86, 87, 88, 89, 90, 224, 225, 226, 227, 228, 229, 230, 231, 232, 233, 234, 235, 236, 237, 238, 239, 19, 240, 97, 96, 241, 242, 243, 244, 245, 685, 686, 687, 688, 689, 690, 691, 711, 712, 713, 714, 715, 716, 717, 718, 731, 732, 733, 734, 735, 736, 737, 719, 720] (by decide +kernel) (by decide +kernel)
set_option maxRecDepth 20000 in
theorem gL_law_X4_host : GoodIn wsL_law (wsV RL 13 RX4 yX4_host wsX4_host) := goodIn_app (goodIn_of _ (by decide +kernel)) ggL_law_X4_host
set_option maxRecDepth 20000 in
theorem ggL_law_X5_host : GoodIn wsL_law wsX5_host := goodIn_r _ [249, 250, 251, 252, 5, 253, 116, 115, 123, 120, 254, 255, 256, 257, 258, 259, 260, 261, 262, 263, 264, 265, 266, 267, 268, 269, 270, 271, 272, 273, 274, 275, 276, 277, 278, 279, 118, 280, 281, 282, 283, 284, 117, 129, 130, 131, 132, 122, 119, 121, 133, 134, 135, 136, 137, 138, 139, 140, 141, 142, 143, 144, 145, 146, 147, 148, 149, 150, 151, 152, 153, 154, 285, 286, 287, 288, 692, 693, 694, 695, 696, 697, 698, 699, 700, 701, 702, 703, 704, 705, 706, 707, 708, 709, 710] (by decide +kernel) (by decide +kernel)
set_option maxRecDepth 20000 in
theorem gL_law_X5_host : GoodIn wsL_law (wsV RL 17 RX5 yX5_host wsX5_host) := goodIn_app (goodIn_of _ (by decide +kernel)) ggL_law_X5_host
set_option maxRecDepth 20000 in
theorem ggL_law_X4_weighs : GoodIn wsL_law wsX4_weighs := goodIn_r _ [292, 159, 160, 161, 2, 162, 16, 163, 15, 164, 165, 166, 167, 34, 168, 47, 169, 170, 171, 172, 48, 49, 50, 51, 52, 53, 173, 174, 175, 176, 177, 178, 179, 180, 181, 182, 183, 184, 185, 186, 187, 188, 189, 190, 191, 192, 193, 194, 195, 196, 197, 198, 199, 200, 201, 202, 203, 204, 205, 206, 207, 208, 209, 210, 211, 212, 213, 214, 215, 216, 217, 218, 25, 26, 27, 219, 220, 221, 222, 20, 223, 55, 56, 14, 57, 35, 58, 59, 60, 61, 62, 37, 63, 64, 65, 38, 66, 67, 68, 69, 70, 71, 72, 73, 74, 75, 76, 77, 39, 40, 78, 79, 80, 81, 82, 83, 84, 85, 41, 42, 43, 86, 87, 88, 89, 90, 224, 225, 226, 227, 228, 229, 230, 231, 232, 233, 234, 235, 236, 237, 238, 239, 19, 240, 97, 96, 241, 242, 243, 244, 245, 685, 686, 687, 688, 689, 690, 691, 711, 712, 713, 714, 715, 716, 717, 718, 731, 732, 733, 734, 735, 736, 737, 719, 720] (by decide +kernel) (by decide +kernel)
set_option maxRecDepth 20000 in
theorem gL_law_X4_weighs : GoodIn wsL_law (wsV RL 18 RX4 yX4_weighs wsX4_weighs) := goodIn_app (goodIn_of _ (by decide +kernel)) ggL_law_X4_weighs
set_option maxRecDepth 20000 in
theorem ggL_law_X5_weighs : GoodIn wsL_law wsX5_weighs := goodIn_r _ [296, 250, 251, 252, 5, 253, 116, 115, 123, 120, 297, 298, 299, 300, 258, 259, 260, 261, 262, 263, 264, 265, 266, 267, 272, 273, 274, 275, 276, 277, 278, 279, 118, 280, 281, 282, 283, 284, 117, 129, 130, 131, 132, 122, 119, 121, 133, 134, 135, 136, 137, 138, 139, 140, 141, 142, 143, 144, 145, 146, 147, 148, 149, 150, 151, 152, 153, 154, 285, 286, 287, 288, 692, 693, 694, 695, 696, 697, 698, 699, 700, 701, 702, 703, 704, 705, 706, 707, 708, 709, 710] (by decide +kernel) (by decide +kernel)
set_option maxRecDepth 20000 in
theorem gL_law_X5_weighs : GoodIn wsL_law (wsV RL 21 RX5 yX5_weighs wsX5_weighs) := goodIn_app (goodIn_of _ (by decide +kernel)) ggL_law_X5_weighs
set_option maxRecDepth 20000 in
theorem ggL_law_X4_goes : GoodIn wsL_law wsX4_goes := goodIn_r _ [304, 159, 160, 161, 2, 162, 16, 163, 15, 164, 165, 166, 167, 34, 168, 47, 169, 170, 171, 172, 48, 49, 50, 51, 52, 53, 173, 174, 175, 176, 177, 178, 179, 180, 181, 182, 183, 184, 185, 186, 187, 188, 189, 190, 191, 192, 193, 194, 195, 196, 197, 198, 199, 200, 201, 202, 203, 204, 205, 206, 207, 208, 209, 210, 211, 212, 213, 214, 215, 216, 217, 218, 25, 26, 27, 219, 220, 221, 222, 20, 223, 55, 56, 14, 57, 35, 58, 59, 60, 61, 62, 37, 63, 64, 65, 38, 66, 67, 68, 69, 70, 71, 72, 73, 74, 75, 76, 77, 39, 40, 78, 79, 80, 81, 82, 83, 84, 85, 41, 42, 43, 86, 87, 88, 89, 90, 224, 225, 226, 227, 228, 229, 230, 231, 232, 233, 234, 235, 236, 237, 238, 239, 19, 240, 97, 96, 241, 242, 243, 244, 245, 685, 686, 687, 688, 689, 690, 691, 711, 712, 713, 714, 715, 716, 717, 718, 731, 732, 733, 734, 735, 736, 737, 719, 720] (by decide +kernel) (by decide +kernel)
set_option maxRecDepth 20000 in
theorem gL_law_X4_goes : GoodIn wsL_law (wsV RL 22 RX4 yX4_goes wsX4_goes) := goodIn_app (goodIn_of _ (by decide +kernel)) ggL_law_X4_goes
set_option maxRecDepth 20000 in
theorem ggL_law_X5_goes : GoodIn wsL_law wsX5_goes := goodIn_r _ [308, 250, 251, 252, 5, 253, 116, 115, 123, 120, 309, 310, 311, 312, 258, 259, 260, 261, 262, 263, 264, 265, 266, 267, 272, 273, 274, 275, 276, 277, 278, 279, 118, 280, 281, 282, 283, 284, 117, 129, 130, 131, 132, 122, 119, 121, 133, 134, 135, 136, 137, 138, 139, 140, 141, 142, 143, 144, 145, 146, 147, 148, 149, 150, 151, 152, 153, 154, 285, 286, 287, 288, 692, 693, 694, 695, 696, 697, 698, 699, 700, 701, 702, 703, 704, 705, 706, 707, 708, 709, 710] (by decide +kernel) (by decide +kernel)
set_option maxRecDepth 20000 in
theorem gL_law_X5_goes : GoodIn wsL_law (wsV RL 26 RX5 yX5_goes wsX5_goes) := goodIn_app (goodIn_of _ (by decide +kernel)) ggL_law_X5_goes
set_option maxRecDepth 20000 in
theorem ggL_law_X4_key : GoodIn wsL_law wsX4_key := goodIn_r _ [316, 15, 159, 160, 161, 2, 162, 16, 163, 164, 165, 166, 167, 34, 168, 47, 169, 170, 171, 172, 48, 49, 50, 51, 52, 53, 173, 174, 175, 176, 177, 178, 179, 180, 181, 182, 183, 184, 185, 186, 187, 188, 189, 190, 191, 192, 193, 194, 195, 196, 197, 198, 199, 200, 201, 202, 203, 204, 205, 206, 207, 208, 209, 210, 211, 212, 213, 214, 215, 216, 217, 218, 25, 26, 27, 219, 220, 221, 222, 20, 223, 55, 56, 14, 57, 35, 58, 59, 60, 61, 62, 37, 63, 64, 65, 38, 66, 67, 68, 69, 70, 71, 72, 73, 74, 75, 76, 77, 39, 40, 78, 79, 80, 81, 82, 83, 84, 85, 41, 42, 43, 86, 87, 88, 89, 90, 224, 225, 226, 227, 228, 229, 230, 231, 232, 233, 234, 235, 236, 237, 238, 239, 19, 240, 97, 96, 241, 242, 243, 244, 245, 317, 685, 686, 687, 688, 689, 690, 691, 711, 712, 713, 714, 715, 716, 717, 718, 731, 732, 733, 734, 735, 736, 737, 719, 720] (by decide +kernel) (by decide +kernel)
set_option maxRecDepth 20000 in
theorem gL_law_X4_key : GoodIn wsL_law (wsV RL 27 RX4 yX4_key wsX4_key) := goodIn_app (goodIn_of _ (by decide +kernel)) ggL_law_X4_key
set_option maxRecDepth 20000 in
theorem ggL_law_X5_key : GoodIn wsL_law wsX5_key := goodIn_r _ [321, 120, 250, 251, 252, 5, 253, 116, 115, 123, 322, 323, 324, 325, 326, 327, 328, 329, 330, 331, 332, 261, 262, 263, 333, 334, 335, 336, 276, 277, 278, 279, 118, 280, 281, 282, 283, 284, 117, 129, 130, 131, 132, 122, 119, 121, 133, 134, 135, 136, 137, 138, 139, 140, 141, 142, 143, 144, 145, 146, 147, 148, 149, 150, 151, 152, 153, 154, 285, 286, 287, 288, 692, 693, 694, 695, 696, 697, 698, 699, 700, 701, 702, 703, 704, 705, 706, 707, 708, 709, 710] (by decide +kernel) (by decide +kernel)
set_option maxRecDepth 20000 in
theorem gL_law_X5_key : GoodIn wsL_law (wsV RL 30 RX5 yX5_key wsX5_key) := goodIn_app (goodIn_of _ (by decide +kernel)) ggL_law_X5_key
set_option maxRecDepth 20000 in
theorem ggL_law_X4_drops : GoodIn wsL_law wsX4_drops := goodIn_r _ [340, 159, 160, 161, 2, 162, 16, 163, 15, 164, 165, 166, 167, 34, 168, 47, 169, 170, 171, 172, 48, 49, 50, 51, 52, 53, 173, 174, 175, 176, 177, 178, 179, 180, 181, 182, 183, 184, 185, 186, 187, 188, 189, 190, 191, 192, 193, 194, 195, 196, 197, 198, 199, 200, 201, 202, 203, 204, 205, 206, 207, 208, 209, 210, 211, 212, 213, 214, 215, 216, 217, 218, 25, 26, 27, 219, 220, 221, 222, 20, 223, 55, 56, 14, 57, 35, 58, 59, 60, 61, 62, 37, 63, 64, 65, 38, 66, 67, 68, 69, 70, 71, 72, 73, 74, 75, 76, 77, 39, 40, 78, 79, 80, 81, 82, 83, 84, 85, 41, 42, 43, 86, 87, 88, 89, 90, 224, 225, 226, 227, 228, 229, 230, 231, 232, 233, 234, 235, 236, 237, 238, 239, 19, 240, 97, 96, 241, 242, 243, 244, 245, 685, 686, 687, 688, 689, 690, 691, 711, 712, 713, 714, 715, 716, 717, 718, 731, 732, 733, 734, 735, 736, 737, 719, 720] (by decide +kernel) (by decide +kernel)
set_option maxRecDepth 20000 in
theorem gL_law_X4_drops : GoodIn wsL_law (wsV RL 31 RX4 yX4_drops wsX4_drops) := goodIn_app (goodIn_of _ (by decide +kernel)) ggL_law_X4_drops
set_option maxRecDepth 20000 in
theorem ggL_law_X5_drops : GoodIn wsL_law wsX5_drops := goodIn_r _ [344, 250, 251, 252, 5, 253, 116, 115, 123, 120, 345, 346, 347, 348, 330, 331, 332, 261, 262, 263, 333, 334, 335, 336, 272, 273, 274, 275, 276, 277, 278, 279, 118, 280, 281, 282, 283, 284, 117, 129, 130, 131, 132, 122, 119, 121, 133, 134, 135, 136, 137, 138, 139, 140, 141, 142, 143, 144, 145, 146, 147, 148, 149, 150, 151, 152, 153, 154, 285, 286, 287, 288, 692, 693, 694, 695, 696, 697, 698, 699, 700, 701, 702, 703, 704, 705, 706, 707, 708, 709, 710] (by decide +kernel) (by decide +kernel)
set_option maxRecDepth 20000 in
theorem gL_law_X5_drops : GoodIn wsL_law (wsV RL 34 RX5 yX5_drops wsX5_drops) := goodIn_app (goodIn_of _ (by decide +kernel)) ggL_law_X5_drops
set_option maxRecDepth 20000 in
theorem ggL_law_X4_extra : GoodIn wsL_law wsX4_extra := goodIn_r _ [352, 159, 160, 161, 2, 162, 16, 163, 15, 164, 165, 166, 167, 34, 168, 47, 169, 170, 171, 172, 48, 49, 50, 51, 52, 53, 173, 174, 175, 176, 177, 178, 179, 180, 181, 182, 183, 184, 185, 186, 187, 188, 189, 190, 191, 192, 193, 194, 195, 196, 197, 198, 199, 200, 201, 202, 203, 204, 205, 206, 207, 208, 209, 210, 211, 212, 213, 214, 215, 216, 217, 218, 25, 26, 27, 219, 220, 221, 222, 20, 223, 55, 56, 14, 57, 35, 58, 59, 60, 61, 62, 37, 63, 64, 65, 38, 66, 67, 68, 69, 70, 71, 72, 73, 74, 75, 76, 77, 39, 40, 78, 79, 80, 81, 82, 83, 84, 85, 41, 42, 43, 86, 87, 88, 89, 90, 224, 225, 226, 227, 228, 229, 230, 231, 232, 233, 234, 235, 236, 237, 238, 239, 19, 240, 97, 96, 241, 242, 243, 244, 245, 685, 686, 687, 688, 689, 690, 691, 711, 712, 713, 714, 715, 716, 717, 718, 731, 732, 733, 734, 735, 736, 737, 719, 720] (by decide +kernel) (by decide +kernel)
set_option maxRecDepth 20000 in
theorem gL_law_X4_extra : GoodIn wsL_law (wsV RL 35 RX4 yX4_extra wsX4_extra) := goodIn_app (goodIn_of _ (by decide +kernel)) ggL_law_X4_extra
set_option maxRecDepth 20000 in
theorem ggL_law_X5_extra : GoodIn wsL_law wsX5_extra := goodIn_r _ [356, 250, 251, 252, 5, 253, 116, 115, 123, 120, 357, 358, 359, 360, 261, 262, 263, 272, 273, 274, 275, 276, 277, 278, 279, 118, 280, 281, 282, 283, 284, 117, 129, 130, 131, 132, 122, 119, 121, 133, 134, 135, 136, 137, 138, 139, 140, 141, 142, 143, 144, 145, 146, 147, 148, 149, 150, 151, 152, 153, 154, 285, 286, 287, 288, 692, 693, 694, 695, 696, 697, 698, 699, 700, 701, 702, 703, 704, 705, 706, 707, 708, 709, 710] (by decide +kernel) (by decide +kernel)
set_option maxRecDepth 20000 in
theorem gL_law_X5_extra : GoodIn wsL_law (wsV RL 38 RX5 yX5_extra wsX5_extra) := goodIn_app (goodIn_of _ (by decide +kernel)) ggL_law_X5_extra
set_option maxRecDepth 20000 in
theorem ggL_law_X4_of : GoodIn wsL_law wsX4_of := goodIn_r _ [364, 15, 163, 365, 181, 2, 182, 215, 216, 217, 218, 25, 26, 27, 366, 186, 187, 34, 188, 50, 47, 367, 368, 369, 14, 370, 35, 64, 39, 40, 371, 372, 373, 374, 58, 41, 90, 685, 686, 687, 688, 689, 690, 691, 711, 712, 713, 714, 715, 716, 717, 718, 731, 732, 733, 734, 735, 736, 737] (by decide +kernel) (by decide +kernel)
set_option maxRecDepth 20000 in
theorem gL_law_X4_of : GoodIn wsL_law (wsV RL 39 RX4 yX4_of wsX4_of) := goodIn_app (goodIn_of _ (by decide +kernel)) ggL_law_X4_of
set_option maxRecDepth 20000 in
theorem ggL_law_X5_of : GoodIn wsL_law wsX5_of := goodIn_r _ [378, 258, 259, 5, 260, 261, 262, 263, 276, 277, 278, 279, 118, 264, 265, 266, 267, 115, 379, 380, 381, 382, 122, 120, 151, 152, 153, 154, 140, 141, 142, 143, 692, 693, 694, 695, 696, 697, 698, 699, 700, 701, 702, 703, 704, 705, 706, 707, 708, 709, 710] (by decide +kernel) (by decide +kernel)
set_option maxRecDepth 20000 in
theorem gL_law_X5_of : GoodIn wsL_law (wsV RL 42 RX5 yX5_of wsX5_of) := goodIn_app (goodIn_of _ (by decide +kernel)) ggL_law_X5_of
set_option maxRecDepth 20000 in
theorem ggL_law_X4_mark : GoodIn wsL_law wsX4_mark := goodIn_r _ [386, 15, 163, 365, 181, 2, 182, 215, 216, 217, 218, 25, 26, 27, 366, 186, 187, 34, 188, 50, 47, 387, 388, 389, 14, 390, 35, 64, 38, 685, 686, 687, 688, 689, 690, 691, 711, 712, 713, 714, 715, 716, 717, 718, 731, 732, 733, 734, 735, 736, 737] (by decide +kernel) (by decide +kernel)
set_option maxRecDepth 20000 in
theorem gL_law_X4_mark : GoodIn wsL_law (wsV RL 43 RX4 yX4_mark wsX4_mark) := goodIn_app (goodIn_of _ (by decide +kernel)) ggL_law_X4_mark
set_option maxRecDepth 20000 in
theorem ggL_law_X5_mark : GoodIn wsL_law wsX5_mark := goodIn_r _ [394, 115, 258, 259, 5, 260, 261, 262, 263, 276, 277, 278, 279, 118, 264, 265, 266, 267, 395, 396, 397, 398, 125, 137, 138, 139, 692, 693, 694, 695, 696, 697, 698, 699, 700, 701, 702, 703, 704, 705, 706, 707, 708, 709, 710] (by decide +kernel) (by decide +kernel)
set_option maxRecDepth 20000 in
theorem gL_law_X5_mark : GoodIn wsL_law (wsV RL 46 RX5 yX5_mark wsX5_mark) := goodIn_app (goodIn_of _ (by decide +kernel)) ggL_law_X5_mark
set_option maxRecDepth 20000 in
theorem ggL_law_X4_at : GoodIn wsL_law wsX4_at := goodIn_r _ [402, 15, 163, 403, 215, 216, 217, 2, 218, 25, 26, 27, 404, 229, 230, 34, 231, 50, 47, 685, 686, 687, 688, 689, 690, 691, 711, 712, 713, 714, 715, 716, 717, 718, 731, 732, 733, 734, 735, 736, 737] (by decide +kernel) (by decide +kernel)
set_option maxRecDepth 20000 in
theorem gL_law_X4_at : GoodIn wsL_law (wsV RL 47 RX4 yX4_at wsX4_at) := goodIn_app (goodIn_of _ (by decide +kernel)) ggL_law_X4_at
set_option maxRecDepth 20000 in
theorem ggL_law_X5_at : GoodIn wsL_law wsX5_at := goodIn_r _ [408, 119, 261, 262, 5, 263, 276, 277, 278, 279, 118, 692, 693, 694, 695, 696, 697, 698, 699, 700, 701, 702, 703, 704, 705, 706, 707, 708, 709, 710] (by decide +kernel) (by decide +kernel)
set_option maxRecDepth 20000 in
theorem gL_law_X5_at : GoodIn wsL_law (wsV RL 50 RX5 yX5_at wsX5_at) := goodIn_app (goodIn_of _ (by decide +kernel)) ggL_law_X5_at
set_option maxRecDepth 20000 in
theorem ggL_law_X4_name : GoodIn wsL_law wsX4_name := goodIn_r _ [412, 15, 163, 215, 216, 217, 2, 218, 25, 26, 27, 404, 229, 230, 34, 231, 50, 47, 685, 686, 687, 688, 689, 690, 691, 711, 712, 713, 714, 715, 716, 717, 718, 731, 732, 733, 734, 735, 736, 737] (by decide +kernel) (by decide +kernel)
set_option maxRecDepth 20000 in
theorem gL_law_X4_name : GoodIn wsL_law (wsV RL 51 RX4 yX4_name wsX4_name) := goodIn_app (goodIn_of _ (by decide +kernel)) ggL_law_X4_name
set_option maxRecDepth 20000 in
theorem ggL_law_X5_name : GoodIn wsL_law wsX5_name := goodIn_r _ [416, 276, 277, 278, 5, 279, 118, 264, 265, 266, 267, 115, 692, 693, 694, 695, 696, 697, 698, 699, 700, 701, 702, 703, 704, 705, 706, 707, 708, 709, 710] (by decide +kernel) (by decide +kernel)
set_option maxRecDepth 20000 in
theorem gL_law_X5_name : GoodIn wsL_law (wsV RL 54 RX5 yX5_name wsX5_name) := goodIn_app (goodIn_of _ (by decide +kernel)) ggL_law_X5_name
set_option maxRecDepth 20000 in
theorem ggL_law_X4_share : GoodIn wsL_law wsX4_share := goodIn_r _ [420, 15, 163, 365, 181, 2, 182, 215, 216, 217, 218, 25, 26, 27, 366, 186, 187, 34, 188, 50, 47, 421, 422, 423, 14, 424, 37, 425, 426, 427, 428, 685, 686, 687, 688, 689, 690, 691, 711, 712, 713, 714, 715, 716, 717, 718, 731, 732, 733, 734, 735, 736, 737] (by decide +kernel) (by decide +kernel)
set_option maxRecDepth 20000 in
theorem gL_law_X4_share : GoodIn wsL_law (wsV RL 55 RX4 yX4_share wsX4_share) := goodIn_app (goodIn_of _ (by decide +kernel)) ggL_law_X4_share
set_option maxRecDepth 20000 in
theorem ggL_law_X5_share : GoodIn wsL_law wsX5_share := goodIn_r _ [432, 258, 259, 5, 260, 261, 262, 263, 276, 277, 278, 279, 118, 264, 265, 266, 267, 115, 433, 434, 435, 436, 119, 692, 693, 694, 695, 696, 697, 698, 699, 700, 701, 702, 703, 704, 705, 706, 707, 708, 709, 710] (by decide +kernel) (by decide +kernel)
set_option maxRecDepth 20000 in
theorem gL_law_X5_share : GoodIn wsL_law (wsV RL 58 RX5 yX5_share wsX5_share) := goodIn_app (goodIn_of _ (by decide +kernel)) ggL_law_X5_share
set_option maxRecDepth 20000 in
theorem ggL_law_X4_has : GoodIn wsL_law wsX4_has := goodIn_r _ [440, 15, 163, 441, 442, 201, 2, 202, 215, 216, 217, 218, 25, 26, 27, 443, 204, 205, 34, 206, 51, 49, 404, 229, 230, 231, 50, 47, 685, 686, 687, 688, 689, 690, 691, 711, 712, 713, 714, 715, 716, 717, 718, 731, 732, 733, 734, 735, 736, 737] (by decide +kernel) (by decide +kernel)
set_option maxRecDepth 20000 in
theorem gL_law_X4_has : GoodIn wsL_law (wsV RL 59 RX4 yX4_has wsX4_has) := goodIn_app (goodIn_of _ (by decide +kernel)) ggL_law_X4_has
set_option maxRecDepth 20000 in
theorem ggL_law_X5_has : GoodIn wsL_law wsX5_has := goodIn_r _ [447, 120, 330, 331, 5, 332, 261, 262, 263, 276, 277, 278, 279, 118, 333, 334, 335, 336, 115, 692, 693, 694, 695, 696, 697, 698, 699, 700, 701, 702, 703, 704, 705, 706, 707, 708, 709, 710] (by decide +kernel) (by decide +kernel)
set_option maxRecDepth 20000 in
theorem gL_law_X5_has : GoodIn wsL_law (wsV RL 62 RX5 yX5_has wsX5_has) := goodIn_app (goodIn_of _ (by decide +kernel)) ggL_law_X5_has
set_option maxRecDepth 20000 in
theorem ggL_law_X4_about : GoodIn wsL_law wsX4_about := goodIn_r _ [451, 15, 163, 442, 201, 2, 202, 215, 216, 217, 218, 25, 26, 27, 443, 204, 205, 34, 206, 51, 49, 452, 453, 454, 14, 455, 42, 43, 86, 87, 88, 89, 35, 90, 685, 686, 687, 688, 689, 690, 691, 711, 712, 713, 714, 715, 716, 717, 718, 731, 732, 733, 734, 735, 736, 737] (by decide +kernel) (by decide +kernel)
set_option maxRecDepth 20000 in
theorem gL_law_X4_about : GoodIn wsL_law (wsV RL 63 RX4 yX4_about wsX4_about) := goodIn_app (goodIn_of _ (by decide +kernel)) ggL_law_X4_about
set_option maxRecDepth 20000 in
theorem ggL_law_X5_about : GoodIn wsL_law wsX5_about := goodIn_r _ [459, 330, 331, 5, 332, 261, 262, 263, 276, 277, 278, 279, 118, 333, 334, 335, 336, 115, 460, 461, 462, 463, 120, 121, 119, 144, 145, 146, 692, 693, 694, 695, 696, 697, 698, 699, 700, 701, 702, 703, 704, 705, 706, 707, 708, 709, 710] (by decide +kernel) (by decide +kernel)
set_option maxRecDepth 20000 in
theorem gL_law_X5_about : GoodIn wsL_law (wsV RL 66 RX5 yX5_about wsX5_about) := goodIn_app (goodIn_of _ (by decide +kernel)) ggL_law_X5_about
set_option maxRecDepth 20000 in
theorem ggL_law_X4_would : GoodIn wsL_law wsX4_would := goodIn_r _ [467, 16, 468, 469, 470, 2, 471, 163, 15, 165, 166, 167, 34, 168, 47, 169, 170, 171, 172, 48, 49, 50, 51, 52, 53, 173, 174, 175, 176, 177, 178, 179, 180, 181, 182, 183, 184, 185, 186, 187, 188, 189, 190, 191, 192, 193, 194, 195, 196, 197, 198, 199, 200, 201, 202, 203, 204, 205, 206, 207, 208, 209, 210, 211, 212, 213, 214, 223, 55, 56, 14, 57, 35, 58, 59, 60, 61, 62, 37, 63, 64, 65, 38, 66, 67, 68, 69, 70, 71, 72, 73, 74, 75, 76, 77, 39, 40, 78, 79, 80, 81, 82, 83, 84, 85, 41, 42, 43, 86, 87, 88, 89, 90, 317, 234, 235, 236, 232, 228, 229, 230, 231, 215, 216, 217, 218, 25, 26, 27, 685, 686, 687, 688, 689, 690, 691, 711, 712, 713, 714, 715, 716, 717, 718, 731, 732, 733, 734, 735, 736, 737] (by decide +kernel) (by decide +kernel)
set_option maxRecDepth 20000 in
theorem gL_law_X4_would : GoodIn wsL_law (wsV RL 67 RX4 yX4_would wsX4_would) := goodIn_app (goodIn_of _ (by decide +kernel)) ggL_law_X4_would
set_option maxRecDepth 20000 in
theorem ggL_law_X5_would : GoodIn wsL_law wsX5_would := goodIn_r _ [475, 120, 326, 327, 328, 5, 329, 115, 330, 331, 332, 261, 262, 263, 333, 334, 335, 336, 276, 277, 278, 279, 118, 250, 251, 252, 253, 116, 123, 322, 323, 324, 325, 129, 130, 131, 132, 122, 119, 121, 133, 134, 135, 136, 137, 138, 139, 140, 141, 142, 143, 144, 145, 146, 147, 148, 149, 150, 151, 152, 153, 154, 476, 477, 478, 479, 692, 693, 694, 695, 696, 697, 698, 699, 700, 701, 702, 703, 704, 705, 706, 707, 708, 709, 710] (by decide +kernel) (by decide +kernel)
set_option maxRecDepth 20000 in
theorem gL_law_X5_would : GoodIn wsL_law (wsV RL 70 RX5 yX5_would wsX5_would) := goodIn_app (goodIn_of _ (by decide +kernel)) ggL_law_X5_would
set_option maxRecDepth 20000 in
theorem ggL_law_X4_without : GoodIn wsL_law wsX4_without := goodIn_r _ [483, 16, 15, 468, 469, 470, 2, 471, 163, 165, 166, 167, 34, 168, 47, 169, 170, 171, 172, 48, 49, 50, 51, 52, 53, 173, 174, 175, 176, 177, 178, 179, 180, 181, 182, 183, 184, 185, 186, 187, 188, 189, 190, 191, 192, 193, 194, 195, 196, 197, 198, 199, 200, 201, 202, 203, 204, 205, 206, 207, 208, 209, 210, 211, 212, 213, 214, 223, 55, 56, 14, 57, 35, 58, 59, 60, 61, 62, 37, 63, 64, 65, 38, 66, 67, 68, 69, 70, 71, 72, 73, 74, 75, 76, 77, 39, 40, 78, 79, 80, 81, 82, 83, 84, 85, 41, 42, 43, 86, 87, 88, 89, 90, 224, 225, 226, 227, 228, 229, 230, 231, 232, 233, 234, 235, 236, 215, 216, 217, 218, 25, 26, 27, 685, 686, 687, 688, 689, 690, 691, 711, 712, 713, 714, 715, 716, 717, 718, 731, 732, 733, 734, 735, 736, 737] (by decide +kernel) (by decide +kernel)
set_option maxRecDepth 20000 in
theorem gL_law_X4_without : GoodIn wsL_law (wsV RL 71 RX4 yX4_without wsX4_without) := goodIn_app (goodIn_of _ (by decide +kernel)) ggL_law_X4_without
set_option maxRecDepth 20000 in
theorem ggL_law_X5_without : GoodIn wsL_law wsX5_without := goodIn_r _ [487, 258, 259, 5, 260, 261, 262, 263, 276, 277, 278, 279, 118, 264, 265, 266, 267, 115, 250, 251, 252, 253, 116, 123, 120, 309, 310, 311, 312, 129, 130, 131, 132, 122, 119, 121, 133, 134, 135, 136, 137, 138, 139, 140, 141, 142, 143, 144, 145, 146, 147, 148, 149, 150, 151, 152, 153, 154, 285, 286, 287, 288, 476, 477, 478, 479, 692, 693, 694, 695, 696, 697, 698, 699, 700, 701, 702, 703, 704, 705, 706, 707, 708, 709, 710] (by decide +kernel) (by decide +kernel)
set_option maxRecDepth 20000 in
theorem gL_law_X5_without : GoodIn wsL_law (wsV RL 74 RX5 yX5_without wsX5_without) := goodIn_app (goodIn_of _ (by decide +kernel)) ggL_law_X5_without
set_option maxRecDepth 20000 in
theorem ggL_law_X4_count : GoodIn wsL_law wsX4_count := goodIn_r _ [491, 15, 163, 492, 493, 494, 164, 495, 79, 80, 34, 81, 50, 48, 496, 497, 498, 14, 499, 35, 63, 40, 39, 500, 501, 502, 503, 58, 42, 504, 505, 506, 507, 508, 509, 510, 511, 215, 216, 217, 2, 218, 25, 26, 27, 685, 686, 687, 688, 689, 690, 691, 711, 712, 713, 714, 715, 716, 717, 718, 731, 732, 733, 734, 735, 736, 737] (by decide +kernel) (by decide +kernel)
set_option maxRecDepth 20000 in
theorem gL_law_X4_count : GoodIn wsL_law (wsV RL 75 RX4 yX4_count wsX4_count) := goodIn_app (goodIn_of _ (by decide +kernel)) ggL_law_X4_count
set_option maxRecDepth 20000 in
theorem ggL_law_X5_count : GoodIn wsL_law wsX5_count := goodIn_r _ [515, 261, 262, 5, 263, 516, 517, 518, 519, 115, 268, 269, 270, 271, 264, 265, 266, 267, 520, 521, 522, 523, 140, 141, 142, 143, 524, 525, 526, 527, 122, 151, 152, 153, 154, 528, 529, 530, 531, 120, 460, 461, 462, 463, 121, 119, 144, 145, 146, 276, 277, 278, 279, 118, 692, 693, 694, 695, 696, 697, 698, 699, 700, 701, 702, 703, 704, 705, 706, 707, 708, 709, 710] (by decide +kernel) (by decide +kernel)
set_option maxRecDepth 20000 in
theorem gL_law_X5_count : GoodIn wsL_law (wsV RL 78 RX5 yX5_count wsX5_count) := goodIn_app (goodIn_of _ (by decide +kernel)) ggL_law_X5_count
set_option maxRecDepth 20000 in
theorem ggL_law_X4_type : GoodIn wsL_law wsX4_type := goodIn_r _ [535, 24, 536, 215, 216, 217, 2, 218, 25, 26, 27, 537, 538, 539, 23, 540, 102, 101, 685, 686, 687, 688, 689, 690, 691, 721, 722, 723, 724, 725, 726, 727, 728, 729, 730] (by decide +kernel) (by decide +kernel)
set_option maxRecDepth 20000 in
theorem gL_law_X4_type : GoodIn wsL_law (wsV RL 79 RX4 yX4_type wsX4_type) := goodIn_app (goodIn_of _ (by decide +kernel)) ggL_law_X4_type
set_option maxRecDepth 20000 in
theorem ggL_law_X5_type : GoodIn wsL_law wsX5_type := goodIn_r _ [544, 545, 126, 261, 262, 5, 263, 276, 277, 278, 279, 118, 692, 693, 694, 695, 696, 697, 698, 699, 700, 701, 702, 703, 704, 705, 706, 707, 708, 709, 710] (by decide +kernel) (by decide +kernel)
set_option maxRecDepth 20000 in
theorem gL_law_X5_type : GoodIn wsL_law (wsV RL 82 RX5 yX5_type wsX5_type) := goodIn_app (goodIn_of _ (by decide +kernel)) ggL_law_X5_type
set_option maxRecDepth 20000 in
theorem ggL_law_X4_clear : GoodIn wsL_law wsX4_clear := goodIn_r _ [549, 24, 536, 685, 686, 687, 688, 689, 690, 691, 721, 722, 723, 724, 725, 726, 727, 728, 729, 730] (by decide +kernel) (by decide +kernel)
set_option maxRecDepth 20000 in
theorem gL_law_X4_clear : GoodIn wsL_law (wsV RL 83 RX4 yX4_clear wsX4_clear) := goodIn_app (goodIn_of _ (by decide +kernel)) ggL_law_X4_clear
set_option maxRecDepth 20000 in
theorem ggL_law_X5_clear : GoodIn wsL_law wsX5_clear := goodIn_r _ [553, 545, 692, 693, 694, 695, 696, 697, 698, 699, 700, 701, 702, 703, 704, 705, 706, 707, 708, 709, 710] (by decide +kernel) (by decide +kernel)
set_option maxRecDepth 20000 in
theorem gL_law_X5_clear : GoodIn wsL_law (wsV RL 87 RX5 yX5_clear wsX5_clear) := goodIn_app (goodIn_of _ (by decide +kernel)) ggL_law_X5_clear
set_option maxRecDepth 20000 in
theorem ggL_law_X4_does : GoodIn wsL_law wsX4_does := goodIn_r _ [557, 24, 16, 163, 15, 558, 559, 560, 561, 562, 563, 564, 23, 565, 106, 107, 102, 101, 566, 567, 568, 569, 570, 571, 572, 573, 574, 575, 576, 109, 110, 577, 578, 579, 580, 108, 104, 105, 103, 581, 582, 583, 584, 585, 586, 587, 588, 589, 590, 591, 592, 593, 594, 595, 165, 166, 167, 34, 168, 47, 169, 170, 171, 172, 48, 49, 50, 51, 52, 53, 173, 174, 175, 176, 177, 178, 179, 180, 181, 2, 182, 183, 184, 185, 186, 187, 188, 189, 190, 191, 192, 193, 194, 195, 196, 197, 198, 199, 200, 201, 202, 203, 204, 205, 206, 207, 208, 209, 210, 211, 212, 213, 214, 219, 220, 221, 222, 164, 20, 223, 55, 56, 14, 57, 35, 58, 59, 60, 61, 62, 37, 63, 64, 65, 38, 66, 67, 68, 69, 70, 71, 72, 73, 74, 75, 76, 77, 39, 40, 78, 79, 80, 81, 82, 83, 84, 85, 41, 42, 43, 86, 87, 88, 89, 90, 224, 225, 226, 227, 228, 229, 230, 231, 232, 233, 234, 235, 236, 237, 238, 239, 19, 240, 97, 96, 241, 242, 243, 244, 245, 685, 686, 687, 688, 689, 690, 691, 711, 712, 713, 714, 715, 716, 717, 718, 721, 722, 723, 724, 725, 726, 727, 728, 729, 730, 731, 732, 733, 734, 735, 736, 737, 719, 720] (by decide +kernel) (by decide +kernel)
set_option maxRecDepth 20000 in
theorem gL_law_X4_does : GoodIn wsL_law (wsV RL 88 RX4 yX4_does wsX4_does) := goodIn_app (goodIn_of _ (by decide +kernel)) ggL_law_X4_does
set_option maxRecDepth 20000 in
theorem ggL_law_X5_does : GoodIn wsL_law wsX5_does := goodIn_r _ [599, 600, 601, 602, 545, 603, 604, 605, 5, 606, 126, 607, 608, 609, 610, 128, 127, 611, 612, 613, 614, 615, 616, 617, 618, 619, 620, 621, 261, 262, 263, 622, 623, 624, 625, 250, 251, 252, 253, 116, 115, 123, 120, 626, 627, 628, 629, 254, 255, 256, 257, 258, 259, 260, 264, 265, 266, 267, 268, 269, 270, 271, 297, 298, 299, 300, 309, 310, 311, 312, 322, 323, 324, 325, 326, 327, 328, 329, 330, 331, 332, 333, 334, 335, 336, 345, 346, 347, 348, 357, 358, 359, 360, 476, 477, 478, 479, 280, 281, 282, 283, 284, 117, 129, 130, 131, 132, 122, 119, 121, 133, 134, 135, 136, 137, 138, 139, 140, 141, 142, 143, 144, 145, 146, 147, 148, 149, 150, 151, 152, 153, 154, 285, 286, 287, 288, 692, 693, 694, 695, 696, 697, 698, 699, 700, 701, 702, 703, 704, 705, 706, 707, 708, 709, 710] (by decide +kernel) (by decide +kernel)
set_option maxRecDepth 20000 in
theorem gL_law_X5_does : GoodIn wsL_law (wsV RL 91 RX5 yX5_does wsX5_does) := goodIn_app (goodIn_of _ (by decide +kernel)) ggL_law_X5_does
set_option maxRecDepth 20000 in
theorem ggL_law_X4_back : GoodIn wsL_law wsX4_back := goodIn_r _ [633, 20, 634, 15, 163, 215, 216, 217, 2, 218, 25, 26, 27, 635, 636, 637, 19, 638, 97, 96, 245, 166, 167, 34, 168, 47, 169, 170, 171, 172, 48, 49, 50, 51, 52, 53, 223, 55, 56, 14, 57, 35, 58, 59, 60, 61, 62, 37, 63, 64, 65, 38, 66, 67, 68, 69, 70, 71, 72, 73, 74, 75, 76, 77, 39, 40, 78, 79, 80, 81, 82, 83, 84, 85, 41, 42, 43, 86, 87, 88, 89, 90, 685, 686, 687, 688, 689, 690, 691, 719, 720, 711, 712, 713, 714, 715, 716, 717, 718, 731, 732, 733, 734, 735, 736, 737] (by decide +kernel) (by decide +kernel)
set_option maxRecDepth 20000 in
theorem gL_law_X4_back : GoodIn wsL_law (wsV RL 92 RX4 yX4_back wsX4_back) := goodIn_app (goodIn_of _ (by decide +kernel)) ggL_law_X4_back
set_option maxRecDepth 20000 in
theorem ggL_law_X5_back : GoodIn wsL_law wsX5_back := goodIn_r _ [642, 284, 115, 117, 276, 277, 278, 5, 279, 118, 129, 130, 131, 132, 122, 120, 119, 121, 133, 134, 135, 136, 137, 138, 139, 140, 141, 142, 143, 144, 145, 146, 147, 148, 149, 150, 151, 152, 153, 154, 692, 693, 694, 695, 696, 697, 698, 699, 700, 701, 702, 703, 704, 705, 706, 707, 708, 709, 710] (by decide +kernel) (by decide +kernel)
set_option maxRecDepth 20000 in
theorem gL_law_X5_back : GoodIn wsL_law (wsV RL 95 RX5 yX5_back wsX5_back) := goodIn_app (goodIn_of _ (by decide +kernel)) ggL_law_X5_back
set_option maxRecDepth 20000 in
theorem ggL_law_X4_told : GoodIn wsL_law wsX4_told := goodIn_r _ [646, 25, 26, 27, 24, 536, 20, 634, 215, 216, 217, 2, 218, 685, 686, 687, 688, 689, 690, 691, 721, 722, 723, 724, 725, 726, 727, 728, 729, 730, 719, 720] (by decide +kernel) (by decide +kernel)
set_option maxRecDepth 20000 in
theorem gL_law_X4_told : GoodIn wsL_law (wsV RL 96 RX4 yX4_told wsX4_told) := goodIn_app (goodIn_of _ (by decide +kernel)) ggL_law_X4_told
set_option maxRecDepth 20000 in
theorem ggL_law_X5_told : GoodIn wsL_law wsX5_told := goodIn_r _ [650, 261, 262, 5, 263, 651, 652, 653, 654, 118, 545, 284, 276, 277, 278, 279, 692, 693, 694, 695, 696, 697, 698, 699, 700, 701, 702, 703, 704, 705, 706, 707, 708, 709, 710] (by decide +kernel) (by decide +kernel)
set_option maxRecDepth 20000 in
theorem gL_law_X5_told : GoodIn wsL_law (wsV RL 99 RX5 yX5_told wsX5_told) := goodIn_app (goodIn_of _ (by decide +kernel)) ggL_law_X5_told
set_option maxRecDepth 20000 in
theorem ggL_law_X4_digest : GoodIn wsL_law wsX4_digest := goodIn_r _ [658, 659, 660, 661, 644, 645, 2, 646, 25, 26, 27, 24, 536, 20, 634, 215, 216, 217, 218, 662, 489, 490, 491, 15, 163, 492, 493, 494, 164, 495, 79, 80, 34, 81, 50, 48, 496, 497, 498, 14, 499, 35, 63, 40, 39, 500, 501, 502, 503, 58, 42, 504, 505, 506, 507, 508, 509, 510, 511, 663, 400, 401, 402, 403, 404, 229, 230, 231, 47, 664, 665, 666, 667, 668, 367, 368, 369, 370, 64, 371, 372, 373, 374, 41, 90, 669, 670, 671, 672, 673, 441, 452, 453, 454, 455, 43, 86, 87, 88, 89, 685, 686, 687, 688, 689, 690, 691, 721, 722, 723, 724, 725, 726, 727, 728, 729, 730, 719, 720, 711, 712, 713, 714, 715, 716, 717, 718, 731, 732, 733, 734, 735, 736, 737] (by decide +kernel) (by decide +kernel)
set_option maxRecDepth 20000 in
theorem gL_law_X4_digest : GoodIn wsL_law (wsV RL 100 RX4 yX4_digest wsX4_digest) := goodIn_app (goodIn_of _ (by decide +kernel)) ggL_law_X4_digest
set_option maxRecDepth 20000 in
theorem ggL_law_X5_digest : GoodIn wsL_law wsX5_digest := goodIn_r _ [677, 678, 679, 119, 115, 120, 651, 652, 653, 5, 654, 118, 545, 284, 680, 681, 682, 683, 684, 516, 517, 518, 519, 268, 269, 270, 271, 264, 265, 266, 267, 520, 521, 522, 523, 140, 141, 142, 143, 524, 525, 526, 527, 122, 151, 152, 153, 154, 528, 529, 530, 531, 460, 461, 462, 463, 121, 144, 145, 146, 379, 380, 381, 382, 692, 693, 694, 695, 696, 697, 698, 699, 700, 701, 702, 703, 704, 705, 706, 707, 708, 709, 710] (by decide +kernel) (by decide +kernel)
set_option maxRecDepth 20000 in
theorem gL_law_X5_digest : GoodIn wsL_law (wsV RL 104 RX5 yX5_digest wsX5_digest) := goodIn_app (goodIn_of _ (by decide +kernel)) ggL_law_X5_digest
theorem dL_law_0 : decode cL_law 0 = .ok (.new 7, 3) := by decide +kernel
theorem dL_law_3 : decode cL_law 3 = .ok (.dup, 1) := by decide +kernel
theorem dL_law_4 : decode cL_law 4 = .ok (.invokespecial 9, 3) := by decide +kernel
theorem dL_law_7 : decode cL_law 7 = .ok (.astore_n 1, 1) := by decide +kernel
theorem dL_law_8 : decode cL_law 8 = .ok (.new 10, 3) := by decide +kernel
theorem dL_law_11 : decode cL_law 11 = .ok (.dup, 1) := by decide +kernel
theorem dL_law_12 : decode cL_law 12 = .ok (.invokespecial 12, 3) := by decide +kernel
theorem dL_law_15 : decode cL_law 15 = .ok (.astore_n 2, 1) := by decide +kernel
theorem dL_law_16 : decode cL_law 16 = .ok (.iconst 0, 1) := by decide +kernel
theorem dL_law_17 : decode cL_law 17 = .ok (.istore_n 3, 1) := by decide +kernel
theorem dL_law_18 : decode cL_law 18 = .ok (.iload_n 3, 1) := by decide +kernel
theorem dL_law_19 : decode cL_law 19 = .ok (.aload_n 0, 1) := by decide +kernel
theorem dL_law_20 : decode cL_law 20 = .ok (.arraylength, 1) := by decide +kernel
theorem dL_law_21 : decode cL_law 21 = .ok (.iconst 3, 1) := by decide +kernel
theorem dL_law_22 : decode cL_law 22 = .ok (.isub, 1) := by decide +kernel
theorem dL_law_23 : decode cL_law 23 = .ok (.if_icmp .gt 636, 3) := by decide +kernel
theorem dL_law_26 : decode cL_law 26 = .ok (.aload_n 0, 1) := by decide +kernel
theorem dL_law_27 : decode cL_law 27 = .ok (.iload_n 3, 1) := by decide +kernel
theorem dL_law_28 : decode cL_law 28 = .ok (.iaload, 1) := by decide +kernel
theorem dL_law_29 : decode cL_law 29 = .ok (.bipush 31, 2) := by decide +kernel
theorem dL_law_31 : decode cL_law 31 = .ok (.iand, 1) := by decide +kernel
theorem dL_law_32 : decode cL_law 32 = .ok (.tableswitch 621 0 21 #[104, 137, 170, 193, 216, 239, 262, 295, 328, 351, 374, 397, 420, 453, 476, 499, 522, 545, 558, 571, 584, 607], 104) := by decide +kernel
theorem dL_law_136 : decode cL_law 136 = .ok (.aload_n 1, 1) := by decide +kernel
theorem dL_law_137 : decode cL_law 137 = .ok (.aload_n 0, 1) := by decide +kernel
theorem dL_law_138 : decode cL_law 138 = .ok (.iload_n 3, 1) := by decide +kernel
theorem dL_law_139 : decode cL_law 139 = .ok (.iconst 1, 1) := by decide +kernel
theorem dL_law_140 : decode cL_law 140 = .ok (.iadd, 1) := by decide +kernel
theorem dL_law_141 : decode cL_law 141 = .ok (.iaload, 1) := by decide +kernel
theorem dL_law_142 : decode cL_law 142 = .ok (.aload_n 0, 1) := by decide +kernel
theorem dL_law_143 : decode cL_law 143 = .ok (.iload_n 3, 1) := by decide +kernel
theorem dL_law_144 : decode cL_law 144 = .ok (.iconst 2, 1) := by decide +kernel
theorem dL_law_145 : decode cL_law 145 = .ok (.iadd, 1) := by decide +kernel
theorem dL_law_146 : decode cL_law 146 = .ok (.iaload, 1) := by decide +kernel
theorem dL_law_147 : decode cL_law 147 = .ok (.invokevirtual 13, 3) := by decide +kernel
theorem dL_law_150 : decode cL_law 150 = .ok (.aload_n 2, 1) := by decide +kernel
theorem dL_law_151 : decode cL_law 151 = .ok (.aload_n 0, 1) := by decide +kernel
theorem dL_law_152 : decode cL_law 152 = .ok (.iload_n 3, 1) := by decide +kernel
theorem dL_law_153 : decode cL_law 153 = .ok (.iconst 1, 1) := by decide +kernel
theorem dL_law_154 : decode cL_law 154 = .ok (.iadd, 1) := by decide +kernel
theorem dL_law_155 : decode cL_law 155 = .ok (.iaload, 1) := by decide +kernel
theorem dL_law_156 : decode cL_law 156 = .ok (.aload_n 0, 1) := by decide +kernel
theorem dL_law_157 : decode cL_law 157 = .ok (.iload_n 3, 1) := by decide +kernel
theorem dL_law_158 : decode cL_law 158 = .ok (.iconst 2, 1) := by decide +kernel
theorem dL_law_159 : decode cL_law 159 = .ok (.iadd, 1) := by decide +kernel
theorem dL_law_160 : decode cL_law 160 = .ok (.iaload, 1) := by decide +kernel
theorem dL_law_161 : decode cL_law 161 = .ok (.invokevirtual 17, 3) := by decide +kernel
theorem dL_law_164 : decode cL_law 164 = .ok (.if_icmp .eq 489, 3) := by decide +kernel
theorem dL_law_167 : decode cL_law 167 = .ok (.iconst 0, 1) := by decide +kernel
theorem dL_law_168 : decode cL_law 168 = .ok (.ireturn, 1) := by decide +kernel
theorem dL_law_169 : decode cL_law 169 = .ok (.aload_n 1, 1) := by decide +kernel
theorem dL_law_170 : decode cL_law 170 = .ok (.aload_n 0, 1) := by decide +kernel
theorem dL_law_171 : decode cL_law 171 = .ok (.iload_n 3, 1) := by decide +kernel
theorem dL_law_172 : decode cL_law 172 = .ok (.iconst 1, 1) := by decide +kernel
theorem dL_law_173 : decode cL_law 173 = .ok (.iadd, 1) := by decide +kernel
theorem dL_law_174 : decode cL_law 174 = .ok (.iaload, 1) := by decide +kernel
theorem dL_law_175 : decode cL_law 175 = .ok (.aload_n 0, 1) := by decide +kernel
theorem dL_law_176 : decode cL_law 176 = .ok (.iload_n 3, 1) := by decide +kernel
theorem dL_law_177 : decode cL_law 177 = .ok (.iconst 2, 1) := by decide +kernel
theorem dL_law_178 : decode cL_law 178 = .ok (.iadd, 1) := by decide +kernel
theorem dL_law_179 : decode cL_law 179 = .ok (.iaload, 1) := by decide +kernel
theorem dL_law_180 : decode cL_law 180 = .ok (.invokevirtual 18, 3) := by decide +kernel
theorem dL_law_183 : decode cL_law 183 = .ok (.aload_n 2, 1) := by decide +kernel
theorem dL_law_184 : decode cL_law 184 = .ok (.aload_n 0, 1) := by decide +kernel
theorem dL_law_185 : decode cL_law 185 = .ok (.iload_n 3, 1) := by decide +kernel
theorem dL_law_186 : decode cL_law 186 = .ok (.iconst 1, 1) := by decide +kernel
theorem dL_law_187 : decode cL_law 187 = .ok (.iadd, 1) := by decide +kernel
theorem dL_law_188 : decode cL_law 188 = .ok (.iaload, 1) := by decide +kernel
theorem dL_law_189 : decode cL_law 189 = .ok (.aload_n 0, 1) := by decide +kernel
theorem dL_law_190 : decode cL_law 190 = .ok (.iload_n 3, 1) := by decide +kernel
theorem dL_law_191 : decode cL_law 191 = .ok (.iconst 2, 1) := by decide +kernel
theorem dL_law_192 : decode cL_law 192 = .ok (.iadd, 1) := by decide +kernel
theorem dL_law_193 : decode cL_law 193 = .ok (.iaload, 1) := by decide +kernel
theorem dL_law_194 : decode cL_law 194 = .ok (.invokevirtual 21, 3) := by decide +kernel
theorem dL_law_197 : decode cL_law 197 = .ok (.if_icmp .eq 456, 3) := by decide +kernel
theorem dL_law_200 : decode cL_law 200 = .ok (.iconst 0, 1) := by decide +kernel
theorem dL_law_201 : decode cL_law 201 = .ok (.ireturn, 1) := by decide +kernel
theorem dL_law_202 : decode cL_law 202 = .ok (.aload_n 1, 1) := by decide +kernel
theorem dL_law_203 : decode cL_law 203 = .ok (.aload_n 0, 1) := by decide +kernel
theorem dL_law_204 : decode cL_law 204 = .ok (.iload_n 3, 1) := by decide +kernel
theorem dL_law_205 : decode cL_law 205 = .ok (.iconst 1, 1) := by decide +kernel
theorem dL_law_206 : decode cL_law 206 = .ok (.iadd, 1) := by decide +kernel
theorem dL_law_207 : decode cL_law 207 = .ok (.iaload, 1) := by decide +kernel
theorem dL_law_208 : decode cL_law 208 = .ok (.invokevirtual 22, 3) := by decide +kernel
theorem dL_law_211 : decode cL_law 211 = .ok (.aload_n 2, 1) := by decide +kernel
theorem dL_law_212 : decode cL_law 212 = .ok (.aload_n 0, 1) := by decide +kernel
theorem dL_law_213 : decode cL_law 213 = .ok (.iload_n 3, 1) := by decide +kernel
theorem dL_law_214 : decode cL_law 214 = .ok (.iconst 1, 1) := by decide +kernel
theorem dL_law_215 : decode cL_law 215 = .ok (.iadd, 1) := by decide +kernel
theorem dL_law_216 : decode cL_law 216 = .ok (.iaload, 1) := by decide +kernel
theorem dL_law_217 : decode cL_law 217 = .ok (.invokevirtual 26, 3) := by decide +kernel
theorem dL_law_220 : decode cL_law 220 = .ok (.if_icmp .eq 433, 3) := by decide +kernel
theorem dL_law_223 : decode cL_law 223 = .ok (.iconst 0, 1) := by decide +kernel
theorem dL_law_224 : decode cL_law 224 = .ok (.ireturn, 1) := by decide +kernel
theorem dL_law_225 : decode cL_law 225 = .ok (.aload_n 1, 1) := by decide +kernel
theorem dL_law_226 : decode cL_law 226 = .ok (.aload_n 0, 1) := by decide +kernel
theorem dL_law_227 : decode cL_law 227 = .ok (.iload_n 3, 1) := by decide +kernel
theorem dL_law_228 : decode cL_law 228 = .ok (.iconst 1, 1) := by decide +kernel
theorem dL_law_229 : decode cL_law 229 = .ok (.iadd, 1) := by decide +kernel
theorem dL_law_230 : decode cL_law 230 = .ok (.iaload, 1) := by decide +kernel
theorem dL_law_231 : decode cL_law 231 = .ok (.invokevirtual 27, 3) := by decide +kernel
theorem dL_law_234 : decode cL_law 234 = .ok (.aload_n 2, 1) := by decide +kernel
theorem dL_law_235 : decode cL_law 235 = .ok (.aload_n 0, 1) := by decide +kernel
theorem dL_law_236 : decode cL_law 236 = .ok (.iload_n 3, 1) := by decide +kernel
theorem dL_law_237 : decode cL_law 237 = .ok (.iconst 1, 1) := by decide +kernel
theorem dL_law_238 : decode cL_law 238 = .ok (.iadd, 1) := by decide +kernel
theorem dL_law_239 : decode cL_law 239 = .ok (.iaload, 1) := by decide +kernel
theorem dL_law_240 : decode cL_law 240 = .ok (.invokevirtual 30, 3) := by decide +kernel
theorem dL_law_243 : decode cL_law 243 = .ok (.if_icmp .eq 410, 3) := by decide +kernel
theorem dL_law_246 : decode cL_law 246 = .ok (.iconst 0, 1) := by decide +kernel
theorem dL_law_247 : decode cL_law 247 = .ok (.ireturn, 1) := by decide +kernel
theorem dL_law_248 : decode cL_law 248 = .ok (.aload_n 1, 1) := by decide +kernel
theorem dL_law_249 : decode cL_law 249 = .ok (.aload_n 0, 1) := by decide +kernel
theorem dL_law_250 : decode cL_law 250 = .ok (.iload_n 3, 1) := by decide +kernel
theorem dL_law_251 : decode cL_law 251 = .ok (.iconst 1, 1) := by decide +kernel
theorem dL_law_252 : decode cL_law 252 = .ok (.iadd, 1) := by decide +kernel
theorem dL_law_253 : decode cL_law 253 = .ok (.iaload, 1) := by decide +kernel
theorem dL_law_254 : decode cL_law 254 = .ok (.invokevirtual 31, 3) := by decide +kernel
theorem dL_law_257 : decode cL_law 257 = .ok (.aload_n 2, 1) := by decide +kernel
theorem dL_law_258 : decode cL_law 258 = .ok (.aload_n 0, 1) := by decide +kernel
theorem dL_law_259 : decode cL_law 259 = .ok (.iload_n 3, 1) := by decide +kernel
theorem dL_law_260 : decode cL_law 260 = .ok (.iconst 1, 1) := by decide +kernel
theorem dL_law_261 : decode cL_law 261 = .ok (.iadd, 1) := by decide +kernel
theorem dL_law_262 : decode cL_law 262 = .ok (.iaload, 1) := by decide +kernel
theorem dL_law_263 : decode cL_law 263 = .ok (.invokevirtual 34, 3) := by decide +kernel
theorem dL_law_266 : decode cL_law 266 = .ok (.if_icmp .eq 387, 3) := by decide +kernel
theorem dL_law_269 : decode cL_law 269 = .ok (.iconst 0, 1) := by decide +kernel
theorem dL_law_270 : decode cL_law 270 = .ok (.ireturn, 1) := by decide +kernel
theorem dL_law_271 : decode cL_law 271 = .ok (.aload_n 1, 1) := by decide +kernel
theorem dL_law_272 : decode cL_law 272 = .ok (.aload_n 0, 1) := by decide +kernel
theorem dL_law_273 : decode cL_law 273 = .ok (.iload_n 3, 1) := by decide +kernel
theorem dL_law_274 : decode cL_law 274 = .ok (.iconst 1, 1) := by decide +kernel
theorem dL_law_275 : decode cL_law 275 = .ok (.iadd, 1) := by decide +kernel
theorem dL_law_276 : decode cL_law 276 = .ok (.iaload, 1) := by decide +kernel
theorem dL_law_277 : decode cL_law 277 = .ok (.invokevirtual 35, 3) := by decide +kernel
theorem dL_law_280 : decode cL_law 280 = .ok (.aload_n 2, 1) := by decide +kernel
theorem dL_law_281 : decode cL_law 281 = .ok (.aload_n 0, 1) := by decide +kernel
theorem dL_law_282 : decode cL_law 282 = .ok (.iload_n 3, 1) := by decide +kernel
theorem dL_law_283 : decode cL_law 283 = .ok (.iconst 1, 1) := by decide +kernel
theorem dL_law_284 : decode cL_law 284 = .ok (.iadd, 1) := by decide +kernel
theorem dL_law_285 : decode cL_law 285 = .ok (.iaload, 1) := by decide +kernel
theorem dL_law_286 : decode cL_law 286 = .ok (.invokevirtual 38, 3) := by decide +kernel
theorem dL_law_289 : decode cL_law 289 = .ok (.if_icmp .eq 364, 3) := by decide +kernel
theorem dL_law_292 : decode cL_law 292 = .ok (.iconst 0, 1) := by decide +kernel
theorem dL_law_293 : decode cL_law 293 = .ok (.ireturn, 1) := by decide +kernel
theorem dL_law_294 : decode cL_law 294 = .ok (.aload_n 1, 1) := by decide +kernel
theorem dL_law_295 : decode cL_law 295 = .ok (.aload_n 0, 1) := by decide +kernel
theorem dL_law_296 : decode cL_law 296 = .ok (.iload_n 3, 1) := by decide +kernel
theorem dL_law_297 : decode cL_law 297 = .ok (.iconst 1, 1) := by decide +kernel
theorem dL_law_298 : decode cL_law 298 = .ok (.iadd, 1) := by decide +kernel
theorem dL_law_299 : decode cL_law 299 = .ok (.iaload, 1) := by decide +kernel
theorem dL_law_300 : decode cL_law 300 = .ok (.aload_n 0, 1) := by decide +kernel
theorem dL_law_301 : decode cL_law 301 = .ok (.iload_n 3, 1) := by decide +kernel
theorem dL_law_302 : decode cL_law 302 = .ok (.iconst 2, 1) := by decide +kernel
theorem dL_law_303 : decode cL_law 303 = .ok (.iadd, 1) := by decide +kernel
theorem dL_law_304 : decode cL_law 304 = .ok (.iaload, 1) := by decide +kernel
theorem dL_law_305 : decode cL_law 305 = .ok (.invokevirtual 39, 3) := by decide +kernel
theorem dL_law_308 : decode cL_law 308 = .ok (.aload_n 2, 1) := by decide +kernel
theorem dL_law_309 : decode cL_law 309 = .ok (.aload_n 0, 1) := by decide +kernel
theorem dL_law_310 : decode cL_law 310 = .ok (.iload_n 3, 1) := by decide +kernel
theorem dL_law_311 : decode cL_law 311 = .ok (.iconst 1, 1) := by decide +kernel
theorem dL_law_312 : decode cL_law 312 = .ok (.iadd, 1) := by decide +kernel
theorem dL_law_313 : decode cL_law 313 = .ok (.iaload, 1) := by decide +kernel
theorem dL_law_314 : decode cL_law 314 = .ok (.aload_n 0, 1) := by decide +kernel
theorem dL_law_315 : decode cL_law 315 = .ok (.iload_n 3, 1) := by decide +kernel
theorem dL_law_316 : decode cL_law 316 = .ok (.iconst 2, 1) := by decide +kernel
theorem dL_law_317 : decode cL_law 317 = .ok (.iadd, 1) := by decide +kernel
theorem dL_law_318 : decode cL_law 318 = .ok (.iaload, 1) := by decide +kernel
theorem dL_law_319 : decode cL_law 319 = .ok (.invokevirtual 42, 3) := by decide +kernel
theorem dL_law_322 : decode cL_law 322 = .ok (.if_icmp .eq 331, 3) := by decide +kernel
theorem dL_law_325 : decode cL_law 325 = .ok (.iconst 0, 1) := by decide +kernel
theorem dL_law_326 : decode cL_law 326 = .ok (.ireturn, 1) := by decide +kernel
theorem dL_law_327 : decode cL_law 327 = .ok (.aload_n 1, 1) := by decide +kernel
theorem dL_law_328 : decode cL_law 328 = .ok (.aload_n 0, 1) := by decide +kernel
theorem dL_law_329 : decode cL_law 329 = .ok (.iload_n 3, 1) := by decide +kernel
theorem dL_law_330 : decode cL_law 330 = .ok (.iconst 1, 1) := by decide +kernel
theorem dL_law_331 : decode cL_law 331 = .ok (.iadd, 1) := by decide +kernel
theorem dL_law_332 : decode cL_law 332 = .ok (.iaload, 1) := by decide +kernel
theorem dL_law_333 : decode cL_law 333 = .ok (.aload_n 0, 1) := by decide +kernel
theorem dL_law_334 : decode cL_law 334 = .ok (.iload_n 3, 1) := by decide +kernel
theorem dL_law_335 : decode cL_law 335 = .ok (.iconst 2, 1) := by decide +kernel
theorem dL_law_336 : decode cL_law 336 = .ok (.iadd, 1) := by decide +kernel
theorem dL_law_337 : decode cL_law 337 = .ok (.iaload, 1) := by decide +kernel
theorem dL_law_338 : decode cL_law 338 = .ok (.invokevirtual 43, 3) := by decide +kernel
theorem dL_law_341 : decode cL_law 341 = .ok (.aload_n 2, 1) := by decide +kernel
theorem dL_law_342 : decode cL_law 342 = .ok (.aload_n 0, 1) := by decide +kernel
theorem dL_law_343 : decode cL_law 343 = .ok (.iload_n 3, 1) := by decide +kernel
theorem dL_law_344 : decode cL_law 344 = .ok (.iconst 1, 1) := by decide +kernel
theorem dL_law_345 : decode cL_law 345 = .ok (.iadd, 1) := by decide +kernel
theorem dL_law_346 : decode cL_law 346 = .ok (.iaload, 1) := by decide +kernel
theorem dL_law_347 : decode cL_law 347 = .ok (.aload_n 0, 1) := by decide +kernel
theorem dL_law_348 : decode cL_law 348 = .ok (.iload_n 3, 1) := by decide +kernel
theorem dL_law_349 : decode cL_law 349 = .ok (.iconst 2, 1) := by decide +kernel
theorem dL_law_350 : decode cL_law 350 = .ok (.iadd, 1) := by decide +kernel
theorem dL_law_351 : decode cL_law 351 = .ok (.iaload, 1) := by decide +kernel
theorem dL_law_352 : decode cL_law 352 = .ok (.invokevirtual 46, 3) := by decide +kernel
theorem dL_law_355 : decode cL_law 355 = .ok (.if_icmp .eq 298, 3) := by decide +kernel
theorem dL_law_358 : decode cL_law 358 = .ok (.iconst 0, 1) := by decide +kernel
theorem dL_law_359 : decode cL_law 359 = .ok (.ireturn, 1) := by decide +kernel
theorem dL_law_360 : decode cL_law 360 = .ok (.aload_n 1, 1) := by decide +kernel
end
section
theorem dL_law_361 : decode cL_law 361 = .ok (.aload_n 0, 1) := by decide +kernel
theorem dL_law_362 : decode cL_law 362 = .ok (.iload_n 3, 1) := by decide +kernel
theorem dL_law_363 : decode cL_law 363 = .ok (.iconst 1, 1) := by decide +kernel
theorem dL_law_364 : decode cL_law 364 = .ok (.iadd, 1) := by decide +kernel
theorem dL_law_365 : decode cL_law 365 = .ok (.iaload, 1) := by decide +kernel
theorem dL_law_366 : decode cL_law 366 = .ok (.invokevirtual 47, 3) := by decide +kernel
theorem dL_law_369 : decode cL_law 369 = .ok (.aload_n 2, 1) := by decide +kernel
theorem dL_law_370 : decode cL_law 370 = .ok (.aload_n 0, 1) := by decide +kernel
theorem dL_law_371 : decode cL_law 371 = .ok (.iload_n 3, 1) := by decide +kernel
theorem dL_law_372 : decode cL_law 372 = .ok (.iconst 1, 1) := by decide +kernel
theorem dL_law_373 : decode cL_law 373 = .ok (.iadd, 1) := by decide +kernel
theorem dL_law_374 : decode cL_law 374 = .ok (.iaload, 1) := by decide +kernel
theorem dL_law_375 : decode cL_law 375 = .ok (.invokevirtual 50, 3) := by decide +kernel
theorem dL_law_378 : decode cL_law 378 = .ok (.if_icmp .eq 275, 3) := by decide +kernel
theorem dL_law_381 : decode cL_law 381 = .ok (.iconst 0, 1) := by decide +kernel
theorem dL_law_382 : decode cL_law 382 = .ok (.ireturn, 1) := by decide +kernel
theorem dL_law_383 : decode cL_law 383 = .ok (.aload_n 1, 1) := by decide +kernel
theorem dL_law_384 : decode cL_law 384 = .ok (.aload_n 0, 1) := by decide +kernel
theorem dL_law_385 : decode cL_law 385 = .ok (.iload_n 3, 1) := by decide +kernel
theorem dL_law_386 : decode cL_law 386 = .ok (.iconst 1, 1) := by decide +kernel
theorem dL_law_387 : decode cL_law 387 = .ok (.iadd, 1) := by decide +kernel
theorem dL_law_388 : decode cL_law 388 = .ok (.iaload, 1) := by decide +kernel
theorem dL_law_389 : decode cL_law 389 = .ok (.invokevirtual 51, 3) := by decide +kernel
theorem dL_law_392 : decode cL_law 392 = .ok (.aload_n 2, 1) := by decide +kernel
theorem dL_law_393 : decode cL_law 393 = .ok (.aload_n 0, 1) := by decide +kernel
theorem dL_law_394 : decode cL_law 394 = .ok (.iload_n 3, 1) := by decide +kernel
theorem dL_law_395 : decode cL_law 395 = .ok (.iconst 1, 1) := by decide +kernel
theorem dL_law_396 : decode cL_law 396 = .ok (.iadd, 1) := by decide +kernel
theorem dL_law_397 : decode cL_law 397 = .ok (.iaload, 1) := by decide +kernel
theorem dL_law_398 : decode cL_law 398 = .ok (.invokevirtual 54, 3) := by decide +kernel
theorem dL_law_401 : decode cL_law 401 = .ok (.if_icmp .eq 252, 3) := by decide +kernel
theorem dL_law_404 : decode cL_law 404 = .ok (.iconst 0, 1) := by decide +kernel
theorem dL_law_405 : decode cL_law 405 = .ok (.ireturn, 1) := by decide +kernel
theorem dL_law_406 : decode cL_law 406 = .ok (.aload_n 1, 1) := by decide +kernel
theorem dL_law_407 : decode cL_law 407 = .ok (.aload_n 0, 1) := by decide +kernel
theorem dL_law_408 : decode cL_law 408 = .ok (.iload_n 3, 1) := by decide +kernel
theorem dL_law_409 : decode cL_law 409 = .ok (.iconst 1, 1) := by decide +kernel
theorem dL_law_410 : decode cL_law 410 = .ok (.iadd, 1) := by decide +kernel
theorem dL_law_411 : decode cL_law 411 = .ok (.iaload, 1) := by decide +kernel
theorem dL_law_412 : decode cL_law 412 = .ok (.invokevirtual 55, 3) := by decide +kernel
theorem dL_law_415 : decode cL_law 415 = .ok (.aload_n 2, 1) := by decide +kernel
theorem dL_law_416 : decode cL_law 416 = .ok (.aload_n 0, 1) := by decide +kernel
theorem dL_law_417 : decode cL_law 417 = .ok (.iload_n 3, 1) := by decide +kernel
theorem dL_law_418 : decode cL_law 418 = .ok (.iconst 1, 1) := by decide +kernel
theorem dL_law_419 : decode cL_law 419 = .ok (.iadd, 1) := by decide +kernel
theorem dL_law_420 : decode cL_law 420 = .ok (.iaload, 1) := by decide +kernel
theorem dL_law_421 : decode cL_law 421 = .ok (.invokevirtual 58, 3) := by decide +kernel
theorem dL_law_424 : decode cL_law 424 = .ok (.if_icmp .eq 229, 3) := by decide +kernel
theorem dL_law_427 : decode cL_law 427 = .ok (.iconst 0, 1) := by decide +kernel
theorem dL_law_428 : decode cL_law 428 = .ok (.ireturn, 1) := by decide +kernel
theorem dL_law_429 : decode cL_law 429 = .ok (.aload_n 1, 1) := by decide +kernel
theorem dL_law_430 : decode cL_law 430 = .ok (.aload_n 0, 1) := by decide +kernel
theorem dL_law_431 : decode cL_law 431 = .ok (.iload_n 3, 1) := by decide +kernel
theorem dL_law_432 : decode cL_law 432 = .ok (.iconst 1, 1) := by decide +kernel
theorem dL_law_433 : decode cL_law 433 = .ok (.iadd, 1) := by decide +kernel
theorem dL_law_434 : decode cL_law 434 = .ok (.iaload, 1) := by decide +kernel
theorem dL_law_435 : decode cL_law 435 = .ok (.invokevirtual 59, 3) := by decide +kernel
theorem dL_law_438 : decode cL_law 438 = .ok (.aload_n 2, 1) := by decide +kernel
theorem dL_law_439 : decode cL_law 439 = .ok (.aload_n 0, 1) := by decide +kernel
theorem dL_law_440 : decode cL_law 440 = .ok (.iload_n 3, 1) := by decide +kernel
theorem dL_law_441 : decode cL_law 441 = .ok (.iconst 1, 1) := by decide +kernel
theorem dL_law_442 : decode cL_law 442 = .ok (.iadd, 1) := by decide +kernel
theorem dL_law_443 : decode cL_law 443 = .ok (.iaload, 1) := by decide +kernel
theorem dL_law_444 : decode cL_law 444 = .ok (.invokevirtual 62, 3) := by decide +kernel
theorem dL_law_447 : decode cL_law 447 = .ok (.if_icmp .eq 206, 3) := by decide +kernel
theorem dL_law_450 : decode cL_law 450 = .ok (.iconst 0, 1) := by decide +kernel
theorem dL_law_451 : decode cL_law 451 = .ok (.ireturn, 1) := by decide +kernel
theorem dL_law_452 : decode cL_law 452 = .ok (.aload_n 1, 1) := by decide +kernel
theorem dL_law_453 : decode cL_law 453 = .ok (.aload_n 0, 1) := by decide +kernel
theorem dL_law_454 : decode cL_law 454 = .ok (.iload_n 3, 1) := by decide +kernel
theorem dL_law_455 : decode cL_law 455 = .ok (.iconst 1, 1) := by decide +kernel
theorem dL_law_456 : decode cL_law 456 = .ok (.iadd, 1) := by decide +kernel
theorem dL_law_457 : decode cL_law 457 = .ok (.iaload, 1) := by decide +kernel
theorem dL_law_458 : decode cL_law 458 = .ok (.aload_n 0, 1) := by decide +kernel
theorem dL_law_459 : decode cL_law 459 = .ok (.iload_n 3, 1) := by decide +kernel
theorem dL_law_460 : decode cL_law 460 = .ok (.iconst 2, 1) := by decide +kernel
theorem dL_law_461 : decode cL_law 461 = .ok (.iadd, 1) := by decide +kernel
theorem dL_law_462 : decode cL_law 462 = .ok (.iaload, 1) := by decide +kernel
theorem dL_law_463 : decode cL_law 463 = .ok (.invokevirtual 63, 3) := by decide +kernel
theorem dL_law_466 : decode cL_law 466 = .ok (.aload_n 2, 1) := by decide +kernel
theorem dL_law_467 : decode cL_law 467 = .ok (.aload_n 0, 1) := by decide +kernel
theorem dL_law_468 : decode cL_law 468 = .ok (.iload_n 3, 1) := by decide +kernel
theorem dL_law_469 : decode cL_law 469 = .ok (.iconst 1, 1) := by decide +kernel
theorem dL_law_470 : decode cL_law 470 = .ok (.iadd, 1) := by decide +kernel
theorem dL_law_471 : decode cL_law 471 = .ok (.iaload, 1) := by decide +kernel
theorem dL_law_472 : decode cL_law 472 = .ok (.aload_n 0, 1) := by decide +kernel
theorem dL_law_473 : decode cL_law 473 = .ok (.iload_n 3, 1) := by decide +kernel
theorem dL_law_474 : decode cL_law 474 = .ok (.iconst 2, 1) := by decide +kernel
theorem dL_law_475 : decode cL_law 475 = .ok (.iadd, 1) := by decide +kernel
theorem dL_law_476 : decode cL_law 476 = .ok (.iaload, 1) := by decide +kernel
theorem dL_law_477 : decode cL_law 477 = .ok (.invokevirtual 66, 3) := by decide +kernel
theorem dL_law_480 : decode cL_law 480 = .ok (.if_icmp .eq 173, 3) := by decide +kernel
theorem dL_law_483 : decode cL_law 483 = .ok (.iconst 0, 1) := by decide +kernel
theorem dL_law_484 : decode cL_law 484 = .ok (.ireturn, 1) := by decide +kernel
theorem dL_law_485 : decode cL_law 485 = .ok (.aload_n 1, 1) := by decide +kernel
theorem dL_law_486 : decode cL_law 486 = .ok (.aload_n 0, 1) := by decide +kernel
theorem dL_law_487 : decode cL_law 487 = .ok (.iload_n 3, 1) := by decide +kernel
theorem dL_law_488 : decode cL_law 488 = .ok (.iconst 1, 1) := by decide +kernel
theorem dL_law_489 : decode cL_law 489 = .ok (.iadd, 1) := by decide +kernel
theorem dL_law_490 : decode cL_law 490 = .ok (.iaload, 1) := by decide +kernel
theorem dL_law_491 : decode cL_law 491 = .ok (.invokevirtual 67, 3) := by decide +kernel
theorem dL_law_494 : decode cL_law 494 = .ok (.aload_n 2, 1) := by decide +kernel
theorem dL_law_495 : decode cL_law 495 = .ok (.aload_n 0, 1) := by decide +kernel
theorem dL_law_496 : decode cL_law 496 = .ok (.iload_n 3, 1) := by decide +kernel
theorem dL_law_497 : decode cL_law 497 = .ok (.iconst 1, 1) := by decide +kernel
theorem dL_law_498 : decode cL_law 498 = .ok (.iadd, 1) := by decide +kernel
theorem dL_law_499 : decode cL_law 499 = .ok (.iaload, 1) := by decide +kernel
theorem dL_law_500 : decode cL_law 500 = .ok (.invokevirtual 70, 3) := by decide +kernel
theorem dL_law_503 : decode cL_law 503 = .ok (.if_icmp .eq 150, 3) := by decide +kernel
theorem dL_law_506 : decode cL_law 506 = .ok (.iconst 0, 1) := by decide +kernel
theorem dL_law_507 : decode cL_law 507 = .ok (.ireturn, 1) := by decide +kernel
theorem dL_law_508 : decode cL_law 508 = .ok (.aload_n 1, 1) := by decide +kernel
theorem dL_law_509 : decode cL_law 509 = .ok (.aload_n 0, 1) := by decide +kernel
theorem dL_law_510 : decode cL_law 510 = .ok (.iload_n 3, 1) := by decide +kernel
theorem dL_law_511 : decode cL_law 511 = .ok (.iconst 1, 1) := by decide +kernel
theorem dL_law_512 : decode cL_law 512 = .ok (.iadd, 1) := by decide +kernel
theorem dL_law_513 : decode cL_law 513 = .ok (.iaload, 1) := by decide +kernel
theorem dL_law_514 : decode cL_law 514 = .ok (.invokevirtual 71, 3) := by decide +kernel
theorem dL_law_517 : decode cL_law 517 = .ok (.aload_n 2, 1) := by decide +kernel
theorem dL_law_518 : decode cL_law 518 = .ok (.aload_n 0, 1) := by decide +kernel
theorem dL_law_519 : decode cL_law 519 = .ok (.iload_n 3, 1) := by decide +kernel
theorem dL_law_520 : decode cL_law 520 = .ok (.iconst 1, 1) := by decide +kernel
theorem dL_law_521 : decode cL_law 521 = .ok (.iadd, 1) := by decide +kernel
theorem dL_law_522 : decode cL_law 522 = .ok (.iaload, 1) := by decide +kernel
theorem dL_law_523 : decode cL_law 523 = .ok (.invokevirtual 74, 3) := by decide +kernel
theorem dL_law_526 : decode cL_law 526 = .ok (.if_icmp .eq 127, 3) := by decide +kernel
theorem dL_law_529 : decode cL_law 529 = .ok (.iconst 0, 1) := by decide +kernel
theorem dL_law_530 : decode cL_law 530 = .ok (.ireturn, 1) := by decide +kernel
theorem dL_law_531 : decode cL_law 531 = .ok (.aload_n 1, 1) := by decide +kernel
theorem dL_law_532 : decode cL_law 532 = .ok (.aload_n 0, 1) := by decide +kernel
theorem dL_law_533 : decode cL_law 533 = .ok (.iload_n 3, 1) := by decide +kernel
theorem dL_law_534 : decode cL_law 534 = .ok (.iconst 1, 1) := by decide +kernel
theorem dL_law_535 : decode cL_law 535 = .ok (.iadd, 1) := by decide +kernel
theorem dL_law_536 : decode cL_law 536 = .ok (.iaload, 1) := by decide +kernel
theorem dL_law_537 : decode cL_law 537 = .ok (.invokevirtual 75, 3) := by decide +kernel
theorem dL_law_540 : decode cL_law 540 = .ok (.aload_n 2, 1) := by decide +kernel
theorem dL_law_541 : decode cL_law 541 = .ok (.aload_n 0, 1) := by decide +kernel
theorem dL_law_542 : decode cL_law 542 = .ok (.iload_n 3, 1) := by decide +kernel
theorem dL_law_543 : decode cL_law 543 = .ok (.iconst 1, 1) := by decide +kernel
theorem dL_law_544 : decode cL_law 544 = .ok (.iadd, 1) := by decide +kernel
theorem dL_law_545 : decode cL_law 545 = .ok (.iaload, 1) := by decide +kernel
theorem dL_law_546 : decode cL_law 546 = .ok (.invokevirtual 78, 3) := by decide +kernel
theorem dL_law_549 : decode cL_law 549 = .ok (.if_icmp .eq 104, 3) := by decide +kernel
theorem dL_law_552 : decode cL_law 552 = .ok (.iconst 0, 1) := by decide +kernel
theorem dL_law_553 : decode cL_law 553 = .ok (.ireturn, 1) := by decide +kernel
theorem dL_law_554 : decode cL_law 554 = .ok (.aload_n 1, 1) := by decide +kernel
theorem dL_law_555 : decode cL_law 555 = .ok (.aload_n 0, 1) := by decide +kernel
theorem dL_law_556 : decode cL_law 556 = .ok (.iload_n 3, 1) := by decide +kernel
theorem dL_law_557 : decode cL_law 557 = .ok (.iconst 1, 1) := by decide +kernel
theorem dL_law_558 : decode cL_law 558 = .ok (.iadd, 1) := by decide +kernel
theorem dL_law_559 : decode cL_law 559 = .ok (.iaload, 1) := by decide +kernel
theorem dL_law_560 : decode cL_law 560 = .ok (.invokevirtual 79, 3) := by decide +kernel
theorem dL_law_563 : decode cL_law 563 = .ok (.aload_n 2, 1) := by decide +kernel
theorem dL_law_564 : decode cL_law 564 = .ok (.aload_n 0, 1) := by decide +kernel
theorem dL_law_565 : decode cL_law 565 = .ok (.iload_n 3, 1) := by decide +kernel
theorem dL_law_566 : decode cL_law 566 = .ok (.iconst 1, 1) := by decide +kernel
theorem dL_law_567 : decode cL_law 567 = .ok (.iadd, 1) := by decide +kernel
theorem dL_law_568 : decode cL_law 568 = .ok (.iaload, 1) := by decide +kernel
theorem dL_law_569 : decode cL_law 569 = .ok (.invokevirtual 82, 3) := by decide +kernel
theorem dL_law_572 : decode cL_law 572 = .ok (.if_icmp .eq 81, 3) := by decide +kernel
theorem dL_law_575 : decode cL_law 575 = .ok (.iconst 0, 1) := by decide +kernel
theorem dL_law_576 : decode cL_law 576 = .ok (.ireturn, 1) := by decide +kernel
theorem dL_law_577 : decode cL_law 577 = .ok (.aload_n 1, 1) := by decide +kernel
theorem dL_law_578 : decode cL_law 578 = .ok (.invokevirtual 83, 3) := by decide +kernel
theorem dL_law_581 : decode cL_law 581 = .ok (.aload_n 2, 1) := by decide +kernel
theorem dL_law_582 : decode cL_law 582 = .ok (.invokevirtual 87, 3) := by decide +kernel
theorem dL_law_585 : decode cL_law 585 = .ok (.if_icmp .eq 68, 3) := by decide +kernel
theorem dL_law_588 : decode cL_law 588 = .ok (.iconst 0, 1) := by decide +kernel
theorem dL_law_589 : decode cL_law 589 = .ok (.ireturn, 1) := by decide +kernel
theorem dL_law_590 : decode cL_law 590 = .ok (.aload_n 1, 1) := by decide +kernel
theorem dL_law_591 : decode cL_law 591 = .ok (.invokevirtual 88, 3) := by decide +kernel
theorem dL_law_594 : decode cL_law 594 = .ok (.aload_n 2, 1) := by decide +kernel
theorem dL_law_595 : decode cL_law 595 = .ok (.invokevirtual 91, 3) := by decide +kernel
theorem dL_law_598 : decode cL_law 598 = .ok (.if_icmp .eq 55, 3) := by decide +kernel
theorem dL_law_601 : decode cL_law 601 = .ok (.iconst 0, 1) := by decide +kernel
theorem dL_law_602 : decode cL_law 602 = .ok (.ireturn, 1) := by decide +kernel
theorem dL_law_603 : decode cL_law 603 = .ok (.aload_n 1, 1) := by decide +kernel
theorem dL_law_604 : decode cL_law 604 = .ok (.invokevirtual 92, 3) := by decide +kernel
theorem dL_law_607 : decode cL_law 607 = .ok (.aload_n 2, 1) := by decide +kernel
theorem dL_law_608 : decode cL_law 608 = .ok (.invokevirtual 95, 3) := by decide +kernel
theorem dL_law_611 : decode cL_law 611 = .ok (.if_icmp .eq 42, 3) := by decide +kernel
theorem dL_law_614 : decode cL_law 614 = .ok (.iconst 0, 1) := by decide +kernel
theorem dL_law_615 : decode cL_law 615 = .ok (.ireturn, 1) := by decide +kernel
theorem dL_law_616 : decode cL_law 616 = .ok (.aload_n 1, 1) := by decide +kernel
theorem dL_law_617 : decode cL_law 617 = .ok (.aload_n 0, 1) := by decide +kernel
theorem dL_law_618 : decode cL_law 618 = .ok (.iload_n 3, 1) := by decide +kernel
theorem dL_law_619 : decode cL_law 619 = .ok (.iconst 1, 1) := by decide +kernel
theorem dL_law_620 : decode cL_law 620 = .ok (.iadd, 1) := by decide +kernel
theorem dL_law_621 : decode cL_law 621 = .ok (.iaload, 1) := by decide +kernel
theorem dL_law_622 : decode cL_law 622 = .ok (.invokevirtual 96, 3) := by decide +kernel
theorem dL_law_625 : decode cL_law 625 = .ok (.aload_n 2, 1) := by decide +kernel
theorem dL_law_626 : decode cL_law 626 = .ok (.aload_n 0, 1) := by decide +kernel
theorem dL_law_627 : decode cL_law 627 = .ok (.iload_n 3, 1) := by decide +kernel
theorem dL_law_628 : decode cL_law 628 = .ok (.iconst 1, 1) := by decide +kernel
theorem dL_law_629 : decode cL_law 629 = .ok (.iadd, 1) := by decide +kernel
theorem dL_law_630 : decode cL_law 630 = .ok (.iaload, 1) := by decide +kernel
theorem dL_law_631 : decode cL_law 631 = .ok (.invokevirtual 99, 3) := by decide +kernel
theorem dL_law_634 : decode cL_law 634 = .ok (.if_icmp .eq 19, 3) := by decide +kernel
theorem dL_law_637 : decode cL_law 637 = .ok (.iconst 0, 1) := by decide +kernel
theorem dL_law_638 : decode cL_law 638 = .ok (.ireturn, 1) := by decide +kernel
theorem dL_law_639 : decode cL_law 639 = .ok (.aload_n 1, 1) := by decide +kernel
theorem dL_law_640 : decode cL_law 640 = .ok (.invokevirtual 100, 3) := by decide +kernel
theorem dL_law_643 : decode cL_law 643 = .ok (.aload_n 2, 1) := by decide +kernel
theorem dL_law_644 : decode cL_law 644 = .ok (.invokevirtual 104, 3) := by decide +kernel
theorem dL_law_647 : decode cL_law 647 = .ok (.lcmp, 1) := by decide +kernel
theorem dL_law_648 : decode cL_law 648 = .ok (.ifCond .eq 5, 3) := by decide +kernel
theorem dL_law_651 : decode cL_law 651 = .ok (.iconst 0, 1) := by decide +kernel
theorem dL_law_652 : decode cL_law 652 = .ok (.ireturn, 1) := by decide +kernel
theorem dL_law_653 : decode cL_law 653 = .ok (.iinc 3 3, 3) := by decide +kernel
theorem dL_law_656 : decode cL_law 656 = .ok (.goto (-638), 3) := by decide +kernel
theorem dL_law_659 : decode cL_law 659 = .ok (.iconst 1, 1) := by decide +kernel
theorem dL_law_660 : decode cL_law 660 = .ok (.ireturn, 1) := by decide +kernel
abbrev vwCl : List vw_C := [(RX0, TX0, 2), (RX1, TX1, 8), (RX2, TX2, 10), (RX3, TX3, 7), (RX4, TX4, 7), (RX5, TX5, 19)]
end
section
theorem zz_last : True := trivial
end
