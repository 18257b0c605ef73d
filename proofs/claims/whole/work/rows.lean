section
-- ===== PART A: goes FIRST, ahead of the names: the tables' words, and 'selects' of the private methods out of them =====
/-- a private method of a class that the tables say can be made, by its rows of tables_1 -/
def lw_okq (q : MethodName × Nat) : Prop := (q.1.cls ≠ "java/lang/invoke/MethodHandle" ∧ q.1.cls ≠ "java/lang/invoke/VarHandle") ∧ Cond.instantiable q.1.cls q.2 ∈ tables_1 ∧ Cond.privateMethod q.1 ∈ tables_1 ∧ Cond.instanceMethod q.1 ∈ tables_1
theorem lw_p0 : lw_okq (⟨"RopedHalls", "remember", "()V"⟩, 10) := ⟨⟨by decide +kernel, by decide +kernel⟩, List.mem_of_getElem? (i := 11) (by decide +kernel), List.mem_of_getElem? (i := 204) (by decide +kernel), List.mem_of_getElem? (i := 205) (by decide +kernel)⟩
theorem lw_p1 : lw_okq (⟨"RopedHalls", "recorded", "(I)LRopedHalls$Hall;"⟩, 10) := ⟨⟨by decide +kernel, by decide +kernel⟩, List.mem_of_getElem? (i := 11) (by decide +kernel), List.mem_of_getElem? (i := 208) (by decide +kernel), List.mem_of_getElem? (i := 209) (by decide +kernel)⟩
theorem lw_p2 : lw_okq (⟨"RopedHalls$Routes", "measureFrom", "(LRopedHalls$Hall;I)V"⟩, 6) := ⟨⟨by decide +kernel, by decide +kernel⟩, List.mem_of_getElem? (i := 90) (by decide +kernel), List.mem_of_getElem? (i := 277) (by decide +kernel), List.mem_of_getElem? (i := 278) (by decide +kernel)⟩
theorem lw_p3 : lw_okq (⟨"RopedHalls$Routes", "chooseGoal", "(LRopedHalls$Hall;I)I"⟩, 6) := ⟨⟨by decide +kernel, by decide +kernel⟩, List.mem_of_getElem? (i := 90) (by decide +kernel), List.mem_of_getElem? (i := 294) (by decide +kernel), List.mem_of_getElem? (i := 295) (by decide +kernel)⟩
theorem lw_p4 : lw_okq (⟨"RopedHalls$Routes", "chooseNext", "(LRopedHalls$Hall;I)I"⟩, 6) := ⟨⟨by decide +kernel, by decide +kernel⟩, List.mem_of_getElem? (i := 90) (by decide +kernel), List.mem_of_getElem? (i := 298) (by decide +kernel), List.mem_of_getElem? (i := 299) (by decide +kernel)⟩
theorem lw_p5 : lw_okq (⟨"RopedHalls$Routes", "orderTurns", "()V"⟩, 6) := ⟨⟨by decide +kernel, by decide +kernel⟩, List.mem_of_getElem? (i := 90) (by decide +kernel), List.mem_of_getElem? (i := 310) (by decide +kernel), List.mem_of_getElem? (i := 311) (by decide +kernel)⟩
theorem lw_p6 : lw_okq (⟨"RopedHalls$Pad", "codeAt", "(I)I"⟩, 2) := ⟨⟨by decide +kernel, by decide +kernel⟩, List.mem_of_getElem? (i := 147) (by decide +kernel), List.mem_of_getElem? (i := 332) (by decide +kernel), List.mem_of_getElem? (i := 333) (by decide +kernel)⟩
theorem lw_p7 : lw_okq (⟨"RopedHalls$Pad", "letCrowdIn", "(LRopedHalls$Hall;II)V"⟩, 2) := ⟨⟨by decide +kernel, by decide +kernel⟩, List.mem_of_getElem? (i := 147) (by decide +kernel), List.mem_of_getElem? (i := 346) (by decide +kernel), List.mem_of_getElem? (i := 347) (by decide +kernel)⟩
theorem lw_p8 : lw_okq (⟨"RopedHalls$Minute", "move", "(LRopedHalls$Hall;II)V"⟩, 1) := ⟨⟨by decide +kernel, by decide +kernel⟩, List.mem_of_getElem? (i := 115) (by decide +kernel), List.mem_of_getElem? (i := 381) (by decide +kernel), List.mem_of_getElem? (i := 382) (by decide +kernel)⟩
theorem lw_p9 : lw_okq (⟨"RopedHalls", "strandedNow", "()I"⟩, 10) := ⟨⟨by decide +kernel, by decide +kernel⟩, List.mem_of_getElem? (i := 11) (by decide +kernel), List.mem_of_getElem? (i := 420) (by decide +kernel), List.mem_of_getElem? (i := 421) (by decide +kernel)⟩
theorem lw_p10 : lw_okq (⟨"RopedHalls", "canHang", "(I)Z"⟩, 10) := ⟨⟨by decide +kernel, by decide +kernel⟩, List.mem_of_getElem? (i := 11) (by decide +kernel), List.mem_of_getElem? (i := 482) (by decide +kernel), List.mem_of_getElem? (i := 483) (by decide +kernel)⟩
theorem lw_p11 : lw_okq (⟨"RopedHallsModel", "lays", "(II)I"⟩, 16) := ⟨⟨by decide +kernel, by decide +kernel⟩, List.mem_of_getElem? (i := 525) (by decide +kernel), List.mem_of_getElem? (i := 587) (by decide +kernel), List.mem_of_getElem? (i := 588) (by decide +kernel)⟩
theorem lw_p12 : lw_okq (⟨"RopedHallsModel", "record", "()V"⟩, 16) := ⟨⟨by decide +kernel, by decide +kernel⟩, List.mem_of_getElem? (i := 525) (by decide +kernel), List.mem_of_getElem? (i := 591) (by decide +kernel), List.mem_of_getElem? (i := 592) (by decide +kernel)⟩
theorem lw_p13 : lw_okq (⟨"RopedHallsModel", "ropes", "()I"⟩, 16) := ⟨⟨by decide +kernel, by decide +kernel⟩, List.mem_of_getElem? (i := 525) (by decide +kernel), List.mem_of_getElem? (i := 611) (by decide +kernel), List.mem_of_getElem? (i := 612) (by decide +kernel)⟩
theorem lw_p14 : lw_okq (⟨"RopedHallsModel", "openDoors", "()I"⟩, 16) := ⟨⟨by decide +kernel, by decide +kernel⟩, List.mem_of_getElem? (i := 525) (by decide +kernel), List.mem_of_getElem? (i := 626) (by decide +kernel), List.mem_of_getElem? (i := 627) (by decide +kernel)⟩
theorem lw_p15 : lw_okq (⟨"RopedHallsModel", "layWays", "()V"⟩, 16) := ⟨⟨by decide +kernel, by decide +kernel⟩, List.mem_of_getElem? (i := 525) (by decide +kernel), List.mem_of_getElem? (i := 634) (by decide +kernel), List.mem_of_getElem? (i := 635) (by decide +kernel)⟩
def lw_privs_1 : List (MethodName × Nat) := [(⟨"RopedHalls", "remember", "()V"⟩, 10), (⟨"RopedHalls", "recorded", "(I)LRopedHalls$Hall;"⟩, 10), (⟨"RopedHalls$Routes", "measureFrom", "(LRopedHalls$Hall;I)V"⟩, 6), (⟨"RopedHalls$Routes", "chooseGoal", "(LRopedHalls$Hall;I)I"⟩, 6), (⟨"RopedHalls$Routes", "chooseNext", "(LRopedHalls$Hall;I)I"⟩, 6), (⟨"RopedHalls$Routes", "orderTurns", "()V"⟩, 6), (⟨"RopedHalls$Pad", "codeAt", "(I)I"⟩, 2), (⟨"RopedHalls$Pad", "letCrowdIn", "(LRopedHalls$Hall;II)V"⟩, 2), (⟨"RopedHalls$Minute", "move", "(LRopedHalls$Hall;II)V"⟩, 1), (⟨"RopedHalls", "strandedNow", "()I"⟩, 10), (⟨"RopedHalls", "canHang", "(I)Z"⟩, 10), (⟨"RopedHallsModel", "lays", "(II)I"⟩, 16), (⟨"RopedHallsModel", "record", "()V"⟩, 16), (⟨"RopedHallsModel", "ropes", "()I"⟩, 16), (⟨"RopedHallsModel", "openDoors", "()I"⟩, 16), (⟨"RopedHallsModel", "layWays", "()V"⟩, 16)]
theorem lw_r1 : ∀ q ∈ lw_privs_1, lw_okq q := List.forall_mem_cons.mpr ⟨lw_p0, List.forall_mem_cons.mpr ⟨lw_p1, List.forall_mem_cons.mpr ⟨lw_p2, List.forall_mem_cons.mpr ⟨lw_p3, List.forall_mem_cons.mpr ⟨lw_p4, List.forall_mem_cons.mpr ⟨lw_p5, List.forall_mem_cons.mpr ⟨lw_p6, List.forall_mem_cons.mpr ⟨lw_p7, List.forall_mem_cons.mpr ⟨lw_p8, List.forall_mem_cons.mpr ⟨lw_p9, List.forall_mem_cons.mpr ⟨lw_p10, List.forall_mem_cons.mpr ⟨lw_p11, List.forall_mem_cons.mpr ⟨lw_p12, List.forall_mem_cons.mpr ⟨lw_p13, List.forall_mem_cons.mpr ⟨lw_p14, List.forall_mem_cons.mpr ⟨lw_p15, fun _ h => absurd h List.not_mem_nil⟩⟩⟩⟩⟩⟩⟩⟩⟩⟩⟩⟩⟩⟩⟩⟩
theorem lw_p16 : lw_okq (⟨"RopedHallsModel", "layFar", "(I)V"⟩, 16) := ⟨⟨by decide +kernel, by decide +kernel⟩, List.mem_of_getElem? (i := 525) (by decide +kernel), List.mem_of_getElem? (i := 638) (by decide +kernel), List.mem_of_getElem? (i := 639) (by decide +kernel)⟩
theorem lw_p17 : lw_okq (⟨"RopedHallsModel", "isFree", "(II)Z"⟩, 16) := ⟨⟨by decide +kernel, by decide +kernel⟩, List.mem_of_getElem? (i := 525) (by decide +kernel), List.mem_of_getElem? (i := 642) (by decide +kernel), List.mem_of_getElem? (i := 643) (by decide +kernel)⟩
theorem lw_p18 : lw_okq (⟨"RopedHallsModel", "goalOf", "(I)I"⟩, 16) := ⟨⟨by decide +kernel, by decide +kernel⟩, List.mem_of_getElem? (i := 525) (by decide +kernel), List.mem_of_getElem? (i := 646) (by decide +kernel), List.mem_of_getElem? (i := 647) (by decide +kernel)⟩
theorem lw_p19 : lw_okq (⟨"RopedHallsModel", "leads", "(II)Z"⟩, 16) := ⟨⟨by decide +kernel, by decide +kernel⟩, List.mem_of_getElem? (i := 525) (by decide +kernel), List.mem_of_getElem? (i := 650) (by decide +kernel), List.mem_of_getElem? (i := 651) (by decide +kernel)⟩
theorem lw_p20 : lw_okq (⟨"RopedHallsModel", "nextOf", "(I)I"⟩, 16) := ⟨⟨by decide +kernel, by decide +kernel⟩, List.mem_of_getElem? (i := 525) (by decide +kernel), List.mem_of_getElem? (i := 654) (by decide +kernel), List.mem_of_getElem? (i := 655) (by decide +kernel)⟩
theorem lw_p21 : lw_okq (⟨"RopedHallsModel", "out", "()I"⟩, 16) := ⟨⟨by decide +kernel, by decide +kernel⟩, List.mem_of_getElem? (i := 525) (by decide +kernel), List.mem_of_getElem? (i := 666) (by decide +kernel), List.mem_of_getElem? (i := 667) (by decide +kernel)⟩
theorem lw_p22 : lw_okq (⟨"RopedHallsModel", "minute", "()V"⟩, 16) := ⟨⟨by decide +kernel, by decide +kernel⟩, List.mem_of_getElem? (i := 525) (by decide +kernel), List.mem_of_getElem? (i := 670) (by decide +kernel), List.mem_of_getElem? (i := 671) (by decide +kernel)⟩
theorem lw_p23 : lw_okq (⟨"RopedHallsModel", "letsOut", "(I)V"⟩, 16) := ⟨⟨by decide +kernel, by decide +kernel⟩, List.mem_of_getElem? (i := 525) (by decide +kernel), List.mem_of_getElem? (i := 674) (by decide +kernel), List.mem_of_getElem? (i := 675) (by decide +kernel)⟩
theorem lw_p24 : lw_okq (⟨"RopedHallsModel", "goes", "(I)V"⟩, 16) := ⟨⟨by decide +kernel, by decide +kernel⟩, List.mem_of_getElem? (i := 525) (by decide +kernel), List.mem_of_getElem? (i := 678) (by decide +kernel), List.mem_of_getElem? (i := 679) (by decide +kernel)⟩
theorem lw_p25 : lw_okq (⟨"RopedHallsModel", "ropesOf", "(I)I"⟩, 16) := ⟨⟨by decide +kernel, by decide +kernel⟩, List.mem_of_getElem? (i := 525) (by decide +kernel), List.mem_of_getElem? (i := 686) (by decide +kernel), List.mem_of_getElem? (i := 687) (by decide +kernel)⟩
theorem lw_p26 : lw_okq (⟨"RopedHallsModel", "hasRope", "(II)Z"⟩, 16) := ⟨⟨by decide +kernel, by decide +kernel⟩, List.mem_of_getElem? (i := 525) (by decide +kernel), List.mem_of_getElem? (i := 690) (by decide +kernel), List.mem_of_getElem? (i := 691) (by decide +kernel)⟩
theorem lw_p27 : lw_okq (⟨"RopedHallsModel", "goalOfMany", "(IZ)I"⟩, 16) := ⟨⟨by decide +kernel, by decide +kernel⟩, List.mem_of_getElem? (i := 525) (by decide +kernel), List.mem_of_getElem? (i := 698) (by decide +kernel), List.mem_of_getElem? (i := 699) (by decide +kernel)⟩
theorem lw_p28 : lw_okq (⟨"RopedHallsModel", "people", "()I"⟩, 16) := ⟨⟨by decide +kernel, by decide +kernel⟩, List.mem_of_getElem? (i := 525) (by decide +kernel), List.mem_of_getElem? (i := 706) (by decide +kernel), List.mem_of_getElem? (i := 707) (by decide +kernel)⟩
theorem lw_p29 : lw_okq (⟨"RopedHallsModel", "openSet", "()I"⟩, 16) := ⟨⟨by decide +kernel, by decide +kernel⟩, List.mem_of_getElem? (i := 525) (by decide +kernel), List.mem_of_getElem? (i := 710) (by decide +kernel), List.mem_of_getElem? (i := 711) (by decide +kernel)⟩
theorem lw_p30 : lw_okq (⟨"RopedHallsModel", "shutIn", "()I"⟩, 16) := ⟨⟨by decide +kernel, by decide +kernel⟩, List.mem_of_getElem? (i := 525) (by decide +kernel), List.mem_of_getElem? (i := 714) (by decide +kernel), List.mem_of_getElem? (i := 715) (by decide +kernel)⟩
theorem lw_p31 : lw_okq (⟨"RopedHallsModel", "uneven", "()I"⟩, 16) := ⟨⟨by decide +kernel, by decide +kernel⟩, List.mem_of_getElem? (i := 525) (by decide +kernel), List.mem_of_getElem? (i := 718) (by decide +kernel), List.mem_of_getElem? (i := 719) (by decide +kernel)⟩
def lw_privs_2 : List (MethodName × Nat) := [(⟨"RopedHallsModel", "layFar", "(I)V"⟩, 16), (⟨"RopedHallsModel", "isFree", "(II)Z"⟩, 16), (⟨"RopedHallsModel", "goalOf", "(I)I"⟩, 16), (⟨"RopedHallsModel", "leads", "(II)Z"⟩, 16), (⟨"RopedHallsModel", "nextOf", "(I)I"⟩, 16), (⟨"RopedHallsModel", "out", "()I"⟩, 16), (⟨"RopedHallsModel", "minute", "()V"⟩, 16), (⟨"RopedHallsModel", "letsOut", "(I)V"⟩, 16), (⟨"RopedHallsModel", "goes", "(I)V"⟩, 16), (⟨"RopedHallsModel", "ropesOf", "(I)I"⟩, 16), (⟨"RopedHallsModel", "hasRope", "(II)Z"⟩, 16), (⟨"RopedHallsModel", "goalOfMany", "(IZ)I"⟩, 16), (⟨"RopedHallsModel", "people", "()I"⟩, 16), (⟨"RopedHallsModel", "openSet", "()I"⟩, 16), (⟨"RopedHallsModel", "shutIn", "()I"⟩, 16), (⟨"RopedHallsModel", "uneven", "()I"⟩, 16)]
theorem lw_r2 : ∀ q ∈ lw_privs_2, lw_okq q := List.forall_mem_cons.mpr ⟨lw_p16, List.forall_mem_cons.mpr ⟨lw_p17, List.forall_mem_cons.mpr ⟨lw_p18, List.forall_mem_cons.mpr ⟨lw_p19, List.forall_mem_cons.mpr ⟨lw_p20, List.forall_mem_cons.mpr ⟨lw_p21, List.forall_mem_cons.mpr ⟨lw_p22, List.forall_mem_cons.mpr ⟨lw_p23, List.forall_mem_cons.mpr ⟨lw_p24, List.forall_mem_cons.mpr ⟨lw_p25, List.forall_mem_cons.mpr ⟨lw_p26, List.forall_mem_cons.mpr ⟨lw_p27, List.forall_mem_cons.mpr ⟨lw_p28, List.forall_mem_cons.mpr ⟨lw_p29, List.forall_mem_cons.mpr ⟨lw_p30, List.forall_mem_cons.mpr ⟨lw_p31, fun _ h => absurd h List.not_mem_nil⟩⟩⟩⟩⟩⟩⟩⟩⟩⟩⟩⟩⟩⟩⟩⟩
theorem lw_p32 : lw_okq (⟨"RopedHallsModel", "guards", "()I"⟩, 16) := ⟨⟨by decide +kernel, by decide +kernel⟩, List.mem_of_getElem? (i := 525) (by decide +kernel), List.mem_of_getElem? (i := 722) (by decide +kernel), List.mem_of_getElem? (i := 723) (by decide +kernel)⟩
theorem lw_p33 : lw_okq (⟨"RopedHallsModel", "putAside", "()V"⟩, 16) := ⟨⟨by decide +kernel, by decide +kernel⟩, List.mem_of_getElem? (i := 525) (by decide +kernel), List.mem_of_getElem? (i := 734) (by decide +kernel), List.mem_of_getElem? (i := 735) (by decide +kernel)⟩
theorem lw_p34 : lw_okq (⟨"RopedHallsModel", "emptied", "()I"⟩, 16) := ⟨⟨by decide +kernel, by decide +kernel⟩, List.mem_of_getElem? (i := 525) (by decide +kernel), List.mem_of_getElem? (i := 738) (by decide +kernel), List.mem_of_getElem? (i := 739) (by decide +kernel)⟩
theorem lw_p35 : lw_okq (⟨"RopedHallsModel", "putBack", "()V"⟩, 16) := ⟨⟨by decide +kernel, by decide +kernel⟩, List.mem_of_getElem? (i := 525) (by decide +kernel), List.mem_of_getElem? (i := 742) (by decide +kernel), List.mem_of_getElem? (i := 743) (by decide +kernel)⟩
theorem lw_p36 : lw_okq (⟨"RopedHallsModel", "tries", "(II)V"⟩, 16) := ⟨⟨by decide +kernel, by decide +kernel⟩, List.mem_of_getElem? (i := 525) (by decide +kernel), List.mem_of_getElem? (i := 750) (by decide +kernel), List.mem_of_getElem? (i := 751) (by decide +kernel)⟩
theorem lw_p37 : lw_okq (⟨"RopedHallsModel", "reads", "(Z)I"⟩, 16) := ⟨⟨by decide +kernel, by decide +kernel⟩, List.mem_of_getElem? (i := 525) (by decide +kernel), List.mem_of_getElem? (i := 775) (by decide +kernel), List.mem_of_getElem? (i := 776) (by decide +kernel)⟩
theorem lw_p38 : lw_okq (⟨"RopedHallsModel", "takes", "(II)I"⟩, 16) := ⟨⟨by decide +kernel, by decide +kernel⟩, List.mem_of_getElem? (i := 525) (by decide +kernel), List.mem_of_getElem? (i := 779) (by decide +kernel), List.mem_of_getElem? (i := 780) (by decide +kernel)⟩
theorem lw_p39 : lw_okq (⟨"RopedHallsModel", "takesMany", "()I"⟩, 16) := ⟨⟨by decide +kernel, by decide +kernel⟩, List.mem_of_getElem? (i := 525) (by decide +kernel), List.mem_of_getElem? (i := 783) (by decide +kernel), List.mem_of_getElem? (i := 784) (by decide +kernel)⟩
theorem lw_p40 : lw_okq (⟨"RopedHallsModel", "isNext", "(II)Z"⟩, 16) := ⟨⟨by decide +kernel, by decide +kernel⟩, List.mem_of_getElem? (i := 525) (by decide +kernel), List.mem_of_getElem? (i := 787) (by decide +kernel), List.mem_of_getElem? (i := 788) (by decide +kernel)⟩
def lw_privs_3 : List (MethodName × Nat) := [(⟨"RopedHallsModel", "guards", "()I"⟩, 16), (⟨"RopedHallsModel", "putAside", "()V"⟩, 16), (⟨"RopedHallsModel", "emptied", "()I"⟩, 16), (⟨"RopedHallsModel", "putBack", "()V"⟩, 16), (⟨"RopedHallsModel", "tries", "(II)V"⟩, 16), (⟨"RopedHallsModel", "reads", "(Z)I"⟩, 16), (⟨"RopedHallsModel", "takes", "(II)I"⟩, 16), (⟨"RopedHallsModel", "takesMany", "()I"⟩, 16), (⟨"RopedHallsModel", "isNext", "(II)Z"⟩, 16)]
theorem lw_r3 : ∀ q ∈ lw_privs_3, lw_okq q := List.forall_mem_cons.mpr ⟨lw_p32, List.forall_mem_cons.mpr ⟨lw_p33, List.forall_mem_cons.mpr ⟨lw_p34, List.forall_mem_cons.mpr ⟨lw_p35, List.forall_mem_cons.mpr ⟨lw_p36, List.forall_mem_cons.mpr ⟨lw_p37, List.forall_mem_cons.mpr ⟨lw_p38, List.forall_mem_cons.mpr ⟨lw_p39, List.forall_mem_cons.mpr ⟨lw_p40, fun _ h => absurd h List.not_mem_nil⟩⟩⟩⟩⟩⟩⟩⟩⟩
def lw_privs : List (MethodName × Nat) := lw_privs_1 ++ (lw_privs_2 ++ (lw_privs_3))
def lw_tbl : List Cond := k2_sels lw_privs ++ tables_1
theorem lw_privs_ok : ∀ q ∈ lw_privs, lw_okq q := by
  show ∀ q ∈ lw_privs_1 ++ (lw_privs_2 ++ (lw_privs_3)), lw_okq q
  exact List.forall_mem_append.mpr ⟨lw_r1, List.forall_mem_append.mpr ⟨lw_r2, lw_r3⟩⟩
-- ===== end of PART A; then your names; then what follows =====
end
section
/-! ===== BEGIN words of one list among another's, by their places ===== -/
theorem goodIn_r {big : List Cond} (ws : List Cond) (ps : List Nat) (hp : ws = ps.filterMap (fun i => big[i]?)) (h : ws.all goodWord = true) : GoodIn big ws := by
  intro w hw
  have h1 := List.all_eq_true.mp h w hw
  rw [hp] at hw
  obtain ⟨i, -, hi⟩ := List.mem_filterMap.mp hw
  have hm : w ∈ big := by first | exact List.mem_of_getElem? hi | exact List.getElem?_mem hi
  exact ⟨hm, good_of_word h1⟩
theorem goodIn_app {big a b : List Cond} (ha : GoodIn big a) (hb : GoodIn big b) : GoodIn big (a ++ b) := fun w h => (List.mem_append.mp h).elim (ha w) (hb w)
theorem goodIn_ca {big a b : List Cond} {c : Cond} (ha : GoodIn big (c :: a)) (hb : GoodIn big b) : GoodIn big (c :: (a ++ b)) := fun w h => (List.mem_cons.mp h).elim (fun e => ha w (List.mem_cons.mpr (Or.inl e))) (fun h => (List.mem_append.mp h).elim (fun h => ha w (List.mem_cons.mpr (Or.inr h))) (hb w))
theorem goodIn_sub {big ws : List Cond} (hm : ∀ w ∈ ws, w ∈ big) (h : ws.all goodWord = true) : GoodIn big ws := fun w hw => ⟨hm w hw, good_of_word (List.all_eq_true.mp h w hw)⟩
/-! ===== END ===== -/

/-! ===== BEGIN printed: names, fields, word lists, decode rows ===== -/
def RX0 : String := "RopedHalls$Forecast"
def TX0 : u_T := fun k => match k with
  | 0 => ("RopedHalls$Forecast", "trial", "LRopedHalls$Hall;", true)
  | 1 => ("RopedHalls$Forecast", "routes", "LRopedHalls$Routes;", true)
  | _ => ("RopedHalls$Forecast", "minute", "LRopedHalls$Minute;", true)
def tyX0 : Nat → FieldType := fun k => match k with
  | 0 => .object "RopedHalls$Hall"
  | 1 => .object "RopedHalls$Routes"
  | _ => .object "RopedHalls$Minute"
abbrev wsX00 : List Cond := u_ws RX0 TX0 3
theorem nmX0 : ∀ a, a < 3 → ∀ b, b < 3 → a ≠ b → (TX0 a).2.1 ≠ (TX0 b).2.1 := by decide +kernel
theorem tyX0_ok : ∀ k, k < 3 → parseFieldDescriptor (TX0 k).2.2.1 = some (tyX0 k) := by decide +kernel
abbrev cX0_init : ByteArray := prog_2_method_1_code
def yX0_init : MethodName := ⟨RX0, "<init>", "()V"⟩
abbrev cX0_startFrom : ByteArray := prog_2_method_2_code
def yX0_startFrom : MethodName := ⟨RX0, "startFrom", "(LRopedHalls$Hall;)V"⟩
abbrev cX0_startWithRopeTurned : ByteArray := prog_2_method_3_code
def yX0_startWithRopeTurned : MethodName := ⟨RX0, "startWithRopeTurned", "(LRopedHalls$Hall;I)V"⟩
abbrev cX0_runUntilOut : ByteArray := prog_2_method_4_code
def yX0_runUntilOut : MethodName := ⟨RX0, "runUntilOut", "()I"⟩
abbrev cX0_stranded : ByteArray := prog_2_method_5_code
def yX0_stranded : MethodName := ⟨RX0, "stranded", "()I"⟩
abbrev cX0_unevenness : ByteArray := prog_2_method_6_code
def yX0_unevenness : MethodName := ⟨RX0, "unevenness", "()I"⟩
abbrev cX0_waited : ByteArray := prog_2_method_7_code
def yX0_waited : MethodName := ⟨RX0, "waited", "()I"⟩
def RX1 : String := "RopedHalls$Hall"
def TX1 : u_T := fun k => match k with
  | 0 => ("RopedHalls$Hall", "room", "I", false)
  | 1 => ("RopedHalls$Hall", "minutes", "I", false)
  | 2 => ("RopedHalls$Hall", "cameIn", "I", false)
  | 3 => ("RopedHalls$Hall", "waited", "I", false)
  | 4 => ("RopedHalls$Hall", "jams", "I", false)
  | 5 => ("RopedHalls$Hall", "people", "[I", true)
  | 6 => ("RopedHalls$Hall", "guards", "[I", true)
  | 7 => ("RopedHalls$Hall", "ropes", "[Z", true)
  | 8 => ("RopedHalls$Hall", "doorCell", "[I", true)
  | 9 => ("RopedHalls$Hall", "doorRate", "[I", true)
  | 10 => ("RopedHalls$Hall", "doorOpen", "[Z", true)
  | _ => ("RopedHalls$Hall", "doorOut", "[I", true)
def tyX1 : Nat → FieldType := fun k => match k with
  | 0 => .int
  | 1 => .int
  | 2 => .int
  | 3 => .int
  | 4 => .int
  | 5 => .array .int
  | 6 => .array .int
  | 7 => .array .boolean
  | 8 => .array .int
  | 9 => .array .int
  | 10 => .array .boolean
  | _ => .array .int
abbrev wsX10 : List Cond := u_ws RX1 TX1 12
theorem nmX1 : ∀ a, a < 12 → ∀ b, b < 12 → a ≠ b → (TX1 a).2.1 ≠ (TX1 b).2.1 := by decide +kernel
theorem tyX1_ok : ∀ k, k < 12 → parseFieldDescriptor (TX1 k).2.2.1 = some (tyX1 k) := by decide +kernel
abbrev cX1_init : ByteArray := prog_3_method_1_code
def yX1_init : MethodName := ⟨RX1, "<init>", "()V"⟩
abbrev cX1_copyFrom : ByteArray := prog_3_method_2_code
def yX1_copyFrom : MethodName := ⟨RX1, "copyFrom", "(LRopedHalls$Hall;)V"⟩
abbrev cX1_letIn : ByteArray := prog_3_method_3_code
def yX1_letIn : MethodName := ⟨RX1, "letIn", "(II)V"⟩
abbrev cX1_roomIn : ByteArray := prog_3_method_4_code
def yX1_roomIn : MethodName := ⟨RX1, "roomIn", "(I)I"⟩
abbrev cX1_fullestCell : ByteArray := prog_3_method_5_code
def yX1_fullestCell : MethodName := ⟨RX1, "fullestCell", "()I"⟩
abbrev cX1_peopleInside : ByteArray := prog_3_method_6_code
def yX1_peopleInside : MethodName := ⟨RX1, "peopleInside", "()I"⟩
abbrev cX1_peopleOut : ByteArray := prog_3_method_7_code
def yX1_peopleOut : MethodName := ⟨RX1, "peopleOut", "()I"⟩
abbrev cX1_ropeCount : ByteArray := prog_3_method_8_code
def yX1_ropeCount : MethodName := ⟨RX1, "ropeCount", "()I"⟩
abbrev cX1_guardCount : ByteArray := prog_3_method_9_code
def yX1_guardCount : MethodName := ⟨RX1, "guardCount", "()I"⟩
abbrev cX1_openDoors : ByteArray := prog_3_method_10_code
def yX1_openDoors : MethodName := ⟨RX1, "openDoors", "()I"⟩
abbrev cX1_unevenness : ByteArray := prog_3_method_11_code
def yX1_unevenness : MethodName := ⟨RX1, "unevenness", "()I"⟩
abbrev cX1_ropesAround : ByteArray := prog_3_method_12_code
def yX1_ropesAround : MethodName := ⟨RX1, "ropesAround", "(I)I"⟩
abbrev cX1_stepFrom : ByteArray := prog_3_method_13_code
def yX1_stepFrom : MethodName := ⟨RX1, "stepFrom", "(II)I"⟩
def RX2 : String := "RopedHalls$Minute"
def TX2 : u_T := fun k => match k with
  | _ => ("RopedHalls$Minute", "arrived", "[I", true)
def tyX2 : Nat → FieldType := fun k => match k with
  | _ => .array .int
abbrev wsX20 : List Cond := u_ws RX2 TX2 1
theorem nmX2 : ∀ a, a < 1 → ∀ b, b < 1 → a ≠ b → (TX2 a).2.1 ≠ (TX2 b).2.1 := by decide +kernel
theorem tyX2_ok : ∀ k, k < 1 → parseFieldDescriptor (TX2 k).2.2.1 = some (tyX2 k) := by decide +kernel
abbrev cX2_init : ByteArray := prog_4_method_1_code
def yX2_init : MethodName := ⟨RX2, "<init>", "()V"⟩
abbrev cX2_run : ByteArray := prog_4_method_2_code
def yX2_run : MethodName := ⟨RX2, "run", "(LRopedHalls$Hall;LRopedHalls$Routes;)I"⟩
abbrev cX2_letOut : ByteArray := prog_4_method_3_code
def yX2_letOut : MethodName := ⟨RX2, "letOut", "(LRopedHalls$Hall;I)I"⟩
abbrev cX2_move : ByteArray := prog_4_method_4_code
def yX2_move : MethodName := ⟨RX2, "move", "(LRopedHalls$Hall;II)V"⟩
def RX3 : String := "RopedHalls$Pad"
def TX3 : u_T := fun k => match k with
  | 0 => ("RopedHalls$Pad", "length", "I", false)
  | _ => ("RopedHalls$Pad", "codes", "[I", true)
def tyX3 : Nat → FieldType := fun k => match k with
  | 0 => .int
  | _ => .array .int
abbrev wsX30 : List Cond := u_ws RX3 TX3 2
theorem nmX3 : ∀ a, a < 2 → ∀ b, b < 2 → a ≠ b → (TX3 a).2.1 ≠ (TX3 b).2.1 := by decide +kernel
theorem tyX3_ok : ∀ k, k < 2 → parseFieldDescriptor (TX3 k).2.2.1 = some (tyX3 k) := by decide +kernel
abbrev cX3_init : ByteArray := prog_5_method_1_code
def yX3_init : MethodName := ⟨RX3, "<init>", "()V"⟩
abbrev cX3_append : ByteArray := prog_5_method_2_code
def yX3_append : MethodName := ⟨RX3, "append", "(I)V"⟩
abbrev cX3_firstFault : ByteArray := prog_5_method_3_code
def yX3_firstFault : MethodName := ⟨RX3, "firstFault", "()I"⟩
abbrev cX3_letCrowdsIn : ByteArray := prog_5_method_4_code
def yX3_letCrowdsIn : MethodName := ⟨RX3, "letCrowdsIn", "(LRopedHalls$Hall;)V"⟩
abbrev cX3_letCrowdIn : ByteArray := prog_5_method_5_code
def yX3_letCrowdIn : MethodName := ⟨RX3, "letCrowdIn", "(LRopedHalls$Hall;II)V"⟩
abbrev cX3_codeAt : ByteArray := prog_5_method_6_code
def yX3_codeAt : MethodName := ⟨RX3, "codeAt", "(I)I"⟩
abbrev cX3_placeBehind : ByteArray := prog_5_method_7_code
def yX3_placeBehind : MethodName := ⟨RX3, "placeBehind", "(II)I"⟩
abbrev cX3_placeBehindFirstDigit : ByteArray := prog_5_method_8_code
def yX3_placeBehindFirstDigit : MethodName := ⟨RX3, "placeBehindFirstDigit", "(I)I"⟩
def RX4 : String := "RopedHalls$Routes"
def TX4 : u_T := fun k => match k with
  | 0 => ("RopedHalls$Routes", "steps", "[I", true)
  | 1 => ("RopedHalls$Routes", "queue", "[I", true)
  | 2 => ("RopedHalls$Routes", "goals", "[I", true)
  | 3 => ("RopedHalls$Routes", "nexts", "[I", true)
  | 4 => ("RopedHalls$Routes", "turns", "[I", true)
  | _ => ("RopedHalls$Routes", "turnCount", "I", false)
def tyX4 : Nat → FieldType := fun k => match k with
  | 0 => .array .int
  | 1 => .array .int
  | 2 => .array .int
  | 3 => .array .int
  | 4 => .array .int
  | _ => .int
abbrev wsX40 : List Cond := u_ws RX4 TX4 6
theorem nmX4 : ∀ a, a < 6 → ∀ b, b < 6 → a ≠ b → (TX4 a).2.1 ≠ (TX4 b).2.1 := by decide +kernel
theorem tyX4_ok : ∀ k, k < 6 → parseFieldDescriptor (TX4 k).2.2.1 = some (tyX4 k) := by decide +kernel
abbrev cX4_init : ByteArray := prog_6_method_1_code
def yX4_init : MethodName := ⟨RX4, "<init>", "()V"⟩
abbrev cX4_find : ByteArray := prog_6_method_2_code
def yX4_find : MethodName := ⟨RX4, "find", "(LRopedHalls$Hall;)V"⟩
abbrev cX4_stepsTo : ByteArray := prog_6_method_3_code
def yX4_stepsTo : MethodName := ⟨RX4, "stepsTo", "(II)I"⟩
abbrev cX4_goalOf : ByteArray := prog_6_method_4_code
def yX4_goalOf : MethodName := ⟨RX4, "goalOf", "(I)I"⟩
abbrev cX4_nextOf : ByteArray := prog_6_method_5_code
def yX4_nextOf : MethodName := ⟨RX4, "nextOf", "(I)I"⟩
abbrev cX4_stepsToGoal : ByteArray := prog_6_method_6_code
def yX4_stepsToGoal : MethodName := ⟨RX4, "stepsToGoal", "(I)I"⟩
abbrev cX4_turnsAMinute : ByteArray := prog_6_method_7_code
def yX4_turnsAMinute : MethodName := ⟨RX4, "turnsAMinute", "()I"⟩
abbrev cX4_cellAtTurn : ByteArray := prog_6_method_8_code
def yX4_cellAtTurn : MethodName := ⟨RX4, "cellAtTurn", "(I)I"⟩
abbrev cX4_cellsWithGoal : ByteArray := prog_6_method_9_code
def yX4_cellsWithGoal : MethodName := ⟨RX4, "cellsWithGoal", "(I)I"⟩
abbrev cX4_peopleWithGoal : ByteArray := prog_6_method_10_code
def yX4_peopleWithGoal : MethodName := ⟨RX4, "peopleWithGoal", "(LRopedHalls$Hall;I)I"⟩
abbrev cX4_stranded : ByteArray := prog_6_method_11_code
def yX4_stranded : MethodName := ⟨RX4, "stranded", "(LRopedHalls$Hall;)I"⟩
abbrev cX4_measureFrom : ByteArray := prog_6_method_12_code
def yX4_measureFrom : MethodName := ⟨RX4, "measureFrom", "(LRopedHalls$Hall;I)V"⟩
abbrev cX4_chooseGoal : ByteArray := prog_6_method_13_code
def yX4_chooseGoal : MethodName := ⟨RX4, "chooseGoal", "(LRopedHalls$Hall;I)I"⟩
abbrev cX4_chooseNext : ByteArray := prog_6_method_14_code
def yX4_chooseNext : MethodName := ⟨RX4, "chooseNext", "(LRopedHalls$Hall;I)I"⟩
abbrev cX4_orderTurns : ByteArray := prog_6_method_15_code
def yX4_orderTurns : MethodName := ⟨RX4, "orderTurns", "()V"⟩
def RX5 : String := "RopedHalls"
def TX5 : u_T := fun k => match k with
  | 0 => ("RopedHalls", "hall", "LRopedHalls$Hall;", true)
  | 1 => ("RopedHalls", "routes", "LRopedHalls$Routes;", true)
  | 2 => ("RopedHalls", "minute", "LRopedHalls$Minute;", true)
  | 3 => ("RopedHalls", "forecast", "LRopedHalls$Forecast;", true)
  | 4 => ("RopedHalls", "pad", "LRopedHalls$Pad;", true)
  | 5 => ("RopedHalls", "history", "[LRopedHalls$Hall;", true)
  | 6 => ("RopedHalls", "slots", "[LRopedHalls$Hall;", true)
  | 7 => ("RopedHalls", "isSaved", "[Z", true)
  | 8 => ("RopedHalls", "changes", "I", false)
  | _ => ("RopedHalls", "newest", "I", false)
def tyX5 : Nat → FieldType := fun k => match k with
  | 0 => .object "RopedHalls$Hall"
  | 1 => .object "RopedHalls$Routes"
  | 2 => .object "RopedHalls$Minute"
  | 3 => .object "RopedHalls$Forecast"
  | 4 => .object "RopedHalls$Pad"
  | 5 => .array (.object "RopedHalls$Hall")
  | 6 => .array (.object "RopedHalls$Hall")
  | 7 => .array .boolean
  | 8 => .int
  | _ => .int
abbrev wsX50 : List Cond := u_ws RX5 TX5 10
theorem nmX5 : ∀ a, a < 10 → ∀ b, b < 10 → a ≠ b → (TX5 a).2.1 ≠ (TX5 b).2.1 := by decide +kernel
theorem tyX5_ok : ∀ k, k < 10 → parseFieldDescriptor (TX5 k).2.2.1 = some (tyX5 k) := by decide +kernel
abbrev cX5_init : ByteArray := prog_1_method_1_code
def yX5_init : MethodName := ⟨RX5, "<init>", "()V"⟩
abbrev cX5_setRoom : ByteArray := prog_1_method_2_code
def yX5_setRoom : MethodName := ⟨RX5, "setRoom", "(I)I"⟩
abbrev cX5_rope : ByteArray := prog_1_method_3_code
def yX5_rope : MethodName := ⟨RX5, "rope", "(IIZ)I"⟩
abbrev cX5_door : ByteArray := prog_1_method_4_code
def yX5_door : MethodName := ⟨RX5, "door", "(III)I"⟩
abbrev cX5_open : ByteArray := prog_1_method_5_code
def yX5_open : MethodName := ⟨RX5, "open", "(IZ)I"⟩
abbrev cX5_guard : ByteArray := prog_1_method_6_code
def yX5_guard : MethodName := ⟨RX5, "guard", "(II)I"⟩
abbrev cX5_enter : ByteArray := prog_1_method_7_code
def yX5_enter : MethodName := ⟨RX5, "enter", "(II)I"⟩
abbrev cX5_read : ByteArray := prog_1_method_8_code
def yX5_read : MethodName := ⟨RX5, "read", "()I"⟩
abbrev cX5_pass : ByteArray := prog_1_method_9_code
def yX5_pass : MethodName := ⟨RX5, "pass", "(I)I"⟩
abbrev cX5_cell : ByteArray := prog_1_method_10_code
def yX5_cell : MethodName := ⟨RX5, "cell", "(II)I"⟩
abbrev cX5_doorOf : ByteArray := prog_1_method_11_code
def yX5_doorOf : MethodName := ⟨RX5, "doorOf", "(II)I"⟩
abbrev cX5_count : ByteArray := prog_1_method_12_code
def yX5_count : MethodName := ⟨RX5, "count", "(I)I"⟩
abbrev cX5_distance : ByteArray := prog_1_method_13_code
def yX5_distance : MethodName := ⟨RX5, "distance", "(II)I"⟩
abbrev cX5_untilOut : ByteArray := prog_1_method_14_code
def yX5_untilOut : MethodName := ⟨RX5, "untilOut", "()I"⟩
abbrev cX5_ifRope : ByteArray := prog_1_method_15_code
def yX5_ifRope : MethodName := ⟨RX5, "ifRope", "(III)I"⟩
abbrev cX5_bestRope : ByteArray := prog_1_method_16_code
def yX5_bestRope : MethodName := ⟨RX5, "bestRope", "(I)I"⟩
abbrev cX5_waiting : ByteArray := prog_1_method_17_code
def yX5_waiting : MethodName := ⟨RX5, "waiting", "()I"⟩
abbrev cX5_put : ByteArray := prog_1_method_18_code
def yX5_put : MethodName := ⟨RX5, "put", "(J)I"⟩
abbrev cX5_wipe : ByteArray := prog_1_method_19_code
def yX5_wipe : MethodName := ⟨RX5, "wipe", "()I"⟩
abbrev cX5_fault : ByteArray := prog_1_method_20_code
def yX5_fault : MethodName := ⟨RX5, "fault", "()I"⟩
abbrev cX5_undo : ByteArray := prog_1_method_21_code
def yX5_undo : MethodName := ⟨RX5, "undo", "()I"⟩
abbrev cX5_save : ByteArray := prog_1_method_22_code
def yX5_save : MethodName := ⟨RX5, "save", "(I)I"⟩
abbrev cX5_restore : ByteArray := prog_1_method_23_code
def yX5_restore : MethodName := ⟨RX5, "restore", "(I)I"⟩
abbrev cX5_remember : ByteArray := prog_1_method_24_code
def yX5_remember : MethodName := ⟨RX5, "remember", "()V"⟩
abbrev cX5_recorded : ByteArray := prog_1_method_25_code
def yX5_recorded : MethodName := ⟨RX5, "recorded", "(I)LRopedHalls$Hall;"⟩
abbrev cX5_strandedNow : ByteArray := prog_1_method_26_code
def yX5_strandedNow : MethodName := ⟨RX5, "strandedNow", "()I"⟩
abbrev cX5_canHang : ByteArray := prog_1_method_27_code
def yX5_canHang : MethodName := ⟨RX5, "canHang", "(I)Z"⟩
abbrev cX5_copyHall : ByteArray := prog_1_method_28_code
def yX5_copyHall : MethodName := ⟨RX5, "copyHall", "(LRopedHalls$Hall;LRopedHalls$Hall;)V"⟩
abbrev cX5_isCell : ByteArray := prog_1_method_29_code
def yX5_isCell : MethodName := ⟨RX5, "isCell", "(I)Z"⟩
abbrev cX5_isDoor : ByteArray := prog_1_method_30_code
def yX5_isDoor : MethodName := ⟨RX5, "isDoor", "(I)Z"⟩
abbrev cX5_isSide : ByteArray := prog_1_method_31_code
def yX5_isSide : MethodName := ⟨RX5, "isSide", "(I)Z"⟩
abbrev cX5_isEdge : ByteArray := prog_1_method_32_code
def yX5_isEdge : MethodName := ⟨RX5, "isEdge", "(I)Z"⟩
abbrev cX5_beside : ByteArray := prog_1_method_33_code
def yX5_beside : MethodName := ⟨RX5, "beside", "(II)I"⟩
abbrev cX5_edgeTowards : ByteArray := prog_1_method_34_code
def yX5_edgeTowards : MethodName := ⟨RX5, "edgeTowards", "(II)I"⟩
abbrev cX5_edgeAt : ByteArray := prog_1_method_35_code
def yX5_edgeAt : MethodName := ⟨RX5, "edgeAt", "(II)I"⟩
abbrev cX5_charactersIn : ByteArray := prog_1_method_36_code
def yX5_charactersIn : MethodName := ⟨RX5, "charactersIn", "(J)I"⟩
def RX6 : String := "RopedHallsModel"
def TX6 : u_T := fun k => match k with
  | 0 => ("RopedHallsModel", "s", "[I", true)
  | 1 => ("RopedHallsModel", "aside", "[I", true)
  | 2 => ("RopedHallsModel", "history", "[I", true)
  | 3 => ("RopedHallsModel", "kept", "I", false)
  | 4 => ("RopedHallsModel", "slots", "[I", true)
  | 5 => ("RopedHallsModel", "isSaved", "[Z", true)
  | 6 => ("RopedHallsModel", "pad", "[I", true)
  | 7 => ("RopedHallsModel", "length", "I", false)
  | 8 => ("RopedHallsModel", "far", "[I", true)
  | 9 => ("RopedHallsModel", "goals", "[I", true)
  | 10 => ("RopedHallsModel", "steps", "[I", true)
  | 11 => ("RopedHallsModel", "nexts", "[I", true)
  | 12 => ("RopedHallsModel", "fresh", "[I", true)
  | 13 => ("RopedHallsModel", "tried", "[I", true)
  | 14 => ("RopedHallsModel", "position", "I", false)
  | _ => ("RopedHallsModel", "isWrong", "Z", false)
def tyX6 : Nat → FieldType := fun k => match k with
  | 0 => .array .int
  | 1 => .array .int
  | 2 => .array .int
  | 3 => .int
  | 4 => .array .int
  | 5 => .array .boolean
  | 6 => .array .int
  | 7 => .int
  | 8 => .array .int
  | 9 => .array .int
  | 10 => .array .int
  | 11 => .array .int
  | 12 => .array .int
  | 13 => .array .int
  | 14 => .int
  | _ => .boolean
abbrev wsX60 : List Cond := u_ws RX6 TX6 16
theorem nmX6 : ∀ a, a < 16 → ∀ b, b < 16 → a ≠ b → (TX6 a).2.1 ≠ (TX6 b).2.1 := by decide +kernel
theorem tyX6_ok : ∀ k, k < 16 → parseFieldDescriptor (TX6 k).2.2.1 = some (tyX6 k) := by decide +kernel
abbrev cX6_init : ByteArray := prog_8_method_1_code
def yX6_init : MethodName := ⟨RX6, "<init>", "()V"⟩
abbrev cX6_in : ByteArray := prog_8_method_3_code
def yX6_in : MethodName := ⟨RX6, "in", "(III)Z"⟩
abbrev cX6_isCell : ByteArray := prog_8_method_4_code
def yX6_isCell : MethodName := ⟨RX6, "isCell", "(I)Z"⟩
abbrev cX6_isDoor : ByteArray := prog_8_method_5_code
def yX6_isDoor : MethodName := ⟨RX6, "isDoor", "(I)Z"⟩
abbrev cX6_record : ByteArray := prog_8_method_6_code
def yX6_record : MethodName := ⟨RX6, "record", "()V"⟩
abbrev cX6_putAside : ByteArray := prog_8_method_7_code
def yX6_putAside : MethodName := ⟨RX6, "putAside", "()V"⟩
abbrev cX6_putBack : ByteArray := prog_8_method_8_code
def yX6_putBack : MethodName := ⟨RX6, "putBack", "()V"⟩
abbrev cX6_beside : ByteArray := prog_8_method_9_code
def yX6_beside : MethodName := ⟨RX6, "beside", "(II)I"⟩
abbrev cX6_ropeAt : ByteArray := prog_8_method_10_code
def yX6_ropeAt : MethodName := ⟨RX6, "ropeAt", "(II)I"⟩
abbrev cX6_isFree : ByteArray := prog_8_method_11_code
def yX6_isFree : MethodName := ⟨RX6, "isFree", "(II)Z"⟩
abbrev cX6_hasRope : ByteArray := prog_8_method_12_code
def yX6_hasRope : MethodName := ⟨RX6, "hasRope", "(II)Z"⟩
abbrev cX6_layFar : ByteArray := prog_8_method_13_code
def yX6_layFar : MethodName := ⟨RX6, "layFar", "(I)V"⟩
abbrev cX6_leads : ByteArray := prog_8_method_14_code
def yX6_leads : MethodName := ⟨RX6, "leads", "(II)Z"⟩
abbrev cX6_goalOf : ByteArray := prog_8_method_15_code
def yX6_goalOf : MethodName := ⟨RX6, "goalOf", "(I)I"⟩
abbrev cX6_nextOf : ByteArray := prog_8_method_16_code
def yX6_nextOf : MethodName := ⟨RX6, "nextOf", "(I)I"⟩
abbrev cX6_layWays : ByteArray := prog_8_method_17_code
def yX6_layWays : MethodName := ⟨RX6, "layWays", "()V"⟩
abbrev cX6_letsOut : ByteArray := prog_8_method_18_code
def yX6_letsOut : MethodName := ⟨RX6, "letsOut", "(I)V"⟩
abbrev cX6_goes : ByteArray := prog_8_method_19_code
def yX6_goes : MethodName := ⟨RX6, "goes", "(I)V"⟩
abbrev cX6_minute : ByteArray := prog_8_method_20_code
def yX6_minute : MethodName := ⟨RX6, "minute", "()V"⟩
abbrev cX6_people : ByteArray := prog_8_method_21_code
def yX6_people : MethodName := ⟨RX6, "people", "()I"⟩
abbrev cX6_out : ByteArray := prog_8_method_22_code
def yX6_out : MethodName := ⟨RX6, "out", "()I"⟩
abbrev cX6_shutIn : ByteArray := prog_8_method_23_code
def yX6_shutIn : MethodName := ⟨RX6, "shutIn", "()I"⟩
abbrev cX6_emptied : ByteArray := prog_8_method_24_code
def yX6_emptied : MethodName := ⟨RX6, "emptied", "()I"⟩
abbrev cX6_lays : ByteArray := prog_8_method_25_code
def yX6_lays : MethodName := ⟨RX6, "lays", "(II)I"⟩
abbrev cX6_setRoom : ByteArray := prog_8_method_26_code
def yX6_setRoom : MethodName := ⟨RX6, "setRoom", "(I)I"⟩
abbrev cX6_ropes : ByteArray := prog_8_method_27_code
def yX6_ropes : MethodName := ⟨RX6, "ropes", "()I"⟩
abbrev cX6_isEdge : ByteArray := prog_8_method_28_code
def yX6_isEdge : MethodName := ⟨RX6, "isEdge", "(II)Z"⟩
abbrev cX6_rope : ByteArray := prog_8_method_29_code
def yX6_rope : MethodName := ⟨RX6, "rope", "(IIZ)I"⟩
abbrev cX6_door : ByteArray := prog_8_method_30_code
def yX6_door : MethodName := ⟨RX6, "door", "(III)I"⟩
abbrev cX6_openSet : ByteArray := prog_8_method_31_code
def yX6_openSet : MethodName := ⟨RX6, "openSet", "()I"⟩
abbrev cX6_openDoors : ByteArray := prog_8_method_32_code
def yX6_openDoors : MethodName := ⟨RX6, "openDoors", "()I"⟩
abbrev cX6_open : ByteArray := prog_8_method_33_code
def yX6_open : MethodName := ⟨RX6, "open", "(IZ)I"⟩
abbrev cX6_guard : ByteArray := prog_8_method_34_code
def yX6_guard : MethodName := ⟨RX6, "guard", "(II)I"⟩
abbrev cX6_enter : ByteArray := prog_8_method_35_code
def yX6_enter : MethodName := ⟨RX6, "enter", "(II)I"⟩
abbrev cX6_pass : ByteArray := prog_8_method_36_code
def yX6_pass : MethodName := ⟨RX6, "pass", "(I)I"⟩
abbrev cX6_ropesOf : ByteArray := prog_8_method_37_code
def yX6_ropesOf : MethodName := ⟨RX6, "ropesOf", "(I)I"⟩
abbrev cX6_cell : ByteArray := prog_8_method_38_code
def yX6_cell : MethodName := ⟨RX6, "cell", "(II)I"⟩
abbrev cX6_goalOfMany : ByteArray := prog_8_method_39_code
def yX6_goalOfMany : MethodName := ⟨RX6, "goalOfMany", "(IZ)I"⟩
abbrev cX6_doorOf : ByteArray := prog_8_method_40_code
def yX6_doorOf : MethodName := ⟨RX6, "doorOf", "(II)I"⟩
abbrev cX6_uneven : ByteArray := prog_8_method_41_code
def yX6_uneven : MethodName := ⟨RX6, "uneven", "()I"⟩
abbrev cX6_guards : ByteArray := prog_8_method_42_code
def yX6_guards : MethodName := ⟨RX6, "guards", "()I"⟩
abbrev cX6_count : ByteArray := prog_8_method_43_code
def yX6_count : MethodName := ⟨RX6, "count", "(I)I"⟩
abbrev cX6_distance : ByteArray := prog_8_method_44_code
def yX6_distance : MethodName := ⟨RX6, "distance", "(II)I"⟩
abbrev cX6_untilOut : ByteArray := prog_8_method_45_code
def yX6_untilOut : MethodName := ⟨RX6, "untilOut", "()I"⟩
abbrev cX6_tries : ByteArray := prog_8_method_46_code
def yX6_tries : MethodName := ⟨RX6, "tries", "(II)V"⟩
abbrev cX6_ifRope : ByteArray := prog_8_method_47_code
def yX6_ifRope : MethodName := ⟨RX6, "ifRope", "(III)I"⟩
abbrev cX6_bestRope : ByteArray := prog_8_method_48_code
def yX6_bestRope : MethodName := ⟨RX6, "bestRope", "(I)I"⟩
abbrev cX6_waiting : ByteArray := prog_8_method_49_code
def yX6_waiting : MethodName := ⟨RX6, "waiting", "()I"⟩
abbrev cX6_put : ByteArray := prog_8_method_50_code
def yX6_put : MethodName := ⟨RX6, "put", "(J)I"⟩
abbrev cX6_wipe : ByteArray := prog_8_method_51_code
def yX6_wipe : MethodName := ⟨RX6, "wipe", "()I"⟩
abbrev cX6_isNext : ByteArray := prog_8_method_52_code
def yX6_isNext : MethodName := ⟨RX6, "isNext", "(II)Z"⟩
abbrev cX6_takes : ByteArray := prog_8_method_53_code
def yX6_takes : MethodName := ⟨RX6, "takes", "(II)I"⟩
abbrev cX6_takesMany : ByteArray := prog_8_method_54_code
def yX6_takesMany : MethodName := ⟨RX6, "takesMany", "()I"⟩
abbrev cX6_reads : ByteArray := prog_8_method_55_code
def yX6_reads : MethodName := ⟨RX6, "reads", "(Z)I"⟩
abbrev cX6_fault : ByteArray := prog_8_method_56_code
def yX6_fault : MethodName := ⟨RX6, "fault", "()I"⟩
abbrev cX6_read : ByteArray := prog_8_method_57_code
def yX6_read : MethodName := ⟨RX6, "read", "()I"⟩
abbrev cX6_undo : ByteArray := prog_8_method_58_code
def yX6_undo : MethodName := ⟨RX6, "undo", "()I"⟩
abbrev cX6_save : ByteArray := prog_8_method_59_code
def yX6_save : MethodName := ⟨RX6, "save", "(I)I"⟩
abbrev cX6_restore : ByteArray := prog_8_method_60_code
def yX6_restore : MethodName := ⟨RX6, "restore", "(I)I"⟩
def RJ6 : String := "java/lang/Integer"
def TJ6 : u_T := fun k => match k with
  | _ => ("", "", "", false)
def tyJ6 : Nat → FieldType := fun k => match k with
  | _ => .int
abbrev wsJ60 : List Cond := u_ws RJ6 TJ6 0
theorem nmJ6 : ∀ a, a < 0 → ∀ b, b < 0 → a ≠ b → (TJ6 a).2.1 ≠ (TJ6 b).2.1 := by decide +kernel
theorem tyJ6_ok : ∀ k, k < 0 → parseFieldDescriptor (TJ6 k).2.2.1 = some (tyJ6 k) := by decide +kernel
abbrev cJ6_bitCount_0f7a4 : ByteArray := prog_9_method_49_code
def yJ6_bitCount_0f7a4 : MethodName := ⟨RJ6, "bitCount", "(I)I"⟩
def RJ9 : String := "java/lang/Math"
def TJ9 : u_T := fun k => match k with
  | _ => ("", "", "", false)
def tyJ9 : Nat → FieldType := fun k => match k with
  | _ => .int
abbrev wsJ90 : List Cond := u_ws RJ9 TJ9 0
theorem nmJ9 : ∀ a, a < 0 → ∀ b, b < 0 → a ≠ b → (TJ9 a).2.1 ≠ (TJ9 b).2.1 := by decide +kernel
theorem tyJ9_ok : ∀ k, k < 0 → parseFieldDescriptor (TJ9 k).2.2.1 = some (tyJ9 k) := by decide +kernel
abbrev cJ9_max_7cf53 : ByteArray := prog_10_method_65_code
def yJ9_max_7cf53 : MethodName := ⟨RJ9, "max", "(II)I"⟩
abbrev cJ9_min_7cf53 : ByteArray := prog_10_method_69_code
def yJ9_min_7cf53 : MethodName := ⟨RJ9, "min", "(II)I"⟩
def RL : String := "RopedHallsLaw"
abbrev cL_law : ByteArray := code
def yL_law : MethodName := ⟨RL, "law", "([I)Z"⟩
def wsX1_init : List Cond := .code yX1_init cX1_init 2 none :: ([.methodLink RX1 3 objectInit, .instanceMethod objectInit, .code objectInit ⟨#[0xb1]⟩ 1 none, .fieldLink RX1 9 "RopedHalls$Hall" "room" "I", .arrayClass .int, .fieldLink RX1 15 "RopedHalls$Hall" "people" "[I", .fieldLink RX1 19 "RopedHalls$Hall" "guards" "[I", .arrayClass .boolean, .fieldLink RX1 22 "RopedHalls$Hall" "ropes" "[Z", .fieldLink RX1 26 "RopedHalls$Hall" "doorCell" "[I", .fieldLink RX1 29 "RopedHalls$Hall" "doorRate" "[I", .fieldLink RX1 32 "RopedHalls$Hall" "doorOpen" "[Z", .fieldLink RX1 35 "RopedHalls$Hall" "doorOut" "[I"] ++ wsX10)
def wsX4_init : List Cond := .code yX4_init cX4_init 1 none :: ([.methodLink RX4 3 objectInit, .instanceMethod objectInit, .code objectInit ⟨#[0xb1]⟩ 1 none, .arrayClass .int, .fieldLink RX4 9 "RopedHalls$Routes" "steps" "[I", .fieldLink RX4 15 "RopedHalls$Routes" "queue" "[I", .fieldLink RX4 18 "RopedHalls$Routes" "goals" "[I", .fieldLink RX4 21 "RopedHalls$Routes" "nexts" "[I", .fieldLink RX4 24 "RopedHalls$Routes" "turns" "[I"] ++ wsX40)
def wsX2_init : List Cond := .code yX2_init cX2_init 1 none :: ([.methodLink RX2 3 objectInit, .instanceMethod objectInit, .code objectInit ⟨#[0xb1]⟩ 1 none, .arrayClass .int, .fieldLink RX2 9 "RopedHalls$Minute" "arrived" "[I"] ++ wsX20)
def wsX0_init_r1 : List Cond := [Cond.methodLink RX0 3 objectInit, Cond.instanceMethod objectInit, Cond.code objectInit ⟨#[0xb1]⟩ 1 none, Cond.classLink RX0 9 RX1, Cond.instantiable RX1 12, Cond.initialized RX1, Cond.fieldLink RX0 12 "RopedHalls$Forecast" "trial" "LRopedHalls$Hall;", Cond.classLink RX0 18 RX4, Cond.instantiable RX4 6, Cond.initialized RX4, Cond.fieldLink RX0 21 "RopedHalls$Forecast" "routes" "LRopedHalls$Routes;", Cond.classLink RX0 25 RX2, Cond.instantiable RX2 1, Cond.initialized RX2, Cond.fieldLink RX0 28 "RopedHalls$Forecast" "minute" "LRopedHalls$Minute;", Cond.methodLink RX0 11 yX1_init, Cond.instanceMethod yX1_init, Cond.code yX1_init cX1_init 2 none, Cond.methodLink RX1 3 objectInit, Cond.fieldLink RX1 9 "RopedHalls$Hall" "room" "I", Cond.arrayClass .int, Cond.fieldLink RX1 15 "RopedHalls$Hall" "people" "[I", Cond.fieldLink RX1 19 "RopedHalls$Hall" "guards" "[I", Cond.arrayClass .boolean]
def wsX0_init_r2 : List Cond := [Cond.fieldLink RX1 22 "RopedHalls$Hall" "ropes" "[Z", Cond.fieldLink RX1 26 "RopedHalls$Hall" "doorCell" "[I", Cond.fieldLink RX1 29 "RopedHalls$Hall" "doorRate" "[I", Cond.fieldLink RX1 32 "RopedHalls$Hall" "doorOpen" "[Z", Cond.fieldLink RX1 35 "RopedHalls$Hall" "doorOut" "[I", Cond.instanceMethod yX4_init, Cond.code yX4_init cX4_init 1 none, Cond.methodLink RX4 3 objectInit, Cond.fieldLink RX4 9 "RopedHalls$Routes" "steps" "[I", Cond.fieldLink RX4 15 "RopedHalls$Routes" "queue" "[I", Cond.fieldLink RX4 18 "RopedHalls$Routes" "goals" "[I", Cond.fieldLink RX4 21 "RopedHalls$Routes" "nexts" "[I", Cond.fieldLink RX4 24 "RopedHalls$Routes" "turns" "[I", Cond.instanceMethod yX2_init, Cond.code yX2_init cX2_init 1 none, Cond.methodLink RX2 3 objectInit, Cond.fieldLink RX2 9 "RopedHalls$Minute" "arrived" "[I"]
def wsX0_init : List Cond := .code yX0_init cX0_init 1 none :: ((wsX0_init_r1 ++ wsX0_init_r2) ++ wsX10 ++ wsX00 ++ wsX40 ++ wsX20)
def wsX1_copyFrom : List Cond := .code yX1_copyFrom cX1_copyFrom 3 none :: ([.fieldLink RX1 9 "RopedHalls$Hall" "room" "I", .fieldLink RX1 38 "RopedHalls$Hall" "minutes" "I", .fieldLink RX1 41 "RopedHalls$Hall" "cameIn" "I", .fieldLink RX1 44 "RopedHalls$Hall" "waited" "I", .fieldLink RX1 47 "RopedHalls$Hall" "jams" "I", .fieldLink RX1 15 "RopedHalls$Hall" "people" "[I", .fieldLink RX1 19 "RopedHalls$Hall" "guards" "[I", .fieldLink RX1 22 "RopedHalls$Hall" "ropes" "[Z", .fieldLink RX1 26 "RopedHalls$Hall" "doorCell" "[I", .fieldLink RX1 29 "RopedHalls$Hall" "doorRate" "[I", .fieldLink RX1 32 "RopedHalls$Hall" "doorOpen" "[Z", .fieldLink RX1 35 "RopedHalls$Hall" "doorOut" "[I"] ++ wsX10)
def wsX5_isCell : List Cond := .code yX5_isCell cX5_isCell 1 (some .boolean) :: ([])
def wsX5_beside : List Cond := .code yX5_beside cX5_beside 2 (some .int) :: ([])
def wsX5_edgeTowards : List Cond := .code yX5_edgeTowards cX5_edgeTowards 4 (some .int) :: ([.methodLink RX5 228 Lib.Math.min.name, .static Lib.Math.min.name, .initialized "java/lang/Math", .code Lib.Math.min.name Lib.Math.min.code 2 (some .int), .methodLink RX5 239 yX5_beside, .static yX5_beside, .initialized RX5, .code yX5_beside cX5_beside 2 (some .int)])
def wsX5_isEdge : List Cond := .code yX5_isEdge cX5_isEdge 1 (some .boolean) :: ([])
def wsX1_stepFrom : List Cond := .code yX1_stepFrom cX1_stepFrom 4 (some .int) :: ([.fieldLink RX1 22 "RopedHalls$Hall" "ropes" "[Z", .static yX5_edgeTowards, .initialized RX5, .code yX5_edgeTowards cX5_edgeTowards 4 (some .int), .methodLink RX5 228 Lib.Math.min.name, .static Lib.Math.min.name, .initialized "java/lang/Math", .code Lib.Math.min.name Lib.Math.min.code 2 (some .int), .methodLink RX5 239 yX5_beside, .static yX5_beside, .code yX5_beside cX5_beside 2 (some .int), .static yX5_isEdge, .code yX5_isEdge cX5_isEdge 1 (some .boolean)] ++ wsX10)
def wsX5_isDoor : List Cond := .code yX5_isDoor cX5_isDoor 1 (some .boolean) :: ([])
def wsX4_stepsTo : List Cond := .code yX4_stepsTo cX4_stepsTo 3 (some .int) :: ([.fieldLink RX4 9 "RopedHalls$Routes" "steps" "[I", .static yX5_isDoor, .initialized RX5, .code yX5_isDoor cX5_isDoor 1 (some .boolean), .static yX5_isCell, .code yX5_isCell cX5_isCell 1 (some .boolean)] ++ wsX40)
def wsX4_measureFrom_r1 : List Cond := [Cond.fieldLink RX4 9 "RopedHalls$Routes" "steps" "[I", Cond.fieldLink RX4 68 "RopedHalls$Hall" "doorCell" "[I", Cond.fieldLink RX4 15 "RopedHalls$Routes" "queue" "[I", Cond.static yX5_isCell, Cond.initialized RX5, Cond.code yX5_isCell cX5_isCell 1 (some .boolean), Cond.methodLink RX4 71 yX1_stepFrom, Cond.instanceMethod yX1_stepFrom, Cond.selects RX1 yX1_stepFrom yX1_stepFrom, Cond.initialized RX1, Cond.code yX1_stepFrom cX1_stepFrom 4 (some .int), Cond.fieldLink RX1 22 "RopedHalls$Hall" "ropes" "[Z", Cond.static yX5_edgeTowards, Cond.code yX5_edgeTowards cX5_edgeTowards 4 (some .int), Cond.methodLink RX5 228 Lib.Math.min.name, Cond.static Lib.Math.min.name, Cond.initialized "java/lang/Math", Cond.code Lib.Math.min.name Lib.Math.min.code 2 (some .int), Cond.methodLink RX5 239 yX5_beside, Cond.static yX5_beside, Cond.code yX5_beside cX5_beside 2 (some .int), Cond.static yX5_isEdge, Cond.code yX5_isEdge cX5_isEdge 1 (some .boolean), Cond.methodLink RX4 52 yX4_stepsTo]
def wsX4_measureFrom_r2 : List Cond := [Cond.instanceMethod yX4_stepsTo, Cond.selects RX4 yX4_stepsTo yX4_stepsTo, Cond.initialized RX4, Cond.code yX4_stepsTo cX4_stepsTo 3 (some .int), Cond.static yX5_isDoor, Cond.code yX5_isDoor cX5_isDoor 1 (some .boolean)]
def wsX4_measureFrom : List Cond := .code yX4_measureFrom cX4_measureFrom 10 none :: ((wsX4_measureFrom_r1 ++ wsX4_measureFrom_r2) ++ wsX40 ++ wsX10)
def wsX4_chooseGoal : List Cond := .code yX4_chooseGoal cX4_chooseGoal 7 (some .int) :: ([.fieldLink RX4 74 "RopedHalls$Hall" "guards" "[I", .fieldLink RX4 77 "RopedHalls$Hall" "doorOpen" "[Z", .static yX5_isDoor, .initialized RX5, .code yX5_isDoor cX5_isDoor 1 (some .boolean), .methodLink RX4 52 yX4_stepsTo, .instanceMethod yX4_stepsTo, .selects RX4 yX4_stepsTo yX4_stepsTo, .initialized RX4, .code yX4_stepsTo cX4_stepsTo 3 (some .int), .fieldLink RX4 9 "RopedHalls$Routes" "steps" "[I", .static yX5_isCell, .code yX5_isCell cX5_isCell 1 (some .boolean)] ++ wsX10 ++ wsX40)
def wsX4_goalOf : List Cond := .code yX4_goalOf cX4_goalOf 2 (some .int) :: ([.fieldLink RX4 18 "RopedHalls$Routes" "goals" "[I", .static yX5_isCell, .initialized RX5, .code yX5_isCell cX5_isCell 1 (some .boolean)] ++ wsX40)
def wsX4_stepsToGoal : List Cond := .code yX4_stepsToGoal cX4_stepsToGoal 2 (some .int) :: ([.methodLink RX4 48 yX4_goalOf, .instanceMethod yX4_goalOf, .selects RX4 yX4_goalOf yX4_goalOf, .initialized RX4, .code yX4_goalOf cX4_goalOf 2 (some .int), .fieldLink RX4 18 "RopedHalls$Routes" "goals" "[I", .static yX5_isCell, .initialized RX5, .code yX5_isCell cX5_isCell 1 (some .boolean), .methodLink RX4 52 yX4_stepsTo, .instanceMethod yX4_stepsTo, .selects RX4 yX4_stepsTo yX4_stepsTo, .code yX4_stepsTo cX4_stepsTo 3 (some .int), .fieldLink RX4 9 "RopedHalls$Routes" "steps" "[I", .static yX5_isDoor, .code yX5_isDoor cX5_isDoor 1 (some .boolean)] ++ wsX40)
def wsX4_chooseNext_r1 : List Cond := [Cond.methodLink RX4 81 yX4_stepsToGoal, Cond.instanceMethod yX4_stepsToGoal, Cond.selects RX4 yX4_stepsToGoal yX4_stepsToGoal, Cond.initialized RX4, Cond.code yX4_stepsToGoal cX4_stepsToGoal 2 (some .int), Cond.methodLink RX4 48 yX4_goalOf, Cond.instanceMethod yX4_goalOf, Cond.selects RX4 yX4_goalOf yX4_goalOf, Cond.code yX4_goalOf cX4_goalOf 2 (some .int), Cond.fieldLink RX4 18 "RopedHalls$Routes" "goals" "[I", Cond.static yX5_isCell, Cond.initialized RX5, Cond.code yX5_isCell cX5_isCell 1 (some .boolean), Cond.methodLink RX4 52 yX4_stepsTo, Cond.instanceMethod yX4_stepsTo, Cond.selects RX4 yX4_stepsTo yX4_stepsTo, Cond.code yX4_stepsTo cX4_stepsTo 3 (some .int), Cond.fieldLink RX4 9 "RopedHalls$Routes" "steps" "[I", Cond.static yX5_isDoor, Cond.code yX5_isDoor cX5_isDoor 1 (some .boolean), Cond.methodLink RX4 71 yX1_stepFrom, Cond.instanceMethod yX1_stepFrom, Cond.selects RX1 yX1_stepFrom yX1_stepFrom, Cond.initialized RX1]
def wsX4_chooseNext_r2 : List Cond := [Cond.code yX1_stepFrom cX1_stepFrom 4 (some .int), Cond.fieldLink RX1 22 "RopedHalls$Hall" "ropes" "[Z", Cond.static yX5_edgeTowards, Cond.code yX5_edgeTowards cX5_edgeTowards 4 (some .int), Cond.methodLink RX5 228 Lib.Math.min.name, Cond.static Lib.Math.min.name, Cond.initialized "java/lang/Math", Cond.code Lib.Math.min.name Lib.Math.min.code 2 (some .int), Cond.methodLink RX5 239 yX5_beside, Cond.static yX5_beside, Cond.code yX5_beside cX5_beside 2 (some .int), Cond.static yX5_isEdge, Cond.code yX5_isEdge cX5_isEdge 1 (some .boolean)]
def wsX4_chooseNext : List Cond := .code yX4_chooseNext cX4_chooseNext 6 (some .int) :: ((wsX4_chooseNext_r1 ++ wsX4_chooseNext_r2) ++ wsX40 ++ wsX10)
def wsX4_orderTurns : List Cond := .code yX4_orderTurns cX4_orderTurns 3 none :: ([.fieldLink RX4 56 "RopedHalls$Routes" "turnCount" "I", .fieldLink RX4 24 "RopedHalls$Routes" "turns" "[I", .methodLink RX4 81 yX4_stepsToGoal, .instanceMethod yX4_stepsToGoal, .selects RX4 yX4_stepsToGoal yX4_stepsToGoal, .initialized RX4, .code yX4_stepsToGoal cX4_stepsToGoal 2 (some .int), .methodLink RX4 48 yX4_goalOf, .instanceMethod yX4_goalOf, .selects RX4 yX4_goalOf yX4_goalOf, .code yX4_goalOf cX4_goalOf 2 (some .int), .fieldLink RX4 18 "RopedHalls$Routes" "goals" "[I", .static yX5_isCell, .initialized RX5, .code yX5_isCell cX5_isCell 1 (some .boolean), .methodLink RX4 52 yX4_stepsTo, .instanceMethod yX4_stepsTo, .selects RX4 yX4_stepsTo yX4_stepsTo, .code yX4_stepsTo cX4_stepsTo 3 (some .int), .fieldLink RX4 9 "RopedHalls$Routes" "steps" "[I", .static yX5_isDoor, .code yX5_isDoor cX5_isDoor 1 (some .boolean)] ++ wsX40)
def wsX4_find_r1 : List Cond := [Cond.fieldLink RX4 18 "RopedHalls$Routes" "goals" "[I", Cond.fieldLink RX4 21 "RopedHalls$Routes" "nexts" "[I", Cond.methodLink RX4 27 yX4_measureFrom, Cond.instanceMethod yX4_measureFrom, Cond.selects RX4 yX4_measureFrom yX4_measureFrom, Cond.initialized RX4, Cond.code yX4_measureFrom cX4_measureFrom 10 none, Cond.fieldLink RX4 9 "RopedHalls$Routes" "steps" "[I", Cond.fieldLink RX4 68 "RopedHalls$Hall" "doorCell" "[I", Cond.fieldLink RX4 15 "RopedHalls$Routes" "queue" "[I", Cond.static yX5_isCell, Cond.initialized RX5, Cond.code yX5_isCell cX5_isCell 1 (some .boolean), Cond.methodLink RX4 71 yX1_stepFrom, Cond.instanceMethod yX1_stepFrom, Cond.selects RX1 yX1_stepFrom yX1_stepFrom, Cond.initialized RX1, Cond.code yX1_stepFrom cX1_stepFrom 4 (some .int), Cond.fieldLink RX1 22 "RopedHalls$Hall" "ropes" "[Z", Cond.static yX5_edgeTowards, Cond.code yX5_edgeTowards cX5_edgeTowards 4 (some .int), Cond.methodLink RX5 228 Lib.Math.min.name, Cond.static Lib.Math.min.name, Cond.initialized "java/lang/Math"]
def wsX4_find_r2 : List Cond := [Cond.code Lib.Math.min.name Lib.Math.min.code 2 (some .int), Cond.methodLink RX5 239 yX5_beside, Cond.static yX5_beside, Cond.code yX5_beside cX5_beside 2 (some .int), Cond.static yX5_isEdge, Cond.code yX5_isEdge cX5_isEdge 1 (some .boolean), Cond.methodLink RX4 52 yX4_stepsTo, Cond.instanceMethod yX4_stepsTo, Cond.selects RX4 yX4_stepsTo yX4_stepsTo, Cond.code yX4_stepsTo cX4_stepsTo 3 (some .int), Cond.static yX5_isDoor, Cond.code yX5_isDoor cX5_isDoor 1 (some .boolean), Cond.methodLink RX4 31 yX4_chooseGoal, Cond.instanceMethod yX4_chooseGoal, Cond.selects RX4 yX4_chooseGoal yX4_chooseGoal, Cond.code yX4_chooseGoal cX4_chooseGoal 7 (some .int), Cond.fieldLink RX4 74 "RopedHalls$Hall" "guards" "[I", Cond.fieldLink RX4 77 "RopedHalls$Hall" "doorOpen" "[Z", Cond.methodLink RX4 35 yX4_chooseNext, Cond.instanceMethod yX4_chooseNext, Cond.selects RX4 yX4_chooseNext yX4_chooseNext, Cond.code yX4_chooseNext cX4_chooseNext 6 (some .int), Cond.methodLink RX4 81 yX4_stepsToGoal, Cond.instanceMethod yX4_stepsToGoal]
def wsX4_find_r3 : List Cond := [Cond.selects RX4 yX4_stepsToGoal yX4_stepsToGoal, Cond.code yX4_stepsToGoal cX4_stepsToGoal 2 (some .int), Cond.methodLink RX4 48 yX4_goalOf, Cond.instanceMethod yX4_goalOf, Cond.selects RX4 yX4_goalOf yX4_goalOf, Cond.code yX4_goalOf cX4_goalOf 2 (some .int), Cond.methodLink RX4 38 yX4_orderTurns, Cond.instanceMethod yX4_orderTurns, Cond.selects RX4 yX4_orderTurns yX4_orderTurns, Cond.code yX4_orderTurns cX4_orderTurns 3 none, Cond.fieldLink RX4 56 "RopedHalls$Routes" "turnCount" "I", Cond.fieldLink RX4 24 "RopedHalls$Routes" "turns" "[I"]
def wsX4_find : List Cond := .code yX4_find cX4_find 3 none :: ((wsX4_find_r1 ++ (wsX4_find_r2 ++ wsX4_find_r3)) ++ wsX40 ++ wsX10)
def wsX0_startFrom_r1 : List Cond := [Cond.fieldLink RX0 12 "RopedHalls$Forecast" "trial" "LRopedHalls$Hall;", Cond.fieldLink RX0 21 "RopedHalls$Forecast" "routes" "LRopedHalls$Routes;", Cond.methodLink RX0 32 yX1_copyFrom, Cond.instanceMethod yX1_copyFrom, Cond.selects RX1 yX1_copyFrom yX1_copyFrom, Cond.initialized RX1, Cond.code yX1_copyFrom cX1_copyFrom 3 none, Cond.fieldLink RX1 9 "RopedHalls$Hall" "room" "I", Cond.fieldLink RX1 38 "RopedHalls$Hall" "minutes" "I", Cond.fieldLink RX1 41 "RopedHalls$Hall" "cameIn" "I", Cond.fieldLink RX1 44 "RopedHalls$Hall" "waited" "I", Cond.fieldLink RX1 47 "RopedHalls$Hall" "jams" "I", Cond.fieldLink RX1 15 "RopedHalls$Hall" "people" "[I", Cond.fieldLink RX1 19 "RopedHalls$Hall" "guards" "[I", Cond.fieldLink RX1 22 "RopedHalls$Hall" "ropes" "[Z", Cond.fieldLink RX1 26 "RopedHalls$Hall" "doorCell" "[I", Cond.fieldLink RX1 29 "RopedHalls$Hall" "doorRate" "[I", Cond.fieldLink RX1 32 "RopedHalls$Hall" "doorOpen" "[Z", Cond.fieldLink RX1 35 "RopedHalls$Hall" "doorOut" "[I", Cond.methodLink RX0 36 yX4_find, Cond.instanceMethod yX4_find, Cond.selects RX4 yX4_find yX4_find, Cond.initialized RX4, Cond.code yX4_find cX4_find 3 none]
def wsX0_startFrom_r2 : List Cond := [Cond.fieldLink RX4 18 "RopedHalls$Routes" "goals" "[I", Cond.fieldLink RX4 21 "RopedHalls$Routes" "nexts" "[I", Cond.methodLink RX4 27 yX4_measureFrom, Cond.instanceMethod yX4_measureFrom, Cond.selects RX4 yX4_measureFrom yX4_measureFrom, Cond.code yX4_measureFrom cX4_measureFrom 10 none, Cond.fieldLink RX4 9 "RopedHalls$Routes" "steps" "[I", Cond.fieldLink RX4 68 "RopedHalls$Hall" "doorCell" "[I", Cond.fieldLink RX4 15 "RopedHalls$Routes" "queue" "[I", Cond.static yX5_isCell, Cond.initialized RX5, Cond.code yX5_isCell cX5_isCell 1 (some .boolean), Cond.methodLink RX4 71 yX1_stepFrom, Cond.instanceMethod yX1_stepFrom, Cond.selects RX1 yX1_stepFrom yX1_stepFrom, Cond.code yX1_stepFrom cX1_stepFrom 4 (some .int), Cond.static yX5_edgeTowards, Cond.code yX5_edgeTowards cX5_edgeTowards 4 (some .int), Cond.methodLink RX5 228 Lib.Math.min.name, Cond.static Lib.Math.min.name, Cond.initialized "java/lang/Math", Cond.code Lib.Math.min.name Lib.Math.min.code 2 (some .int), Cond.methodLink RX5 239 yX5_beside, Cond.static yX5_beside]
def wsX0_startFrom_r3 : List Cond := [Cond.code yX5_beside cX5_beside 2 (some .int), Cond.static yX5_isEdge, Cond.code yX5_isEdge cX5_isEdge 1 (some .boolean), Cond.methodLink RX4 52 yX4_stepsTo, Cond.instanceMethod yX4_stepsTo, Cond.selects RX4 yX4_stepsTo yX4_stepsTo, Cond.code yX4_stepsTo cX4_stepsTo 3 (some .int), Cond.static yX5_isDoor, Cond.code yX5_isDoor cX5_isDoor 1 (some .boolean), Cond.methodLink RX4 31 yX4_chooseGoal, Cond.instanceMethod yX4_chooseGoal, Cond.selects RX4 yX4_chooseGoal yX4_chooseGoal, Cond.code yX4_chooseGoal cX4_chooseGoal 7 (some .int), Cond.fieldLink RX4 74 "RopedHalls$Hall" "guards" "[I", Cond.fieldLink RX4 77 "RopedHalls$Hall" "doorOpen" "[Z", Cond.methodLink RX4 35 yX4_chooseNext, Cond.instanceMethod yX4_chooseNext, Cond.selects RX4 yX4_chooseNext yX4_chooseNext, Cond.code yX4_chooseNext cX4_chooseNext 6 (some .int), Cond.methodLink RX4 81 yX4_stepsToGoal, Cond.instanceMethod yX4_stepsToGoal, Cond.selects RX4 yX4_stepsToGoal yX4_stepsToGoal, Cond.code yX4_stepsToGoal cX4_stepsToGoal 2 (some .int), Cond.methodLink RX4 48 yX4_goalOf]
def wsX0_startFrom_r4 : List Cond := [Cond.instanceMethod yX4_goalOf, Cond.selects RX4 yX4_goalOf yX4_goalOf, Cond.code yX4_goalOf cX4_goalOf 2 (some .int), Cond.methodLink RX4 38 yX4_orderTurns, Cond.instanceMethod yX4_orderTurns, Cond.selects RX4 yX4_orderTurns yX4_orderTurns, Cond.code yX4_orderTurns cX4_orderTurns 3 none, Cond.fieldLink RX4 56 "RopedHalls$Routes" "turnCount" "I", Cond.fieldLink RX4 24 "RopedHalls$Routes" "turns" "[I"]
def wsX0_startFrom : List Cond := .code yX0_startFrom cX0_startFrom 2 none :: ((wsX0_startFrom_r1 ++ (wsX0_startFrom_r2 ++ (wsX0_startFrom_r3 ++ wsX0_startFrom_r4))) ++ wsX00 ++ wsX10 ++ wsX40)
def wsX0_startWithRopeTurned_r1 : List Cond := [Cond.fieldLink RX0 12 "RopedHalls$Forecast" "trial" "LRopedHalls$Hall;", Cond.fieldLink RX0 43 "RopedHalls$Hall" "ropes" "[Z", Cond.fieldLink RX0 21 "RopedHalls$Forecast" "routes" "LRopedHalls$Routes;", Cond.methodLink RX0 32 yX1_copyFrom, Cond.instanceMethod yX1_copyFrom, Cond.selects RX1 yX1_copyFrom yX1_copyFrom, Cond.initialized RX1, Cond.code yX1_copyFrom cX1_copyFrom 3 none, Cond.fieldLink RX1 9 "RopedHalls$Hall" "room" "I", Cond.fieldLink RX1 38 "RopedHalls$Hall" "minutes" "I", Cond.fieldLink RX1 41 "RopedHalls$Hall" "cameIn" "I", Cond.fieldLink RX1 44 "RopedHalls$Hall" "waited" "I", Cond.fieldLink RX1 47 "RopedHalls$Hall" "jams" "I", Cond.fieldLink RX1 15 "RopedHalls$Hall" "people" "[I", Cond.fieldLink RX1 19 "RopedHalls$Hall" "guards" "[I", Cond.fieldLink RX1 22 "RopedHalls$Hall" "ropes" "[Z", Cond.fieldLink RX1 26 "RopedHalls$Hall" "doorCell" "[I", Cond.fieldLink RX1 29 "RopedHalls$Hall" "doorRate" "[I", Cond.fieldLink RX1 32 "RopedHalls$Hall" "doorOpen" "[Z", Cond.fieldLink RX1 35 "RopedHalls$Hall" "doorOut" "[I", Cond.static yX5_isEdge, Cond.initialized RX5, Cond.code yX5_isEdge cX5_isEdge 1 (some .boolean), Cond.methodLink RX0 36 yX4_find]
def wsX0_startWithRopeTurned_r2 : List Cond := [Cond.instanceMethod yX4_find, Cond.selects RX4 yX4_find yX4_find, Cond.initialized RX4, Cond.code yX4_find cX4_find 3 none, Cond.fieldLink RX4 18 "RopedHalls$Routes" "goals" "[I", Cond.fieldLink RX4 21 "RopedHalls$Routes" "nexts" "[I", Cond.methodLink RX4 27 yX4_measureFrom, Cond.instanceMethod yX4_measureFrom, Cond.selects RX4 yX4_measureFrom yX4_measureFrom, Cond.code yX4_measureFrom cX4_measureFrom 10 none, Cond.fieldLink RX4 9 "RopedHalls$Routes" "steps" "[I", Cond.fieldLink RX4 68 "RopedHalls$Hall" "doorCell" "[I", Cond.fieldLink RX4 15 "RopedHalls$Routes" "queue" "[I", Cond.static yX5_isCell, Cond.code yX5_isCell cX5_isCell 1 (some .boolean), Cond.methodLink RX4 71 yX1_stepFrom, Cond.instanceMethod yX1_stepFrom, Cond.selects RX1 yX1_stepFrom yX1_stepFrom, Cond.code yX1_stepFrom cX1_stepFrom 4 (some .int), Cond.static yX5_edgeTowards, Cond.code yX5_edgeTowards cX5_edgeTowards 4 (some .int), Cond.methodLink RX5 228 Lib.Math.min.name, Cond.static Lib.Math.min.name, Cond.initialized "java/lang/Math"]
def wsX0_startWithRopeTurned_r3 : List Cond := [Cond.code Lib.Math.min.name Lib.Math.min.code 2 (some .int), Cond.methodLink RX5 239 yX5_beside, Cond.static yX5_beside, Cond.code yX5_beside cX5_beside 2 (some .int), Cond.methodLink RX4 52 yX4_stepsTo, Cond.instanceMethod yX4_stepsTo, Cond.selects RX4 yX4_stepsTo yX4_stepsTo, Cond.code yX4_stepsTo cX4_stepsTo 3 (some .int), Cond.static yX5_isDoor, Cond.code yX5_isDoor cX5_isDoor 1 (some .boolean), Cond.methodLink RX4 31 yX4_chooseGoal, Cond.instanceMethod yX4_chooseGoal, Cond.selects RX4 yX4_chooseGoal yX4_chooseGoal, Cond.code yX4_chooseGoal cX4_chooseGoal 7 (some .int), Cond.fieldLink RX4 74 "RopedHalls$Hall" "guards" "[I", Cond.fieldLink RX4 77 "RopedHalls$Hall" "doorOpen" "[Z", Cond.methodLink RX4 35 yX4_chooseNext, Cond.instanceMethod yX4_chooseNext, Cond.selects RX4 yX4_chooseNext yX4_chooseNext, Cond.code yX4_chooseNext cX4_chooseNext 6 (some .int), Cond.methodLink RX4 81 yX4_stepsToGoal, Cond.instanceMethod yX4_stepsToGoal, Cond.selects RX4 yX4_stepsToGoal yX4_stepsToGoal, Cond.code yX4_stepsToGoal cX4_stepsToGoal 2 (some .int)]
def wsX0_startWithRopeTurned_r4 : List Cond := [Cond.methodLink RX4 48 yX4_goalOf, Cond.instanceMethod yX4_goalOf, Cond.selects RX4 yX4_goalOf yX4_goalOf, Cond.code yX4_goalOf cX4_goalOf 2 (some .int), Cond.methodLink RX4 38 yX4_orderTurns, Cond.instanceMethod yX4_orderTurns, Cond.selects RX4 yX4_orderTurns yX4_orderTurns, Cond.code yX4_orderTurns cX4_orderTurns 3 none, Cond.fieldLink RX4 56 "RopedHalls$Routes" "turnCount" "I", Cond.fieldLink RX4 24 "RopedHalls$Routes" "turns" "[I"]
def wsX0_startWithRopeTurned : List Cond := .code yX0_startWithRopeTurned cX0_startWithRopeTurned 3 none :: ((wsX0_startWithRopeTurned_r1 ++ (wsX0_startWithRopeTurned_r2 ++ (wsX0_startWithRopeTurned_r3 ++ wsX0_startWithRopeTurned_r4))) ++ wsX00 ++ wsX10 ++ wsX40)
def wsX1_peopleInside : List Cond := .code yX1_peopleInside cX1_peopleInside 3 (some .int) :: ([.fieldLink RX1 15 "RopedHalls$Hall" "people" "[I"] ++ wsX10)
def wsX4_peopleWithGoal : List Cond := .code yX4_peopleWithGoal cX4_peopleWithGoal 5 (some .int) :: ([.fieldLink RX4 18 "RopedHalls$Routes" "goals" "[I", .fieldLink RX4 60 "RopedHalls$Hall" "people" "[I"] ++ wsX40 ++ wsX10)
def wsX4_stranded : List Cond := .code yX4_stranded cX4_stranded 2 (some .int) :: ([.methodLink RX4 65 yX4_peopleWithGoal, .instanceMethod yX4_peopleWithGoal, .selects RX4 yX4_peopleWithGoal yX4_peopleWithGoal, .initialized RX4, .code yX4_peopleWithGoal cX4_peopleWithGoal 5 (some .int), .fieldLink RX4 18 "RopedHalls$Routes" "goals" "[I", .fieldLink RX4 60 "RopedHalls$Hall" "people" "[I"] ++ wsX40 ++ wsX10)
def wsX2_letOut : List Cond := .code yX2_letOut cX2_letOut 4 (some .int) :: ([.fieldLink RX2 42 "RopedHalls$Hall" "doorCell" "[I", .fieldLink RX2 45 "RopedHalls$Hall" "doorOpen" "[Z", .fieldLink RX2 53 "RopedHalls$Hall" "doorRate" "[I", .fieldLink RX2 56 "RopedHalls$Hall" "people" "[I", .methodLink RX2 59 Lib.Math.min.name, .static Lib.Math.min.name, .initialized "java/lang/Math", .code Lib.Math.min.name Lib.Math.min.code 2 (some .int), .fieldLink RX2 65 "RopedHalls$Hall" "doorOut" "[I", .static yX5_isCell, .initialized RX5, .code yX5_isCell cX5_isCell 1 (some .boolean)] ++ wsX10)
def wsX4_turnsAMinute : List Cond := .code yX4_turnsAMinute cX4_turnsAMinute 1 (some .int) :: ([.fieldLink RX4 56 "RopedHalls$Routes" "turnCount" "I"] ++ wsX40)
def wsX4_cellAtTurn : List Cond := .code yX4_cellAtTurn cX4_cellAtTurn 2 (some .int) :: ([.fieldLink RX4 24 "RopedHalls$Routes" "turns" "[I", .static yX5_isCell, .initialized RX5, .code yX5_isCell cX5_isCell 1 (some .boolean)] ++ wsX40)
def wsX4_nextOf : List Cond := .code yX4_nextOf cX4_nextOf 2 (some .int) :: ([.fieldLink RX4 21 "RopedHalls$Routes" "nexts" "[I", .static yX5_isCell, .initialized RX5, .code yX5_isCell cX5_isCell 1 (some .boolean)] ++ wsX40)
def wsX1_roomIn : List Cond := .code yX1_roomIn cX1_roomIn 2 (some .int) :: ([.fieldLink RX1 9 "RopedHalls$Hall" "room" "I", .fieldLink RX1 15 "RopedHalls$Hall" "people" "[I", .static yX5_isCell, .initialized RX5, .code yX5_isCell cX5_isCell 1 (some .boolean)] ++ wsX10)
def wsX2_move : List Cond := .code yX2_move cX2_move 6 none :: ([.fieldLink RX2 56 "RopedHalls$Hall" "people" "[I", .fieldLink RX2 9 "RopedHalls$Minute" "arrived" "[I", .methodLink RX2 59 Lib.Math.min.name, .static Lib.Math.min.name, .initialized "java/lang/Math", .code Lib.Math.min.name Lib.Math.min.code 2 (some .int), .fieldLink RX2 71 "RopedHalls$Hall" "jams" "I", .fieldLink RX2 74 "RopedHalls$Hall" "waited" "I", .static yX5_isCell, .initialized RX5, .code yX5_isCell cX5_isCell 1 (some .boolean), .methodLink RX2 68 yX1_roomIn, .instanceMethod yX1_roomIn, .selects RX1 yX1_roomIn yX1_roomIn, .initialized RX1, .code yX1_roomIn cX1_roomIn 2 (some .int), .fieldLink RX1 9 "RopedHalls$Hall" "room" "I", .fieldLink RX1 15 "RopedHalls$Hall" "people" "[I"] ++ wsX10 ++ wsX20)
def wsX2_run_r1 : List Cond := [Cond.fieldLink RX2 15 "RopedHalls$Hall" "minutes" "I", Cond.fieldLink RX2 9 "RopedHalls$Minute" "arrived" "[I", Cond.methodLink RX2 21 yX2_letOut, Cond.static yX2_letOut, Cond.initialized RX2, Cond.code yX2_letOut cX2_letOut 4 (some .int), Cond.fieldLink RX2 42 "RopedHalls$Hall" "doorCell" "[I", Cond.fieldLink RX2 45 "RopedHalls$Hall" "doorOpen" "[Z", Cond.fieldLink RX2 53 "RopedHalls$Hall" "doorRate" "[I", Cond.fieldLink RX2 56 "RopedHalls$Hall" "people" "[I", Cond.methodLink RX2 59 Lib.Math.min.name, Cond.static Lib.Math.min.name, Cond.initialized "java/lang/Math", Cond.code Lib.Math.min.name Lib.Math.min.code 2 (some .int), Cond.fieldLink RX2 65 "RopedHalls$Hall" "doorOut" "[I", Cond.static yX5_isCell, Cond.initialized RX5, Cond.code yX5_isCell cX5_isCell 1 (some .boolean), Cond.methodLink RX2 25 yX4_turnsAMinute, Cond.instanceMethod yX4_turnsAMinute, Cond.selects RX4 yX4_turnsAMinute yX4_turnsAMinute, Cond.initialized RX4, Cond.code yX4_turnsAMinute cX4_turnsAMinute 1 (some .int), Cond.fieldLink RX4 56 "RopedHalls$Routes" "turnCount" "I"]
def wsX2_run_r2 : List Cond := [Cond.methodLink RX2 31 yX4_cellAtTurn, Cond.instanceMethod yX4_cellAtTurn, Cond.selects RX4 yX4_cellAtTurn yX4_cellAtTurn, Cond.code yX4_cellAtTurn cX4_cellAtTurn 2 (some .int), Cond.fieldLink RX4 24 "RopedHalls$Routes" "turns" "[I", Cond.methodLink RX2 35 yX4_nextOf, Cond.instanceMethod yX4_nextOf, Cond.selects RX4 yX4_nextOf yX4_nextOf, Cond.code yX4_nextOf cX4_nextOf 2 (some .int), Cond.fieldLink RX4 21 "RopedHalls$Routes" "nexts" "[I", Cond.methodLink RX2 38 yX2_move, Cond.instanceMethod yX2_move, Cond.selects RX2 yX2_move yX2_move, Cond.code yX2_move cX2_move 6 none, Cond.fieldLink RX2 71 "RopedHalls$Hall" "jams" "I", Cond.fieldLink RX2 74 "RopedHalls$Hall" "waited" "I", Cond.methodLink RX2 68 yX1_roomIn, Cond.instanceMethod yX1_roomIn, Cond.selects RX1 yX1_roomIn yX1_roomIn, Cond.initialized RX1, Cond.code yX1_roomIn cX1_roomIn 2 (some .int), Cond.fieldLink RX1 9 "RopedHalls$Hall" "room" "I", Cond.fieldLink RX1 15 "RopedHalls$Hall" "people" "[I"]
def wsX2_run : List Cond := .code yX2_run cX2_run 6 (some .int) :: ((wsX2_run_r1 ++ wsX2_run_r2) ++ wsX10 ++ wsX20 ++ wsX40)
def wsX0_runUntilOut_r1 : List Cond := [Cond.fieldLink RX0 12 "RopedHalls$Forecast" "trial" "LRopedHalls$Hall;", Cond.fieldLink RX0 21 "RopedHalls$Forecast" "routes" "LRopedHalls$Routes;", Cond.fieldLink RX0 28 "RopedHalls$Forecast" "minute" "LRopedHalls$Minute;", Cond.methodLink RX0 47 yX1_peopleInside, Cond.instanceMethod yX1_peopleInside, Cond.selects RX1 yX1_peopleInside yX1_peopleInside, Cond.initialized RX1, Cond.code yX1_peopleInside cX1_peopleInside 3 (some .int), Cond.fieldLink RX1 15 "RopedHalls$Hall" "people" "[I", Cond.methodLink RX0 51 yX4_stranded, Cond.instanceMethod yX4_stranded, Cond.selects RX4 yX4_stranded yX4_stranded, Cond.initialized RX4, Cond.code yX4_stranded cX4_stranded 2 (some .int), Cond.methodLink RX4 65 yX4_peopleWithGoal, Cond.instanceMethod yX4_peopleWithGoal, Cond.selects RX4 yX4_peopleWithGoal yX4_peopleWithGoal, Cond.code yX4_peopleWithGoal cX4_peopleWithGoal 5 (some .int), Cond.fieldLink RX4 18 "RopedHalls$Routes" "goals" "[I", Cond.fieldLink RX4 60 "RopedHalls$Hall" "people" "[I", Cond.methodLink RX0 55 yX2_run, Cond.instanceMethod yX2_run, Cond.selects RX2 yX2_run yX2_run, Cond.initialized RX2]
def wsX0_runUntilOut_r2 : List Cond := [Cond.code yX2_run cX2_run 6 (some .int), Cond.fieldLink RX2 15 "RopedHalls$Hall" "minutes" "I", Cond.fieldLink RX2 9 "RopedHalls$Minute" "arrived" "[I", Cond.methodLink RX2 21 yX2_letOut, Cond.static yX2_letOut, Cond.code yX2_letOut cX2_letOut 4 (some .int), Cond.fieldLink RX2 42 "RopedHalls$Hall" "doorCell" "[I", Cond.fieldLink RX2 45 "RopedHalls$Hall" "doorOpen" "[Z", Cond.fieldLink RX2 53 "RopedHalls$Hall" "doorRate" "[I", Cond.fieldLink RX2 56 "RopedHalls$Hall" "people" "[I", Cond.methodLink RX2 59 Lib.Math.min.name, Cond.static Lib.Math.min.name, Cond.initialized "java/lang/Math", Cond.code Lib.Math.min.name Lib.Math.min.code 2 (some .int), Cond.fieldLink RX2 65 "RopedHalls$Hall" "doorOut" "[I", Cond.static yX5_isCell, Cond.initialized RX5, Cond.code yX5_isCell cX5_isCell 1 (some .boolean), Cond.methodLink RX2 25 yX4_turnsAMinute, Cond.instanceMethod yX4_turnsAMinute, Cond.selects RX4 yX4_turnsAMinute yX4_turnsAMinute, Cond.code yX4_turnsAMinute cX4_turnsAMinute 1 (some .int), Cond.fieldLink RX4 56 "RopedHalls$Routes" "turnCount" "I", Cond.methodLink RX2 31 yX4_cellAtTurn]
def wsX0_runUntilOut_r3 : List Cond := [Cond.instanceMethod yX4_cellAtTurn, Cond.selects RX4 yX4_cellAtTurn yX4_cellAtTurn, Cond.code yX4_cellAtTurn cX4_cellAtTurn 2 (some .int), Cond.fieldLink RX4 24 "RopedHalls$Routes" "turns" "[I", Cond.methodLink RX2 35 yX4_nextOf, Cond.instanceMethod yX4_nextOf, Cond.selects RX4 yX4_nextOf yX4_nextOf, Cond.code yX4_nextOf cX4_nextOf 2 (some .int), Cond.fieldLink RX4 21 "RopedHalls$Routes" "nexts" "[I", Cond.methodLink RX2 38 yX2_move, Cond.instanceMethod yX2_move, Cond.selects RX2 yX2_move yX2_move, Cond.code yX2_move cX2_move 6 none, Cond.fieldLink RX2 71 "RopedHalls$Hall" "jams" "I", Cond.fieldLink RX2 74 "RopedHalls$Hall" "waited" "I", Cond.methodLink RX2 68 yX1_roomIn, Cond.instanceMethod yX1_roomIn, Cond.selects RX1 yX1_roomIn yX1_roomIn, Cond.code yX1_roomIn cX1_roomIn 2 (some .int), Cond.fieldLink RX1 9 "RopedHalls$Hall" "room" "I"]
def wsX0_runUntilOut : List Cond := .code yX0_runUntilOut cX0_runUntilOut 3 (some .int) :: ((wsX0_runUntilOut_r1 ++ (wsX0_runUntilOut_r2 ++ wsX0_runUntilOut_r3)) ++ wsX00 ++ wsX10 ++ wsX40 ++ wsX20)
def wsX0_stranded : List Cond := .code yX0_stranded cX0_stranded 1 (some .int) :: ([.fieldLink RX0 21 "RopedHalls$Forecast" "routes" "LRopedHalls$Routes;", .fieldLink RX0 12 "RopedHalls$Forecast" "trial" "LRopedHalls$Hall;", .methodLink RX0 51 yX4_stranded, .instanceMethod yX4_stranded, .selects RX4 yX4_stranded yX4_stranded, .initialized RX4, .code yX4_stranded cX4_stranded 2 (some .int), .methodLink RX4 65 yX4_peopleWithGoal, .instanceMethod yX4_peopleWithGoal, .selects RX4 yX4_peopleWithGoal yX4_peopleWithGoal, .code yX4_peopleWithGoal cX4_peopleWithGoal 5 (some .int), .fieldLink RX4 18 "RopedHalls$Routes" "goals" "[I", .fieldLink RX4 60 "RopedHalls$Hall" "people" "[I"] ++ wsX00 ++ wsX40 ++ wsX10)
def wsX1_unevenness : List Cond := .code yX1_unevenness cX1_unevenness 4 (some .int) :: ([.fieldLink RX1 32 "RopedHalls$Hall" "doorOpen" "[Z", .fieldLink RX1 35 "RopedHalls$Hall" "doorOut" "[I", .methodLink RX1 54 Lib.Math.max.name, .static Lib.Math.max.name, .initialized "java/lang/Math", .code Lib.Math.max.name Lib.Math.max.code 2 (some .int), .methodLink RX1 60 Lib.Math.min.name, .static Lib.Math.min.name, .code Lib.Math.min.name Lib.Math.min.code 2 (some .int)] ++ wsX10)
def wsX0_unevenness : List Cond := .code yX0_unevenness cX0_unevenness 1 (some .int) :: ([.fieldLink RX0 12 "RopedHalls$Forecast" "trial" "LRopedHalls$Hall;", .methodLink RX0 59 yX1_unevenness, .instanceMethod yX1_unevenness, .selects RX1 yX1_unevenness yX1_unevenness, .initialized RX1, .code yX1_unevenness cX1_unevenness 4 (some .int), .fieldLink RX1 32 "RopedHalls$Hall" "doorOpen" "[Z", .fieldLink RX1 35 "RopedHalls$Hall" "doorOut" "[I", .methodLink RX1 54 Lib.Math.max.name, .static Lib.Math.max.name, .initialized "java/lang/Math", .code Lib.Math.max.name Lib.Math.max.code 2 (some .int), .methodLink RX1 60 Lib.Math.min.name, .static Lib.Math.min.name, .code Lib.Math.min.name Lib.Math.min.code 2 (some .int)] ++ wsX00 ++ wsX10)
def wsX0_waited : List Cond := .code yX0_waited cX0_waited 1 (some .int) :: ([.fieldLink RX0 12 "RopedHalls$Forecast" "trial" "LRopedHalls$Hall;", .fieldLink RX0 62 "RopedHalls$Hall" "waited" "I"] ++ wsX00 ++ wsX10)
def wsX1_letIn : List Cond := .code yX1_letIn cX1_letIn 3 none :: ([.fieldLink RX1 15 "RopedHalls$Hall" "people" "[I", .fieldLink RX1 41 "RopedHalls$Hall" "cameIn" "I", .static yX5_isCell, .initialized RX5, .code yX5_isCell cX5_isCell 1 (some .boolean)] ++ wsX10)
def wsX1_fullestCell : List Cond := .code yX1_fullestCell cX1_fullestCell 3 (some .int) :: ([.fieldLink RX1 15 "RopedHalls$Hall" "people" "[I", .methodLink RX1 54 Lib.Math.max.name, .static Lib.Math.max.name, .initialized "java/lang/Math", .code Lib.Math.max.name Lib.Math.max.code 2 (some .int)] ++ wsX10)
def wsX1_peopleOut : List Cond := .code yX1_peopleOut cX1_peopleOut 3 (some .int) :: ([.fieldLink RX1 35 "RopedHalls$Hall" "doorOut" "[I"] ++ wsX10)
def wsX1_ropeCount : List Cond := .code yX1_ropeCount cX1_ropeCount 3 (some .int) :: ([.fieldLink RX1 22 "RopedHalls$Hall" "ropes" "[Z"] ++ wsX10)
def wsX1_guardCount : List Cond := .code yX1_guardCount cX1_guardCount 3 (some .int) :: ([.fieldLink RX1 19 "RopedHalls$Hall" "guards" "[I"] ++ wsX10)
def wsX1_openDoors : List Cond := .code yX1_openDoors cX1_openDoors 3 (some .int) :: ([.fieldLink RX1 32 "RopedHalls$Hall" "doorOpen" "[Z"] ++ wsX10)
def wsX1_ropesAround : List Cond := .code yX1_ropesAround cX1_ropesAround 5 (some .int) :: ([.fieldLink RX1 22 "RopedHalls$Hall" "ropes" "[Z", .static yX5_edgeTowards, .initialized RX5, .code yX5_edgeTowards cX5_edgeTowards 4 (some .int), .methodLink RX5 228 Lib.Math.min.name, .static Lib.Math.min.name, .initialized "java/lang/Math", .code Lib.Math.min.name Lib.Math.min.code 2 (some .int), .methodLink RX5 239 yX5_beside, .static yX5_beside, .code yX5_beside cX5_beside 2 (some .int), .static yX5_isEdge, .code yX5_isEdge cX5_isEdge 1 (some .boolean)] ++ wsX10)
def wsX3_init : List Cond := .code yX3_init cX3_init 1 none :: ([.methodLink RX3 3 objectInit, .instanceMethod objectInit, .code objectInit ⟨#[0xb1]⟩ 1 none, .arrayClass .int, .fieldLink RX3 9 "RopedHalls$Pad" "codes" "[I"] ++ wsX30)
def wsX3_append : List Cond := .code yX3_append cX3_append 2 none :: ([.fieldLink RX3 15 "RopedHalls$Pad" "length" "I", .fieldLink RX3 9 "RopedHalls$Pad" "codes" "[I"] ++ wsX30)
def wsX3_codeAt : List Cond := .code yX3_codeAt cX3_codeAt 2 (some .int) :: ([.fieldLink RX3 15 "RopedHalls$Pad" "length" "I", .fieldLink RX3 9 "RopedHalls$Pad" "codes" "[I"] ++ wsX30)
def wsX3_placeBehindFirstDigit : List Cond := .code yX3_placeBehindFirstDigit cX3_placeBehindFirstDigit 1 (some .int) :: ([])
def wsX3_placeBehind : List Cond := .code yX3_placeBehind cX3_placeBehind 3 (some .int) :: ([.methodLink RX3 45 yX3_placeBehindFirstDigit, .static yX3_placeBehindFirstDigit, .initialized RX3, .code yX3_placeBehindFirstDigit cX3_placeBehindFirstDigit 1 (some .int)])
def wsX3_firstFault : List Cond := .code yX3_firstFault cX3_firstFault 3 (some .int) :: ([.fieldLink RX3 15 "RopedHalls$Pad" "length" "I", .methodLink RX3 19 yX3_codeAt, .instanceMethod yX3_codeAt, .selects RX3 yX3_codeAt yX3_codeAt, .initialized RX3, .code yX3_codeAt cX3_codeAt 2 (some .int), .fieldLink RX3 9 "RopedHalls$Pad" "codes" "[I", .methodLink RX3 23 yX3_placeBehind, .static yX3_placeBehind, .code yX3_placeBehind cX3_placeBehind 3 (some .int), .methodLink RX3 45 yX3_placeBehindFirstDigit, .static yX3_placeBehindFirstDigit, .code yX3_placeBehindFirstDigit cX3_placeBehindFirstDigit 1 (some .int)] ++ wsX30)
def wsX3_letCrowdIn_r1 : List Cond := [Cond.methodLink RX3 36 Lib.Math.min.name, Cond.static Lib.Math.min.name, Cond.initialized "java/lang/Math", Cond.code Lib.Math.min.name Lib.Math.min.code 2 (some .int), Cond.methodLink RX3 19 yX3_codeAt, Cond.instanceMethod yX3_codeAt, Cond.selects RX3 yX3_codeAt yX3_codeAt, Cond.initialized RX3, Cond.code yX3_codeAt cX3_codeAt 2 (some .int), Cond.fieldLink RX3 15 "RopedHalls$Pad" "length" "I", Cond.fieldLink RX3 9 "RopedHalls$Pad" "codes" "[I", Cond.methodLink RX3 31 yX1_roomIn, Cond.instanceMethod yX1_roomIn, Cond.selects RX1 yX1_roomIn yX1_roomIn, Cond.initialized RX1, Cond.code yX1_roomIn cX1_roomIn 2 (some .int), Cond.fieldLink RX1 9 "RopedHalls$Hall" "room" "I", Cond.fieldLink RX1 15 "RopedHalls$Hall" "people" "[I", Cond.static yX5_isCell, Cond.initialized RX5, Cond.code yX5_isCell cX5_isCell 1 (some .boolean), Cond.methodLink RX3 41 yX1_letIn, Cond.instanceMethod yX1_letIn, Cond.selects RX1 yX1_letIn yX1_letIn]
def wsX3_letCrowdIn_r2 : List Cond := [Cond.code yX1_letIn cX1_letIn 3 none, Cond.fieldLink RX1 41 "RopedHalls$Hall" "cameIn" "I"]
def wsX3_letCrowdIn : List Cond := .code yX3_letCrowdIn cX3_letCrowdIn 6 none :: ((wsX3_letCrowdIn_r1 ++ wsX3_letCrowdIn_r2) ++ wsX30 ++ wsX10)
def wsX3_letCrowdsIn_r1 : List Cond := [Cond.fieldLink RX3 15 "RopedHalls$Pad" "length" "I", Cond.methodLink RX3 19 yX3_codeAt, Cond.instanceMethod yX3_codeAt, Cond.selects RX3 yX3_codeAt yX3_codeAt, Cond.initialized RX3, Cond.code yX3_codeAt cX3_codeAt 2 (some .int), Cond.fieldLink RX3 9 "RopedHalls$Pad" "codes" "[I", Cond.methodLink RX3 27 yX3_letCrowdIn, Cond.instanceMethod yX3_letCrowdIn, Cond.selects RX3 yX3_letCrowdIn yX3_letCrowdIn, Cond.code yX3_letCrowdIn cX3_letCrowdIn 6 none, Cond.methodLink RX3 36 Lib.Math.min.name, Cond.static Lib.Math.min.name, Cond.initialized "java/lang/Math", Cond.code Lib.Math.min.name Lib.Math.min.code 2 (some .int), Cond.methodLink RX3 31 yX1_roomIn, Cond.instanceMethod yX1_roomIn, Cond.selects RX1 yX1_roomIn yX1_roomIn, Cond.initialized RX1, Cond.code yX1_roomIn cX1_roomIn 2 (some .int), Cond.fieldLink RX1 9 "RopedHalls$Hall" "room" "I", Cond.fieldLink RX1 15 "RopedHalls$Hall" "people" "[I", Cond.static yX5_isCell, Cond.initialized RX5]
def wsX3_letCrowdsIn_r2 : List Cond := [Cond.code yX5_isCell cX5_isCell 1 (some .boolean), Cond.methodLink RX3 41 yX1_letIn, Cond.instanceMethod yX1_letIn, Cond.selects RX1 yX1_letIn yX1_letIn, Cond.code yX1_letIn cX1_letIn 3 none, Cond.fieldLink RX1 41 "RopedHalls$Hall" "cameIn" "I"]
def wsX3_letCrowdsIn : List Cond := .code yX3_letCrowdsIn cX3_letCrowdsIn 4 none :: ((wsX3_letCrowdsIn_r1 ++ wsX3_letCrowdsIn_r2) ++ wsX30 ++ wsX10)
def wsX4_cellsWithGoal : List Cond := .code yX4_cellsWithGoal cX4_cellsWithGoal 4 (some .int) :: ([.fieldLink RX4 18 "RopedHalls$Routes" "goals" "[I"] ++ wsX40)
def wsX5_init_r1 : List Cond := [Cond.methodLink RX5 3 objectInit, Cond.instanceMethod objectInit, Cond.code objectInit ⟨#[0xb1]⟩ 1 none, Cond.classLink RX5 9 RX1, Cond.instantiable RX1 12, Cond.initialized RX1, Cond.fieldLink RX5 12 "RopedHalls" "hall" "LRopedHalls$Hall;", Cond.classLink RX5 16 RX4, Cond.instantiable RX4 6, Cond.initialized RX4, Cond.fieldLink RX5 19 "RopedHalls" "routes" "LRopedHalls$Routes;", Cond.classLink RX5 23 RX2, Cond.instantiable RX2 1, Cond.initialized RX2, Cond.fieldLink RX5 26 "RopedHalls" "minute" "LRopedHalls$Minute;", Cond.classLink RX5 30 RX0, Cond.instantiable RX0 3, Cond.initialized RX0, Cond.fieldLink RX5 33 "RopedHalls" "forecast" "LRopedHalls$Forecast;", Cond.classLink RX5 37 RX3, Cond.instantiable RX3 2, Cond.initialized RX3, Cond.fieldLink RX5 40 "RopedHalls" "pad" "LRopedHalls$Pad;", Cond.fieldLink RX5 44 "RopedHalls" "history" "[LRopedHalls$Hall;"]
def wsX5_init_r2 : List Cond := [Cond.fieldLink RX5 48 "RopedHalls" "slots" "[LRopedHalls$Hall;", Cond.arrayClass .boolean, Cond.fieldLink RX5 51 "RopedHalls" "isSaved" "[Z", Cond.methodLink RX5 11 yX1_init, Cond.instanceMethod yX1_init, Cond.code yX1_init cX1_init 2 none, Cond.methodLink RX1 3 objectInit, Cond.fieldLink RX1 9 "RopedHalls$Hall" "room" "I", Cond.arrayClass .int, Cond.fieldLink RX1 15 "RopedHalls$Hall" "people" "[I", Cond.fieldLink RX1 19 "RopedHalls$Hall" "guards" "[I", Cond.fieldLink RX1 22 "RopedHalls$Hall" "ropes" "[Z", Cond.fieldLink RX1 26 "RopedHalls$Hall" "doorCell" "[I", Cond.fieldLink RX1 29 "RopedHalls$Hall" "doorRate" "[I", Cond.fieldLink RX1 32 "RopedHalls$Hall" "doorOpen" "[Z", Cond.fieldLink RX1 35 "RopedHalls$Hall" "doorOut" "[I", Cond.instanceMethod yX4_init, Cond.code yX4_init cX4_init 1 none, Cond.methodLink RX4 3 objectInit, Cond.fieldLink RX4 9 "RopedHalls$Routes" "steps" "[I", Cond.fieldLink RX4 15 "RopedHalls$Routes" "queue" "[I", Cond.fieldLink RX4 18 "RopedHalls$Routes" "goals" "[I", Cond.fieldLink RX4 21 "RopedHalls$Routes" "nexts" "[I", Cond.fieldLink RX4 24 "RopedHalls$Routes" "turns" "[I"]
def wsX5_init_r3 : List Cond := [Cond.instanceMethod yX2_init, Cond.code yX2_init cX2_init 1 none, Cond.methodLink RX2 3 objectInit, Cond.fieldLink RX2 9 "RopedHalls$Minute" "arrived" "[I", Cond.instanceMethod yX0_init, Cond.code yX0_init cX0_init 1 none, Cond.methodLink RX0 3 objectInit, Cond.classLink RX0 9 RX1, Cond.fieldLink RX0 12 "RopedHalls$Forecast" "trial" "LRopedHalls$Hall;", Cond.classLink RX0 18 RX4, Cond.fieldLink RX0 21 "RopedHalls$Forecast" "routes" "LRopedHalls$Routes;", Cond.classLink RX0 25 RX2, Cond.fieldLink RX0 28 "RopedHalls$Forecast" "minute" "LRopedHalls$Minute;", Cond.methodLink RX0 11 yX1_init, Cond.instanceMethod yX3_init, Cond.code yX3_init cX3_init 1 none, Cond.methodLink RX3 3 objectInit, Cond.fieldLink RX3 9 "RopedHalls$Pad" "codes" "[I"]
def wsX5_init : List Cond := .code yX5_init cX5_init 2 none :: ((wsX5_init_r1 ++ (wsX5_init_r2 ++ wsX5_init_r3)) ++ wsX10 ++ wsX50 ++ wsX40 ++ wsX20 ++ wsX00 ++ wsX30)
def wsX5_recorded : List Cond := .code yX5_recorded cX5_recorded 2 (some (.object "RopedHalls$Hall")) :: ([.fieldLink RX5 44 "RopedHalls" "history" "[LRopedHalls$Hall;"] ++ wsX50)
def wsX5_copyHall : List Cond := .code yX5_copyHall cX5_copyHall 2 none :: ([.methodLink RX5 236 yX1_copyFrom, .instanceMethod yX1_copyFrom, .selects RX1 yX1_copyFrom yX1_copyFrom, .initialized RX1, .code yX1_copyFrom cX1_copyFrom 3 none, .fieldLink RX1 9 "RopedHalls$Hall" "room" "I", .fieldLink RX1 38 "RopedHalls$Hall" "minutes" "I", .fieldLink RX1 41 "RopedHalls$Hall" "cameIn" "I", .fieldLink RX1 44 "RopedHalls$Hall" "waited" "I", .fieldLink RX1 47 "RopedHalls$Hall" "jams" "I", .fieldLink RX1 15 "RopedHalls$Hall" "people" "[I", .fieldLink RX1 19 "RopedHalls$Hall" "guards" "[I", .fieldLink RX1 22 "RopedHalls$Hall" "ropes" "[Z", .fieldLink RX1 26 "RopedHalls$Hall" "doorCell" "[I", .fieldLink RX1 29 "RopedHalls$Hall" "doorRate" "[I", .fieldLink RX1 32 "RopedHalls$Hall" "doorOpen" "[Z", .fieldLink RX1 35 "RopedHalls$Hall" "doorOut" "[I"] ++ wsX10)
def wsX5_remember_r1 : List Cond := [Cond.fieldLink RX5 217 "RopedHalls" "newest" "I", Cond.fieldLink RX5 12 "RopedHalls" "hall" "LRopedHalls$Hall;", Cond.fieldLink RX5 184 "RopedHalls" "changes" "I", Cond.methodLink RX5 228 Lib.Math.min.name, Cond.static Lib.Math.min.name, Cond.initialized "java/lang/Math", Cond.code Lib.Math.min.name Lib.Math.min.code 2 (some .int), Cond.methodLink RX5 220 yX5_recorded, Cond.instanceMethod yX5_recorded, Cond.selects RX5 yX5_recorded yX5_recorded, Cond.initialized RX5, Cond.code yX5_recorded cX5_recorded 2 (some (.object "RopedHalls$Hall")), Cond.fieldLink RX5 44 "RopedHalls" "history" "[LRopedHalls$Hall;", Cond.methodLink RX5 224 yX5_copyHall, Cond.static yX5_copyHall, Cond.code yX5_copyHall cX5_copyHall 2 none, Cond.methodLink RX5 236 yX1_copyFrom, Cond.instanceMethod yX1_copyFrom, Cond.selects RX1 yX1_copyFrom yX1_copyFrom, Cond.initialized RX1, Cond.code yX1_copyFrom cX1_copyFrom 3 none, Cond.fieldLink RX1 9 "RopedHalls$Hall" "room" "I", Cond.fieldLink RX1 38 "RopedHalls$Hall" "minutes" "I", Cond.fieldLink RX1 41 "RopedHalls$Hall" "cameIn" "I"]
def wsX5_remember_r2 : List Cond := [Cond.fieldLink RX1 44 "RopedHalls$Hall" "waited" "I", Cond.fieldLink RX1 47 "RopedHalls$Hall" "jams" "I", Cond.fieldLink RX1 15 "RopedHalls$Hall" "people" "[I", Cond.fieldLink RX1 19 "RopedHalls$Hall" "guards" "[I", Cond.fieldLink RX1 22 "RopedHalls$Hall" "ropes" "[Z", Cond.fieldLink RX1 26 "RopedHalls$Hall" "doorCell" "[I", Cond.fieldLink RX1 29 "RopedHalls$Hall" "doorRate" "[I", Cond.fieldLink RX1 32 "RopedHalls$Hall" "doorOpen" "[Z", Cond.fieldLink RX1 35 "RopedHalls$Hall" "doorOut" "[I"]
def wsX5_remember : List Cond := .code yX5_remember cX5_remember 1 none :: ((wsX5_remember_r1 ++ wsX5_remember_r2) ++ wsX50 ++ wsX10)
def wsX5_setRoom_r1 : List Cond := [Cond.fieldLink RX5 12 "RopedHalls" "hall" "LRopedHalls$Hall;", Cond.fieldLink RX5 62 "RopedHalls$Hall" "room" "I", Cond.methodLink RX5 55 yX1_fullestCell, Cond.instanceMethod yX1_fullestCell, Cond.selects RX1 yX1_fullestCell yX1_fullestCell, Cond.initialized RX1, Cond.code yX1_fullestCell cX1_fullestCell 3 (some .int), Cond.fieldLink RX1 15 "RopedHalls$Hall" "people" "[I", Cond.methodLink RX1 54 Lib.Math.max.name, Cond.static Lib.Math.max.name, Cond.initialized "java/lang/Math", Cond.code Lib.Math.max.name Lib.Math.max.code 2 (some .int), Cond.methodLink RX5 59 yX5_remember, Cond.instanceMethod yX5_remember, Cond.selects RX5 yX5_remember yX5_remember, Cond.initialized RX5, Cond.code yX5_remember cX5_remember 1 none, Cond.fieldLink RX5 217 "RopedHalls" "newest" "I", Cond.fieldLink RX5 184 "RopedHalls" "changes" "I", Cond.methodLink RX5 228 Lib.Math.min.name, Cond.static Lib.Math.min.name, Cond.code Lib.Math.min.name Lib.Math.min.code 2 (some .int), Cond.methodLink RX5 220 yX5_recorded, Cond.instanceMethod yX5_recorded]
def wsX5_setRoom_r2 : List Cond := [Cond.selects RX5 yX5_recorded yX5_recorded, Cond.code yX5_recorded cX5_recorded 2 (some (.object "RopedHalls$Hall")), Cond.fieldLink RX5 44 "RopedHalls" "history" "[LRopedHalls$Hall;", Cond.methodLink RX5 224 yX5_copyHall, Cond.static yX5_copyHall, Cond.code yX5_copyHall cX5_copyHall 2 none, Cond.methodLink RX5 236 yX1_copyFrom, Cond.instanceMethod yX1_copyFrom, Cond.selects RX1 yX1_copyFrom yX1_copyFrom, Cond.code yX1_copyFrom cX1_copyFrom 3 none, Cond.fieldLink RX1 9 "RopedHalls$Hall" "room" "I", Cond.fieldLink RX1 38 "RopedHalls$Hall" "minutes" "I", Cond.fieldLink RX1 41 "RopedHalls$Hall" "cameIn" "I", Cond.fieldLink RX1 44 "RopedHalls$Hall" "waited" "I", Cond.fieldLink RX1 47 "RopedHalls$Hall" "jams" "I", Cond.fieldLink RX1 19 "RopedHalls$Hall" "guards" "[I", Cond.fieldLink RX1 22 "RopedHalls$Hall" "ropes" "[Z", Cond.fieldLink RX1 26 "RopedHalls$Hall" "doorCell" "[I", Cond.fieldLink RX1 29 "RopedHalls$Hall" "doorRate" "[I", Cond.fieldLink RX1 32 "RopedHalls$Hall" "doorOpen" "[Z", Cond.fieldLink RX1 35 "RopedHalls$Hall" "doorOut" "[I"]
def wsX5_setRoom : List Cond := .code yX5_setRoom cX5_setRoom 3 (some .int) :: ((wsX5_setRoom_r1 ++ wsX5_setRoom_r2) ++ wsX50 ++ wsX10)
def wsX5_isSide : List Cond := .code yX5_isSide cX5_isSide 1 (some .boolean) :: ([])
def wsX5_edgeAt : List Cond := .code yX5_edgeAt cX5_edgeAt 2 (some .int) :: ([.methodLink RX5 242 yX5_edgeTowards, .static yX5_edgeTowards, .initialized RX5, .code yX5_edgeTowards cX5_edgeTowards 4 (some .int), .methodLink RX5 228 Lib.Math.min.name, .static Lib.Math.min.name, .initialized "java/lang/Math", .code Lib.Math.min.name Lib.Math.min.code 2 (some .int), .methodLink RX5 239 yX5_beside, .static yX5_beside, .code yX5_beside cX5_beside 2 (some .int)])
def wsX5_rope_r1 : List Cond := [Cond.fieldLink RX5 12 "RopedHalls" "hall" "LRopedHalls$Hall;", Cond.fieldLink RX5 80 "RopedHalls$Hall" "ropes" "[Z", Cond.methodLink RX5 66 yX5_isCell, Cond.static yX5_isCell, Cond.initialized RX5, Cond.code yX5_isCell cX5_isCell 1 (some .boolean), Cond.methodLink RX5 70 yX5_isSide, Cond.static yX5_isSide, Cond.code yX5_isSide cX5_isSide 1 (some .boolean), Cond.methodLink RX5 73 yX5_edgeAt, Cond.static yX5_edgeAt, Cond.code yX5_edgeAt cX5_edgeAt 2 (some .int), Cond.methodLink RX5 242 yX5_edgeTowards, Cond.static yX5_edgeTowards, Cond.code yX5_edgeTowards cX5_edgeTowards 4 (some .int), Cond.methodLink RX5 228 Lib.Math.min.name, Cond.static Lib.Math.min.name, Cond.initialized "java/lang/Math", Cond.code Lib.Math.min.name Lib.Math.min.code 2 (some .int), Cond.methodLink RX5 239 yX5_beside, Cond.static yX5_beside, Cond.code yX5_beside cX5_beside 2 (some .int), Cond.methodLink RX5 77 yX5_isEdge, Cond.static yX5_isEdge]
def wsX5_rope_r2 : List Cond := [Cond.code yX5_isEdge cX5_isEdge 1 (some .boolean), Cond.methodLink RX5 83 yX1_ropeCount, Cond.instanceMethod yX1_ropeCount, Cond.selects RX1 yX1_ropeCount yX1_ropeCount, Cond.initialized RX1, Cond.code yX1_ropeCount cX1_ropeCount 3 (some .int), Cond.fieldLink RX1 22 "RopedHalls$Hall" "ropes" "[Z", Cond.methodLink RX5 59 yX5_remember, Cond.instanceMethod yX5_remember, Cond.selects RX5 yX5_remember yX5_remember, Cond.code yX5_remember cX5_remember 1 none, Cond.fieldLink RX5 217 "RopedHalls" "newest" "I", Cond.fieldLink RX5 184 "RopedHalls" "changes" "I", Cond.methodLink RX5 220 yX5_recorded, Cond.instanceMethod yX5_recorded, Cond.selects RX5 yX5_recorded yX5_recorded, Cond.code yX5_recorded cX5_recorded 2 (some (.object "RopedHalls$Hall")), Cond.fieldLink RX5 44 "RopedHalls" "history" "[LRopedHalls$Hall;", Cond.methodLink RX5 224 yX5_copyHall, Cond.static yX5_copyHall, Cond.code yX5_copyHall cX5_copyHall 2 none, Cond.methodLink RX5 236 yX1_copyFrom, Cond.instanceMethod yX1_copyFrom, Cond.selects RX1 yX1_copyFrom yX1_copyFrom]
def wsX5_rope_r3 : List Cond := [Cond.code yX1_copyFrom cX1_copyFrom 3 none, Cond.fieldLink RX1 9 "RopedHalls$Hall" "room" "I", Cond.fieldLink RX1 38 "RopedHalls$Hall" "minutes" "I", Cond.fieldLink RX1 41 "RopedHalls$Hall" "cameIn" "I", Cond.fieldLink RX1 44 "RopedHalls$Hall" "waited" "I", Cond.fieldLink RX1 47 "RopedHalls$Hall" "jams" "I", Cond.fieldLink RX1 15 "RopedHalls$Hall" "people" "[I", Cond.fieldLink RX1 19 "RopedHalls$Hall" "guards" "[I", Cond.fieldLink RX1 26 "RopedHalls$Hall" "doorCell" "[I", Cond.fieldLink RX1 29 "RopedHalls$Hall" "doorRate" "[I", Cond.fieldLink RX1 32 "RopedHalls$Hall" "doorOpen" "[Z", Cond.fieldLink RX1 35 "RopedHalls$Hall" "doorOut" "[I"]
def wsX5_rope : List Cond := .code yX5_rope cX5_rope 5 (some .int) :: ((wsX5_rope_r1 ++ (wsX5_rope_r2 ++ wsX5_rope_r3)) ++ wsX50 ++ wsX10)
def wsX5_door_r1 : List Cond := [Cond.fieldLink RX5 12 "RopedHalls" "hall" "LRopedHalls$Hall;", Cond.fieldLink RX5 89 "RopedHalls$Hall" "doorCell" "[I", Cond.fieldLink RX5 93 "RopedHalls$Hall" "doorRate" "[I", Cond.methodLink RX5 86 yX5_isDoor, Cond.static yX5_isDoor, Cond.initialized RX5, Cond.code yX5_isDoor cX5_isDoor 1 (some .boolean), Cond.methodLink RX5 66 yX5_isCell, Cond.static yX5_isCell, Cond.code yX5_isCell cX5_isCell 1 (some .boolean), Cond.methodLink RX5 59 yX5_remember, Cond.instanceMethod yX5_remember, Cond.selects RX5 yX5_remember yX5_remember, Cond.code yX5_remember cX5_remember 1 none, Cond.fieldLink RX5 217 "RopedHalls" "newest" "I", Cond.fieldLink RX5 184 "RopedHalls" "changes" "I", Cond.methodLink RX5 228 Lib.Math.min.name, Cond.static Lib.Math.min.name, Cond.initialized "java/lang/Math", Cond.code Lib.Math.min.name Lib.Math.min.code 2 (some .int), Cond.methodLink RX5 220 yX5_recorded, Cond.instanceMethod yX5_recorded, Cond.selects RX5 yX5_recorded yX5_recorded, Cond.code yX5_recorded cX5_recorded 2 (some (.object "RopedHalls$Hall"))]
def wsX5_door_r2 : List Cond := [Cond.fieldLink RX5 44 "RopedHalls" "history" "[LRopedHalls$Hall;", Cond.methodLink RX5 224 yX5_copyHall, Cond.static yX5_copyHall, Cond.code yX5_copyHall cX5_copyHall 2 none, Cond.methodLink RX5 236 yX1_copyFrom, Cond.instanceMethod yX1_copyFrom, Cond.selects RX1 yX1_copyFrom yX1_copyFrom, Cond.initialized RX1, Cond.code yX1_copyFrom cX1_copyFrom 3 none, Cond.fieldLink RX1 9 "RopedHalls$Hall" "room" "I", Cond.fieldLink RX1 38 "RopedHalls$Hall" "minutes" "I", Cond.fieldLink RX1 41 "RopedHalls$Hall" "cameIn" "I", Cond.fieldLink RX1 44 "RopedHalls$Hall" "waited" "I", Cond.fieldLink RX1 47 "RopedHalls$Hall" "jams" "I", Cond.fieldLink RX1 15 "RopedHalls$Hall" "people" "[I", Cond.fieldLink RX1 19 "RopedHalls$Hall" "guards" "[I", Cond.fieldLink RX1 22 "RopedHalls$Hall" "ropes" "[Z", Cond.fieldLink RX1 26 "RopedHalls$Hall" "doorCell" "[I", Cond.fieldLink RX1 29 "RopedHalls$Hall" "doorRate" "[I", Cond.fieldLink RX1 32 "RopedHalls$Hall" "doorOpen" "[Z", Cond.fieldLink RX1 35 "RopedHalls$Hall" "doorOut" "[I"]
def wsX5_door : List Cond := .code yX5_door cX5_door 5 (some .int) :: ((wsX5_door_r1 ++ wsX5_door_r2) ++ wsX50 ++ wsX10)
def wsJ6_bitCount_0f7a4 : List Cond := .code yJ6_bitCount_0f7a4 cJ6_bitCount_0f7a4 1 (some .int) :: ([.constant RJ6 265 (1431655765), .constant RJ6 266 (858993459), .constant RJ6 267 (252645135)])
def wsX5_open_r1 : List Cond := [Cond.fieldLink RX5 12 "RopedHalls" "hall" "LRopedHalls$Hall;", Cond.fieldLink RX5 96 "RopedHalls$Hall" "doorOpen" "[Z", Cond.methodLink RX5 86 yX5_isDoor, Cond.static yX5_isDoor, Cond.initialized RX5, Cond.code yX5_isDoor cX5_isDoor 1 (some .boolean), Cond.methodLink RX5 59 yX5_remember, Cond.instanceMethod yX5_remember, Cond.selects RX5 yX5_remember yX5_remember, Cond.code yX5_remember cX5_remember 1 none, Cond.fieldLink RX5 217 "RopedHalls" "newest" "I", Cond.fieldLink RX5 184 "RopedHalls" "changes" "I", Cond.methodLink RX5 228 Lib.Math.min.name, Cond.static Lib.Math.min.name, Cond.initialized "java/lang/Math", Cond.code Lib.Math.min.name Lib.Math.min.code 2 (some .int), Cond.methodLink RX5 220 yX5_recorded, Cond.instanceMethod yX5_recorded, Cond.selects RX5 yX5_recorded yX5_recorded, Cond.code yX5_recorded cX5_recorded 2 (some (.object "RopedHalls$Hall")), Cond.fieldLink RX5 44 "RopedHalls" "history" "[LRopedHalls$Hall;", Cond.methodLink RX5 224 yX5_copyHall, Cond.static yX5_copyHall, Cond.code yX5_copyHall cX5_copyHall 2 none]
def wsX5_open_r2 : List Cond := [Cond.methodLink RX5 236 yX1_copyFrom, Cond.instanceMethod yX1_copyFrom, Cond.selects RX1 yX1_copyFrom yX1_copyFrom, Cond.initialized RX1, Cond.code yX1_copyFrom cX1_copyFrom 3 none, Cond.fieldLink RX1 9 "RopedHalls$Hall" "room" "I", Cond.fieldLink RX1 38 "RopedHalls$Hall" "minutes" "I", Cond.fieldLink RX1 41 "RopedHalls$Hall" "cameIn" "I", Cond.fieldLink RX1 44 "RopedHalls$Hall" "waited" "I", Cond.fieldLink RX1 47 "RopedHalls$Hall" "jams" "I", Cond.fieldLink RX1 15 "RopedHalls$Hall" "people" "[I", Cond.fieldLink RX1 19 "RopedHalls$Hall" "guards" "[I", Cond.fieldLink RX1 22 "RopedHalls$Hall" "ropes" "[Z", Cond.fieldLink RX1 26 "RopedHalls$Hall" "doorCell" "[I", Cond.fieldLink RX1 29 "RopedHalls$Hall" "doorRate" "[I", Cond.fieldLink RX1 32 "RopedHalls$Hall" "doorOpen" "[Z", Cond.fieldLink RX1 35 "RopedHalls$Hall" "doorOut" "[I", Cond.methodLink RX5 99 yX1_openDoors, Cond.instanceMethod yX1_openDoors, Cond.selects RX1 yX1_openDoors yX1_openDoors, Cond.code yX1_openDoors cX1_openDoors 3 (some .int), Cond.methodLink RX5 102 yJ6_bitCount_0f7a4, Cond.static yJ6_bitCount_0f7a4, Cond.initialized RJ6]
def wsX5_open_r3 : List Cond := [Cond.code yJ6_bitCount_0f7a4 cJ6_bitCount_0f7a4 1 (some .int), Cond.constant RJ6 265 (1431655765), Cond.constant RJ6 266 (858993459), Cond.constant RJ6 267 (252645135)]
def wsX5_open : List Cond := .code yX5_open cX5_open 3 (some .int) :: ((wsX5_open_r1 ++ (wsX5_open_r2 ++ wsX5_open_r3)) ++ wsX50 ++ wsX10)
def wsX5_guard_r1 : List Cond := [Cond.fieldLink RX5 12 "RopedHalls" "hall" "LRopedHalls$Hall;", Cond.fieldLink RX5 108 "RopedHalls$Hall" "guards" "[I", Cond.fieldLink RX5 19 "RopedHalls" "routes" "LRopedHalls$Routes;", Cond.methodLink RX5 66 yX5_isCell, Cond.static yX5_isCell, Cond.initialized RX5, Cond.code yX5_isCell cX5_isCell 1 (some .boolean), Cond.methodLink RX5 86 yX5_isDoor, Cond.static yX5_isDoor, Cond.code yX5_isDoor cX5_isDoor 1 (some .boolean), Cond.methodLink RX5 59 yX5_remember, Cond.instanceMethod yX5_remember, Cond.selects RX5 yX5_remember yX5_remember, Cond.code yX5_remember cX5_remember 1 none, Cond.fieldLink RX5 217 "RopedHalls" "newest" "I", Cond.fieldLink RX5 184 "RopedHalls" "changes" "I", Cond.methodLink RX5 228 Lib.Math.min.name, Cond.static Lib.Math.min.name, Cond.initialized "java/lang/Math", Cond.code Lib.Math.min.name Lib.Math.min.code 2 (some .int), Cond.methodLink RX5 220 yX5_recorded, Cond.instanceMethod yX5_recorded, Cond.selects RX5 yX5_recorded yX5_recorded, Cond.code yX5_recorded cX5_recorded 2 (some (.object "RopedHalls$Hall"))]
def wsX5_guard_r2 : List Cond := [Cond.fieldLink RX5 44 "RopedHalls" "history" "[LRopedHalls$Hall;", Cond.methodLink RX5 224 yX5_copyHall, Cond.static yX5_copyHall, Cond.code yX5_copyHall cX5_copyHall 2 none, Cond.methodLink RX5 236 yX1_copyFrom, Cond.instanceMethod yX1_copyFrom, Cond.selects RX1 yX1_copyFrom yX1_copyFrom, Cond.initialized RX1, Cond.code yX1_copyFrom cX1_copyFrom 3 none, Cond.fieldLink RX1 9 "RopedHalls$Hall" "room" "I", Cond.fieldLink RX1 38 "RopedHalls$Hall" "minutes" "I", Cond.fieldLink RX1 41 "RopedHalls$Hall" "cameIn" "I", Cond.fieldLink RX1 44 "RopedHalls$Hall" "waited" "I", Cond.fieldLink RX1 47 "RopedHalls$Hall" "jams" "I", Cond.fieldLink RX1 15 "RopedHalls$Hall" "people" "[I", Cond.fieldLink RX1 19 "RopedHalls$Hall" "guards" "[I", Cond.fieldLink RX1 22 "RopedHalls$Hall" "ropes" "[Z", Cond.fieldLink RX1 26 "RopedHalls$Hall" "doorCell" "[I", Cond.fieldLink RX1 29 "RopedHalls$Hall" "doorRate" "[I", Cond.fieldLink RX1 32 "RopedHalls$Hall" "doorOpen" "[Z", Cond.fieldLink RX1 35 "RopedHalls$Hall" "doorOut" "[I", Cond.methodLink RX5 111 yX4_find, Cond.instanceMethod yX4_find, Cond.selects RX4 yX4_find yX4_find]
def wsX5_guard_r3 : List Cond := [Cond.initialized RX4, Cond.code yX4_find cX4_find 3 none, Cond.fieldLink RX4 18 "RopedHalls$Routes" "goals" "[I", Cond.fieldLink RX4 21 "RopedHalls$Routes" "nexts" "[I", Cond.methodLink RX4 27 yX4_measureFrom, Cond.instanceMethod yX4_measureFrom, Cond.selects RX4 yX4_measureFrom yX4_measureFrom, Cond.code yX4_measureFrom cX4_measureFrom 10 none, Cond.fieldLink RX4 9 "RopedHalls$Routes" "steps" "[I", Cond.fieldLink RX4 68 "RopedHalls$Hall" "doorCell" "[I", Cond.fieldLink RX4 15 "RopedHalls$Routes" "queue" "[I", Cond.methodLink RX4 71 yX1_stepFrom, Cond.instanceMethod yX1_stepFrom, Cond.selects RX1 yX1_stepFrom yX1_stepFrom, Cond.code yX1_stepFrom cX1_stepFrom 4 (some .int), Cond.static yX5_edgeTowards, Cond.code yX5_edgeTowards cX5_edgeTowards 4 (some .int), Cond.methodLink RX5 239 yX5_beside, Cond.static yX5_beside, Cond.code yX5_beside cX5_beside 2 (some .int), Cond.static yX5_isEdge, Cond.code yX5_isEdge cX5_isEdge 1 (some .boolean), Cond.methodLink RX4 52 yX4_stepsTo, Cond.instanceMethod yX4_stepsTo]
def wsX5_guard_r4 : List Cond := [Cond.selects RX4 yX4_stepsTo yX4_stepsTo, Cond.code yX4_stepsTo cX4_stepsTo 3 (some .int), Cond.methodLink RX4 31 yX4_chooseGoal, Cond.instanceMethod yX4_chooseGoal, Cond.selects RX4 yX4_chooseGoal yX4_chooseGoal, Cond.code yX4_chooseGoal cX4_chooseGoal 7 (some .int), Cond.fieldLink RX4 74 "RopedHalls$Hall" "guards" "[I", Cond.fieldLink RX4 77 "RopedHalls$Hall" "doorOpen" "[Z", Cond.methodLink RX4 35 yX4_chooseNext, Cond.instanceMethod yX4_chooseNext, Cond.selects RX4 yX4_chooseNext yX4_chooseNext, Cond.code yX4_chooseNext cX4_chooseNext 6 (some .int), Cond.methodLink RX4 81 yX4_stepsToGoal, Cond.instanceMethod yX4_stepsToGoal, Cond.selects RX4 yX4_stepsToGoal yX4_stepsToGoal, Cond.code yX4_stepsToGoal cX4_stepsToGoal 2 (some .int), Cond.methodLink RX4 48 yX4_goalOf, Cond.instanceMethod yX4_goalOf, Cond.selects RX4 yX4_goalOf yX4_goalOf, Cond.code yX4_goalOf cX4_goalOf 2 (some .int), Cond.methodLink RX4 38 yX4_orderTurns, Cond.instanceMethod yX4_orderTurns, Cond.selects RX4 yX4_orderTurns yX4_orderTurns, Cond.code yX4_orderTurns cX4_orderTurns 3 none]
def wsX5_guard_r5 : List Cond := [Cond.fieldLink RX4 56 "RopedHalls$Routes" "turnCount" "I", Cond.fieldLink RX4 24 "RopedHalls$Routes" "turns" "[I", Cond.methodLink RX5 115 yX4_goalOf]
def wsX5_guard : List Cond := .code yX5_guard cX5_guard 3 (some .int) :: ((wsX5_guard_r1 ++ (wsX5_guard_r2 ++ (wsX5_guard_r3 ++ (wsX5_guard_r4 ++ wsX5_guard_r5)))) ++ wsX50 ++ wsX10 ++ wsX40)
def wsX5_enter_r1 : List Cond := [Cond.fieldLink RX5 12 "RopedHalls" "hall" "LRopedHalls$Hall;", Cond.fieldLink RX5 118 "RopedHalls$Hall" "people" "[I", Cond.fieldLink RX5 62 "RopedHalls$Hall" "room" "I", Cond.methodLink RX5 66 yX5_isCell, Cond.static yX5_isCell, Cond.initialized RX5, Cond.code yX5_isCell cX5_isCell 1 (some .boolean), Cond.methodLink RX5 59 yX5_remember, Cond.instanceMethod yX5_remember, Cond.selects RX5 yX5_remember yX5_remember, Cond.code yX5_remember cX5_remember 1 none, Cond.fieldLink RX5 217 "RopedHalls" "newest" "I", Cond.fieldLink RX5 184 "RopedHalls" "changes" "I", Cond.methodLink RX5 228 Lib.Math.min.name, Cond.static Lib.Math.min.name, Cond.initialized "java/lang/Math", Cond.code Lib.Math.min.name Lib.Math.min.code 2 (some .int), Cond.methodLink RX5 220 yX5_recorded, Cond.instanceMethod yX5_recorded, Cond.selects RX5 yX5_recorded yX5_recorded, Cond.code yX5_recorded cX5_recorded 2 (some (.object "RopedHalls$Hall")), Cond.fieldLink RX5 44 "RopedHalls" "history" "[LRopedHalls$Hall;", Cond.methodLink RX5 224 yX5_copyHall, Cond.static yX5_copyHall]
def wsX5_enter_r2 : List Cond := [Cond.code yX5_copyHall cX5_copyHall 2 none, Cond.methodLink RX5 236 yX1_copyFrom, Cond.instanceMethod yX1_copyFrom, Cond.selects RX1 yX1_copyFrom yX1_copyFrom, Cond.initialized RX1, Cond.code yX1_copyFrom cX1_copyFrom 3 none, Cond.fieldLink RX1 9 "RopedHalls$Hall" "room" "I", Cond.fieldLink RX1 38 "RopedHalls$Hall" "minutes" "I", Cond.fieldLink RX1 41 "RopedHalls$Hall" "cameIn" "I", Cond.fieldLink RX1 44 "RopedHalls$Hall" "waited" "I", Cond.fieldLink RX1 47 "RopedHalls$Hall" "jams" "I", Cond.fieldLink RX1 15 "RopedHalls$Hall" "people" "[I", Cond.fieldLink RX1 19 "RopedHalls$Hall" "guards" "[I", Cond.fieldLink RX1 22 "RopedHalls$Hall" "ropes" "[Z", Cond.fieldLink RX1 26 "RopedHalls$Hall" "doorCell" "[I", Cond.fieldLink RX1 29 "RopedHalls$Hall" "doorRate" "[I", Cond.fieldLink RX1 32 "RopedHalls$Hall" "doorOpen" "[Z", Cond.fieldLink RX1 35 "RopedHalls$Hall" "doorOut" "[I", Cond.methodLink RX5 121 yX1_letIn, Cond.instanceMethod yX1_letIn, Cond.selects RX1 yX1_letIn yX1_letIn, Cond.code yX1_letIn cX1_letIn 3 none]
def wsX5_enter : List Cond := .code yX5_enter cX5_enter 3 (some .int) :: ((wsX5_enter_r1 ++ wsX5_enter_r2) ++ wsX50 ++ wsX10)
def wsX5_read_r1 : List Cond := [Cond.fieldLink RX5 40 "RopedHalls" "pad" "LRopedHalls$Pad;", Cond.fieldLink RX5 12 "RopedHalls" "hall" "LRopedHalls$Hall;", Cond.fieldLink RX5 128 "RopedHalls$Hall" "cameIn" "I", Cond.fieldLink RX5 134 "RopedHalls$Pad" "length" "I", Cond.methodLink RX5 125 yX3_firstFault, Cond.instanceMethod yX3_firstFault, Cond.selects RX3 yX3_firstFault yX3_firstFault, Cond.initialized RX3, Cond.code yX3_firstFault cX3_firstFault 3 (some .int), Cond.fieldLink RX3 15 "RopedHalls$Pad" "length" "I", Cond.methodLink RX3 19 yX3_codeAt, Cond.instanceMethod yX3_codeAt, Cond.selects RX3 yX3_codeAt yX3_codeAt, Cond.code yX3_codeAt cX3_codeAt 2 (some .int), Cond.fieldLink RX3 9 "RopedHalls$Pad" "codes" "[I", Cond.methodLink RX3 23 yX3_placeBehind, Cond.static yX3_placeBehind, Cond.code yX3_placeBehind cX3_placeBehind 3 (some .int), Cond.methodLink RX3 45 yX3_placeBehindFirstDigit, Cond.static yX3_placeBehindFirstDigit, Cond.code yX3_placeBehindFirstDigit cX3_placeBehindFirstDigit 1 (some .int), Cond.methodLink RX5 59 yX5_remember, Cond.instanceMethod yX5_remember, Cond.selects RX5 yX5_remember yX5_remember]
def wsX5_read_r2 : List Cond := [Cond.initialized RX5, Cond.code yX5_remember cX5_remember 1 none, Cond.fieldLink RX5 217 "RopedHalls" "newest" "I", Cond.fieldLink RX5 184 "RopedHalls" "changes" "I", Cond.methodLink RX5 228 Lib.Math.min.name, Cond.static Lib.Math.min.name, Cond.initialized "java/lang/Math", Cond.code Lib.Math.min.name Lib.Math.min.code 2 (some .int), Cond.methodLink RX5 220 yX5_recorded, Cond.instanceMethod yX5_recorded, Cond.selects RX5 yX5_recorded yX5_recorded, Cond.code yX5_recorded cX5_recorded 2 (some (.object "RopedHalls$Hall")), Cond.fieldLink RX5 44 "RopedHalls" "history" "[LRopedHalls$Hall;", Cond.methodLink RX5 224 yX5_copyHall, Cond.static yX5_copyHall, Cond.code yX5_copyHall cX5_copyHall 2 none, Cond.methodLink RX5 236 yX1_copyFrom, Cond.instanceMethod yX1_copyFrom, Cond.selects RX1 yX1_copyFrom yX1_copyFrom, Cond.initialized RX1, Cond.code yX1_copyFrom cX1_copyFrom 3 none, Cond.fieldLink RX1 9 "RopedHalls$Hall" "room" "I", Cond.fieldLink RX1 38 "RopedHalls$Hall" "minutes" "I", Cond.fieldLink RX1 41 "RopedHalls$Hall" "cameIn" "I"]
def wsX5_read_r3 : List Cond := [Cond.fieldLink RX1 44 "RopedHalls$Hall" "waited" "I", Cond.fieldLink RX1 47 "RopedHalls$Hall" "jams" "I", Cond.fieldLink RX1 15 "RopedHalls$Hall" "people" "[I", Cond.fieldLink RX1 19 "RopedHalls$Hall" "guards" "[I", Cond.fieldLink RX1 22 "RopedHalls$Hall" "ropes" "[Z", Cond.fieldLink RX1 26 "RopedHalls$Hall" "doorCell" "[I", Cond.fieldLink RX1 29 "RopedHalls$Hall" "doorRate" "[I", Cond.fieldLink RX1 32 "RopedHalls$Hall" "doorOpen" "[Z", Cond.fieldLink RX1 35 "RopedHalls$Hall" "doorOut" "[I", Cond.methodLink RX5 131 yX3_letCrowdsIn, Cond.instanceMethod yX3_letCrowdsIn, Cond.selects RX3 yX3_letCrowdsIn yX3_letCrowdsIn, Cond.code yX3_letCrowdsIn cX3_letCrowdsIn 4 none, Cond.methodLink RX3 27 yX3_letCrowdIn, Cond.instanceMethod yX3_letCrowdIn, Cond.selects RX3 yX3_letCrowdIn yX3_letCrowdIn, Cond.code yX3_letCrowdIn cX3_letCrowdIn 6 none, Cond.methodLink RX3 36 Lib.Math.min.name, Cond.methodLink RX3 31 yX1_roomIn, Cond.instanceMethod yX1_roomIn, Cond.selects RX1 yX1_roomIn yX1_roomIn, Cond.code yX1_roomIn cX1_roomIn 2 (some .int), Cond.static yX5_isCell, Cond.code yX5_isCell cX5_isCell 1 (some .boolean)]
def wsX5_read_r4 : List Cond := [Cond.methodLink RX3 41 yX1_letIn, Cond.instanceMethod yX1_letIn, Cond.selects RX1 yX1_letIn yX1_letIn, Cond.code yX1_letIn cX1_letIn 3 none]
def wsX5_read : List Cond := .code yX5_read cX5_read 2 (some .int) :: ((wsX5_read_r1 ++ (wsX5_read_r2 ++ (wsX5_read_r3 ++ wsX5_read_r4))) ++ wsX50 ++ wsX10 ++ wsX30)
def wsX5_pass_r1 : List Cond := [Cond.fieldLink RX5 12 "RopedHalls" "hall" "LRopedHalls$Hall;", Cond.fieldLink RX5 137 "RopedHalls$Hall" "minutes" "I", Cond.fieldLink RX5 19 "RopedHalls" "routes" "LRopedHalls$Routes;", Cond.fieldLink RX5 26 "RopedHalls" "minute" "LRopedHalls$Minute;", Cond.methodLink RX5 59 yX5_remember, Cond.instanceMethod yX5_remember, Cond.selects RX5 yX5_remember yX5_remember, Cond.initialized RX5, Cond.code yX5_remember cX5_remember 1 none, Cond.fieldLink RX5 217 "RopedHalls" "newest" "I", Cond.fieldLink RX5 184 "RopedHalls" "changes" "I", Cond.methodLink RX5 228 Lib.Math.min.name, Cond.static Lib.Math.min.name, Cond.initialized "java/lang/Math", Cond.code Lib.Math.min.name Lib.Math.min.code 2 (some .int), Cond.methodLink RX5 220 yX5_recorded, Cond.instanceMethod yX5_recorded, Cond.selects RX5 yX5_recorded yX5_recorded, Cond.code yX5_recorded cX5_recorded 2 (some (.object "RopedHalls$Hall")), Cond.fieldLink RX5 44 "RopedHalls" "history" "[LRopedHalls$Hall;", Cond.methodLink RX5 224 yX5_copyHall, Cond.static yX5_copyHall, Cond.code yX5_copyHall cX5_copyHall 2 none, Cond.methodLink RX5 236 yX1_copyFrom]
def wsX5_pass_r2 : List Cond := [Cond.instanceMethod yX1_copyFrom, Cond.selects RX1 yX1_copyFrom yX1_copyFrom, Cond.initialized RX1, Cond.code yX1_copyFrom cX1_copyFrom 3 none, Cond.fieldLink RX1 9 "RopedHalls$Hall" "room" "I", Cond.fieldLink RX1 38 "RopedHalls$Hall" "minutes" "I", Cond.fieldLink RX1 41 "RopedHalls$Hall" "cameIn" "I", Cond.fieldLink RX1 44 "RopedHalls$Hall" "waited" "I", Cond.fieldLink RX1 47 "RopedHalls$Hall" "jams" "I", Cond.fieldLink RX1 15 "RopedHalls$Hall" "people" "[I", Cond.fieldLink RX1 19 "RopedHalls$Hall" "guards" "[I", Cond.fieldLink RX1 22 "RopedHalls$Hall" "ropes" "[Z", Cond.fieldLink RX1 26 "RopedHalls$Hall" "doorCell" "[I", Cond.fieldLink RX1 29 "RopedHalls$Hall" "doorRate" "[I", Cond.fieldLink RX1 32 "RopedHalls$Hall" "doorOpen" "[Z", Cond.fieldLink RX1 35 "RopedHalls$Hall" "doorOut" "[I", Cond.methodLink RX5 111 yX4_find, Cond.instanceMethod yX4_find, Cond.selects RX4 yX4_find yX4_find, Cond.initialized RX4, Cond.code yX4_find cX4_find 3 none, Cond.fieldLink RX4 18 "RopedHalls$Routes" "goals" "[I", Cond.fieldLink RX4 21 "RopedHalls$Routes" "nexts" "[I", Cond.methodLink RX4 27 yX4_measureFrom]
def wsX5_pass_r3 : List Cond := [Cond.instanceMethod yX4_measureFrom, Cond.selects RX4 yX4_measureFrom yX4_measureFrom, Cond.code yX4_measureFrom cX4_measureFrom 10 none, Cond.fieldLink RX4 9 "RopedHalls$Routes" "steps" "[I", Cond.fieldLink RX4 68 "RopedHalls$Hall" "doorCell" "[I", Cond.fieldLink RX4 15 "RopedHalls$Routes" "queue" "[I", Cond.static yX5_isCell, Cond.code yX5_isCell cX5_isCell 1 (some .boolean), Cond.methodLink RX4 71 yX1_stepFrom, Cond.instanceMethod yX1_stepFrom, Cond.selects RX1 yX1_stepFrom yX1_stepFrom, Cond.code yX1_stepFrom cX1_stepFrom 4 (some .int), Cond.static yX5_edgeTowards, Cond.code yX5_edgeTowards cX5_edgeTowards 4 (some .int), Cond.methodLink RX5 239 yX5_beside, Cond.static yX5_beside, Cond.code yX5_beside cX5_beside 2 (some .int), Cond.static yX5_isEdge, Cond.code yX5_isEdge cX5_isEdge 1 (some .boolean), Cond.methodLink RX4 52 yX4_stepsTo, Cond.instanceMethod yX4_stepsTo, Cond.selects RX4 yX4_stepsTo yX4_stepsTo, Cond.code yX4_stepsTo cX4_stepsTo 3 (some .int), Cond.static yX5_isDoor]
def wsX5_pass_r4 : List Cond := [Cond.code yX5_isDoor cX5_isDoor 1 (some .boolean), Cond.methodLink RX4 31 yX4_chooseGoal, Cond.instanceMethod yX4_chooseGoal, Cond.selects RX4 yX4_chooseGoal yX4_chooseGoal, Cond.code yX4_chooseGoal cX4_chooseGoal 7 (some .int), Cond.fieldLink RX4 74 "RopedHalls$Hall" "guards" "[I", Cond.fieldLink RX4 77 "RopedHalls$Hall" "doorOpen" "[Z", Cond.methodLink RX4 35 yX4_chooseNext, Cond.instanceMethod yX4_chooseNext, Cond.selects RX4 yX4_chooseNext yX4_chooseNext, Cond.code yX4_chooseNext cX4_chooseNext 6 (some .int), Cond.methodLink RX4 81 yX4_stepsToGoal, Cond.instanceMethod yX4_stepsToGoal, Cond.selects RX4 yX4_stepsToGoal yX4_stepsToGoal, Cond.code yX4_stepsToGoal cX4_stepsToGoal 2 (some .int), Cond.methodLink RX4 48 yX4_goalOf, Cond.instanceMethod yX4_goalOf, Cond.selects RX4 yX4_goalOf yX4_goalOf, Cond.code yX4_goalOf cX4_goalOf 2 (some .int), Cond.methodLink RX4 38 yX4_orderTurns, Cond.instanceMethod yX4_orderTurns, Cond.selects RX4 yX4_orderTurns yX4_orderTurns, Cond.code yX4_orderTurns cX4_orderTurns 3 none, Cond.fieldLink RX4 56 "RopedHalls$Routes" "turnCount" "I"]
def wsX5_pass_r5 : List Cond := [Cond.fieldLink RX4 24 "RopedHalls$Routes" "turns" "[I", Cond.methodLink RX5 140 yX2_run, Cond.instanceMethod yX2_run, Cond.selects RX2 yX2_run yX2_run, Cond.initialized RX2, Cond.code yX2_run cX2_run 6 (some .int), Cond.fieldLink RX2 15 "RopedHalls$Hall" "minutes" "I", Cond.fieldLink RX2 9 "RopedHalls$Minute" "arrived" "[I", Cond.methodLink RX2 21 yX2_letOut, Cond.static yX2_letOut, Cond.code yX2_letOut cX2_letOut 4 (some .int), Cond.fieldLink RX2 42 "RopedHalls$Hall" "doorCell" "[I", Cond.fieldLink RX2 45 "RopedHalls$Hall" "doorOpen" "[Z", Cond.fieldLink RX2 53 "RopedHalls$Hall" "doorRate" "[I", Cond.fieldLink RX2 56 "RopedHalls$Hall" "people" "[I", Cond.methodLink RX2 59 Lib.Math.min.name, Cond.fieldLink RX2 65 "RopedHalls$Hall" "doorOut" "[I", Cond.methodLink RX2 25 yX4_turnsAMinute, Cond.instanceMethod yX4_turnsAMinute, Cond.selects RX4 yX4_turnsAMinute yX4_turnsAMinute, Cond.code yX4_turnsAMinute cX4_turnsAMinute 1 (some .int), Cond.methodLink RX2 31 yX4_cellAtTurn, Cond.instanceMethod yX4_cellAtTurn, Cond.selects RX4 yX4_cellAtTurn yX4_cellAtTurn]
def wsX5_pass_r6 : List Cond := [Cond.code yX4_cellAtTurn cX4_cellAtTurn 2 (some .int), Cond.methodLink RX2 35 yX4_nextOf, Cond.instanceMethod yX4_nextOf, Cond.selects RX4 yX4_nextOf yX4_nextOf, Cond.code yX4_nextOf cX4_nextOf 2 (some .int), Cond.methodLink RX2 38 yX2_move, Cond.instanceMethod yX2_move, Cond.selects RX2 yX2_move yX2_move, Cond.code yX2_move cX2_move 6 none, Cond.fieldLink RX2 71 "RopedHalls$Hall" "jams" "I", Cond.fieldLink RX2 74 "RopedHalls$Hall" "waited" "I", Cond.methodLink RX2 68 yX1_roomIn, Cond.instanceMethod yX1_roomIn, Cond.selects RX1 yX1_roomIn yX1_roomIn, Cond.code yX1_roomIn cX1_roomIn 2 (some .int)]
def wsX5_pass : List Cond := .code yX5_pass cX5_pass 4 (some .int) :: ((wsX5_pass_r1 ++ (wsX5_pass_r2 ++ (wsX5_pass_r3 ++ (wsX5_pass_r4 ++ (wsX5_pass_r5 ++ wsX5_pass_r6))))) ++ wsX50 ++ wsX10 ++ wsX40 ++ wsX20)
def wsX5_cell_r1 : List Cond := [Cond.fieldLink RX5 19 "RopedHalls" "routes" "LRopedHalls$Routes;", Cond.fieldLink RX5 12 "RopedHalls" "hall" "LRopedHalls$Hall;", Cond.fieldLink RX5 118 "RopedHalls$Hall" "people" "[I", Cond.fieldLink RX5 108 "RopedHalls$Hall" "guards" "[I", Cond.methodLink RX5 66 yX5_isCell, Cond.static yX5_isCell, Cond.initialized RX5, Cond.code yX5_isCell cX5_isCell 1 (some .boolean), Cond.methodLink RX5 111 yX4_find, Cond.instanceMethod yX4_find, Cond.selects RX4 yX4_find yX4_find, Cond.initialized RX4, Cond.code yX4_find cX4_find 3 none, Cond.fieldLink RX4 18 "RopedHalls$Routes" "goals" "[I", Cond.fieldLink RX4 21 "RopedHalls$Routes" "nexts" "[I", Cond.methodLink RX4 27 yX4_measureFrom, Cond.instanceMethod yX4_measureFrom, Cond.selects RX4 yX4_measureFrom yX4_measureFrom, Cond.code yX4_measureFrom cX4_measureFrom 10 none, Cond.fieldLink RX4 9 "RopedHalls$Routes" "steps" "[I", Cond.fieldLink RX4 68 "RopedHalls$Hall" "doorCell" "[I", Cond.fieldLink RX4 15 "RopedHalls$Routes" "queue" "[I", Cond.methodLink RX4 71 yX1_stepFrom, Cond.instanceMethod yX1_stepFrom]
def wsX5_cell_r2 : List Cond := [Cond.selects RX1 yX1_stepFrom yX1_stepFrom, Cond.initialized RX1, Cond.code yX1_stepFrom cX1_stepFrom 4 (some .int), Cond.fieldLink RX1 22 "RopedHalls$Hall" "ropes" "[Z", Cond.static yX5_edgeTowards, Cond.code yX5_edgeTowards cX5_edgeTowards 4 (some .int), Cond.methodLink RX5 228 Lib.Math.min.name, Cond.static Lib.Math.min.name, Cond.initialized "java/lang/Math", Cond.code Lib.Math.min.name Lib.Math.min.code 2 (some .int), Cond.methodLink RX5 239 yX5_beside, Cond.static yX5_beside, Cond.code yX5_beside cX5_beside 2 (some .int), Cond.static yX5_isEdge, Cond.code yX5_isEdge cX5_isEdge 1 (some .boolean), Cond.methodLink RX4 52 yX4_stepsTo, Cond.instanceMethod yX4_stepsTo, Cond.selects RX4 yX4_stepsTo yX4_stepsTo, Cond.code yX4_stepsTo cX4_stepsTo 3 (some .int), Cond.static yX5_isDoor, Cond.code yX5_isDoor cX5_isDoor 1 (some .boolean), Cond.methodLink RX4 31 yX4_chooseGoal, Cond.instanceMethod yX4_chooseGoal, Cond.selects RX4 yX4_chooseGoal yX4_chooseGoal]
def wsX5_cell_r3 : List Cond := [Cond.code yX4_chooseGoal cX4_chooseGoal 7 (some .int), Cond.fieldLink RX4 74 "RopedHalls$Hall" "guards" "[I", Cond.fieldLink RX4 77 "RopedHalls$Hall" "doorOpen" "[Z", Cond.methodLink RX4 35 yX4_chooseNext, Cond.instanceMethod yX4_chooseNext, Cond.selects RX4 yX4_chooseNext yX4_chooseNext, Cond.code yX4_chooseNext cX4_chooseNext 6 (some .int), Cond.methodLink RX4 81 yX4_stepsToGoal, Cond.instanceMethod yX4_stepsToGoal, Cond.selects RX4 yX4_stepsToGoal yX4_stepsToGoal, Cond.code yX4_stepsToGoal cX4_stepsToGoal 2 (some .int), Cond.methodLink RX4 48 yX4_goalOf, Cond.instanceMethod yX4_goalOf, Cond.selects RX4 yX4_goalOf yX4_goalOf, Cond.code yX4_goalOf cX4_goalOf 2 (some .int), Cond.methodLink RX4 38 yX4_orderTurns, Cond.instanceMethod yX4_orderTurns, Cond.selects RX4 yX4_orderTurns yX4_orderTurns, Cond.code yX4_orderTurns cX4_orderTurns 3 none, Cond.fieldLink RX4 56 "RopedHalls$Routes" "turnCount" "I", Cond.fieldLink RX4 24 "RopedHalls$Routes" "turns" "[I", Cond.methodLink RX5 115 yX4_goalOf, Cond.methodLink RX5 144 yX4_stepsToGoal, Cond.methodLink RX5 147 yX4_nextOf]
def wsX5_cell_r4 : List Cond := [Cond.instanceMethod yX4_nextOf, Cond.selects RX4 yX4_nextOf yX4_nextOf, Cond.code yX4_nextOf cX4_nextOf 2 (some .int), Cond.methodLink RX5 150 yX1_ropesAround, Cond.instanceMethod yX1_ropesAround, Cond.selects RX1 yX1_ropesAround yX1_ropesAround, Cond.code yX1_ropesAround cX1_ropesAround 5 (some .int)]
def wsX5_cell : List Cond := .code yX5_cell cX5_cell 3 (some .int) :: ((wsX5_cell_r1 ++ (wsX5_cell_r2 ++ (wsX5_cell_r3 ++ wsX5_cell_r4))) ++ wsX50 ++ wsX10 ++ wsX40)
def wsX5_doorOf_r1 : List Cond := [Cond.fieldLink RX5 19 "RopedHalls" "routes" "LRopedHalls$Routes;", Cond.fieldLink RX5 12 "RopedHalls" "hall" "LRopedHalls$Hall;", Cond.fieldLink RX5 89 "RopedHalls$Hall" "doorCell" "[I", Cond.fieldLink RX5 93 "RopedHalls$Hall" "doorRate" "[I", Cond.fieldLink RX5 96 "RopedHalls$Hall" "doorOpen" "[Z", Cond.fieldLink RX5 153 "RopedHalls$Hall" "doorOut" "[I", Cond.methodLink RX5 86 yX5_isDoor, Cond.static yX5_isDoor, Cond.initialized RX5, Cond.code yX5_isDoor cX5_isDoor 1 (some .boolean), Cond.methodLink RX5 111 yX4_find, Cond.instanceMethod yX4_find, Cond.selects RX4 yX4_find yX4_find, Cond.initialized RX4, Cond.code yX4_find cX4_find 3 none, Cond.fieldLink RX4 18 "RopedHalls$Routes" "goals" "[I", Cond.fieldLink RX4 21 "RopedHalls$Routes" "nexts" "[I", Cond.methodLink RX4 27 yX4_measureFrom, Cond.instanceMethod yX4_measureFrom, Cond.selects RX4 yX4_measureFrom yX4_measureFrom, Cond.code yX4_measureFrom cX4_measureFrom 10 none, Cond.fieldLink RX4 9 "RopedHalls$Routes" "steps" "[I", Cond.fieldLink RX4 68 "RopedHalls$Hall" "doorCell" "[I", Cond.fieldLink RX4 15 "RopedHalls$Routes" "queue" "[I"]
def wsX5_doorOf_r2 : List Cond := [Cond.static yX5_isCell, Cond.code yX5_isCell cX5_isCell 1 (some .boolean), Cond.methodLink RX4 71 yX1_stepFrom, Cond.instanceMethod yX1_stepFrom, Cond.selects RX1 yX1_stepFrom yX1_stepFrom, Cond.initialized RX1, Cond.code yX1_stepFrom cX1_stepFrom 4 (some .int), Cond.fieldLink RX1 22 "RopedHalls$Hall" "ropes" "[Z", Cond.static yX5_edgeTowards, Cond.code yX5_edgeTowards cX5_edgeTowards 4 (some .int), Cond.methodLink RX5 228 Lib.Math.min.name, Cond.static Lib.Math.min.name, Cond.initialized "java/lang/Math", Cond.code Lib.Math.min.name Lib.Math.min.code 2 (some .int), Cond.methodLink RX5 239 yX5_beside, Cond.static yX5_beside, Cond.code yX5_beside cX5_beside 2 (some .int), Cond.static yX5_isEdge, Cond.code yX5_isEdge cX5_isEdge 1 (some .boolean), Cond.methodLink RX4 52 yX4_stepsTo, Cond.instanceMethod yX4_stepsTo, Cond.selects RX4 yX4_stepsTo yX4_stepsTo, Cond.code yX4_stepsTo cX4_stepsTo 3 (some .int), Cond.methodLink RX4 31 yX4_chooseGoal]
def wsX5_doorOf_r3 : List Cond := [Cond.instanceMethod yX4_chooseGoal, Cond.selects RX4 yX4_chooseGoal yX4_chooseGoal, Cond.code yX4_chooseGoal cX4_chooseGoal 7 (some .int), Cond.fieldLink RX4 74 "RopedHalls$Hall" "guards" "[I", Cond.fieldLink RX4 77 "RopedHalls$Hall" "doorOpen" "[Z", Cond.methodLink RX4 35 yX4_chooseNext, Cond.instanceMethod yX4_chooseNext, Cond.selects RX4 yX4_chooseNext yX4_chooseNext, Cond.code yX4_chooseNext cX4_chooseNext 6 (some .int), Cond.methodLink RX4 81 yX4_stepsToGoal, Cond.instanceMethod yX4_stepsToGoal, Cond.selects RX4 yX4_stepsToGoal yX4_stepsToGoal, Cond.code yX4_stepsToGoal cX4_stepsToGoal 2 (some .int), Cond.methodLink RX4 48 yX4_goalOf, Cond.instanceMethod yX4_goalOf, Cond.selects RX4 yX4_goalOf yX4_goalOf, Cond.code yX4_goalOf cX4_goalOf 2 (some .int), Cond.methodLink RX4 38 yX4_orderTurns, Cond.instanceMethod yX4_orderTurns, Cond.selects RX4 yX4_orderTurns yX4_orderTurns, Cond.code yX4_orderTurns cX4_orderTurns 3 none, Cond.fieldLink RX4 56 "RopedHalls$Routes" "turnCount" "I", Cond.fieldLink RX4 24 "RopedHalls$Routes" "turns" "[I", Cond.methodLink RX5 156 yX4_cellsWithGoal]
def wsX5_doorOf_r4 : List Cond := [Cond.instanceMethod yX4_cellsWithGoal, Cond.selects RX4 yX4_cellsWithGoal yX4_cellsWithGoal, Cond.code yX4_cellsWithGoal cX4_cellsWithGoal 4 (some .int), Cond.methodLink RX5 159 yX4_peopleWithGoal, Cond.instanceMethod yX4_peopleWithGoal, Cond.selects RX4 yX4_peopleWithGoal yX4_peopleWithGoal, Cond.code yX4_peopleWithGoal cX4_peopleWithGoal 5 (some .int), Cond.fieldLink RX4 60 "RopedHalls$Hall" "people" "[I"]
def wsX5_doorOf : List Cond := .code yX5_doorOf cX5_doorOf 3 (some .int) :: ((wsX5_doorOf_r1 ++ (wsX5_doorOf_r2 ++ (wsX5_doorOf_r3 ++ wsX5_doorOf_r4))) ++ wsX50 ++ wsX10 ++ wsX40)
def wsX5_strandedNow_r1 : List Cond := [Cond.fieldLink RX5 19 "RopedHalls" "routes" "LRopedHalls$Routes;", Cond.fieldLink RX5 12 "RopedHalls" "hall" "LRopedHalls$Hall;", Cond.methodLink RX5 111 yX4_find, Cond.instanceMethod yX4_find, Cond.selects RX4 yX4_find yX4_find, Cond.initialized RX4, Cond.code yX4_find cX4_find 3 none, Cond.fieldLink RX4 18 "RopedHalls$Routes" "goals" "[I", Cond.fieldLink RX4 21 "RopedHalls$Routes" "nexts" "[I", Cond.methodLink RX4 27 yX4_measureFrom, Cond.instanceMethod yX4_measureFrom, Cond.selects RX4 yX4_measureFrom yX4_measureFrom, Cond.code yX4_measureFrom cX4_measureFrom 10 none, Cond.fieldLink RX4 9 "RopedHalls$Routes" "steps" "[I", Cond.fieldLink RX4 68 "RopedHalls$Hall" "doorCell" "[I", Cond.fieldLink RX4 15 "RopedHalls$Routes" "queue" "[I", Cond.static yX5_isCell, Cond.initialized RX5, Cond.code yX5_isCell cX5_isCell 1 (some .boolean), Cond.methodLink RX4 71 yX1_stepFrom, Cond.instanceMethod yX1_stepFrom, Cond.selects RX1 yX1_stepFrom yX1_stepFrom, Cond.initialized RX1, Cond.code yX1_stepFrom cX1_stepFrom 4 (some .int)]
def wsX5_strandedNow_r2 : List Cond := [Cond.fieldLink RX1 22 "RopedHalls$Hall" "ropes" "[Z", Cond.static yX5_edgeTowards, Cond.code yX5_edgeTowards cX5_edgeTowards 4 (some .int), Cond.methodLink RX5 228 Lib.Math.min.name, Cond.static Lib.Math.min.name, Cond.initialized "java/lang/Math", Cond.code Lib.Math.min.name Lib.Math.min.code 2 (some .int), Cond.methodLink RX5 239 yX5_beside, Cond.static yX5_beside, Cond.code yX5_beside cX5_beside 2 (some .int), Cond.static yX5_isEdge, Cond.code yX5_isEdge cX5_isEdge 1 (some .boolean), Cond.methodLink RX4 52 yX4_stepsTo, Cond.instanceMethod yX4_stepsTo, Cond.selects RX4 yX4_stepsTo yX4_stepsTo, Cond.code yX4_stepsTo cX4_stepsTo 3 (some .int), Cond.static yX5_isDoor, Cond.code yX5_isDoor cX5_isDoor 1 (some .boolean), Cond.methodLink RX4 31 yX4_chooseGoal, Cond.instanceMethod yX4_chooseGoal, Cond.selects RX4 yX4_chooseGoal yX4_chooseGoal, Cond.code yX4_chooseGoal cX4_chooseGoal 7 (some .int), Cond.fieldLink RX4 74 "RopedHalls$Hall" "guards" "[I", Cond.fieldLink RX4 77 "RopedHalls$Hall" "doorOpen" "[Z"]
def wsX5_strandedNow_r3 : List Cond := [Cond.methodLink RX4 35 yX4_chooseNext, Cond.instanceMethod yX4_chooseNext, Cond.selects RX4 yX4_chooseNext yX4_chooseNext, Cond.code yX4_chooseNext cX4_chooseNext 6 (some .int), Cond.methodLink RX4 81 yX4_stepsToGoal, Cond.instanceMethod yX4_stepsToGoal, Cond.selects RX4 yX4_stepsToGoal yX4_stepsToGoal, Cond.code yX4_stepsToGoal cX4_stepsToGoal 2 (some .int), Cond.methodLink RX4 48 yX4_goalOf, Cond.instanceMethod yX4_goalOf, Cond.selects RX4 yX4_goalOf yX4_goalOf, Cond.code yX4_goalOf cX4_goalOf 2 (some .int), Cond.methodLink RX4 38 yX4_orderTurns, Cond.instanceMethod yX4_orderTurns, Cond.selects RX4 yX4_orderTurns yX4_orderTurns, Cond.code yX4_orderTurns cX4_orderTurns 3 none, Cond.fieldLink RX4 56 "RopedHalls$Routes" "turnCount" "I", Cond.fieldLink RX4 24 "RopedHalls$Routes" "turns" "[I", Cond.methodLink RX5 233 yX4_stranded, Cond.instanceMethod yX4_stranded, Cond.selects RX4 yX4_stranded yX4_stranded, Cond.code yX4_stranded cX4_stranded 2 (some .int), Cond.methodLink RX4 65 yX4_peopleWithGoal, Cond.instanceMethod yX4_peopleWithGoal]
def wsX5_strandedNow_r4 : List Cond := [Cond.selects RX4 yX4_peopleWithGoal yX4_peopleWithGoal, Cond.code yX4_peopleWithGoal cX4_peopleWithGoal 5 (some .int), Cond.fieldLink RX4 60 "RopedHalls$Hall" "people" "[I"]
def wsX5_strandedNow : List Cond := .code yX5_strandedNow cX5_strandedNow 1 (some .int) :: ((wsX5_strandedNow_r1 ++ (wsX5_strandedNow_r2 ++ (wsX5_strandedNow_r3 ++ wsX5_strandedNow_r4))) ++ wsX50 ++ wsX40 ++ wsX10)
def wsX5_count_r1 : List Cond := [Cond.fieldLink RX5 12 "RopedHalls" "hall" "LRopedHalls$Hall;", Cond.fieldLink RX5 62 "RopedHalls$Hall" "room" "I", Cond.fieldLink RX5 137 "RopedHalls$Hall" "minutes" "I", Cond.fieldLink RX5 128 "RopedHalls$Hall" "cameIn" "I", Cond.fieldLink RX5 169 "RopedHalls$Hall" "waited" "I", Cond.fieldLink RX5 172 "RopedHalls$Hall" "jams" "I", Cond.fieldLink RX5 40 "RopedHalls" "pad" "LRopedHalls$Pad;", Cond.fieldLink RX5 134 "RopedHalls$Pad" "length" "I", Cond.fieldLink RX5 184 "RopedHalls" "changes" "I", Cond.methodLink RX5 163 yX1_peopleInside, Cond.instanceMethod yX1_peopleInside, Cond.selects RX1 yX1_peopleInside yX1_peopleInside, Cond.initialized RX1, Cond.code yX1_peopleInside cX1_peopleInside 3 (some .int), Cond.fieldLink RX1 15 "RopedHalls$Hall" "people" "[I", Cond.methodLink RX5 166 yX1_peopleOut, Cond.instanceMethod yX1_peopleOut, Cond.selects RX1 yX1_peopleOut yX1_peopleOut, Cond.code yX1_peopleOut cX1_peopleOut 3 (some .int), Cond.fieldLink RX1 35 "RopedHalls$Hall" "doorOut" "[I", Cond.methodLink RX5 83 yX1_ropeCount, Cond.instanceMethod yX1_ropeCount, Cond.selects RX1 yX1_ropeCount yX1_ropeCount, Cond.code yX1_ropeCount cX1_ropeCount 3 (some .int)]
def wsX5_count_r2 : List Cond := [Cond.fieldLink RX1 22 "RopedHalls$Hall" "ropes" "[Z", Cond.methodLink RX5 99 yX1_openDoors, Cond.instanceMethod yX1_openDoors, Cond.selects RX1 yX1_openDoors yX1_openDoors, Cond.code yX1_openDoors cX1_openDoors 3 (some .int), Cond.fieldLink RX1 32 "RopedHalls$Hall" "doorOpen" "[Z", Cond.methodLink RX5 175 yX5_strandedNow, Cond.instanceMethod yX5_strandedNow, Cond.selects RX5 yX5_strandedNow yX5_strandedNow, Cond.initialized RX5, Cond.code yX5_strandedNow cX5_strandedNow 1 (some .int), Cond.fieldLink RX5 19 "RopedHalls" "routes" "LRopedHalls$Routes;", Cond.methodLink RX5 111 yX4_find, Cond.instanceMethod yX4_find, Cond.selects RX4 yX4_find yX4_find, Cond.initialized RX4, Cond.code yX4_find cX4_find 3 none, Cond.fieldLink RX4 18 "RopedHalls$Routes" "goals" "[I", Cond.fieldLink RX4 21 "RopedHalls$Routes" "nexts" "[I", Cond.methodLink RX4 27 yX4_measureFrom, Cond.instanceMethod yX4_measureFrom, Cond.selects RX4 yX4_measureFrom yX4_measureFrom, Cond.code yX4_measureFrom cX4_measureFrom 10 none, Cond.fieldLink RX4 9 "RopedHalls$Routes" "steps" "[I"]
def wsX5_count_r3 : List Cond := [Cond.fieldLink RX4 68 "RopedHalls$Hall" "doorCell" "[I", Cond.fieldLink RX4 15 "RopedHalls$Routes" "queue" "[I", Cond.static yX5_isCell, Cond.code yX5_isCell cX5_isCell 1 (some .boolean), Cond.methodLink RX4 71 yX1_stepFrom, Cond.instanceMethod yX1_stepFrom, Cond.selects RX1 yX1_stepFrom yX1_stepFrom, Cond.code yX1_stepFrom cX1_stepFrom 4 (some .int), Cond.static yX5_edgeTowards, Cond.code yX5_edgeTowards cX5_edgeTowards 4 (some .int), Cond.methodLink RX5 228 Lib.Math.min.name, Cond.static Lib.Math.min.name, Cond.initialized "java/lang/Math", Cond.code Lib.Math.min.name Lib.Math.min.code 2 (some .int), Cond.methodLink RX5 239 yX5_beside, Cond.static yX5_beside, Cond.code yX5_beside cX5_beside 2 (some .int), Cond.static yX5_isEdge, Cond.code yX5_isEdge cX5_isEdge 1 (some .boolean), Cond.methodLink RX4 52 yX4_stepsTo, Cond.instanceMethod yX4_stepsTo, Cond.selects RX4 yX4_stepsTo yX4_stepsTo, Cond.code yX4_stepsTo cX4_stepsTo 3 (some .int), Cond.static yX5_isDoor]
def wsX5_count_r4 : List Cond := [Cond.code yX5_isDoor cX5_isDoor 1 (some .boolean), Cond.methodLink RX4 31 yX4_chooseGoal, Cond.instanceMethod yX4_chooseGoal, Cond.selects RX4 yX4_chooseGoal yX4_chooseGoal, Cond.code yX4_chooseGoal cX4_chooseGoal 7 (some .int), Cond.fieldLink RX4 74 "RopedHalls$Hall" "guards" "[I", Cond.fieldLink RX4 77 "RopedHalls$Hall" "doorOpen" "[Z", Cond.methodLink RX4 35 yX4_chooseNext, Cond.instanceMethod yX4_chooseNext, Cond.selects RX4 yX4_chooseNext yX4_chooseNext, Cond.code yX4_chooseNext cX4_chooseNext 6 (some .int), Cond.methodLink RX4 81 yX4_stepsToGoal, Cond.instanceMethod yX4_stepsToGoal, Cond.selects RX4 yX4_stepsToGoal yX4_stepsToGoal, Cond.code yX4_stepsToGoal cX4_stepsToGoal 2 (some .int), Cond.methodLink RX4 48 yX4_goalOf, Cond.instanceMethod yX4_goalOf, Cond.selects RX4 yX4_goalOf yX4_goalOf, Cond.code yX4_goalOf cX4_goalOf 2 (some .int), Cond.methodLink RX4 38 yX4_orderTurns, Cond.instanceMethod yX4_orderTurns, Cond.selects RX4 yX4_orderTurns yX4_orderTurns, Cond.code yX4_orderTurns cX4_orderTurns 3 none, Cond.fieldLink RX4 56 "RopedHalls$Routes" "turnCount" "I"]
def wsX5_count_r5 : List Cond := [Cond.fieldLink RX4 24 "RopedHalls$Routes" "turns" "[I", Cond.methodLink RX5 233 yX4_stranded, Cond.instanceMethod yX4_stranded, Cond.selects RX4 yX4_stranded yX4_stranded, Cond.code yX4_stranded cX4_stranded 2 (some .int), Cond.methodLink RX4 65 yX4_peopleWithGoal, Cond.instanceMethod yX4_peopleWithGoal, Cond.selects RX4 yX4_peopleWithGoal yX4_peopleWithGoal, Cond.code yX4_peopleWithGoal cX4_peopleWithGoal 5 (some .int), Cond.fieldLink RX4 60 "RopedHalls$Hall" "people" "[I", Cond.methodLink RX5 178 yX1_unevenness, Cond.instanceMethod yX1_unevenness, Cond.selects RX1 yX1_unevenness yX1_unevenness, Cond.code yX1_unevenness cX1_unevenness 4 (some .int), Cond.methodLink RX1 54 Lib.Math.max.name, Cond.static Lib.Math.max.name, Cond.code Lib.Math.max.name Lib.Math.max.code 2 (some .int), Cond.methodLink RX1 60 Lib.Math.min.name, Cond.methodLink RX5 181 yX1_guardCount, Cond.instanceMethod yX1_guardCount, Cond.selects RX1 yX1_guardCount yX1_guardCount, Cond.code yX1_guardCount cX1_guardCount 3 (some .int), Cond.fieldLink RX1 19 "RopedHalls$Hall" "guards" "[I"]
def wsX5_count : List Cond := .code yX5_count cX5_count 2 (some .int) :: ((wsX5_count_r1 ++ (wsX5_count_r2 ++ (wsX5_count_r3 ++ (wsX5_count_r4 ++ wsX5_count_r5)))) ++ wsX50 ++ wsX10 ++ wsX30 ++ wsX40)
def wsX5_distance_r1 : List Cond := [Cond.fieldLink RX5 19 "RopedHalls" "routes" "LRopedHalls$Routes;", Cond.fieldLink RX5 12 "RopedHalls" "hall" "LRopedHalls$Hall;", Cond.methodLink RX5 66 yX5_isCell, Cond.static yX5_isCell, Cond.initialized RX5, Cond.code yX5_isCell cX5_isCell 1 (some .boolean), Cond.methodLink RX5 86 yX5_isDoor, Cond.static yX5_isDoor, Cond.code yX5_isDoor cX5_isDoor 1 (some .boolean), Cond.methodLink RX5 111 yX4_find, Cond.instanceMethod yX4_find, Cond.selects RX4 yX4_find yX4_find, Cond.initialized RX4, Cond.code yX4_find cX4_find 3 none, Cond.fieldLink RX4 18 "RopedHalls$Routes" "goals" "[I", Cond.fieldLink RX4 21 "RopedHalls$Routes" "nexts" "[I", Cond.methodLink RX4 27 yX4_measureFrom, Cond.instanceMethod yX4_measureFrom, Cond.selects RX4 yX4_measureFrom yX4_measureFrom, Cond.code yX4_measureFrom cX4_measureFrom 10 none, Cond.fieldLink RX4 9 "RopedHalls$Routes" "steps" "[I", Cond.fieldLink RX4 68 "RopedHalls$Hall" "doorCell" "[I", Cond.fieldLink RX4 15 "RopedHalls$Routes" "queue" "[I", Cond.methodLink RX4 71 yX1_stepFrom]
def wsX5_distance_r2 : List Cond := [Cond.instanceMethod yX1_stepFrom, Cond.selects RX1 yX1_stepFrom yX1_stepFrom, Cond.initialized RX1, Cond.code yX1_stepFrom cX1_stepFrom 4 (some .int), Cond.fieldLink RX1 22 "RopedHalls$Hall" "ropes" "[Z", Cond.static yX5_edgeTowards, Cond.code yX5_edgeTowards cX5_edgeTowards 4 (some .int), Cond.methodLink RX5 228 Lib.Math.min.name, Cond.static Lib.Math.min.name, Cond.initialized "java/lang/Math", Cond.code Lib.Math.min.name Lib.Math.min.code 2 (some .int), Cond.methodLink RX5 239 yX5_beside, Cond.static yX5_beside, Cond.code yX5_beside cX5_beside 2 (some .int), Cond.static yX5_isEdge, Cond.code yX5_isEdge cX5_isEdge 1 (some .boolean), Cond.methodLink RX4 52 yX4_stepsTo, Cond.instanceMethod yX4_stepsTo, Cond.selects RX4 yX4_stepsTo yX4_stepsTo, Cond.code yX4_stepsTo cX4_stepsTo 3 (some .int), Cond.methodLink RX4 31 yX4_chooseGoal, Cond.instanceMethod yX4_chooseGoal, Cond.selects RX4 yX4_chooseGoal yX4_chooseGoal, Cond.code yX4_chooseGoal cX4_chooseGoal 7 (some .int)]
def wsX5_distance_r3 : List Cond := [Cond.fieldLink RX4 74 "RopedHalls$Hall" "guards" "[I", Cond.fieldLink RX4 77 "RopedHalls$Hall" "doorOpen" "[Z", Cond.methodLink RX4 35 yX4_chooseNext, Cond.instanceMethod yX4_chooseNext, Cond.selects RX4 yX4_chooseNext yX4_chooseNext, Cond.code yX4_chooseNext cX4_chooseNext 6 (some .int), Cond.methodLink RX4 81 yX4_stepsToGoal, Cond.instanceMethod yX4_stepsToGoal, Cond.selects RX4 yX4_stepsToGoal yX4_stepsToGoal, Cond.code yX4_stepsToGoal cX4_stepsToGoal 2 (some .int), Cond.methodLink RX4 48 yX4_goalOf, Cond.instanceMethod yX4_goalOf, Cond.selects RX4 yX4_goalOf yX4_goalOf, Cond.code yX4_goalOf cX4_goalOf 2 (some .int), Cond.methodLink RX4 38 yX4_orderTurns, Cond.instanceMethod yX4_orderTurns, Cond.selects RX4 yX4_orderTurns yX4_orderTurns, Cond.code yX4_orderTurns cX4_orderTurns 3 none, Cond.fieldLink RX4 56 "RopedHalls$Routes" "turnCount" "I", Cond.fieldLink RX4 24 "RopedHalls$Routes" "turns" "[I", Cond.methodLink RX5 187 yX4_stepsTo]
def wsX5_distance : List Cond := .code yX5_distance cX5_distance 3 (some .int) :: ((wsX5_distance_r1 ++ (wsX5_distance_r2 ++ wsX5_distance_r3)) ++ wsX50 ++ wsX40 ++ wsX10)
def wsX5_untilOut_r1 : List Cond := [Cond.fieldLink RX5 33 "RopedHalls" "forecast" "LRopedHalls$Forecast;", Cond.fieldLink RX5 12 "RopedHalls" "hall" "LRopedHalls$Hall;", Cond.methodLink RX5 190 yX0_startFrom, Cond.instanceMethod yX0_startFrom, Cond.selects RX0 yX0_startFrom yX0_startFrom, Cond.initialized RX0, Cond.code yX0_startFrom cX0_startFrom 2 none, Cond.fieldLink RX0 12 "RopedHalls$Forecast" "trial" "LRopedHalls$Hall;", Cond.fieldLink RX0 21 "RopedHalls$Forecast" "routes" "LRopedHalls$Routes;", Cond.methodLink RX0 32 yX1_copyFrom, Cond.instanceMethod yX1_copyFrom, Cond.selects RX1 yX1_copyFrom yX1_copyFrom, Cond.initialized RX1, Cond.code yX1_copyFrom cX1_copyFrom 3 none, Cond.fieldLink RX1 9 "RopedHalls$Hall" "room" "I", Cond.fieldLink RX1 38 "RopedHalls$Hall" "minutes" "I", Cond.fieldLink RX1 41 "RopedHalls$Hall" "cameIn" "I", Cond.fieldLink RX1 44 "RopedHalls$Hall" "waited" "I", Cond.fieldLink RX1 47 "RopedHalls$Hall" "jams" "I", Cond.fieldLink RX1 15 "RopedHalls$Hall" "people" "[I", Cond.fieldLink RX1 19 "RopedHalls$Hall" "guards" "[I", Cond.fieldLink RX1 22 "RopedHalls$Hall" "ropes" "[Z", Cond.fieldLink RX1 26 "RopedHalls$Hall" "doorCell" "[I", Cond.fieldLink RX1 29 "RopedHalls$Hall" "doorRate" "[I"]
def wsX5_untilOut_r2 : List Cond := [Cond.fieldLink RX1 32 "RopedHalls$Hall" "doorOpen" "[Z", Cond.fieldLink RX1 35 "RopedHalls$Hall" "doorOut" "[I", Cond.methodLink RX0 36 yX4_find, Cond.instanceMethod yX4_find, Cond.selects RX4 yX4_find yX4_find, Cond.initialized RX4, Cond.code yX4_find cX4_find 3 none, Cond.fieldLink RX4 18 "RopedHalls$Routes" "goals" "[I", Cond.fieldLink RX4 21 "RopedHalls$Routes" "nexts" "[I", Cond.methodLink RX4 27 yX4_measureFrom, Cond.instanceMethod yX4_measureFrom, Cond.selects RX4 yX4_measureFrom yX4_measureFrom, Cond.code yX4_measureFrom cX4_measureFrom 10 none, Cond.fieldLink RX4 9 "RopedHalls$Routes" "steps" "[I", Cond.fieldLink RX4 68 "RopedHalls$Hall" "doorCell" "[I", Cond.fieldLink RX4 15 "RopedHalls$Routes" "queue" "[I", Cond.static yX5_isCell, Cond.initialized RX5, Cond.code yX5_isCell cX5_isCell 1 (some .boolean), Cond.methodLink RX4 71 yX1_stepFrom, Cond.instanceMethod yX1_stepFrom, Cond.selects RX1 yX1_stepFrom yX1_stepFrom, Cond.code yX1_stepFrom cX1_stepFrom 4 (some .int), Cond.static yX5_edgeTowards]
def wsX5_untilOut_r3 : List Cond := [Cond.code yX5_edgeTowards cX5_edgeTowards 4 (some .int), Cond.methodLink RX5 228 Lib.Math.min.name, Cond.static Lib.Math.min.name, Cond.initialized "java/lang/Math", Cond.code Lib.Math.min.name Lib.Math.min.code 2 (some .int), Cond.methodLink RX5 239 yX5_beside, Cond.static yX5_beside, Cond.code yX5_beside cX5_beside 2 (some .int), Cond.static yX5_isEdge, Cond.code yX5_isEdge cX5_isEdge 1 (some .boolean), Cond.methodLink RX4 52 yX4_stepsTo, Cond.instanceMethod yX4_stepsTo, Cond.selects RX4 yX4_stepsTo yX4_stepsTo, Cond.code yX4_stepsTo cX4_stepsTo 3 (some .int), Cond.static yX5_isDoor, Cond.code yX5_isDoor cX5_isDoor 1 (some .boolean), Cond.methodLink RX4 31 yX4_chooseGoal, Cond.instanceMethod yX4_chooseGoal, Cond.selects RX4 yX4_chooseGoal yX4_chooseGoal, Cond.code yX4_chooseGoal cX4_chooseGoal 7 (some .int), Cond.fieldLink RX4 74 "RopedHalls$Hall" "guards" "[I", Cond.fieldLink RX4 77 "RopedHalls$Hall" "doorOpen" "[Z", Cond.methodLink RX4 35 yX4_chooseNext, Cond.instanceMethod yX4_chooseNext]
def wsX5_untilOut_r4 : List Cond := [Cond.selects RX4 yX4_chooseNext yX4_chooseNext, Cond.code yX4_chooseNext cX4_chooseNext 6 (some .int), Cond.methodLink RX4 81 yX4_stepsToGoal, Cond.instanceMethod yX4_stepsToGoal, Cond.selects RX4 yX4_stepsToGoal yX4_stepsToGoal, Cond.code yX4_stepsToGoal cX4_stepsToGoal 2 (some .int), Cond.methodLink RX4 48 yX4_goalOf, Cond.instanceMethod yX4_goalOf, Cond.selects RX4 yX4_goalOf yX4_goalOf, Cond.code yX4_goalOf cX4_goalOf 2 (some .int), Cond.methodLink RX4 38 yX4_orderTurns, Cond.instanceMethod yX4_orderTurns, Cond.selects RX4 yX4_orderTurns yX4_orderTurns, Cond.code yX4_orderTurns cX4_orderTurns 3 none, Cond.fieldLink RX4 56 "RopedHalls$Routes" "turnCount" "I", Cond.fieldLink RX4 24 "RopedHalls$Routes" "turns" "[I", Cond.methodLink RX5 193 yX0_runUntilOut, Cond.instanceMethod yX0_runUntilOut, Cond.selects RX0 yX0_runUntilOut yX0_runUntilOut, Cond.code yX0_runUntilOut cX0_runUntilOut 3 (some .int), Cond.fieldLink RX0 28 "RopedHalls$Forecast" "minute" "LRopedHalls$Minute;", Cond.methodLink RX0 47 yX1_peopleInside, Cond.instanceMethod yX1_peopleInside, Cond.selects RX1 yX1_peopleInside yX1_peopleInside]
def wsX5_untilOut_r5 : List Cond := [Cond.code yX1_peopleInside cX1_peopleInside 3 (some .int), Cond.methodLink RX0 51 yX4_stranded, Cond.instanceMethod yX4_stranded, Cond.selects RX4 yX4_stranded yX4_stranded, Cond.code yX4_stranded cX4_stranded 2 (some .int), Cond.methodLink RX4 65 yX4_peopleWithGoal, Cond.instanceMethod yX4_peopleWithGoal, Cond.selects RX4 yX4_peopleWithGoal yX4_peopleWithGoal, Cond.code yX4_peopleWithGoal cX4_peopleWithGoal 5 (some .int), Cond.fieldLink RX4 60 "RopedHalls$Hall" "people" "[I", Cond.methodLink RX0 55 yX2_run, Cond.instanceMethod yX2_run, Cond.selects RX2 yX2_run yX2_run, Cond.initialized RX2, Cond.code yX2_run cX2_run 6 (some .int), Cond.fieldLink RX2 15 "RopedHalls$Hall" "minutes" "I", Cond.fieldLink RX2 9 "RopedHalls$Minute" "arrived" "[I", Cond.methodLink RX2 21 yX2_letOut, Cond.static yX2_letOut, Cond.code yX2_letOut cX2_letOut 4 (some .int), Cond.fieldLink RX2 42 "RopedHalls$Hall" "doorCell" "[I", Cond.fieldLink RX2 45 "RopedHalls$Hall" "doorOpen" "[Z", Cond.fieldLink RX2 53 "RopedHalls$Hall" "doorRate" "[I", Cond.fieldLink RX2 56 "RopedHalls$Hall" "people" "[I"]
def wsX5_untilOut_r6 : List Cond := [Cond.methodLink RX2 59 Lib.Math.min.name, Cond.fieldLink RX2 65 "RopedHalls$Hall" "doorOut" "[I", Cond.methodLink RX2 25 yX4_turnsAMinute, Cond.instanceMethod yX4_turnsAMinute, Cond.selects RX4 yX4_turnsAMinute yX4_turnsAMinute, Cond.code yX4_turnsAMinute cX4_turnsAMinute 1 (some .int), Cond.methodLink RX2 31 yX4_cellAtTurn, Cond.instanceMethod yX4_cellAtTurn, Cond.selects RX4 yX4_cellAtTurn yX4_cellAtTurn, Cond.code yX4_cellAtTurn cX4_cellAtTurn 2 (some .int), Cond.methodLink RX2 35 yX4_nextOf, Cond.instanceMethod yX4_nextOf, Cond.selects RX4 yX4_nextOf yX4_nextOf, Cond.code yX4_nextOf cX4_nextOf 2 (some .int), Cond.methodLink RX2 38 yX2_move, Cond.instanceMethod yX2_move, Cond.selects RX2 yX2_move yX2_move, Cond.code yX2_move cX2_move 6 none, Cond.fieldLink RX2 71 "RopedHalls$Hall" "jams" "I", Cond.fieldLink RX2 74 "RopedHalls$Hall" "waited" "I", Cond.methodLink RX2 68 yX1_roomIn, Cond.instanceMethod yX1_roomIn, Cond.selects RX1 yX1_roomIn yX1_roomIn, Cond.code yX1_roomIn cX1_roomIn 2 (some .int)]
def wsX5_untilOut : List Cond := .code yX5_untilOut cX5_untilOut 1 (some .int) :: ((wsX5_untilOut_r1 ++ (wsX5_untilOut_r2 ++ (wsX5_untilOut_r3 ++ (wsX5_untilOut_r4 ++ (wsX5_untilOut_r5 ++ wsX5_untilOut_r6))))) ++ wsX50 ++ wsX00 ++ wsX10 ++ wsX40 ++ wsX20)
def wsX5_ifRope_r1 : List Cond := [Cond.fieldLink RX5 33 "RopedHalls" "forecast" "LRopedHalls$Forecast;", Cond.fieldLink RX5 12 "RopedHalls" "hall" "LRopedHalls$Hall;", Cond.methodLink RX5 66 yX5_isCell, Cond.static yX5_isCell, Cond.initialized RX5, Cond.code yX5_isCell cX5_isCell 1 (some .boolean), Cond.methodLink RX5 70 yX5_isSide, Cond.static yX5_isSide, Cond.code yX5_isSide cX5_isSide 1 (some .boolean), Cond.methodLink RX5 73 yX5_edgeAt, Cond.static yX5_edgeAt, Cond.code yX5_edgeAt cX5_edgeAt 2 (some .int), Cond.methodLink RX5 242 yX5_edgeTowards, Cond.static yX5_edgeTowards, Cond.code yX5_edgeTowards cX5_edgeTowards 4 (some .int), Cond.methodLink RX5 228 Lib.Math.min.name, Cond.static Lib.Math.min.name, Cond.initialized "java/lang/Math", Cond.code Lib.Math.min.name Lib.Math.min.code 2 (some .int), Cond.methodLink RX5 239 yX5_beside, Cond.static yX5_beside, Cond.code yX5_beside cX5_beside 2 (some .int), Cond.methodLink RX5 77 yX5_isEdge, Cond.static yX5_isEdge]
def wsX5_ifRope_r2 : List Cond := [Cond.code yX5_isEdge cX5_isEdge 1 (some .boolean), Cond.methodLink RX5 196 yX0_startWithRopeTurned, Cond.instanceMethod yX0_startWithRopeTurned, Cond.selects RX0 yX0_startWithRopeTurned yX0_startWithRopeTurned, Cond.initialized RX0, Cond.code yX0_startWithRopeTurned cX0_startWithRopeTurned 3 none, Cond.fieldLink RX0 12 "RopedHalls$Forecast" "trial" "LRopedHalls$Hall;", Cond.fieldLink RX0 43 "RopedHalls$Hall" "ropes" "[Z", Cond.fieldLink RX0 21 "RopedHalls$Forecast" "routes" "LRopedHalls$Routes;", Cond.methodLink RX0 32 yX1_copyFrom, Cond.instanceMethod yX1_copyFrom, Cond.selects RX1 yX1_copyFrom yX1_copyFrom, Cond.initialized RX1, Cond.code yX1_copyFrom cX1_copyFrom 3 none, Cond.fieldLink RX1 9 "RopedHalls$Hall" "room" "I", Cond.fieldLink RX1 38 "RopedHalls$Hall" "minutes" "I", Cond.fieldLink RX1 41 "RopedHalls$Hall" "cameIn" "I", Cond.fieldLink RX1 44 "RopedHalls$Hall" "waited" "I", Cond.fieldLink RX1 47 "RopedHalls$Hall" "jams" "I", Cond.fieldLink RX1 15 "RopedHalls$Hall" "people" "[I", Cond.fieldLink RX1 19 "RopedHalls$Hall" "guards" "[I", Cond.fieldLink RX1 22 "RopedHalls$Hall" "ropes" "[Z", Cond.fieldLink RX1 26 "RopedHalls$Hall" "doorCell" "[I", Cond.fieldLink RX1 29 "RopedHalls$Hall" "doorRate" "[I"]
def wsX5_ifRope_r3 : List Cond := [Cond.fieldLink RX1 32 "RopedHalls$Hall" "doorOpen" "[Z", Cond.fieldLink RX1 35 "RopedHalls$Hall" "doorOut" "[I", Cond.methodLink RX0 36 yX4_find, Cond.instanceMethod yX4_find, Cond.selects RX4 yX4_find yX4_find, Cond.initialized RX4, Cond.code yX4_find cX4_find 3 none, Cond.fieldLink RX4 18 "RopedHalls$Routes" "goals" "[I", Cond.fieldLink RX4 21 "RopedHalls$Routes" "nexts" "[I", Cond.methodLink RX4 27 yX4_measureFrom, Cond.instanceMethod yX4_measureFrom, Cond.selects RX4 yX4_measureFrom yX4_measureFrom, Cond.code yX4_measureFrom cX4_measureFrom 10 none, Cond.fieldLink RX4 9 "RopedHalls$Routes" "steps" "[I", Cond.fieldLink RX4 68 "RopedHalls$Hall" "doorCell" "[I", Cond.fieldLink RX4 15 "RopedHalls$Routes" "queue" "[I", Cond.methodLink RX4 71 yX1_stepFrom, Cond.instanceMethod yX1_stepFrom, Cond.selects RX1 yX1_stepFrom yX1_stepFrom, Cond.code yX1_stepFrom cX1_stepFrom 4 (some .int), Cond.methodLink RX4 52 yX4_stepsTo, Cond.instanceMethod yX4_stepsTo, Cond.selects RX4 yX4_stepsTo yX4_stepsTo, Cond.code yX4_stepsTo cX4_stepsTo 3 (some .int)]
def wsX5_ifRope_r4 : List Cond := [Cond.static yX5_isDoor, Cond.code yX5_isDoor cX5_isDoor 1 (some .boolean), Cond.methodLink RX4 31 yX4_chooseGoal, Cond.instanceMethod yX4_chooseGoal, Cond.selects RX4 yX4_chooseGoal yX4_chooseGoal, Cond.code yX4_chooseGoal cX4_chooseGoal 7 (some .int), Cond.fieldLink RX4 74 "RopedHalls$Hall" "guards" "[I", Cond.fieldLink RX4 77 "RopedHalls$Hall" "doorOpen" "[Z", Cond.methodLink RX4 35 yX4_chooseNext, Cond.instanceMethod yX4_chooseNext, Cond.selects RX4 yX4_chooseNext yX4_chooseNext, Cond.code yX4_chooseNext cX4_chooseNext 6 (some .int), Cond.methodLink RX4 81 yX4_stepsToGoal, Cond.instanceMethod yX4_stepsToGoal, Cond.selects RX4 yX4_stepsToGoal yX4_stepsToGoal, Cond.code yX4_stepsToGoal cX4_stepsToGoal 2 (some .int), Cond.methodLink RX4 48 yX4_goalOf, Cond.instanceMethod yX4_goalOf, Cond.selects RX4 yX4_goalOf yX4_goalOf, Cond.code yX4_goalOf cX4_goalOf 2 (some .int), Cond.methodLink RX4 38 yX4_orderTurns, Cond.instanceMethod yX4_orderTurns, Cond.selects RX4 yX4_orderTurns yX4_orderTurns, Cond.code yX4_orderTurns cX4_orderTurns 3 none]
def wsX5_ifRope_r5 : List Cond := [Cond.fieldLink RX4 56 "RopedHalls$Routes" "turnCount" "I", Cond.fieldLink RX4 24 "RopedHalls$Routes" "turns" "[I", Cond.methodLink RX5 200 yX0_stranded, Cond.instanceMethod yX0_stranded, Cond.selects RX0 yX0_stranded yX0_stranded, Cond.code yX0_stranded cX0_stranded 1 (some .int), Cond.methodLink RX0 51 yX4_stranded, Cond.instanceMethod yX4_stranded, Cond.selects RX4 yX4_stranded yX4_stranded, Cond.code yX4_stranded cX4_stranded 2 (some .int), Cond.methodLink RX4 65 yX4_peopleWithGoal, Cond.instanceMethod yX4_peopleWithGoal, Cond.selects RX4 yX4_peopleWithGoal yX4_peopleWithGoal, Cond.code yX4_peopleWithGoal cX4_peopleWithGoal 5 (some .int), Cond.fieldLink RX4 60 "RopedHalls$Hall" "people" "[I", Cond.methodLink RX5 193 yX0_runUntilOut, Cond.instanceMethod yX0_runUntilOut, Cond.selects RX0 yX0_runUntilOut yX0_runUntilOut, Cond.code yX0_runUntilOut cX0_runUntilOut 3 (some .int), Cond.fieldLink RX0 28 "RopedHalls$Forecast" "minute" "LRopedHalls$Minute;", Cond.methodLink RX0 47 yX1_peopleInside, Cond.instanceMethod yX1_peopleInside, Cond.selects RX1 yX1_peopleInside yX1_peopleInside, Cond.code yX1_peopleInside cX1_peopleInside 3 (some .int)]
def wsX5_ifRope_r6 : List Cond := [Cond.methodLink RX0 55 yX2_run, Cond.instanceMethod yX2_run, Cond.selects RX2 yX2_run yX2_run, Cond.initialized RX2, Cond.code yX2_run cX2_run 6 (some .int), Cond.fieldLink RX2 15 "RopedHalls$Hall" "minutes" "I", Cond.fieldLink RX2 9 "RopedHalls$Minute" "arrived" "[I", Cond.methodLink RX2 21 yX2_letOut, Cond.static yX2_letOut, Cond.code yX2_letOut cX2_letOut 4 (some .int), Cond.fieldLink RX2 42 "RopedHalls$Hall" "doorCell" "[I", Cond.fieldLink RX2 45 "RopedHalls$Hall" "doorOpen" "[Z", Cond.fieldLink RX2 53 "RopedHalls$Hall" "doorRate" "[I", Cond.fieldLink RX2 56 "RopedHalls$Hall" "people" "[I", Cond.methodLink RX2 59 Lib.Math.min.name, Cond.fieldLink RX2 65 "RopedHalls$Hall" "doorOut" "[I", Cond.methodLink RX2 25 yX4_turnsAMinute, Cond.instanceMethod yX4_turnsAMinute, Cond.selects RX4 yX4_turnsAMinute yX4_turnsAMinute, Cond.code yX4_turnsAMinute cX4_turnsAMinute 1 (some .int), Cond.methodLink RX2 31 yX4_cellAtTurn, Cond.instanceMethod yX4_cellAtTurn, Cond.selects RX4 yX4_cellAtTurn yX4_cellAtTurn, Cond.code yX4_cellAtTurn cX4_cellAtTurn 2 (some .int)]
def wsX5_ifRope_r7 : List Cond := [Cond.methodLink RX2 35 yX4_nextOf, Cond.instanceMethod yX4_nextOf, Cond.selects RX4 yX4_nextOf yX4_nextOf, Cond.code yX4_nextOf cX4_nextOf 2 (some .int), Cond.methodLink RX2 38 yX2_move, Cond.instanceMethod yX2_move, Cond.selects RX2 yX2_move yX2_move, Cond.code yX2_move cX2_move 6 none, Cond.fieldLink RX2 71 "RopedHalls$Hall" "jams" "I", Cond.fieldLink RX2 74 "RopedHalls$Hall" "waited" "I", Cond.methodLink RX2 68 yX1_roomIn, Cond.instanceMethod yX1_roomIn, Cond.selects RX1 yX1_roomIn yX1_roomIn, Cond.code yX1_roomIn cX1_roomIn 2 (some .int), Cond.methodLink RX5 203 yX0_unevenness, Cond.instanceMethod yX0_unevenness, Cond.selects RX0 yX0_unevenness yX0_unevenness, Cond.code yX0_unevenness cX0_unevenness 1 (some .int), Cond.methodLink RX0 59 yX1_unevenness, Cond.instanceMethod yX1_unevenness, Cond.selects RX1 yX1_unevenness yX1_unevenness, Cond.code yX1_unevenness cX1_unevenness 4 (some .int), Cond.methodLink RX1 54 Lib.Math.max.name, Cond.static Lib.Math.max.name]
def wsX5_ifRope_r8 : List Cond := [Cond.code Lib.Math.max.name Lib.Math.max.code 2 (some .int), Cond.methodLink RX1 60 Lib.Math.min.name]
def wsX5_ifRope : List Cond := .code yX5_ifRope cX5_ifRope 6 (some .int) :: ((wsX5_ifRope_r1 ++ (wsX5_ifRope_r2 ++ (wsX5_ifRope_r3 ++ (wsX5_ifRope_r4 ++ (wsX5_ifRope_r5 ++ (wsX5_ifRope_r6 ++ (wsX5_ifRope_r7 ++ wsX5_ifRope_r8))))))) ++ wsX50 ++ wsX00 ++ wsX10 ++ wsX40 ++ wsX20)
def wsX5_canHang : List Cond := .code yX5_canHang cX5_canHang 2 (some .boolean) :: ([.fieldLink RX5 12 "RopedHalls" "hall" "LRopedHalls$Hall;", .fieldLink RX5 80 "RopedHalls$Hall" "ropes" "[Z", .methodLink RX5 77 yX5_isEdge, .static yX5_isEdge, .initialized RX5, .code yX5_isEdge cX5_isEdge 1 (some .boolean), .methodLink RX5 73 yX5_edgeAt, .static yX5_edgeAt, .code yX5_edgeAt cX5_edgeAt 2 (some .int), .methodLink RX5 242 yX5_edgeTowards, .static yX5_edgeTowards, .code yX5_edgeTowards cX5_edgeTowards 4 (some .int), .methodLink RX5 228 Lib.Math.min.name, .static Lib.Math.min.name, .initialized "java/lang/Math", .code Lib.Math.min.name Lib.Math.min.code 2 (some .int), .methodLink RX5 239 yX5_beside, .static yX5_beside, .code yX5_beside cX5_beside 2 (some .int)] ++ wsX50 ++ wsX10)
def wsX5_bestRope_r1 : List Cond := [Cond.fieldLink RX5 33 "RopedHalls" "forecast" "LRopedHalls$Forecast;", Cond.fieldLink RX5 12 "RopedHalls" "hall" "LRopedHalls$Hall;", Cond.methodLink RX5 175 yX5_strandedNow, Cond.instanceMethod yX5_strandedNow, Cond.selects RX5 yX5_strandedNow yX5_strandedNow, Cond.initialized RX5, Cond.code yX5_strandedNow cX5_strandedNow 1 (some .int), Cond.fieldLink RX5 19 "RopedHalls" "routes" "LRopedHalls$Routes;", Cond.methodLink RX5 111 yX4_find, Cond.instanceMethod yX4_find, Cond.selects RX4 yX4_find yX4_find, Cond.initialized RX4, Cond.code yX4_find cX4_find 3 none, Cond.fieldLink RX4 18 "RopedHalls$Routes" "goals" "[I", Cond.fieldLink RX4 21 "RopedHalls$Routes" "nexts" "[I", Cond.methodLink RX4 27 yX4_measureFrom, Cond.instanceMethod yX4_measureFrom, Cond.selects RX4 yX4_measureFrom yX4_measureFrom, Cond.code yX4_measureFrom cX4_measureFrom 10 none, Cond.fieldLink RX4 9 "RopedHalls$Routes" "steps" "[I", Cond.fieldLink RX4 68 "RopedHalls$Hall" "doorCell" "[I", Cond.fieldLink RX4 15 "RopedHalls$Routes" "queue" "[I", Cond.static yX5_isCell, Cond.code yX5_isCell cX5_isCell 1 (some .boolean)]
def wsX5_bestRope_r2 : List Cond := [Cond.methodLink RX4 71 yX1_stepFrom, Cond.instanceMethod yX1_stepFrom, Cond.selects RX1 yX1_stepFrom yX1_stepFrom, Cond.initialized RX1, Cond.code yX1_stepFrom cX1_stepFrom 4 (some .int), Cond.fieldLink RX1 22 "RopedHalls$Hall" "ropes" "[Z", Cond.static yX5_edgeTowards, Cond.code yX5_edgeTowards cX5_edgeTowards 4 (some .int), Cond.methodLink RX5 228 Lib.Math.min.name, Cond.static Lib.Math.min.name, Cond.initialized "java/lang/Math", Cond.code Lib.Math.min.name Lib.Math.min.code 2 (some .int), Cond.methodLink RX5 239 yX5_beside, Cond.static yX5_beside, Cond.code yX5_beside cX5_beside 2 (some .int), Cond.static yX5_isEdge, Cond.code yX5_isEdge cX5_isEdge 1 (some .boolean), Cond.methodLink RX4 52 yX4_stepsTo, Cond.instanceMethod yX4_stepsTo, Cond.selects RX4 yX4_stepsTo yX4_stepsTo, Cond.code yX4_stepsTo cX4_stepsTo 3 (some .int), Cond.static yX5_isDoor, Cond.code yX5_isDoor cX5_isDoor 1 (some .boolean), Cond.methodLink RX4 31 yX4_chooseGoal]
def wsX5_bestRope_r3 : List Cond := [Cond.instanceMethod yX4_chooseGoal, Cond.selects RX4 yX4_chooseGoal yX4_chooseGoal, Cond.code yX4_chooseGoal cX4_chooseGoal 7 (some .int), Cond.fieldLink RX4 74 "RopedHalls$Hall" "guards" "[I", Cond.fieldLink RX4 77 "RopedHalls$Hall" "doorOpen" "[Z", Cond.methodLink RX4 35 yX4_chooseNext, Cond.instanceMethod yX4_chooseNext, Cond.selects RX4 yX4_chooseNext yX4_chooseNext, Cond.code yX4_chooseNext cX4_chooseNext 6 (some .int), Cond.methodLink RX4 81 yX4_stepsToGoal, Cond.instanceMethod yX4_stepsToGoal, Cond.selects RX4 yX4_stepsToGoal yX4_stepsToGoal, Cond.code yX4_stepsToGoal cX4_stepsToGoal 2 (some .int), Cond.methodLink RX4 48 yX4_goalOf, Cond.instanceMethod yX4_goalOf, Cond.selects RX4 yX4_goalOf yX4_goalOf, Cond.code yX4_goalOf cX4_goalOf 2 (some .int), Cond.methodLink RX4 38 yX4_orderTurns, Cond.instanceMethod yX4_orderTurns, Cond.selects RX4 yX4_orderTurns yX4_orderTurns, Cond.code yX4_orderTurns cX4_orderTurns 3 none, Cond.fieldLink RX4 56 "RopedHalls$Routes" "turnCount" "I", Cond.fieldLink RX4 24 "RopedHalls$Routes" "turns" "[I", Cond.methodLink RX5 233 yX4_stranded]
def wsX5_bestRope_r4 : List Cond := [Cond.instanceMethod yX4_stranded, Cond.selects RX4 yX4_stranded yX4_stranded, Cond.code yX4_stranded cX4_stranded 2 (some .int), Cond.methodLink RX4 65 yX4_peopleWithGoal, Cond.instanceMethod yX4_peopleWithGoal, Cond.selects RX4 yX4_peopleWithGoal yX4_peopleWithGoal, Cond.code yX4_peopleWithGoal cX4_peopleWithGoal 5 (some .int), Cond.fieldLink RX4 60 "RopedHalls$Hall" "people" "[I", Cond.methodLink RX5 204 yX5_canHang, Cond.instanceMethod yX5_canHang, Cond.selects RX5 yX5_canHang yX5_canHang, Cond.code yX5_canHang cX5_canHang 2 (some .boolean), Cond.fieldLink RX5 80 "RopedHalls$Hall" "ropes" "[Z", Cond.methodLink RX5 77 yX5_isEdge, Cond.methodLink RX5 73 yX5_edgeAt, Cond.static yX5_edgeAt, Cond.code yX5_edgeAt cX5_edgeAt 2 (some .int), Cond.methodLink RX5 242 yX5_edgeTowards, Cond.methodLink RX5 196 yX0_startWithRopeTurned, Cond.instanceMethod yX0_startWithRopeTurned, Cond.selects RX0 yX0_startWithRopeTurned yX0_startWithRopeTurned, Cond.initialized RX0, Cond.code yX0_startWithRopeTurned cX0_startWithRopeTurned 3 none, Cond.fieldLink RX0 12 "RopedHalls$Forecast" "trial" "LRopedHalls$Hall;"]
def wsX5_bestRope_r5 : List Cond := [Cond.fieldLink RX0 43 "RopedHalls$Hall" "ropes" "[Z", Cond.fieldLink RX0 21 "RopedHalls$Forecast" "routes" "LRopedHalls$Routes;", Cond.methodLink RX0 32 yX1_copyFrom, Cond.instanceMethod yX1_copyFrom, Cond.selects RX1 yX1_copyFrom yX1_copyFrom, Cond.code yX1_copyFrom cX1_copyFrom 3 none, Cond.fieldLink RX1 9 "RopedHalls$Hall" "room" "I", Cond.fieldLink RX1 38 "RopedHalls$Hall" "minutes" "I", Cond.fieldLink RX1 41 "RopedHalls$Hall" "cameIn" "I", Cond.fieldLink RX1 44 "RopedHalls$Hall" "waited" "I", Cond.fieldLink RX1 47 "RopedHalls$Hall" "jams" "I", Cond.fieldLink RX1 15 "RopedHalls$Hall" "people" "[I", Cond.fieldLink RX1 19 "RopedHalls$Hall" "guards" "[I", Cond.fieldLink RX1 26 "RopedHalls$Hall" "doorCell" "[I", Cond.fieldLink RX1 29 "RopedHalls$Hall" "doorRate" "[I", Cond.fieldLink RX1 32 "RopedHalls$Hall" "doorOpen" "[Z", Cond.fieldLink RX1 35 "RopedHalls$Hall" "doorOut" "[I", Cond.methodLink RX0 36 yX4_find, Cond.methodLink RX5 200 yX0_stranded, Cond.instanceMethod yX0_stranded, Cond.selects RX0 yX0_stranded yX0_stranded, Cond.code yX0_stranded cX0_stranded 1 (some .int), Cond.methodLink RX0 51 yX4_stranded, Cond.methodLink RX5 193 yX0_runUntilOut]
def wsX5_bestRope_r6 : List Cond := [Cond.instanceMethod yX0_runUntilOut, Cond.selects RX0 yX0_runUntilOut yX0_runUntilOut, Cond.code yX0_runUntilOut cX0_runUntilOut 3 (some .int), Cond.fieldLink RX0 28 "RopedHalls$Forecast" "minute" "LRopedHalls$Minute;", Cond.methodLink RX0 47 yX1_peopleInside, Cond.instanceMethod yX1_peopleInside, Cond.selects RX1 yX1_peopleInside yX1_peopleInside, Cond.code yX1_peopleInside cX1_peopleInside 3 (some .int), Cond.methodLink RX0 55 yX2_run, Cond.instanceMethod yX2_run, Cond.selects RX2 yX2_run yX2_run, Cond.initialized RX2, Cond.code yX2_run cX2_run 6 (some .int), Cond.fieldLink RX2 15 "RopedHalls$Hall" "minutes" "I", Cond.fieldLink RX2 9 "RopedHalls$Minute" "arrived" "[I", Cond.methodLink RX2 21 yX2_letOut, Cond.static yX2_letOut, Cond.code yX2_letOut cX2_letOut 4 (some .int), Cond.fieldLink RX2 42 "RopedHalls$Hall" "doorCell" "[I", Cond.fieldLink RX2 45 "RopedHalls$Hall" "doorOpen" "[Z", Cond.fieldLink RX2 53 "RopedHalls$Hall" "doorRate" "[I", Cond.fieldLink RX2 56 "RopedHalls$Hall" "people" "[I", Cond.methodLink RX2 59 Lib.Math.min.name, Cond.fieldLink RX2 65 "RopedHalls$Hall" "doorOut" "[I"]
def wsX5_bestRope_r7 : List Cond := [Cond.methodLink RX2 25 yX4_turnsAMinute, Cond.instanceMethod yX4_turnsAMinute, Cond.selects RX4 yX4_turnsAMinute yX4_turnsAMinute, Cond.code yX4_turnsAMinute cX4_turnsAMinute 1 (some .int), Cond.methodLink RX2 31 yX4_cellAtTurn, Cond.instanceMethod yX4_cellAtTurn, Cond.selects RX4 yX4_cellAtTurn yX4_cellAtTurn, Cond.code yX4_cellAtTurn cX4_cellAtTurn 2 (some .int), Cond.methodLink RX2 35 yX4_nextOf, Cond.instanceMethod yX4_nextOf, Cond.selects RX4 yX4_nextOf yX4_nextOf, Cond.code yX4_nextOf cX4_nextOf 2 (some .int), Cond.methodLink RX2 38 yX2_move, Cond.instanceMethod yX2_move, Cond.selects RX2 yX2_move yX2_move, Cond.code yX2_move cX2_move 6 none, Cond.fieldLink RX2 71 "RopedHalls$Hall" "jams" "I", Cond.fieldLink RX2 74 "RopedHalls$Hall" "waited" "I", Cond.methodLink RX2 68 yX1_roomIn, Cond.instanceMethod yX1_roomIn, Cond.selects RX1 yX1_roomIn yX1_roomIn, Cond.code yX1_roomIn cX1_roomIn 2 (some .int), Cond.methodLink RX5 203 yX0_unevenness, Cond.instanceMethod yX0_unevenness]
def wsX5_bestRope_r8 : List Cond := [Cond.selects RX0 yX0_unevenness yX0_unevenness, Cond.code yX0_unevenness cX0_unevenness 1 (some .int), Cond.methodLink RX0 59 yX1_unevenness, Cond.instanceMethod yX1_unevenness, Cond.selects RX1 yX1_unevenness yX1_unevenness, Cond.code yX1_unevenness cX1_unevenness 4 (some .int), Cond.methodLink RX1 54 Lib.Math.max.name, Cond.static Lib.Math.max.name, Cond.code Lib.Math.max.name Lib.Math.max.code 2 (some .int), Cond.methodLink RX1 60 Lib.Math.min.name]
def wsX5_bestRope : List Cond := .code yX5_bestRope cX5_bestRope 9 (some .int) :: ((wsX5_bestRope_r1 ++ (wsX5_bestRope_r2 ++ (wsX5_bestRope_r3 ++ (wsX5_bestRope_r4 ++ (wsX5_bestRope_r5 ++ (wsX5_bestRope_r6 ++ (wsX5_bestRope_r7 ++ wsX5_bestRope_r8))))))) ++ wsX50 ++ wsX40 ++ wsX10 ++ wsX00 ++ wsX20)
def wsX5_waiting_r1 : List Cond := [Cond.fieldLink RX5 33 "RopedHalls" "forecast" "LRopedHalls$Forecast;", Cond.fieldLink RX5 12 "RopedHalls" "hall" "LRopedHalls$Hall;", Cond.fieldLink RX5 169 "RopedHalls$Hall" "waited" "I", Cond.methodLink RX5 190 yX0_startFrom, Cond.instanceMethod yX0_startFrom, Cond.selects RX0 yX0_startFrom yX0_startFrom, Cond.initialized RX0, Cond.code yX0_startFrom cX0_startFrom 2 none, Cond.fieldLink RX0 12 "RopedHalls$Forecast" "trial" "LRopedHalls$Hall;", Cond.fieldLink RX0 21 "RopedHalls$Forecast" "routes" "LRopedHalls$Routes;", Cond.methodLink RX0 32 yX1_copyFrom, Cond.instanceMethod yX1_copyFrom, Cond.selects RX1 yX1_copyFrom yX1_copyFrom, Cond.initialized RX1, Cond.code yX1_copyFrom cX1_copyFrom 3 none, Cond.fieldLink RX1 9 "RopedHalls$Hall" "room" "I", Cond.fieldLink RX1 38 "RopedHalls$Hall" "minutes" "I", Cond.fieldLink RX1 41 "RopedHalls$Hall" "cameIn" "I", Cond.fieldLink RX1 44 "RopedHalls$Hall" "waited" "I", Cond.fieldLink RX1 47 "RopedHalls$Hall" "jams" "I", Cond.fieldLink RX1 15 "RopedHalls$Hall" "people" "[I", Cond.fieldLink RX1 19 "RopedHalls$Hall" "guards" "[I", Cond.fieldLink RX1 22 "RopedHalls$Hall" "ropes" "[Z", Cond.fieldLink RX1 26 "RopedHalls$Hall" "doorCell" "[I"]
def wsX5_waiting_r2 : List Cond := [Cond.fieldLink RX1 29 "RopedHalls$Hall" "doorRate" "[I", Cond.fieldLink RX1 32 "RopedHalls$Hall" "doorOpen" "[Z", Cond.fieldLink RX1 35 "RopedHalls$Hall" "doorOut" "[I", Cond.methodLink RX0 36 yX4_find, Cond.instanceMethod yX4_find, Cond.selects RX4 yX4_find yX4_find, Cond.initialized RX4, Cond.code yX4_find cX4_find 3 none, Cond.fieldLink RX4 18 "RopedHalls$Routes" "goals" "[I", Cond.fieldLink RX4 21 "RopedHalls$Routes" "nexts" "[I", Cond.methodLink RX4 27 yX4_measureFrom, Cond.instanceMethod yX4_measureFrom, Cond.selects RX4 yX4_measureFrom yX4_measureFrom, Cond.code yX4_measureFrom cX4_measureFrom 10 none, Cond.fieldLink RX4 9 "RopedHalls$Routes" "steps" "[I", Cond.fieldLink RX4 68 "RopedHalls$Hall" "doorCell" "[I", Cond.fieldLink RX4 15 "RopedHalls$Routes" "queue" "[I", Cond.static yX5_isCell, Cond.initialized RX5, Cond.code yX5_isCell cX5_isCell 1 (some .boolean), Cond.methodLink RX4 71 yX1_stepFrom, Cond.instanceMethod yX1_stepFrom, Cond.selects RX1 yX1_stepFrom yX1_stepFrom, Cond.code yX1_stepFrom cX1_stepFrom 4 (some .int)]
def wsX5_waiting_r3 : List Cond := [Cond.static yX5_edgeTowards, Cond.code yX5_edgeTowards cX5_edgeTowards 4 (some .int), Cond.methodLink RX5 228 Lib.Math.min.name, Cond.static Lib.Math.min.name, Cond.initialized "java/lang/Math", Cond.code Lib.Math.min.name Lib.Math.min.code 2 (some .int), Cond.methodLink RX5 239 yX5_beside, Cond.static yX5_beside, Cond.code yX5_beside cX5_beside 2 (some .int), Cond.static yX5_isEdge, Cond.code yX5_isEdge cX5_isEdge 1 (some .boolean), Cond.methodLink RX4 52 yX4_stepsTo, Cond.instanceMethod yX4_stepsTo, Cond.selects RX4 yX4_stepsTo yX4_stepsTo, Cond.code yX4_stepsTo cX4_stepsTo 3 (some .int), Cond.static yX5_isDoor, Cond.code yX5_isDoor cX5_isDoor 1 (some .boolean), Cond.methodLink RX4 31 yX4_chooseGoal, Cond.instanceMethod yX4_chooseGoal, Cond.selects RX4 yX4_chooseGoal yX4_chooseGoal, Cond.code yX4_chooseGoal cX4_chooseGoal 7 (some .int), Cond.fieldLink RX4 74 "RopedHalls$Hall" "guards" "[I", Cond.fieldLink RX4 77 "RopedHalls$Hall" "doorOpen" "[Z", Cond.methodLink RX4 35 yX4_chooseNext]
def wsX5_waiting_r4 : List Cond := [Cond.instanceMethod yX4_chooseNext, Cond.selects RX4 yX4_chooseNext yX4_chooseNext, Cond.code yX4_chooseNext cX4_chooseNext 6 (some .int), Cond.methodLink RX4 81 yX4_stepsToGoal, Cond.instanceMethod yX4_stepsToGoal, Cond.selects RX4 yX4_stepsToGoal yX4_stepsToGoal, Cond.code yX4_stepsToGoal cX4_stepsToGoal 2 (some .int), Cond.methodLink RX4 48 yX4_goalOf, Cond.instanceMethod yX4_goalOf, Cond.selects RX4 yX4_goalOf yX4_goalOf, Cond.code yX4_goalOf cX4_goalOf 2 (some .int), Cond.methodLink RX4 38 yX4_orderTurns, Cond.instanceMethod yX4_orderTurns, Cond.selects RX4 yX4_orderTurns yX4_orderTurns, Cond.code yX4_orderTurns cX4_orderTurns 3 none, Cond.fieldLink RX4 56 "RopedHalls$Routes" "turnCount" "I", Cond.fieldLink RX4 24 "RopedHalls$Routes" "turns" "[I", Cond.methodLink RX5 193 yX0_runUntilOut, Cond.instanceMethod yX0_runUntilOut, Cond.selects RX0 yX0_runUntilOut yX0_runUntilOut, Cond.code yX0_runUntilOut cX0_runUntilOut 3 (some .int), Cond.fieldLink RX0 28 "RopedHalls$Forecast" "minute" "LRopedHalls$Minute;", Cond.methodLink RX0 47 yX1_peopleInside, Cond.instanceMethod yX1_peopleInside]
def wsX5_waiting_r5 : List Cond := [Cond.selects RX1 yX1_peopleInside yX1_peopleInside, Cond.code yX1_peopleInside cX1_peopleInside 3 (some .int), Cond.methodLink RX0 51 yX4_stranded, Cond.instanceMethod yX4_stranded, Cond.selects RX4 yX4_stranded yX4_stranded, Cond.code yX4_stranded cX4_stranded 2 (some .int), Cond.methodLink RX4 65 yX4_peopleWithGoal, Cond.instanceMethod yX4_peopleWithGoal, Cond.selects RX4 yX4_peopleWithGoal yX4_peopleWithGoal, Cond.code yX4_peopleWithGoal cX4_peopleWithGoal 5 (some .int), Cond.fieldLink RX4 60 "RopedHalls$Hall" "people" "[I", Cond.methodLink RX0 55 yX2_run, Cond.instanceMethod yX2_run, Cond.selects RX2 yX2_run yX2_run, Cond.initialized RX2, Cond.code yX2_run cX2_run 6 (some .int), Cond.fieldLink RX2 15 "RopedHalls$Hall" "minutes" "I", Cond.fieldLink RX2 9 "RopedHalls$Minute" "arrived" "[I", Cond.methodLink RX2 21 yX2_letOut, Cond.static yX2_letOut, Cond.code yX2_letOut cX2_letOut 4 (some .int), Cond.fieldLink RX2 42 "RopedHalls$Hall" "doorCell" "[I", Cond.fieldLink RX2 45 "RopedHalls$Hall" "doorOpen" "[Z", Cond.fieldLink RX2 53 "RopedHalls$Hall" "doorRate" "[I"]
def wsX5_waiting_r6 : List Cond := [Cond.fieldLink RX2 56 "RopedHalls$Hall" "people" "[I", Cond.methodLink RX2 59 Lib.Math.min.name, Cond.fieldLink RX2 65 "RopedHalls$Hall" "doorOut" "[I", Cond.methodLink RX2 25 yX4_turnsAMinute, Cond.instanceMethod yX4_turnsAMinute, Cond.selects RX4 yX4_turnsAMinute yX4_turnsAMinute, Cond.code yX4_turnsAMinute cX4_turnsAMinute 1 (some .int), Cond.methodLink RX2 31 yX4_cellAtTurn, Cond.instanceMethod yX4_cellAtTurn, Cond.selects RX4 yX4_cellAtTurn yX4_cellAtTurn, Cond.code yX4_cellAtTurn cX4_cellAtTurn 2 (some .int), Cond.methodLink RX2 35 yX4_nextOf, Cond.instanceMethod yX4_nextOf, Cond.selects RX4 yX4_nextOf yX4_nextOf, Cond.code yX4_nextOf cX4_nextOf 2 (some .int), Cond.methodLink RX2 38 yX2_move, Cond.instanceMethod yX2_move, Cond.selects RX2 yX2_move yX2_move, Cond.code yX2_move cX2_move 6 none, Cond.fieldLink RX2 71 "RopedHalls$Hall" "jams" "I", Cond.fieldLink RX2 74 "RopedHalls$Hall" "waited" "I", Cond.methodLink RX2 68 yX1_roomIn, Cond.instanceMethod yX1_roomIn, Cond.selects RX1 yX1_roomIn yX1_roomIn]
def wsX5_waiting_r7 : List Cond := [Cond.code yX1_roomIn cX1_roomIn 2 (some .int), Cond.methodLink RX5 207 yX0_waited, Cond.instanceMethod yX0_waited, Cond.selects RX0 yX0_waited yX0_waited, Cond.code yX0_waited cX0_waited 1 (some .int), Cond.fieldLink RX0 62 "RopedHalls$Hall" "waited" "I"]
def wsX5_waiting : List Cond := .code yX5_waiting cX5_waiting 1 (some .int) :: ((wsX5_waiting_r1 ++ (wsX5_waiting_r2 ++ (wsX5_waiting_r3 ++ (wsX5_waiting_r4 ++ (wsX5_waiting_r5 ++ (wsX5_waiting_r6 ++ wsX5_waiting_r7)))))) ++ wsX50 ++ wsX10 ++ wsX00 ++ wsX40 ++ wsX20)
def wsX5_charactersIn : List Cond := .code yX5_charactersIn cX5_charactersIn 6 (some .int) :: ([])
def wsX5_put : List Cond := .code yX5_put cX5_put 5 (some .int) :: ([.fieldLink RX5 40 "RopedHalls" "pad" "LRopedHalls$Pad;", .fieldLink RX5 134 "RopedHalls$Pad" "length" "I", .methodLink RX5 209 yX5_charactersIn, .static yX5_charactersIn, .initialized RX5, .code yX5_charactersIn cX5_charactersIn 6 (some .int), .methodLink RX5 213 yX3_append, .instanceMethod yX3_append, .selects RX3 yX3_append yX3_append, .initialized RX3, .code yX3_append cX3_append 2 none, .fieldLink RX3 15 "RopedHalls$Pad" "length" "I", .fieldLink RX3 9 "RopedHalls$Pad" "codes" "[I"] ++ wsX50 ++ wsX30)
def wsX5_wipe : List Cond := .code yX5_wipe cX5_wipe 2 (some .int) :: ([.fieldLink RX5 40 "RopedHalls" "pad" "LRopedHalls$Pad;", .fieldLink RX5 134 "RopedHalls$Pad" "length" "I"] ++ wsX50 ++ wsX30)
def wsX5_fault : List Cond := .code yX5_fault cX5_fault 1 (some .int) :: ([.fieldLink RX5 40 "RopedHalls" "pad" "LRopedHalls$Pad;", .methodLink RX5 125 yX3_firstFault, .instanceMethod yX3_firstFault, .selects RX3 yX3_firstFault yX3_firstFault, .initialized RX3, .code yX3_firstFault cX3_firstFault 3 (some .int), .fieldLink RX3 15 "RopedHalls$Pad" "length" "I", .methodLink RX3 19 yX3_codeAt, .instanceMethod yX3_codeAt, .selects RX3 yX3_codeAt yX3_codeAt, .code yX3_codeAt cX3_codeAt 2 (some .int), .fieldLink RX3 9 "RopedHalls$Pad" "codes" "[I", .methodLink RX3 23 yX3_placeBehind, .static yX3_placeBehind, .code yX3_placeBehind cX3_placeBehind 3 (some .int), .methodLink RX3 45 yX3_placeBehindFirstDigit, .static yX3_placeBehindFirstDigit, .code yX3_placeBehindFirstDigit cX3_placeBehindFirstDigit 1 (some .int)] ++ wsX50 ++ wsX30)
def wsX5_undo_r1 : List Cond := [Cond.fieldLink RX5 184 "RopedHalls" "changes" "I", Cond.fieldLink RX5 217 "RopedHalls" "newest" "I", Cond.fieldLink RX5 12 "RopedHalls" "hall" "LRopedHalls$Hall;", Cond.methodLink RX5 220 yX5_recorded, Cond.instanceMethod yX5_recorded, Cond.selects RX5 yX5_recorded yX5_recorded, Cond.initialized RX5, Cond.code yX5_recorded cX5_recorded 2 (some (.object "RopedHalls$Hall")), Cond.fieldLink RX5 44 "RopedHalls" "history" "[LRopedHalls$Hall;", Cond.methodLink RX5 224 yX5_copyHall, Cond.static yX5_copyHall, Cond.code yX5_copyHall cX5_copyHall 2 none, Cond.methodLink RX5 236 yX1_copyFrom, Cond.instanceMethod yX1_copyFrom, Cond.selects RX1 yX1_copyFrom yX1_copyFrom, Cond.initialized RX1, Cond.code yX1_copyFrom cX1_copyFrom 3 none, Cond.fieldLink RX1 9 "RopedHalls$Hall" "room" "I", Cond.fieldLink RX1 38 "RopedHalls$Hall" "minutes" "I", Cond.fieldLink RX1 41 "RopedHalls$Hall" "cameIn" "I", Cond.fieldLink RX1 44 "RopedHalls$Hall" "waited" "I", Cond.fieldLink RX1 47 "RopedHalls$Hall" "jams" "I", Cond.fieldLink RX1 15 "RopedHalls$Hall" "people" "[I", Cond.fieldLink RX1 19 "RopedHalls$Hall" "guards" "[I"]
def wsX5_undo_r2 : List Cond := [Cond.fieldLink RX1 22 "RopedHalls$Hall" "ropes" "[Z", Cond.fieldLink RX1 26 "RopedHalls$Hall" "doorCell" "[I", Cond.fieldLink RX1 29 "RopedHalls$Hall" "doorRate" "[I", Cond.fieldLink RX1 32 "RopedHalls$Hall" "doorOpen" "[Z", Cond.fieldLink RX1 35 "RopedHalls$Hall" "doorOut" "[I"]
def wsX5_undo : List Cond := .code yX5_undo cX5_undo 1 (some .int) :: ((wsX5_undo_r1 ++ wsX5_undo_r2) ++ wsX50 ++ wsX10)
def wsX5_save_r1 : List Cond := [Cond.fieldLink RX5 12 "RopedHalls" "hall" "LRopedHalls$Hall;", Cond.fieldLink RX5 48 "RopedHalls" "slots" "[LRopedHalls$Hall;", Cond.fieldLink RX5 51 "RopedHalls" "isSaved" "[Z", Cond.methodLink RX5 224 yX5_copyHall, Cond.static yX5_copyHall, Cond.initialized RX5, Cond.code yX5_copyHall cX5_copyHall 2 none, Cond.methodLink RX5 236 yX1_copyFrom, Cond.instanceMethod yX1_copyFrom, Cond.selects RX1 yX1_copyFrom yX1_copyFrom, Cond.initialized RX1, Cond.code yX1_copyFrom cX1_copyFrom 3 none, Cond.fieldLink RX1 9 "RopedHalls$Hall" "room" "I", Cond.fieldLink RX1 38 "RopedHalls$Hall" "minutes" "I", Cond.fieldLink RX1 41 "RopedHalls$Hall" "cameIn" "I", Cond.fieldLink RX1 44 "RopedHalls$Hall" "waited" "I", Cond.fieldLink RX1 47 "RopedHalls$Hall" "jams" "I", Cond.fieldLink RX1 15 "RopedHalls$Hall" "people" "[I", Cond.fieldLink RX1 19 "RopedHalls$Hall" "guards" "[I", Cond.fieldLink RX1 22 "RopedHalls$Hall" "ropes" "[Z", Cond.fieldLink RX1 26 "RopedHalls$Hall" "doorCell" "[I", Cond.fieldLink RX1 29 "RopedHalls$Hall" "doorRate" "[I", Cond.fieldLink RX1 32 "RopedHalls$Hall" "doorOpen" "[Z", Cond.fieldLink RX1 35 "RopedHalls$Hall" "doorOut" "[I"]
def wsX5_save_r2 : List Cond := [Cond.methodLink RX5 163 yX1_peopleInside, Cond.instanceMethod yX1_peopleInside, Cond.selects RX1 yX1_peopleInside yX1_peopleInside, Cond.code yX1_peopleInside cX1_peopleInside 3 (some .int)]
def wsX5_save : List Cond := .code yX5_save cX5_save 2 (some .int) :: ((wsX5_save_r1 ++ wsX5_save_r2) ++ wsX50 ++ wsX10)
def wsX5_restore_r1 : List Cond := [Cond.fieldLink RX5 51 "RopedHalls" "isSaved" "[Z", Cond.fieldLink RX5 48 "RopedHalls" "slots" "[LRopedHalls$Hall;", Cond.fieldLink RX5 12 "RopedHalls" "hall" "LRopedHalls$Hall;", Cond.methodLink RX5 59 yX5_remember, Cond.instanceMethod yX5_remember, Cond.selects RX5 yX5_remember yX5_remember, Cond.initialized RX5, Cond.code yX5_remember cX5_remember 1 none, Cond.fieldLink RX5 217 "RopedHalls" "newest" "I", Cond.fieldLink RX5 184 "RopedHalls" "changes" "I", Cond.methodLink RX5 228 Lib.Math.min.name, Cond.static Lib.Math.min.name, Cond.initialized "java/lang/Math", Cond.code Lib.Math.min.name Lib.Math.min.code 2 (some .int), Cond.methodLink RX5 220 yX5_recorded, Cond.instanceMethod yX5_recorded, Cond.selects RX5 yX5_recorded yX5_recorded, Cond.code yX5_recorded cX5_recorded 2 (some (.object "RopedHalls$Hall")), Cond.fieldLink RX5 44 "RopedHalls" "history" "[LRopedHalls$Hall;", Cond.methodLink RX5 224 yX5_copyHall, Cond.static yX5_copyHall, Cond.code yX5_copyHall cX5_copyHall 2 none, Cond.methodLink RX5 236 yX1_copyFrom, Cond.instanceMethod yX1_copyFrom]
def wsX5_restore_r2 : List Cond := [Cond.selects RX1 yX1_copyFrom yX1_copyFrom, Cond.initialized RX1, Cond.code yX1_copyFrom cX1_copyFrom 3 none, Cond.fieldLink RX1 9 "RopedHalls$Hall" "room" "I", Cond.fieldLink RX1 38 "RopedHalls$Hall" "minutes" "I", Cond.fieldLink RX1 41 "RopedHalls$Hall" "cameIn" "I", Cond.fieldLink RX1 44 "RopedHalls$Hall" "waited" "I", Cond.fieldLink RX1 47 "RopedHalls$Hall" "jams" "I", Cond.fieldLink RX1 15 "RopedHalls$Hall" "people" "[I", Cond.fieldLink RX1 19 "RopedHalls$Hall" "guards" "[I", Cond.fieldLink RX1 22 "RopedHalls$Hall" "ropes" "[Z", Cond.fieldLink RX1 26 "RopedHalls$Hall" "doorCell" "[I", Cond.fieldLink RX1 29 "RopedHalls$Hall" "doorRate" "[I", Cond.fieldLink RX1 32 "RopedHalls$Hall" "doorOpen" "[Z", Cond.fieldLink RX1 35 "RopedHalls$Hall" "doorOut" "[I", Cond.methodLink RX5 163 yX1_peopleInside, Cond.instanceMethod yX1_peopleInside, Cond.selects RX1 yX1_peopleInside yX1_peopleInside, Cond.code yX1_peopleInside cX1_peopleInside 3 (some .int)]
def wsX5_restore : List Cond := .code yX5_restore cX5_restore 2 (some .int) :: ((wsX5_restore_r1 ++ wsX5_restore_r2) ++ wsX50 ++ wsX10)
def wsX6_init : List Cond := .code yX6_init cX6_init 2 none :: ([.methodLink RX6 1 objectInit, .instanceMethod objectInit, .code objectInit ⟨#[0xb1]⟩ 1 none, .arrayClass .int, .fieldLink RX6 7 "RopedHallsModel" "s" "[I", .fieldLink RX6 13 "RopedHallsModel" "aside" "[I", .fieldLink RX6 16 "RopedHallsModel" "history" "[I", .fieldLink RX6 19 "RopedHallsModel" "slots" "[I", .arrayClass .boolean, .fieldLink RX6 22 "RopedHallsModel" "isSaved" "[Z", .fieldLink RX6 26 "RopedHallsModel" "pad" "[I", .fieldLink RX6 29 "RopedHallsModel" "far" "[I", .fieldLink RX6 32 "RopedHallsModel" "goals" "[I", .fieldLink RX6 35 "RopedHallsModel" "steps" "[I", .fieldLink RX6 38 "RopedHallsModel" "nexts" "[I", .fieldLink RX6 41 "RopedHallsModel" "fresh" "[I", .fieldLink RX6 44 "RopedHallsModel" "tried" "[I"] ++ wsX60)
def wsX6_in : List Cond := .code yX6_in cX6_in 3 (some .boolean) :: ([])
def wsX6_isCell : List Cond := .code yX6_isCell cX6_isCell 1 (some .boolean) :: ([.methodLink RX6 47 yX6_in, .static yX6_in, .initialized RX6, .code yX6_in cX6_in 3 (some .boolean)])
def wsX6_isDoor : List Cond := .code yX6_isDoor cX6_isDoor 1 (some .boolean) :: ([.methodLink RX6 47 yX6_in, .static yX6_in, .initialized RX6, .code yX6_in cX6_in 3 (some .boolean)])
def wsX6_record : List Cond := .code yX6_record cX6_record 2 none :: ([.fieldLink RX6 51 "RopedHallsModel" "kept" "I", .fieldLink RX6 16 "RopedHallsModel" "history" "[I", .fieldLink RX6 7 "RopedHallsModel" "s" "[I"] ++ wsX60)
def wsX6_putAside : List Cond := .code yX6_putAside cX6_putAside 2 none :: ([.fieldLink RX6 13 "RopedHallsModel" "aside" "[I", .fieldLink RX6 7 "RopedHallsModel" "s" "[I"] ++ wsX60)
def wsX6_putBack : List Cond := .code yX6_putBack cX6_putBack 2 none :: ([.fieldLink RX6 7 "RopedHallsModel" "s" "[I", .fieldLink RX6 13 "RopedHallsModel" "aside" "[I"] ++ wsX60)
def wsX6_beside : List Cond := .code yX6_beside cX6_beside 2 (some .int) :: ([])
def wsX6_ropeAt : List Cond := .code yX6_ropeAt cX6_ropeAt 2 (some .int) :: ([])
def wsX6_isFree : List Cond := .code yX6_isFree cX6_isFree 3 (some .boolean) :: ([.fieldLink RX6 7 "RopedHallsModel" "s" "[I", .methodLink RX6 55 yX6_beside, .static yX6_beside, .initialized RX6, .code yX6_beside cX6_beside 2 (some .int), .methodLink RX6 59 yX6_ropeAt, .static yX6_ropeAt, .code yX6_ropeAt cX6_ropeAt 2 (some .int)] ++ wsX60)
def wsX6_hasRope : List Cond := .code yX6_hasRope cX6_hasRope 3 (some .boolean) :: ([.fieldLink RX6 7 "RopedHallsModel" "s" "[I", .methodLink RX6 55 yX6_beside, .static yX6_beside, .initialized RX6, .code yX6_beside cX6_beside 2 (some .int), .methodLink RX6 59 yX6_ropeAt, .static yX6_ropeAt, .code yX6_ropeAt cX6_ropeAt 2 (some .int)] ++ wsX60)
def wsX6_layFar : List Cond := .code yX6_layFar cX6_layFar 6 none :: ([.fieldLink RX6 29 "RopedHallsModel" "far" "[I", .fieldLink RX6 7 "RopedHallsModel" "s" "[I", .methodLink RX6 62 yX6_isFree, .instanceMethod yX6_isFree, .selects RX6 yX6_isFree yX6_isFree, .initialized RX6, .code yX6_isFree cX6_isFree 3 (some .boolean), .methodLink RX6 55 yX6_beside, .static yX6_beside, .code yX6_beside cX6_beside 2 (some .int), .methodLink RX6 59 yX6_ropeAt, .static yX6_ropeAt, .code yX6_ropeAt cX6_ropeAt 2 (some .int)] ++ wsX60)
def wsX6_leads : List Cond := .code yX6_leads cX6_leads 3 (some .boolean) :: ([.fieldLink RX6 7 "RopedHallsModel" "s" "[I", .fieldLink RX6 29 "RopedHallsModel" "far" "[I"] ++ wsX60)
def wsX6_goalOf : List Cond := .code yX6_goalOf cX6_goalOf 5 (some .int) :: ([.fieldLink RX6 7 "RopedHallsModel" "s" "[I", .fieldLink RX6 29 "RopedHallsModel" "far" "[I", .methodLink RX6 66 yX6_leads, .instanceMethod yX6_leads, .selects RX6 yX6_leads yX6_leads, .initialized RX6, .code yX6_leads cX6_leads 3 (some .boolean)] ++ wsX60)
def wsX6_nextOf : List Cond := .code yX6_nextOf cX6_nextOf 5 (some .int) :: ([.fieldLink RX6 32 "RopedHallsModel" "goals" "[I", .fieldLink RX6 35 "RopedHallsModel" "steps" "[I", .fieldLink RX6 29 "RopedHallsModel" "far" "[I", .methodLink RX6 62 yX6_isFree, .instanceMethod yX6_isFree, .selects RX6 yX6_isFree yX6_isFree, .initialized RX6, .code yX6_isFree cX6_isFree 3 (some .boolean), .fieldLink RX6 7 "RopedHallsModel" "s" "[I", .methodLink RX6 55 yX6_beside, .static yX6_beside, .code yX6_beside cX6_beside 2 (some .int), .methodLink RX6 59 yX6_ropeAt, .static yX6_ropeAt, .code yX6_ropeAt cX6_ropeAt 2 (some .int)] ++ wsX60)
def wsX6_layWays_r1 : List Cond := [Cond.fieldLink RX6 32 "RopedHallsModel" "goals" "[I", Cond.fieldLink RX6 35 "RopedHallsModel" "steps" "[I", Cond.fieldLink RX6 29 "RopedHallsModel" "far" "[I", Cond.fieldLink RX6 38 "RopedHallsModel" "nexts" "[I", Cond.methodLink RX6 69 yX6_layFar, Cond.instanceMethod yX6_layFar, Cond.selects RX6 yX6_layFar yX6_layFar, Cond.initialized RX6, Cond.code yX6_layFar cX6_layFar 6 none, Cond.fieldLink RX6 7 "RopedHallsModel" "s" "[I", Cond.methodLink RX6 62 yX6_isFree, Cond.instanceMethod yX6_isFree, Cond.selects RX6 yX6_isFree yX6_isFree, Cond.code yX6_isFree cX6_isFree 3 (some .boolean), Cond.methodLink RX6 55 yX6_beside, Cond.static yX6_beside, Cond.code yX6_beside cX6_beside 2 (some .int), Cond.methodLink RX6 59 yX6_ropeAt, Cond.static yX6_ropeAt, Cond.code yX6_ropeAt cX6_ropeAt 2 (some .int), Cond.methodLink RX6 73 yX6_goalOf, Cond.instanceMethod yX6_goalOf, Cond.selects RX6 yX6_goalOf yX6_goalOf, Cond.code yX6_goalOf cX6_goalOf 5 (some .int)]
def wsX6_layWays_r2 : List Cond := [Cond.methodLink RX6 66 yX6_leads, Cond.instanceMethod yX6_leads, Cond.selects RX6 yX6_leads yX6_leads, Cond.code yX6_leads cX6_leads 3 (some .boolean), Cond.methodLink RX6 77 yX6_nextOf, Cond.instanceMethod yX6_nextOf, Cond.selects RX6 yX6_nextOf yX6_nextOf, Cond.code yX6_nextOf cX6_nextOf 5 (some .int)]
def wsX6_layWays : List Cond := .code yX6_layWays cX6_layWays 2 none :: ((wsX6_layWays_r1 ++ wsX6_layWays_r2) ++ wsX60)
def wsX6_letsOut : List Cond := .code yX6_letsOut cX6_letsOut 4 none :: ([.fieldLink RX6 7 "RopedHallsModel" "s" "[I"] ++ wsX60)
def wsX6_goes : List Cond := .code yX6_goes cX6_goes 6 none :: ([.fieldLink RX6 38 "RopedHallsModel" "nexts" "[I", .fieldLink RX6 7 "RopedHallsModel" "s" "[I", .fieldLink RX6 41 "RopedHallsModel" "fresh" "[I"] ++ wsX60)
def wsX6_minute : List Cond := .code yX6_minute cX6_minute 3 none :: ([.fieldLink RX6 7 "RopedHallsModel" "s" "[I", .fieldLink RX6 41 "RopedHallsModel" "fresh" "[I", .fieldLink RX6 35 "RopedHallsModel" "steps" "[I", .methodLink RX6 80 yX6_letsOut, .instanceMethod yX6_letsOut, .selects RX6 yX6_letsOut yX6_letsOut, .initialized RX6, .code yX6_letsOut cX6_letsOut 4 none, .methodLink RX6 83 yX6_goes, .instanceMethod yX6_goes, .selects RX6 yX6_goes yX6_goes, .code yX6_goes cX6_goes 6 none, .fieldLink RX6 38 "RopedHallsModel" "nexts" "[I"] ++ wsX60)
def wsX6_people : List Cond := .code yX6_people cX6_people 3 (some .int) :: ([.fieldLink RX6 7 "RopedHallsModel" "s" "[I"] ++ wsX60)
def wsX6_out : List Cond := .code yX6_out cX6_out 1 (some .int) :: ([.fieldLink RX6 7 "RopedHallsModel" "s" "[I"] ++ wsX60)
def wsX6_shutIn : List Cond := .code yX6_shutIn cX6_shutIn 3 (some .int) :: ([.fieldLink RX6 32 "RopedHallsModel" "goals" "[I", .fieldLink RX6 7 "RopedHallsModel" "s" "[I"] ++ wsX60)
def wsX6_emptied_r1 : List Cond := [Cond.methodLink RX6 86 yX6_people, Cond.instanceMethod yX6_people, Cond.selects RX6 yX6_people yX6_people, Cond.initialized RX6, Cond.code yX6_people cX6_people 3 (some .int), Cond.fieldLink RX6 7 "RopedHallsModel" "s" "[I", Cond.methodLink RX6 90 yX6_shutIn, Cond.instanceMethod yX6_shutIn, Cond.selects RX6 yX6_shutIn yX6_shutIn, Cond.code yX6_shutIn cX6_shutIn 3 (some .int), Cond.fieldLink RX6 32 "RopedHallsModel" "goals" "[I", Cond.methodLink RX6 93 yX6_minute, Cond.instanceMethod yX6_minute, Cond.selects RX6 yX6_minute yX6_minute, Cond.code yX6_minute cX6_minute 3 none, Cond.fieldLink RX6 41 "RopedHallsModel" "fresh" "[I", Cond.fieldLink RX6 35 "RopedHallsModel" "steps" "[I", Cond.methodLink RX6 80 yX6_letsOut, Cond.instanceMethod yX6_letsOut, Cond.selects RX6 yX6_letsOut yX6_letsOut, Cond.code yX6_letsOut cX6_letsOut 4 none, Cond.methodLink RX6 83 yX6_goes, Cond.instanceMethod yX6_goes, Cond.selects RX6 yX6_goes yX6_goes]
def wsX6_emptied_r2 : List Cond := [Cond.code yX6_goes cX6_goes 6 none, Cond.fieldLink RX6 38 "RopedHallsModel" "nexts" "[I"]
def wsX6_emptied : List Cond := .code yX6_emptied cX6_emptied 2 (some .int) :: ((wsX6_emptied_r1 ++ wsX6_emptied_r2) ++ wsX60)
def wsX6_lays : List Cond := .code yX6_lays cX6_lays 4 (some .int) :: ([.fieldLink RX6 7 "RopedHallsModel" "s" "[I", .methodLink RX6 96 yX6_record, .instanceMethod yX6_record, .selects RX6 yX6_record yX6_record, .initialized RX6, .code yX6_record cX6_record 2 none, .fieldLink RX6 51 "RopedHallsModel" "kept" "I", .fieldLink RX6 16 "RopedHallsModel" "history" "[I"] ++ wsX60)
def wsX6_setRoom : List Cond := .code yX6_setRoom cX6_setRoom 3 (some .int) :: ([.fieldLink RX6 7 "RopedHallsModel" "s" "[I", .methodLink RX6 47 yX6_in, .static yX6_in, .initialized RX6, .code yX6_in cX6_in 3 (some .boolean), .methodLink RX6 99 yX6_lays, .instanceMethod yX6_lays, .selects RX6 yX6_lays yX6_lays, .code yX6_lays cX6_lays 4 (some .int), .methodLink RX6 96 yX6_record, .instanceMethod yX6_record, .selects RX6 yX6_record yX6_record, .code yX6_record cX6_record 2 none, .fieldLink RX6 51 "RopedHallsModel" "kept" "I", .fieldLink RX6 16 "RopedHallsModel" "history" "[I"] ++ wsX60)
def wsX6_ropes : List Cond := .code yX6_ropes cX6_ropes 3 (some .int) :: ([.fieldLink RX6 7 "RopedHallsModel" "s" "[I"] ++ wsX60)
def wsX6_isEdge : List Cond := .code yX6_isEdge cX6_isEdge 2 (some .boolean) :: ([.methodLink RX6 55 yX6_beside, .static yX6_beside, .initialized RX6, .code yX6_beside cX6_beside 2 (some .int)])
def wsX6_rope_r1 : List Cond := [Cond.fieldLink RX6 7 "RopedHallsModel" "s" "[I", Cond.methodLink RX6 102 yX6_isCell, Cond.static yX6_isCell, Cond.initialized RX6, Cond.code yX6_isCell cX6_isCell 1 (some .boolean), Cond.methodLink RX6 47 yX6_in, Cond.static yX6_in, Cond.code yX6_in cX6_in 3 (some .boolean), Cond.methodLink RX6 106 yX6_isEdge, Cond.static yX6_isEdge, Cond.code yX6_isEdge cX6_isEdge 2 (some .boolean), Cond.methodLink RX6 55 yX6_beside, Cond.static yX6_beside, Cond.code yX6_beside cX6_beside 2 (some .int), Cond.methodLink RX6 59 yX6_ropeAt, Cond.static yX6_ropeAt, Cond.code yX6_ropeAt cX6_ropeAt 2 (some .int), Cond.methodLink RX6 109 yX6_ropes, Cond.instanceMethod yX6_ropes, Cond.selects RX6 yX6_ropes yX6_ropes, Cond.code yX6_ropes cX6_ropes 3 (some .int), Cond.methodLink RX6 99 yX6_lays, Cond.instanceMethod yX6_lays, Cond.selects RX6 yX6_lays yX6_lays]
def wsX6_rope_r2 : List Cond := [Cond.code yX6_lays cX6_lays 4 (some .int), Cond.methodLink RX6 96 yX6_record, Cond.instanceMethod yX6_record, Cond.selects RX6 yX6_record yX6_record, Cond.code yX6_record cX6_record 2 none, Cond.fieldLink RX6 51 "RopedHallsModel" "kept" "I", Cond.fieldLink RX6 16 "RopedHallsModel" "history" "[I"]
def wsX6_rope : List Cond := .code yX6_rope cX6_rope 5 (some .int) :: ((wsX6_rope_r1 ++ wsX6_rope_r2) ++ wsX60)
def wsX6_door : List Cond := .code yX6_door cX6_door 5 (some .int) :: ([.fieldLink RX6 7 "RopedHallsModel" "s" "[I", .methodLink RX6 112 yX6_isDoor, .static yX6_isDoor, .initialized RX6, .code yX6_isDoor cX6_isDoor 1 (some .boolean), .methodLink RX6 47 yX6_in, .static yX6_in, .code yX6_in cX6_in 3 (some .boolean), .methodLink RX6 102 yX6_isCell, .static yX6_isCell, .code yX6_isCell cX6_isCell 1 (some .boolean), .methodLink RX6 99 yX6_lays, .instanceMethod yX6_lays, .selects RX6 yX6_lays yX6_lays, .code yX6_lays cX6_lays 4 (some .int), .methodLink RX6 96 yX6_record, .instanceMethod yX6_record, .selects RX6 yX6_record yX6_record, .code yX6_record cX6_record 2 none, .fieldLink RX6 51 "RopedHallsModel" "kept" "I", .fieldLink RX6 16 "RopedHallsModel" "history" "[I"] ++ wsX60)
def wsX6_openSet : List Cond := .code yX6_openSet cX6_openSet 1 (some .int) :: ([.fieldLink RX6 7 "RopedHallsModel" "s" "[I"] ++ wsX60)
def wsX6_openDoors : List Cond := .code yX6_openDoors cX6_openDoors 1 (some .int) :: ([.fieldLink RX6 7 "RopedHallsModel" "s" "[I"] ++ wsX60)
def wsX6_open : List Cond := .code yX6_open cX6_open 4 (some .int) :: ([.fieldLink RX6 7 "RopedHallsModel" "s" "[I", .methodLink RX6 112 yX6_isDoor, .static yX6_isDoor, .initialized RX6, .code yX6_isDoor cX6_isDoor 1 (some .boolean), .methodLink RX6 47 yX6_in, .static yX6_in, .code yX6_in cX6_in 3 (some .boolean), .methodLink RX6 99 yX6_lays, .instanceMethod yX6_lays, .selects RX6 yX6_lays yX6_lays, .code yX6_lays cX6_lays 4 (some .int), .methodLink RX6 96 yX6_record, .instanceMethod yX6_record, .selects RX6 yX6_record yX6_record, .code yX6_record cX6_record 2 none, .fieldLink RX6 51 "RopedHallsModel" "kept" "I", .fieldLink RX6 16 "RopedHallsModel" "history" "[I", .methodLink RX6 115 yX6_openDoors, .instanceMethod yX6_openDoors, .selects RX6 yX6_openDoors yX6_openDoors, .code yX6_openDoors cX6_openDoors 1 (some .int)] ++ wsX60)
def wsX6_guard_r1 : List Cond := [Cond.fieldLink RX6 32 "RopedHallsModel" "goals" "[I", Cond.methodLink RX6 102 yX6_isCell, Cond.static yX6_isCell, Cond.initialized RX6, Cond.code yX6_isCell cX6_isCell 1 (some .boolean), Cond.methodLink RX6 47 yX6_in, Cond.static yX6_in, Cond.code yX6_in cX6_in 3 (some .boolean), Cond.methodLink RX6 99 yX6_lays, Cond.instanceMethod yX6_lays, Cond.selects RX6 yX6_lays yX6_lays, Cond.code yX6_lays cX6_lays 4 (some .int), Cond.fieldLink RX6 7 "RopedHallsModel" "s" "[I", Cond.methodLink RX6 96 yX6_record, Cond.instanceMethod yX6_record, Cond.selects RX6 yX6_record yX6_record, Cond.code yX6_record cX6_record 2 none, Cond.fieldLink RX6 51 "RopedHallsModel" "kept" "I", Cond.fieldLink RX6 16 "RopedHallsModel" "history" "[I", Cond.methodLink RX6 118 yX6_layWays, Cond.instanceMethod yX6_layWays, Cond.selects RX6 yX6_layWays yX6_layWays, Cond.code yX6_layWays cX6_layWays 2 none, Cond.fieldLink RX6 35 "RopedHallsModel" "steps" "[I"]
def wsX6_guard_r2 : List Cond := [Cond.fieldLink RX6 29 "RopedHallsModel" "far" "[I", Cond.fieldLink RX6 38 "RopedHallsModel" "nexts" "[I", Cond.methodLink RX6 69 yX6_layFar, Cond.instanceMethod yX6_layFar, Cond.selects RX6 yX6_layFar yX6_layFar, Cond.code yX6_layFar cX6_layFar 6 none, Cond.methodLink RX6 62 yX6_isFree, Cond.instanceMethod yX6_isFree, Cond.selects RX6 yX6_isFree yX6_isFree, Cond.code yX6_isFree cX6_isFree 3 (some .boolean), Cond.methodLink RX6 55 yX6_beside, Cond.static yX6_beside, Cond.code yX6_beside cX6_beside 2 (some .int), Cond.methodLink RX6 59 yX6_ropeAt, Cond.static yX6_ropeAt, Cond.code yX6_ropeAt cX6_ropeAt 2 (some .int), Cond.methodLink RX6 73 yX6_goalOf, Cond.instanceMethod yX6_goalOf, Cond.selects RX6 yX6_goalOf yX6_goalOf, Cond.code yX6_goalOf cX6_goalOf 5 (some .int), Cond.methodLink RX6 66 yX6_leads, Cond.instanceMethod yX6_leads, Cond.selects RX6 yX6_leads yX6_leads, Cond.code yX6_leads cX6_leads 3 (some .boolean)]
def wsX6_guard_r3 : List Cond := [Cond.methodLink RX6 77 yX6_nextOf, Cond.instanceMethod yX6_nextOf, Cond.selects RX6 yX6_nextOf yX6_nextOf, Cond.code yX6_nextOf cX6_nextOf 5 (some .int)]
def wsX6_guard : List Cond := .code yX6_guard cX6_guard 4 (some .int) :: ((wsX6_guard_r1 ++ (wsX6_guard_r2 ++ wsX6_guard_r3)) ++ wsX60)
def wsX6_enter : List Cond := .code yX6_enter cX6_enter 3 (some .int) :: ([.fieldLink RX6 7 "RopedHallsModel" "s" "[I", .methodLink RX6 102 yX6_isCell, .static yX6_isCell, .initialized RX6, .code yX6_isCell cX6_isCell 1 (some .boolean), .methodLink RX6 47 yX6_in, .static yX6_in, .code yX6_in cX6_in 3 (some .boolean), .methodLink RX6 96 yX6_record, .instanceMethod yX6_record, .selects RX6 yX6_record yX6_record, .code yX6_record cX6_record 2 none, .fieldLink RX6 51 "RopedHallsModel" "kept" "I", .fieldLink RX6 16 "RopedHallsModel" "history" "[I"] ++ wsX60)
def wsX6_pass_r1 : List Cond := [Cond.fieldLink RX6 7 "RopedHallsModel" "s" "[I", Cond.methodLink RX6 47 yX6_in, Cond.static yX6_in, Cond.initialized RX6, Cond.code yX6_in cX6_in 3 (some .boolean), Cond.methodLink RX6 96 yX6_record, Cond.instanceMethod yX6_record, Cond.selects RX6 yX6_record yX6_record, Cond.code yX6_record cX6_record 2 none, Cond.fieldLink RX6 51 "RopedHallsModel" "kept" "I", Cond.fieldLink RX6 16 "RopedHallsModel" "history" "[I", Cond.methodLink RX6 118 yX6_layWays, Cond.instanceMethod yX6_layWays, Cond.selects RX6 yX6_layWays yX6_layWays, Cond.code yX6_layWays cX6_layWays 2 none, Cond.fieldLink RX6 32 "RopedHallsModel" "goals" "[I", Cond.fieldLink RX6 35 "RopedHallsModel" "steps" "[I", Cond.fieldLink RX6 29 "RopedHallsModel" "far" "[I", Cond.fieldLink RX6 38 "RopedHallsModel" "nexts" "[I", Cond.methodLink RX6 69 yX6_layFar, Cond.instanceMethod yX6_layFar, Cond.selects RX6 yX6_layFar yX6_layFar, Cond.code yX6_layFar cX6_layFar 6 none, Cond.methodLink RX6 62 yX6_isFree]
def wsX6_pass_r2 : List Cond := [Cond.instanceMethod yX6_isFree, Cond.selects RX6 yX6_isFree yX6_isFree, Cond.code yX6_isFree cX6_isFree 3 (some .boolean), Cond.methodLink RX6 55 yX6_beside, Cond.static yX6_beside, Cond.code yX6_beside cX6_beside 2 (some .int), Cond.methodLink RX6 59 yX6_ropeAt, Cond.static yX6_ropeAt, Cond.code yX6_ropeAt cX6_ropeAt 2 (some .int), Cond.methodLink RX6 73 yX6_goalOf, Cond.instanceMethod yX6_goalOf, Cond.selects RX6 yX6_goalOf yX6_goalOf, Cond.code yX6_goalOf cX6_goalOf 5 (some .int), Cond.methodLink RX6 66 yX6_leads, Cond.instanceMethod yX6_leads, Cond.selects RX6 yX6_leads yX6_leads, Cond.code yX6_leads cX6_leads 3 (some .boolean), Cond.methodLink RX6 77 yX6_nextOf, Cond.instanceMethod yX6_nextOf, Cond.selects RX6 yX6_nextOf yX6_nextOf, Cond.code yX6_nextOf cX6_nextOf 5 (some .int), Cond.methodLink RX6 121 yX6_out, Cond.instanceMethod yX6_out, Cond.selects RX6 yX6_out yX6_out]
def wsX6_pass_r3 : List Cond := [Cond.code yX6_out cX6_out 1 (some .int), Cond.methodLink RX6 93 yX6_minute, Cond.instanceMethod yX6_minute, Cond.selects RX6 yX6_minute yX6_minute, Cond.code yX6_minute cX6_minute 3 none, Cond.fieldLink RX6 41 "RopedHallsModel" "fresh" "[I", Cond.methodLink RX6 80 yX6_letsOut, Cond.instanceMethod yX6_letsOut, Cond.selects RX6 yX6_letsOut yX6_letsOut, Cond.code yX6_letsOut cX6_letsOut 4 none, Cond.methodLink RX6 83 yX6_goes, Cond.instanceMethod yX6_goes, Cond.selects RX6 yX6_goes yX6_goes, Cond.code yX6_goes cX6_goes 6 none]
def wsX6_pass : List Cond := .code yX6_pass cX6_pass 4 (some .int) :: ((wsX6_pass_r1 ++ (wsX6_pass_r2 ++ wsX6_pass_r3)) ++ wsX60)
def wsX6_ropesOf : List Cond := .code yX6_ropesOf cX6_ropesOf 4 (some .int) :: ([.methodLink RX6 124 yX6_hasRope, .instanceMethod yX6_hasRope, .selects RX6 yX6_hasRope yX6_hasRope, .initialized RX6, .code yX6_hasRope cX6_hasRope 3 (some .boolean), .fieldLink RX6 7 "RopedHallsModel" "s" "[I", .methodLink RX6 55 yX6_beside, .static yX6_beside, .code yX6_beside cX6_beside 2 (some .int), .methodLink RX6 59 yX6_ropeAt, .static yX6_ropeAt, .code yX6_ropeAt cX6_ropeAt 2 (some .int)] ++ wsX60)
def wsX6_cell_r1 : List Cond := [Cond.fieldLink RX6 7 "RopedHallsModel" "s" "[I", Cond.fieldLink RX6 32 "RopedHallsModel" "goals" "[I", Cond.fieldLink RX6 35 "RopedHallsModel" "steps" "[I", Cond.fieldLink RX6 38 "RopedHallsModel" "nexts" "[I", Cond.methodLink RX6 102 yX6_isCell, Cond.static yX6_isCell, Cond.initialized RX6, Cond.code yX6_isCell cX6_isCell 1 (some .boolean), Cond.methodLink RX6 47 yX6_in, Cond.static yX6_in, Cond.code yX6_in cX6_in 3 (some .boolean), Cond.methodLink RX6 118 yX6_layWays, Cond.instanceMethod yX6_layWays, Cond.selects RX6 yX6_layWays yX6_layWays, Cond.code yX6_layWays cX6_layWays 2 none, Cond.fieldLink RX6 29 "RopedHallsModel" "far" "[I", Cond.methodLink RX6 69 yX6_layFar, Cond.instanceMethod yX6_layFar, Cond.selects RX6 yX6_layFar yX6_layFar, Cond.code yX6_layFar cX6_layFar 6 none, Cond.methodLink RX6 62 yX6_isFree, Cond.instanceMethod yX6_isFree, Cond.selects RX6 yX6_isFree yX6_isFree, Cond.code yX6_isFree cX6_isFree 3 (some .boolean)]
def wsX6_cell_r2 : List Cond := [Cond.methodLink RX6 55 yX6_beside, Cond.static yX6_beside, Cond.code yX6_beside cX6_beside 2 (some .int), Cond.methodLink RX6 59 yX6_ropeAt, Cond.static yX6_ropeAt, Cond.code yX6_ropeAt cX6_ropeAt 2 (some .int), Cond.methodLink RX6 73 yX6_goalOf, Cond.instanceMethod yX6_goalOf, Cond.selects RX6 yX6_goalOf yX6_goalOf, Cond.code yX6_goalOf cX6_goalOf 5 (some .int), Cond.methodLink RX6 66 yX6_leads, Cond.instanceMethod yX6_leads, Cond.selects RX6 yX6_leads yX6_leads, Cond.code yX6_leads cX6_leads 3 (some .boolean), Cond.methodLink RX6 77 yX6_nextOf, Cond.instanceMethod yX6_nextOf, Cond.selects RX6 yX6_nextOf yX6_nextOf, Cond.code yX6_nextOf cX6_nextOf 5 (some .int), Cond.methodLink RX6 127 yX6_ropesOf, Cond.instanceMethod yX6_ropesOf, Cond.selects RX6 yX6_ropesOf yX6_ropesOf, Cond.code yX6_ropesOf cX6_ropesOf 4 (some .int), Cond.methodLink RX6 124 yX6_hasRope, Cond.instanceMethod yX6_hasRope]
def wsX6_cell_r3 : List Cond := [Cond.selects RX6 yX6_hasRope yX6_hasRope, Cond.code yX6_hasRope cX6_hasRope 3 (some .boolean)]
def wsX6_cell : List Cond := .code yX6_cell cX6_cell 3 (some .int) :: ((wsX6_cell_r1 ++ (wsX6_cell_r2 ++ wsX6_cell_r3)) ++ wsX60)
def wsX6_goalOfMany_r1 : List Cond := [Cond.fieldLink RX6 32 "RopedHallsModel" "goals" "[I", Cond.fieldLink RX6 7 "RopedHallsModel" "s" "[I", Cond.methodLink RX6 118 yX6_layWays, Cond.instanceMethod yX6_layWays, Cond.selects RX6 yX6_layWays yX6_layWays, Cond.initialized RX6, Cond.code yX6_layWays cX6_layWays 2 none, Cond.fieldLink RX6 35 "RopedHallsModel" "steps" "[I", Cond.fieldLink RX6 29 "RopedHallsModel" "far" "[I", Cond.fieldLink RX6 38 "RopedHallsModel" "nexts" "[I", Cond.methodLink RX6 69 yX6_layFar, Cond.instanceMethod yX6_layFar, Cond.selects RX6 yX6_layFar yX6_layFar, Cond.code yX6_layFar cX6_layFar 6 none, Cond.methodLink RX6 62 yX6_isFree, Cond.instanceMethod yX6_isFree, Cond.selects RX6 yX6_isFree yX6_isFree, Cond.code yX6_isFree cX6_isFree 3 (some .boolean), Cond.methodLink RX6 55 yX6_beside, Cond.static yX6_beside, Cond.code yX6_beside cX6_beside 2 (some .int), Cond.methodLink RX6 59 yX6_ropeAt, Cond.static yX6_ropeAt, Cond.code yX6_ropeAt cX6_ropeAt 2 (some .int)]
def wsX6_goalOfMany_r2 : List Cond := [Cond.methodLink RX6 73 yX6_goalOf, Cond.instanceMethod yX6_goalOf, Cond.selects RX6 yX6_goalOf yX6_goalOf, Cond.code yX6_goalOf cX6_goalOf 5 (some .int), Cond.methodLink RX6 66 yX6_leads, Cond.instanceMethod yX6_leads, Cond.selects RX6 yX6_leads yX6_leads, Cond.code yX6_leads cX6_leads 3 (some .boolean), Cond.methodLink RX6 77 yX6_nextOf, Cond.instanceMethod yX6_nextOf, Cond.selects RX6 yX6_nextOf yX6_nextOf, Cond.code yX6_nextOf cX6_nextOf 5 (some .int)]
def wsX6_goalOfMany : List Cond := .code yX6_goalOfMany cX6_goalOfMany 5 (some .int) :: ((wsX6_goalOfMany_r1 ++ wsX6_goalOfMany_r2) ++ wsX60)
def wsX6_doorOf_r1 : List Cond := [Cond.fieldLink RX6 7 "RopedHallsModel" "s" "[I", Cond.methodLink RX6 112 yX6_isDoor, Cond.static yX6_isDoor, Cond.initialized RX6, Cond.code yX6_isDoor cX6_isDoor 1 (some .boolean), Cond.methodLink RX6 47 yX6_in, Cond.static yX6_in, Cond.code yX6_in cX6_in 3 (some .boolean), Cond.methodLink RX6 130 yX6_goalOfMany, Cond.instanceMethod yX6_goalOfMany, Cond.selects RX6 yX6_goalOfMany yX6_goalOfMany, Cond.code yX6_goalOfMany cX6_goalOfMany 5 (some .int), Cond.fieldLink RX6 32 "RopedHallsModel" "goals" "[I", Cond.methodLink RX6 118 yX6_layWays, Cond.instanceMethod yX6_layWays, Cond.selects RX6 yX6_layWays yX6_layWays, Cond.code yX6_layWays cX6_layWays 2 none, Cond.fieldLink RX6 35 "RopedHallsModel" "steps" "[I", Cond.fieldLink RX6 29 "RopedHallsModel" "far" "[I", Cond.fieldLink RX6 38 "RopedHallsModel" "nexts" "[I", Cond.methodLink RX6 69 yX6_layFar, Cond.instanceMethod yX6_layFar, Cond.selects RX6 yX6_layFar yX6_layFar, Cond.code yX6_layFar cX6_layFar 6 none]
def wsX6_doorOf_r2 : List Cond := [Cond.methodLink RX6 62 yX6_isFree, Cond.instanceMethod yX6_isFree, Cond.selects RX6 yX6_isFree yX6_isFree, Cond.code yX6_isFree cX6_isFree 3 (some .boolean), Cond.methodLink RX6 55 yX6_beside, Cond.static yX6_beside, Cond.code yX6_beside cX6_beside 2 (some .int), Cond.methodLink RX6 59 yX6_ropeAt, Cond.static yX6_ropeAt, Cond.code yX6_ropeAt cX6_ropeAt 2 (some .int), Cond.methodLink RX6 73 yX6_goalOf, Cond.instanceMethod yX6_goalOf, Cond.selects RX6 yX6_goalOf yX6_goalOf, Cond.code yX6_goalOf cX6_goalOf 5 (some .int), Cond.methodLink RX6 66 yX6_leads, Cond.instanceMethod yX6_leads, Cond.selects RX6 yX6_leads yX6_leads, Cond.code yX6_leads cX6_leads 3 (some .boolean), Cond.methodLink RX6 77 yX6_nextOf, Cond.instanceMethod yX6_nextOf, Cond.selects RX6 yX6_nextOf yX6_nextOf, Cond.code yX6_nextOf cX6_nextOf 5 (some .int)]
def wsX6_doorOf : List Cond := .code yX6_doorOf cX6_doorOf 3 (some .int) :: ((wsX6_doorOf_r1 ++ wsX6_doorOf_r2) ++ wsX60)
def wsX6_uneven : List Cond := .code yX6_uneven cX6_uneven 4 (some .int) :: ([.fieldLink RX6 7 "RopedHallsModel" "s" "[I"] ++ wsX60)
def wsX6_guards : List Cond := .code yX6_guards cX6_guards 3 (some .int) :: ([.fieldLink RX6 7 "RopedHallsModel" "s" "[I"] ++ wsX60)
def wsX6_count_r1 : List Cond := [Cond.fieldLink RX6 7 "RopedHallsModel" "s" "[I", Cond.fieldLink RX6 143 "RopedHallsModel" "length" "I", Cond.fieldLink RX6 51 "RopedHallsModel" "kept" "I", Cond.methodLink RX6 86 yX6_people, Cond.instanceMethod yX6_people, Cond.selects RX6 yX6_people yX6_people, Cond.initialized RX6, Cond.code yX6_people cX6_people 3 (some .int), Cond.methodLink RX6 121 yX6_out, Cond.instanceMethod yX6_out, Cond.selects RX6 yX6_out yX6_out, Cond.code yX6_out cX6_out 1 (some .int), Cond.methodLink RX6 109 yX6_ropes, Cond.instanceMethod yX6_ropes, Cond.selects RX6 yX6_ropes yX6_ropes, Cond.code yX6_ropes cX6_ropes 3 (some .int), Cond.methodLink RX6 134 yX6_openSet, Cond.instanceMethod yX6_openSet, Cond.selects RX6 yX6_openSet yX6_openSet, Cond.code yX6_openSet cX6_openSet 1 (some .int), Cond.methodLink RX6 118 yX6_layWays, Cond.instanceMethod yX6_layWays, Cond.selects RX6 yX6_layWays yX6_layWays, Cond.code yX6_layWays cX6_layWays 2 none]
def wsX6_count_r2 : List Cond := [Cond.fieldLink RX6 32 "RopedHallsModel" "goals" "[I", Cond.fieldLink RX6 35 "RopedHallsModel" "steps" "[I", Cond.fieldLink RX6 29 "RopedHallsModel" "far" "[I", Cond.fieldLink RX6 38 "RopedHallsModel" "nexts" "[I", Cond.methodLink RX6 69 yX6_layFar, Cond.instanceMethod yX6_layFar, Cond.selects RX6 yX6_layFar yX6_layFar, Cond.code yX6_layFar cX6_layFar 6 none, Cond.methodLink RX6 62 yX6_isFree, Cond.instanceMethod yX6_isFree, Cond.selects RX6 yX6_isFree yX6_isFree, Cond.code yX6_isFree cX6_isFree 3 (some .boolean), Cond.methodLink RX6 55 yX6_beside, Cond.static yX6_beside, Cond.code yX6_beside cX6_beside 2 (some .int), Cond.methodLink RX6 59 yX6_ropeAt, Cond.static yX6_ropeAt, Cond.code yX6_ropeAt cX6_ropeAt 2 (some .int), Cond.methodLink RX6 73 yX6_goalOf, Cond.instanceMethod yX6_goalOf, Cond.selects RX6 yX6_goalOf yX6_goalOf, Cond.code yX6_goalOf cX6_goalOf 5 (some .int), Cond.methodLink RX6 66 yX6_leads, Cond.instanceMethod yX6_leads]
def wsX6_count_r3 : List Cond := [Cond.selects RX6 yX6_leads yX6_leads, Cond.code yX6_leads cX6_leads 3 (some .boolean), Cond.methodLink RX6 77 yX6_nextOf, Cond.instanceMethod yX6_nextOf, Cond.selects RX6 yX6_nextOf yX6_nextOf, Cond.code yX6_nextOf cX6_nextOf 5 (some .int), Cond.methodLink RX6 90 yX6_shutIn, Cond.instanceMethod yX6_shutIn, Cond.selects RX6 yX6_shutIn yX6_shutIn, Cond.code yX6_shutIn cX6_shutIn 3 (some .int), Cond.methodLink RX6 137 yX6_uneven, Cond.instanceMethod yX6_uneven, Cond.selects RX6 yX6_uneven yX6_uneven, Cond.code yX6_uneven cX6_uneven 4 (some .int), Cond.methodLink RX6 140 yX6_guards, Cond.instanceMethod yX6_guards, Cond.selects RX6 yX6_guards yX6_guards, Cond.code yX6_guards cX6_guards 3 (some .int)]
def wsX6_count : List Cond := .code yX6_count cX6_count 2 (some .int) :: ((wsX6_count_r1 ++ (wsX6_count_r2 ++ wsX6_count_r3)) ++ wsX60)
def wsX6_distance_r1 : List Cond := [Cond.fieldLink RX6 29 "RopedHallsModel" "far" "[I", Cond.methodLink RX6 102 yX6_isCell, Cond.static yX6_isCell, Cond.initialized RX6, Cond.code yX6_isCell cX6_isCell 1 (some .boolean), Cond.methodLink RX6 47 yX6_in, Cond.static yX6_in, Cond.code yX6_in cX6_in 3 (some .boolean), Cond.methodLink RX6 112 yX6_isDoor, Cond.static yX6_isDoor, Cond.code yX6_isDoor cX6_isDoor 1 (some .boolean), Cond.methodLink RX6 69 yX6_layFar, Cond.instanceMethod yX6_layFar, Cond.selects RX6 yX6_layFar yX6_layFar, Cond.code yX6_layFar cX6_layFar 6 none, Cond.fieldLink RX6 7 "RopedHallsModel" "s" "[I", Cond.methodLink RX6 62 yX6_isFree, Cond.instanceMethod yX6_isFree, Cond.selects RX6 yX6_isFree yX6_isFree, Cond.code yX6_isFree cX6_isFree 3 (some .boolean), Cond.methodLink RX6 55 yX6_beside, Cond.static yX6_beside, Cond.code yX6_beside cX6_beside 2 (some .int), Cond.methodLink RX6 59 yX6_ropeAt]
def wsX6_distance_r2 : List Cond := [Cond.static yX6_ropeAt, Cond.code yX6_ropeAt cX6_ropeAt 2 (some .int)]
def wsX6_distance : List Cond := .code yX6_distance cX6_distance 3 (some .int) :: ((wsX6_distance_r1 ++ wsX6_distance_r2) ++ wsX60)
def wsX6_untilOut_r1 : List Cond := [Cond.methodLink RX6 146 yX6_putAside, Cond.instanceMethod yX6_putAside, Cond.selects RX6 yX6_putAside yX6_putAside, Cond.initialized RX6, Cond.code yX6_putAside cX6_putAside 2 none, Cond.fieldLink RX6 13 "RopedHallsModel" "aside" "[I", Cond.fieldLink RX6 7 "RopedHallsModel" "s" "[I", Cond.methodLink RX6 118 yX6_layWays, Cond.instanceMethod yX6_layWays, Cond.selects RX6 yX6_layWays yX6_layWays, Cond.code yX6_layWays cX6_layWays 2 none, Cond.fieldLink RX6 32 "RopedHallsModel" "goals" "[I", Cond.fieldLink RX6 35 "RopedHallsModel" "steps" "[I", Cond.fieldLink RX6 29 "RopedHallsModel" "far" "[I", Cond.fieldLink RX6 38 "RopedHallsModel" "nexts" "[I", Cond.methodLink RX6 69 yX6_layFar, Cond.instanceMethod yX6_layFar, Cond.selects RX6 yX6_layFar yX6_layFar, Cond.code yX6_layFar cX6_layFar 6 none, Cond.methodLink RX6 62 yX6_isFree, Cond.instanceMethod yX6_isFree, Cond.selects RX6 yX6_isFree yX6_isFree, Cond.code yX6_isFree cX6_isFree 3 (some .boolean), Cond.methodLink RX6 55 yX6_beside]
def wsX6_untilOut_r2 : List Cond := [Cond.static yX6_beside, Cond.code yX6_beside cX6_beside 2 (some .int), Cond.methodLink RX6 59 yX6_ropeAt, Cond.static yX6_ropeAt, Cond.code yX6_ropeAt cX6_ropeAt 2 (some .int), Cond.methodLink RX6 73 yX6_goalOf, Cond.instanceMethod yX6_goalOf, Cond.selects RX6 yX6_goalOf yX6_goalOf, Cond.code yX6_goalOf cX6_goalOf 5 (some .int), Cond.methodLink RX6 66 yX6_leads, Cond.instanceMethod yX6_leads, Cond.selects RX6 yX6_leads yX6_leads, Cond.code yX6_leads cX6_leads 3 (some .boolean), Cond.methodLink RX6 77 yX6_nextOf, Cond.instanceMethod yX6_nextOf, Cond.selects RX6 yX6_nextOf yX6_nextOf, Cond.code yX6_nextOf cX6_nextOf 5 (some .int), Cond.methodLink RX6 149 yX6_emptied, Cond.instanceMethod yX6_emptied, Cond.selects RX6 yX6_emptied yX6_emptied, Cond.code yX6_emptied cX6_emptied 2 (some .int), Cond.methodLink RX6 86 yX6_people, Cond.instanceMethod yX6_people, Cond.selects RX6 yX6_people yX6_people]
def wsX6_untilOut_r3 : List Cond := [Cond.code yX6_people cX6_people 3 (some .int), Cond.methodLink RX6 90 yX6_shutIn, Cond.instanceMethod yX6_shutIn, Cond.selects RX6 yX6_shutIn yX6_shutIn, Cond.code yX6_shutIn cX6_shutIn 3 (some .int), Cond.methodLink RX6 93 yX6_minute, Cond.instanceMethod yX6_minute, Cond.selects RX6 yX6_minute yX6_minute, Cond.code yX6_minute cX6_minute 3 none, Cond.fieldLink RX6 41 "RopedHallsModel" "fresh" "[I", Cond.methodLink RX6 80 yX6_letsOut, Cond.instanceMethod yX6_letsOut, Cond.selects RX6 yX6_letsOut yX6_letsOut, Cond.code yX6_letsOut cX6_letsOut 4 none, Cond.methodLink RX6 83 yX6_goes, Cond.instanceMethod yX6_goes, Cond.selects RX6 yX6_goes yX6_goes, Cond.code yX6_goes cX6_goes 6 none, Cond.methodLink RX6 152 yX6_putBack, Cond.instanceMethod yX6_putBack, Cond.selects RX6 yX6_putBack yX6_putBack, Cond.code yX6_putBack cX6_putBack 2 none]
def wsX6_untilOut : List Cond := .code yX6_untilOut cX6_untilOut 2 (some .int) :: ((wsX6_untilOut_r1 ++ (wsX6_untilOut_r2 ++ wsX6_untilOut_r3)) ++ wsX60)
def wsX6_tries_r1 : List Cond := [Cond.fieldLink RX6 7 "RopedHallsModel" "s" "[I", Cond.fieldLink RX6 44 "RopedHallsModel" "tried" "[I", Cond.methodLink RX6 146 yX6_putAside, Cond.instanceMethod yX6_putAside, Cond.selects RX6 yX6_putAside yX6_putAside, Cond.initialized RX6, Cond.code yX6_putAside cX6_putAside 2 none, Cond.fieldLink RX6 13 "RopedHallsModel" "aside" "[I", Cond.methodLink RX6 59 yX6_ropeAt, Cond.static yX6_ropeAt, Cond.code yX6_ropeAt cX6_ropeAt 2 (some .int), Cond.methodLink RX6 118 yX6_layWays, Cond.instanceMethod yX6_layWays, Cond.selects RX6 yX6_layWays yX6_layWays, Cond.code yX6_layWays cX6_layWays 2 none, Cond.fieldLink RX6 32 "RopedHallsModel" "goals" "[I", Cond.fieldLink RX6 35 "RopedHallsModel" "steps" "[I", Cond.fieldLink RX6 29 "RopedHallsModel" "far" "[I", Cond.fieldLink RX6 38 "RopedHallsModel" "nexts" "[I", Cond.methodLink RX6 69 yX6_layFar, Cond.instanceMethod yX6_layFar, Cond.selects RX6 yX6_layFar yX6_layFar, Cond.code yX6_layFar cX6_layFar 6 none, Cond.methodLink RX6 62 yX6_isFree]
def wsX6_tries_r2 : List Cond := [Cond.instanceMethod yX6_isFree, Cond.selects RX6 yX6_isFree yX6_isFree, Cond.code yX6_isFree cX6_isFree 3 (some .boolean), Cond.methodLink RX6 55 yX6_beside, Cond.static yX6_beside, Cond.code yX6_beside cX6_beside 2 (some .int), Cond.methodLink RX6 73 yX6_goalOf, Cond.instanceMethod yX6_goalOf, Cond.selects RX6 yX6_goalOf yX6_goalOf, Cond.code yX6_goalOf cX6_goalOf 5 (some .int), Cond.methodLink RX6 66 yX6_leads, Cond.instanceMethod yX6_leads, Cond.selects RX6 yX6_leads yX6_leads, Cond.code yX6_leads cX6_leads 3 (some .boolean), Cond.methodLink RX6 77 yX6_nextOf, Cond.instanceMethod yX6_nextOf, Cond.selects RX6 yX6_nextOf yX6_nextOf, Cond.code yX6_nextOf cX6_nextOf 5 (some .int), Cond.methodLink RX6 90 yX6_shutIn, Cond.instanceMethod yX6_shutIn, Cond.selects RX6 yX6_shutIn yX6_shutIn, Cond.code yX6_shutIn cX6_shutIn 3 (some .int), Cond.methodLink RX6 149 yX6_emptied, Cond.instanceMethod yX6_emptied]
def wsX6_tries_r3 : List Cond := [Cond.selects RX6 yX6_emptied yX6_emptied, Cond.code yX6_emptied cX6_emptied 2 (some .int), Cond.methodLink RX6 86 yX6_people, Cond.instanceMethod yX6_people, Cond.selects RX6 yX6_people yX6_people, Cond.code yX6_people cX6_people 3 (some .int), Cond.methodLink RX6 93 yX6_minute, Cond.instanceMethod yX6_minute, Cond.selects RX6 yX6_minute yX6_minute, Cond.code yX6_minute cX6_minute 3 none, Cond.fieldLink RX6 41 "RopedHallsModel" "fresh" "[I", Cond.methodLink RX6 80 yX6_letsOut, Cond.instanceMethod yX6_letsOut, Cond.selects RX6 yX6_letsOut yX6_letsOut, Cond.code yX6_letsOut cX6_letsOut 4 none, Cond.methodLink RX6 83 yX6_goes, Cond.instanceMethod yX6_goes, Cond.selects RX6 yX6_goes yX6_goes, Cond.code yX6_goes cX6_goes 6 none, Cond.methodLink RX6 137 yX6_uneven, Cond.instanceMethod yX6_uneven, Cond.selects RX6 yX6_uneven yX6_uneven, Cond.code yX6_uneven cX6_uneven 4 (some .int), Cond.methodLink RX6 152 yX6_putBack]
def wsX6_tries_r4 : List Cond := [Cond.instanceMethod yX6_putBack, Cond.selects RX6 yX6_putBack yX6_putBack, Cond.code yX6_putBack cX6_putBack 2 none]
def wsX6_tries : List Cond := .code yX6_tries cX6_tries 3 none :: ((wsX6_tries_r1 ++ (wsX6_tries_r2 ++ (wsX6_tries_r3 ++ wsX6_tries_r4))) ++ wsX60)
def wsX6_ifRope_r1 : List Cond := [Cond.fieldLink RX6 44 "RopedHallsModel" "tried" "[I", Cond.methodLink RX6 102 yX6_isCell, Cond.static yX6_isCell, Cond.initialized RX6, Cond.code yX6_isCell cX6_isCell 1 (some .boolean), Cond.methodLink RX6 47 yX6_in, Cond.static yX6_in, Cond.code yX6_in cX6_in 3 (some .boolean), Cond.methodLink RX6 106 yX6_isEdge, Cond.static yX6_isEdge, Cond.code yX6_isEdge cX6_isEdge 2 (some .boolean), Cond.methodLink RX6 55 yX6_beside, Cond.static yX6_beside, Cond.code yX6_beside cX6_beside 2 (some .int), Cond.methodLink RX6 155 yX6_tries, Cond.instanceMethod yX6_tries, Cond.selects RX6 yX6_tries yX6_tries, Cond.code yX6_tries cX6_tries 3 none, Cond.fieldLink RX6 7 "RopedHallsModel" "s" "[I", Cond.methodLink RX6 146 yX6_putAside, Cond.instanceMethod yX6_putAside, Cond.selects RX6 yX6_putAside yX6_putAside, Cond.code yX6_putAside cX6_putAside 2 none, Cond.fieldLink RX6 13 "RopedHallsModel" "aside" "[I"]
def wsX6_ifRope_r2 : List Cond := [Cond.methodLink RX6 59 yX6_ropeAt, Cond.static yX6_ropeAt, Cond.code yX6_ropeAt cX6_ropeAt 2 (some .int), Cond.methodLink RX6 118 yX6_layWays, Cond.instanceMethod yX6_layWays, Cond.selects RX6 yX6_layWays yX6_layWays, Cond.code yX6_layWays cX6_layWays 2 none, Cond.fieldLink RX6 32 "RopedHallsModel" "goals" "[I", Cond.fieldLink RX6 35 "RopedHallsModel" "steps" "[I", Cond.fieldLink RX6 29 "RopedHallsModel" "far" "[I", Cond.fieldLink RX6 38 "RopedHallsModel" "nexts" "[I", Cond.methodLink RX6 69 yX6_layFar, Cond.instanceMethod yX6_layFar, Cond.selects RX6 yX6_layFar yX6_layFar, Cond.code yX6_layFar cX6_layFar 6 none, Cond.methodLink RX6 62 yX6_isFree, Cond.instanceMethod yX6_isFree, Cond.selects RX6 yX6_isFree yX6_isFree, Cond.code yX6_isFree cX6_isFree 3 (some .boolean), Cond.methodLink RX6 73 yX6_goalOf, Cond.instanceMethod yX6_goalOf, Cond.selects RX6 yX6_goalOf yX6_goalOf, Cond.code yX6_goalOf cX6_goalOf 5 (some .int), Cond.methodLink RX6 66 yX6_leads]
def wsX6_ifRope_r3 : List Cond := [Cond.instanceMethod yX6_leads, Cond.selects RX6 yX6_leads yX6_leads, Cond.code yX6_leads cX6_leads 3 (some .boolean), Cond.methodLink RX6 77 yX6_nextOf, Cond.instanceMethod yX6_nextOf, Cond.selects RX6 yX6_nextOf yX6_nextOf, Cond.code yX6_nextOf cX6_nextOf 5 (some .int), Cond.methodLink RX6 90 yX6_shutIn, Cond.instanceMethod yX6_shutIn, Cond.selects RX6 yX6_shutIn yX6_shutIn, Cond.code yX6_shutIn cX6_shutIn 3 (some .int), Cond.methodLink RX6 149 yX6_emptied, Cond.instanceMethod yX6_emptied, Cond.selects RX6 yX6_emptied yX6_emptied, Cond.code yX6_emptied cX6_emptied 2 (some .int), Cond.methodLink RX6 86 yX6_people, Cond.instanceMethod yX6_people, Cond.selects RX6 yX6_people yX6_people, Cond.code yX6_people cX6_people 3 (some .int), Cond.methodLink RX6 93 yX6_minute, Cond.instanceMethod yX6_minute, Cond.selects RX6 yX6_minute yX6_minute, Cond.code yX6_minute cX6_minute 3 none, Cond.fieldLink RX6 41 "RopedHallsModel" "fresh" "[I"]
def wsX6_ifRope_r4 : List Cond := [Cond.methodLink RX6 80 yX6_letsOut, Cond.instanceMethod yX6_letsOut, Cond.selects RX6 yX6_letsOut yX6_letsOut, Cond.code yX6_letsOut cX6_letsOut 4 none, Cond.methodLink RX6 83 yX6_goes, Cond.instanceMethod yX6_goes, Cond.selects RX6 yX6_goes yX6_goes, Cond.code yX6_goes cX6_goes 6 none, Cond.methodLink RX6 137 yX6_uneven, Cond.instanceMethod yX6_uneven, Cond.selects RX6 yX6_uneven yX6_uneven, Cond.code yX6_uneven cX6_uneven 4 (some .int), Cond.methodLink RX6 152 yX6_putBack, Cond.instanceMethod yX6_putBack, Cond.selects RX6 yX6_putBack yX6_putBack, Cond.code yX6_putBack cX6_putBack 2 none]
def wsX6_ifRope : List Cond := .code yX6_ifRope cX6_ifRope 4 (some .int) :: ((wsX6_ifRope_r1 ++ (wsX6_ifRope_r2 ++ (wsX6_ifRope_r3 ++ wsX6_ifRope_r4))) ++ wsX60)
def wsX6_bestRope_r1 : List Cond := [Cond.fieldLink RX6 7 "RopedHallsModel" "s" "[I", Cond.fieldLink RX6 44 "RopedHallsModel" "tried" "[I", Cond.methodLink RX6 47 yX6_in, Cond.static yX6_in, Cond.initialized RX6, Cond.code yX6_in cX6_in 3 (some .boolean), Cond.methodLink RX6 118 yX6_layWays, Cond.instanceMethod yX6_layWays, Cond.selects RX6 yX6_layWays yX6_layWays, Cond.code yX6_layWays cX6_layWays 2 none, Cond.fieldLink RX6 32 "RopedHallsModel" "goals" "[I", Cond.fieldLink RX6 35 "RopedHallsModel" "steps" "[I", Cond.fieldLink RX6 29 "RopedHallsModel" "far" "[I", Cond.fieldLink RX6 38 "RopedHallsModel" "nexts" "[I", Cond.methodLink RX6 69 yX6_layFar, Cond.instanceMethod yX6_layFar, Cond.selects RX6 yX6_layFar yX6_layFar, Cond.code yX6_layFar cX6_layFar 6 none, Cond.methodLink RX6 62 yX6_isFree, Cond.instanceMethod yX6_isFree, Cond.selects RX6 yX6_isFree yX6_isFree, Cond.code yX6_isFree cX6_isFree 3 (some .boolean), Cond.methodLink RX6 55 yX6_beside, Cond.static yX6_beside]
def wsX6_bestRope_r2 : List Cond := [Cond.code yX6_beside cX6_beside 2 (some .int), Cond.methodLink RX6 59 yX6_ropeAt, Cond.static yX6_ropeAt, Cond.code yX6_ropeAt cX6_ropeAt 2 (some .int), Cond.methodLink RX6 73 yX6_goalOf, Cond.instanceMethod yX6_goalOf, Cond.selects RX6 yX6_goalOf yX6_goalOf, Cond.code yX6_goalOf cX6_goalOf 5 (some .int), Cond.methodLink RX6 66 yX6_leads, Cond.instanceMethod yX6_leads, Cond.selects RX6 yX6_leads yX6_leads, Cond.code yX6_leads cX6_leads 3 (some .boolean), Cond.methodLink RX6 77 yX6_nextOf, Cond.instanceMethod yX6_nextOf, Cond.selects RX6 yX6_nextOf yX6_nextOf, Cond.code yX6_nextOf cX6_nextOf 5 (some .int), Cond.methodLink RX6 90 yX6_shutIn, Cond.instanceMethod yX6_shutIn, Cond.selects RX6 yX6_shutIn yX6_shutIn, Cond.code yX6_shutIn cX6_shutIn 3 (some .int), Cond.methodLink RX6 106 yX6_isEdge, Cond.static yX6_isEdge, Cond.code yX6_isEdge cX6_isEdge 2 (some .boolean), Cond.methodLink RX6 155 yX6_tries]
def wsX6_bestRope_r3 : List Cond := [Cond.instanceMethod yX6_tries, Cond.selects RX6 yX6_tries yX6_tries, Cond.code yX6_tries cX6_tries 3 none, Cond.methodLink RX6 146 yX6_putAside, Cond.instanceMethod yX6_putAside, Cond.selects RX6 yX6_putAside yX6_putAside, Cond.code yX6_putAside cX6_putAside 2 none, Cond.fieldLink RX6 13 "RopedHallsModel" "aside" "[I", Cond.methodLink RX6 149 yX6_emptied, Cond.instanceMethod yX6_emptied, Cond.selects RX6 yX6_emptied yX6_emptied, Cond.code yX6_emptied cX6_emptied 2 (some .int), Cond.methodLink RX6 86 yX6_people, Cond.instanceMethod yX6_people, Cond.selects RX6 yX6_people yX6_people, Cond.code yX6_people cX6_people 3 (some .int), Cond.methodLink RX6 93 yX6_minute, Cond.instanceMethod yX6_minute, Cond.selects RX6 yX6_minute yX6_minute, Cond.code yX6_minute cX6_minute 3 none, Cond.fieldLink RX6 41 "RopedHallsModel" "fresh" "[I", Cond.methodLink RX6 80 yX6_letsOut, Cond.instanceMethod yX6_letsOut, Cond.selects RX6 yX6_letsOut yX6_letsOut]
def wsX6_bestRope_r4 : List Cond := [Cond.code yX6_letsOut cX6_letsOut 4 none, Cond.methodLink RX6 83 yX6_goes, Cond.instanceMethod yX6_goes, Cond.selects RX6 yX6_goes yX6_goes, Cond.code yX6_goes cX6_goes 6 none, Cond.methodLink RX6 137 yX6_uneven, Cond.instanceMethod yX6_uneven, Cond.selects RX6 yX6_uneven yX6_uneven, Cond.code yX6_uneven cX6_uneven 4 (some .int), Cond.methodLink RX6 152 yX6_putBack, Cond.instanceMethod yX6_putBack, Cond.selects RX6 yX6_putBack yX6_putBack, Cond.code yX6_putBack cX6_putBack 2 none]
def wsX6_bestRope : List Cond := .code yX6_bestRope cX6_bestRope 9 (some .int) :: ((wsX6_bestRope_r1 ++ (wsX6_bestRope_r2 ++ (wsX6_bestRope_r3 ++ wsX6_bestRope_r4))) ++ wsX60)
def wsX6_waiting_r1 : List Cond := [Cond.fieldLink RX6 7 "RopedHallsModel" "s" "[I", Cond.methodLink RX6 146 yX6_putAside, Cond.instanceMethod yX6_putAside, Cond.selects RX6 yX6_putAside yX6_putAside, Cond.initialized RX6, Cond.code yX6_putAside cX6_putAside 2 none, Cond.fieldLink RX6 13 "RopedHallsModel" "aside" "[I", Cond.methodLink RX6 118 yX6_layWays, Cond.instanceMethod yX6_layWays, Cond.selects RX6 yX6_layWays yX6_layWays, Cond.code yX6_layWays cX6_layWays 2 none, Cond.fieldLink RX6 32 "RopedHallsModel" "goals" "[I", Cond.fieldLink RX6 35 "RopedHallsModel" "steps" "[I", Cond.fieldLink RX6 29 "RopedHallsModel" "far" "[I", Cond.fieldLink RX6 38 "RopedHallsModel" "nexts" "[I", Cond.methodLink RX6 69 yX6_layFar, Cond.instanceMethod yX6_layFar, Cond.selects RX6 yX6_layFar yX6_layFar, Cond.code yX6_layFar cX6_layFar 6 none, Cond.methodLink RX6 62 yX6_isFree, Cond.instanceMethod yX6_isFree, Cond.selects RX6 yX6_isFree yX6_isFree, Cond.code yX6_isFree cX6_isFree 3 (some .boolean), Cond.methodLink RX6 55 yX6_beside]
def wsX6_waiting_r2 : List Cond := [Cond.static yX6_beside, Cond.code yX6_beside cX6_beside 2 (some .int), Cond.methodLink RX6 59 yX6_ropeAt, Cond.static yX6_ropeAt, Cond.code yX6_ropeAt cX6_ropeAt 2 (some .int), Cond.methodLink RX6 73 yX6_goalOf, Cond.instanceMethod yX6_goalOf, Cond.selects RX6 yX6_goalOf yX6_goalOf, Cond.code yX6_goalOf cX6_goalOf 5 (some .int), Cond.methodLink RX6 66 yX6_leads, Cond.instanceMethod yX6_leads, Cond.selects RX6 yX6_leads yX6_leads, Cond.code yX6_leads cX6_leads 3 (some .boolean), Cond.methodLink RX6 77 yX6_nextOf, Cond.instanceMethod yX6_nextOf, Cond.selects RX6 yX6_nextOf yX6_nextOf, Cond.code yX6_nextOf cX6_nextOf 5 (some .int), Cond.methodLink RX6 149 yX6_emptied, Cond.instanceMethod yX6_emptied, Cond.selects RX6 yX6_emptied yX6_emptied, Cond.code yX6_emptied cX6_emptied 2 (some .int), Cond.methodLink RX6 86 yX6_people, Cond.instanceMethod yX6_people, Cond.selects RX6 yX6_people yX6_people]
def wsX6_waiting_r3 : List Cond := [Cond.code yX6_people cX6_people 3 (some .int), Cond.methodLink RX6 90 yX6_shutIn, Cond.instanceMethod yX6_shutIn, Cond.selects RX6 yX6_shutIn yX6_shutIn, Cond.code yX6_shutIn cX6_shutIn 3 (some .int), Cond.methodLink RX6 93 yX6_minute, Cond.instanceMethod yX6_minute, Cond.selects RX6 yX6_minute yX6_minute, Cond.code yX6_minute cX6_minute 3 none, Cond.fieldLink RX6 41 "RopedHallsModel" "fresh" "[I", Cond.methodLink RX6 80 yX6_letsOut, Cond.instanceMethod yX6_letsOut, Cond.selects RX6 yX6_letsOut yX6_letsOut, Cond.code yX6_letsOut cX6_letsOut 4 none, Cond.methodLink RX6 83 yX6_goes, Cond.instanceMethod yX6_goes, Cond.selects RX6 yX6_goes yX6_goes, Cond.code yX6_goes cX6_goes 6 none, Cond.methodLink RX6 152 yX6_putBack, Cond.instanceMethod yX6_putBack, Cond.selects RX6 yX6_putBack yX6_putBack, Cond.code yX6_putBack cX6_putBack 2 none]
def wsX6_waiting : List Cond := .code yX6_waiting cX6_waiting 4 (some .int) :: ((wsX6_waiting_r1 ++ (wsX6_waiting_r2 ++ wsX6_waiting_r3)) ++ wsX60)
def wsX6_put : List Cond := .code yX6_put cX6_put 8 (some .int) :: ([.constantLong RX6 159 (255), .fieldLink RX6 143 "RopedHallsModel" "length" "I", .fieldLink RX6 26 "RopedHallsModel" "pad" "[I", .methodLink RX6 47 yX6_in, .static yX6_in, .initialized RX6, .code yX6_in cX6_in 3 (some .boolean)] ++ wsX60)
def wsX6_wipe : List Cond := .code yX6_wipe cX6_wipe 2 (some .int) :: ([.fieldLink RX6 143 "RopedHallsModel" "length" "I"] ++ wsX60)
def wsX6_isNext : List Cond := .code yX6_isNext cX6_isNext 3 (some .boolean) :: ([.fieldLink RX6 161 "RopedHallsModel" "isWrong" "Z", .fieldLink RX6 165 "RopedHallsModel" "position" "I", .fieldLink RX6 143 "RopedHallsModel" "length" "I", .fieldLink RX6 26 "RopedHallsModel" "pad" "[I", .methodLink RX6 47 yX6_in, .static yX6_in, .initialized RX6, .code yX6_in cX6_in 3 (some .boolean)] ++ wsX60)
def wsX6_takes : List Cond := .code yX6_takes cX6_takes 4 (some .int) :: ([.fieldLink RX6 165 "RopedHallsModel" "position" "I", .fieldLink RX6 143 "RopedHallsModel" "length" "I", .fieldLink RX6 26 "RopedHallsModel" "pad" "[I", .fieldLink RX6 161 "RopedHallsModel" "isWrong" "Z", .methodLink RX6 47 yX6_in, .static yX6_in, .initialized RX6, .code yX6_in cX6_in 3 (some .boolean)] ++ wsX60)
def wsX6_takesMany : List Cond := .code yX6_takesMany cX6_takesMany 3 (some .int) :: ([.methodLink RX6 168 yX6_takes, .instanceMethod yX6_takes, .selects RX6 yX6_takes yX6_takes, .initialized RX6, .code yX6_takes cX6_takes 4 (some .int), .fieldLink RX6 165 "RopedHallsModel" "position" "I", .fieldLink RX6 143 "RopedHallsModel" "length" "I", .fieldLink RX6 26 "RopedHallsModel" "pad" "[I", .fieldLink RX6 161 "RopedHallsModel" "isWrong" "Z", .methodLink RX6 47 yX6_in, .static yX6_in, .code yX6_in cX6_in 3 (some .boolean), .methodLink RX6 171 yX6_isNext, .instanceMethod yX6_isNext, .selects RX6 yX6_isNext yX6_isNext, .code yX6_isNext cX6_isNext 3 (some .boolean)] ++ wsX60)
def wsX6_reads : List Cond := .code yX6_reads cX6_reads 10 (some .int) :: ([.fieldLink RX6 165 "RopedHallsModel" "position" "I", .fieldLink RX6 161 "RopedHallsModel" "isWrong" "Z", .fieldLink RX6 7 "RopedHallsModel" "s" "[I", .fieldLink RX6 143 "RopedHallsModel" "length" "I", .methodLink RX6 168 yX6_takes, .instanceMethod yX6_takes, .selects RX6 yX6_takes yX6_takes, .initialized RX6, .code yX6_takes cX6_takes 4 (some .int), .fieldLink RX6 26 "RopedHallsModel" "pad" "[I", .methodLink RX6 47 yX6_in, .static yX6_in, .code yX6_in cX6_in 3 (some .boolean), .methodLink RX6 174 yX6_takesMany, .instanceMethod yX6_takesMany, .selects RX6 yX6_takesMany yX6_takesMany, .code yX6_takesMany cX6_takesMany 3 (some .int), .methodLink RX6 171 yX6_isNext, .instanceMethod yX6_isNext, .selects RX6 yX6_isNext yX6_isNext, .code yX6_isNext cX6_isNext 3 (some .boolean)] ++ wsX60)
def wsX6_fault_r1 : List Cond := [Cond.fieldLink RX6 161 "RopedHallsModel" "isWrong" "Z", Cond.fieldLink RX6 165 "RopedHallsModel" "position" "I", Cond.methodLink RX6 177 yX6_reads, Cond.instanceMethod yX6_reads, Cond.selects RX6 yX6_reads yX6_reads, Cond.initialized RX6, Cond.code yX6_reads cX6_reads 10 (some .int), Cond.fieldLink RX6 7 "RopedHallsModel" "s" "[I", Cond.fieldLink RX6 143 "RopedHallsModel" "length" "I", Cond.methodLink RX6 168 yX6_takes, Cond.instanceMethod yX6_takes, Cond.selects RX6 yX6_takes yX6_takes, Cond.code yX6_takes cX6_takes 4 (some .int), Cond.fieldLink RX6 26 "RopedHallsModel" "pad" "[I", Cond.methodLink RX6 47 yX6_in, Cond.static yX6_in, Cond.code yX6_in cX6_in 3 (some .boolean), Cond.methodLink RX6 174 yX6_takesMany, Cond.instanceMethod yX6_takesMany, Cond.selects RX6 yX6_takesMany yX6_takesMany, Cond.code yX6_takesMany cX6_takesMany 3 (some .int), Cond.methodLink RX6 171 yX6_isNext, Cond.instanceMethod yX6_isNext, Cond.selects RX6 yX6_isNext yX6_isNext]
def wsX6_fault_r2 : List Cond := [Cond.code yX6_isNext cX6_isNext 3 (some .boolean)]
def wsX6_fault : List Cond := .code yX6_fault cX6_fault 2 (some .int) :: ((wsX6_fault_r1 ++ wsX6_fault_r2) ++ wsX60)
def wsX6_read_r1 : List Cond := [Cond.fieldLink RX6 161 "RopedHallsModel" "isWrong" "Z", Cond.fieldLink RX6 143 "RopedHallsModel" "length" "I", Cond.methodLink RX6 177 yX6_reads, Cond.instanceMethod yX6_reads, Cond.selects RX6 yX6_reads yX6_reads, Cond.initialized RX6, Cond.code yX6_reads cX6_reads 10 (some .int), Cond.fieldLink RX6 165 "RopedHallsModel" "position" "I", Cond.fieldLink RX6 7 "RopedHallsModel" "s" "[I", Cond.methodLink RX6 168 yX6_takes, Cond.instanceMethod yX6_takes, Cond.selects RX6 yX6_takes yX6_takes, Cond.code yX6_takes cX6_takes 4 (some .int), Cond.fieldLink RX6 26 "RopedHallsModel" "pad" "[I", Cond.methodLink RX6 47 yX6_in, Cond.static yX6_in, Cond.code yX6_in cX6_in 3 (some .boolean), Cond.methodLink RX6 174 yX6_takesMany, Cond.instanceMethod yX6_takesMany, Cond.selects RX6 yX6_takesMany yX6_takesMany, Cond.code yX6_takesMany cX6_takesMany 3 (some .int), Cond.methodLink RX6 171 yX6_isNext, Cond.instanceMethod yX6_isNext, Cond.selects RX6 yX6_isNext yX6_isNext]
def wsX6_read_r2 : List Cond := [Cond.code yX6_isNext cX6_isNext 3 (some .boolean), Cond.methodLink RX6 96 yX6_record, Cond.instanceMethod yX6_record, Cond.selects RX6 yX6_record yX6_record, Cond.code yX6_record cX6_record 2 none, Cond.fieldLink RX6 51 "RopedHallsModel" "kept" "I", Cond.fieldLink RX6 16 "RopedHallsModel" "history" "[I"]
def wsX6_read : List Cond := .code yX6_read cX6_read 3 (some .int) :: ((wsX6_read_r1 ++ wsX6_read_r2) ++ wsX60)
def wsX6_undo : List Cond := .code yX6_undo cX6_undo 2 (some .int) :: ([.fieldLink RX6 51 "RopedHallsModel" "kept" "I", .fieldLink RX6 7 "RopedHallsModel" "s" "[I", .fieldLink RX6 16 "RopedHallsModel" "history" "[I"] ++ wsX60)
def wsX6_save : List Cond := .code yX6_save cX6_save 3 (some .int) :: ([.fieldLink RX6 19 "RopedHallsModel" "slots" "[I", .fieldLink RX6 7 "RopedHallsModel" "s" "[I", .fieldLink RX6 22 "RopedHallsModel" "isSaved" "[Z", .methodLink RX6 47 yX6_in, .static yX6_in, .initialized RX6, .code yX6_in cX6_in 3 (some .boolean), .methodLink RX6 86 yX6_people, .instanceMethod yX6_people, .selects RX6 yX6_people yX6_people, .code yX6_people cX6_people 3 (some .int)] ++ wsX60)
def wsX6_restore : List Cond := .code yX6_restore cX6_restore 3 (some .int) :: ([.fieldLink RX6 22 "RopedHallsModel" "isSaved" "[Z", .fieldLink RX6 7 "RopedHallsModel" "s" "[I", .fieldLink RX6 19 "RopedHallsModel" "slots" "[I", .methodLink RX6 47 yX6_in, .static yX6_in, .initialized RX6, .code yX6_in cX6_in 3 (some .boolean), .methodLink RX6 96 yX6_record, .instanceMethod yX6_record, .selects RX6 yX6_record yX6_record, .code yX6_record cX6_record 2 none, .fieldLink RX6 51 "RopedHallsModel" "kept" "I", .fieldLink RX6 16 "RopedHallsModel" "history" "[I", .methodLink RX6 86 yX6_people, .instanceMethod yX6_people, .selects RX6 yX6_people yX6_people, .code yX6_people cX6_people 3 (some .int)] ++ wsX60)
def wsJ9_max_7cf53 : List Cond := .code yJ9_max_7cf53 cJ9_max_7cf53 2 (some .int) :: ([])
def wsJ9_min_7cf53 : List Cond := .code yJ9_min_7cf53 cJ9_min_7cf53 2 (some .int) :: ([])
def wsL_law_r1 : List Cond := [Cond.classLink RL 7 RX5, Cond.instantiable RX5 10, Cond.initialized RX5, Cond.classLink RL 10 RX6, Cond.instantiable RX6 16, Cond.initialized RX6, Cond.constantLong RL 83 (4294967295), Cond.methodLink RL 9 yX5_init, Cond.instanceMethod yX5_init, Cond.code yX5_init cX5_init 2 none, Cond.methodLink RX5 3 objectInit, Cond.instanceMethod objectInit, Cond.code objectInit ⟨#[0xb1]⟩ 1 none, Cond.classLink RX5 9 RX1, Cond.instantiable RX1 12, Cond.initialized RX1, Cond.fieldLink RX5 12 "RopedHalls" "hall" "LRopedHalls$Hall;", Cond.classLink RX5 16 RX4, Cond.instantiable RX4 6, Cond.initialized RX4, Cond.fieldLink RX5 19 "RopedHalls" "routes" "LRopedHalls$Routes;", Cond.classLink RX5 23 RX2, Cond.instantiable RX2 1, Cond.initialized RX2]
def wsL_law_r2 : List Cond := [Cond.fieldLink RX5 26 "RopedHalls" "minute" "LRopedHalls$Minute;", Cond.classLink RX5 30 RX0, Cond.instantiable RX0 3, Cond.initialized RX0, Cond.fieldLink RX5 33 "RopedHalls" "forecast" "LRopedHalls$Forecast;", Cond.classLink RX5 37 RX3, Cond.instantiable RX3 2, Cond.initialized RX3, Cond.fieldLink RX5 40 "RopedHalls" "pad" "LRopedHalls$Pad;", Cond.fieldLink RX5 44 "RopedHalls" "history" "[LRopedHalls$Hall;", Cond.fieldLink RX5 48 "RopedHalls" "slots" "[LRopedHalls$Hall;", Cond.arrayClass .boolean, Cond.fieldLink RX5 51 "RopedHalls" "isSaved" "[Z", Cond.methodLink RX5 11 yX1_init, Cond.instanceMethod yX1_init, Cond.code yX1_init cX1_init 2 none, Cond.methodLink RX1 3 objectInit, Cond.fieldLink RX1 9 "RopedHalls$Hall" "room" "I", Cond.arrayClass .int, Cond.fieldLink RX1 15 "RopedHalls$Hall" "people" "[I", Cond.fieldLink RX1 19 "RopedHalls$Hall" "guards" "[I", Cond.fieldLink RX1 22 "RopedHalls$Hall" "ropes" "[Z", Cond.fieldLink RX1 26 "RopedHalls$Hall" "doorCell" "[I", Cond.fieldLink RX1 29 "RopedHalls$Hall" "doorRate" "[I"]
def wsL_law_r3 : List Cond := [Cond.fieldLink RX1 32 "RopedHalls$Hall" "doorOpen" "[Z", Cond.fieldLink RX1 35 "RopedHalls$Hall" "doorOut" "[I", Cond.instanceMethod yX4_init, Cond.code yX4_init cX4_init 1 none, Cond.methodLink RX4 3 objectInit, Cond.fieldLink RX4 9 "RopedHalls$Routes" "steps" "[I", Cond.fieldLink RX4 15 "RopedHalls$Routes" "queue" "[I", Cond.fieldLink RX4 18 "RopedHalls$Routes" "goals" "[I", Cond.fieldLink RX4 21 "RopedHalls$Routes" "nexts" "[I", Cond.fieldLink RX4 24 "RopedHalls$Routes" "turns" "[I", Cond.instanceMethod yX2_init, Cond.code yX2_init cX2_init 1 none, Cond.methodLink RX2 3 objectInit, Cond.fieldLink RX2 9 "RopedHalls$Minute" "arrived" "[I", Cond.instanceMethod yX0_init, Cond.code yX0_init cX0_init 1 none, Cond.methodLink RX0 3 objectInit, Cond.classLink RX0 9 RX1, Cond.fieldLink RX0 12 "RopedHalls$Forecast" "trial" "LRopedHalls$Hall;", Cond.classLink RX0 18 RX4, Cond.fieldLink RX0 21 "RopedHalls$Forecast" "routes" "LRopedHalls$Routes;", Cond.classLink RX0 25 RX2, Cond.fieldLink RX0 28 "RopedHalls$Forecast" "minute" "LRopedHalls$Minute;", Cond.methodLink RX0 11 yX1_init]
def wsL_law_r4 : List Cond := [Cond.instanceMethod yX3_init, Cond.code yX3_init cX3_init 1 none, Cond.methodLink RX3 3 objectInit, Cond.fieldLink RX3 9 "RopedHalls$Pad" "codes" "[I", Cond.methodLink RL 12 yX6_init, Cond.instanceMethod yX6_init, Cond.code yX6_init cX6_init 2 none, Cond.methodLink RX6 1 objectInit, Cond.fieldLink RX6 7 "RopedHallsModel" "s" "[I", Cond.fieldLink RX6 13 "RopedHallsModel" "aside" "[I", Cond.fieldLink RX6 16 "RopedHallsModel" "history" "[I", Cond.fieldLink RX6 19 "RopedHallsModel" "slots" "[I", Cond.fieldLink RX6 22 "RopedHallsModel" "isSaved" "[Z", Cond.fieldLink RX6 26 "RopedHallsModel" "pad" "[I", Cond.fieldLink RX6 29 "RopedHallsModel" "far" "[I", Cond.fieldLink RX6 32 "RopedHallsModel" "goals" "[I", Cond.fieldLink RX6 35 "RopedHallsModel" "steps" "[I", Cond.fieldLink RX6 38 "RopedHallsModel" "nexts" "[I", Cond.fieldLink RX6 41 "RopedHallsModel" "fresh" "[I", Cond.fieldLink RX6 44 "RopedHallsModel" "tried" "[I", Cond.methodLink RL 13 yX5_setRoom, Cond.instanceMethod yX5_setRoom, Cond.selects RX5 yX5_setRoom yX5_setRoom, Cond.code yX5_setRoom cX5_setRoom 3 (some .int)]
def wsL_law_r5 : List Cond := [Cond.fieldLink RX5 62 "RopedHalls$Hall" "room" "I", Cond.methodLink RX5 55 yX1_fullestCell, Cond.instanceMethod yX1_fullestCell, Cond.selects RX1 yX1_fullestCell yX1_fullestCell, Cond.code yX1_fullestCell cX1_fullestCell 3 (some .int), Cond.methodLink RX1 54 Lib.Math.max.name, Cond.static Lib.Math.max.name, Cond.initialized "java/lang/Math", Cond.code Lib.Math.max.name Lib.Math.max.code 2 (some .int), Cond.methodLink RX5 59 yX5_remember, Cond.instanceMethod yX5_remember, Cond.selects RX5 yX5_remember yX5_remember, Cond.code yX5_remember cX5_remember 1 none, Cond.fieldLink RX5 217 "RopedHalls" "newest" "I", Cond.fieldLink RX5 184 "RopedHalls" "changes" "I", Cond.methodLink RX5 228 Lib.Math.min.name, Cond.static Lib.Math.min.name, Cond.code Lib.Math.min.name Lib.Math.min.code 2 (some .int), Cond.methodLink RX5 220 yX5_recorded, Cond.instanceMethod yX5_recorded, Cond.selects RX5 yX5_recorded yX5_recorded, Cond.code yX5_recorded cX5_recorded 2 (some (.object "RopedHalls$Hall")), Cond.methodLink RX5 224 yX5_copyHall, Cond.static yX5_copyHall]
def wsL_law_r6 : List Cond := [Cond.code yX5_copyHall cX5_copyHall 2 none, Cond.methodLink RX5 236 yX1_copyFrom, Cond.instanceMethod yX1_copyFrom, Cond.selects RX1 yX1_copyFrom yX1_copyFrom, Cond.code yX1_copyFrom cX1_copyFrom 3 none, Cond.fieldLink RX1 38 "RopedHalls$Hall" "minutes" "I", Cond.fieldLink RX1 41 "RopedHalls$Hall" "cameIn" "I", Cond.fieldLink RX1 44 "RopedHalls$Hall" "waited" "I", Cond.fieldLink RX1 47 "RopedHalls$Hall" "jams" "I", Cond.methodLink RL 17 yX6_setRoom, Cond.instanceMethod yX6_setRoom, Cond.selects RX6 yX6_setRoom yX6_setRoom, Cond.code yX6_setRoom cX6_setRoom 3 (some .int), Cond.methodLink RX6 47 yX6_in, Cond.static yX6_in, Cond.code yX6_in cX6_in 3 (some .boolean), Cond.methodLink RX6 99 yX6_lays, Cond.instanceMethod yX6_lays, Cond.selects RX6 yX6_lays yX6_lays, Cond.code yX6_lays cX6_lays 4 (some .int), Cond.methodLink RX6 96 yX6_record, Cond.instanceMethod yX6_record, Cond.selects RX6 yX6_record yX6_record, Cond.code yX6_record cX6_record 2 none]
def wsL_law_r7 : List Cond := [Cond.fieldLink RX6 51 "RopedHallsModel" "kept" "I", Cond.methodLink RL 18 yX5_rope, Cond.instanceMethod yX5_rope, Cond.selects RX5 yX5_rope yX5_rope, Cond.code yX5_rope cX5_rope 5 (some .int), Cond.fieldLink RX5 80 "RopedHalls$Hall" "ropes" "[Z", Cond.methodLink RX5 66 yX5_isCell, Cond.static yX5_isCell, Cond.code yX5_isCell cX5_isCell 1 (some .boolean), Cond.methodLink RX5 70 yX5_isSide, Cond.static yX5_isSide, Cond.code yX5_isSide cX5_isSide 1 (some .boolean), Cond.methodLink RX5 73 yX5_edgeAt, Cond.static yX5_edgeAt, Cond.code yX5_edgeAt cX5_edgeAt 2 (some .int), Cond.methodLink RX5 242 yX5_edgeTowards, Cond.static yX5_edgeTowards, Cond.code yX5_edgeTowards cX5_edgeTowards 4 (some .int), Cond.methodLink RX5 239 yX5_beside, Cond.static yX5_beside, Cond.code yX5_beside cX5_beside 2 (some .int), Cond.methodLink RX5 77 yX5_isEdge, Cond.static yX5_isEdge, Cond.code yX5_isEdge cX5_isEdge 1 (some .boolean)]
def wsL_law_r8 : List Cond := [Cond.methodLink RX5 83 yX1_ropeCount, Cond.instanceMethod yX1_ropeCount, Cond.selects RX1 yX1_ropeCount yX1_ropeCount, Cond.code yX1_ropeCount cX1_ropeCount 3 (some .int), Cond.methodLink RL 22 yX6_rope, Cond.instanceMethod yX6_rope, Cond.selects RX6 yX6_rope yX6_rope, Cond.code yX6_rope cX6_rope 5 (some .int), Cond.methodLink RX6 102 yX6_isCell, Cond.static yX6_isCell, Cond.code yX6_isCell cX6_isCell 1 (some .boolean), Cond.methodLink RX6 106 yX6_isEdge, Cond.static yX6_isEdge, Cond.code yX6_isEdge cX6_isEdge 2 (some .boolean), Cond.methodLink RX6 55 yX6_beside, Cond.static yX6_beside, Cond.code yX6_beside cX6_beside 2 (some .int), Cond.methodLink RX6 59 yX6_ropeAt, Cond.static yX6_ropeAt, Cond.code yX6_ropeAt cX6_ropeAt 2 (some .int), Cond.methodLink RX6 109 yX6_ropes, Cond.instanceMethod yX6_ropes, Cond.selects RX6 yX6_ropes yX6_ropes, Cond.code yX6_ropes cX6_ropes 3 (some .int)]
def wsL_law_r9 : List Cond := [Cond.methodLink RL 23 yX5_door, Cond.instanceMethod yX5_door, Cond.selects RX5 yX5_door yX5_door, Cond.code yX5_door cX5_door 5 (some .int), Cond.fieldLink RX5 89 "RopedHalls$Hall" "doorCell" "[I", Cond.fieldLink RX5 93 "RopedHalls$Hall" "doorRate" "[I", Cond.methodLink RX5 86 yX5_isDoor, Cond.static yX5_isDoor, Cond.code yX5_isDoor cX5_isDoor 1 (some .boolean), Cond.methodLink RL 27 yX6_door, Cond.instanceMethod yX6_door, Cond.selects RX6 yX6_door yX6_door, Cond.code yX6_door cX6_door 5 (some .int), Cond.methodLink RX6 112 yX6_isDoor, Cond.static yX6_isDoor, Cond.code yX6_isDoor cX6_isDoor 1 (some .boolean), Cond.methodLink RL 28 yX5_open, Cond.instanceMethod yX5_open, Cond.selects RX5 yX5_open yX5_open, Cond.code yX5_open cX5_open 3 (some .int), Cond.fieldLink RX5 96 "RopedHalls$Hall" "doorOpen" "[Z", Cond.methodLink RX5 99 yX1_openDoors, Cond.instanceMethod yX1_openDoors, Cond.selects RX1 yX1_openDoors yX1_openDoors]
def wsL_law_r10 : List Cond := [Cond.code yX1_openDoors cX1_openDoors 3 (some .int), Cond.methodLink RX5 102 yJ6_bitCount_0f7a4, Cond.static yJ6_bitCount_0f7a4, Cond.initialized RJ6, Cond.code yJ6_bitCount_0f7a4 cJ6_bitCount_0f7a4 1 (some .int), Cond.constant RJ6 265 (1431655765), Cond.constant RJ6 266 (858993459), Cond.constant RJ6 267 (252645135), Cond.methodLink RL 32 yX6_open, Cond.instanceMethod yX6_open, Cond.selects RX6 yX6_open yX6_open, Cond.code yX6_open cX6_open 4 (some .int), Cond.methodLink RX6 115 yX6_openDoors, Cond.instanceMethod yX6_openDoors, Cond.selects RX6 yX6_openDoors yX6_openDoors, Cond.code yX6_openDoors cX6_openDoors 1 (some .int), Cond.methodLink RL 33 yX5_guard, Cond.instanceMethod yX5_guard, Cond.selects RX5 yX5_guard yX5_guard, Cond.code yX5_guard cX5_guard 3 (some .int), Cond.fieldLink RX5 108 "RopedHalls$Hall" "guards" "[I", Cond.methodLink RX5 111 yX4_find, Cond.instanceMethod yX4_find, Cond.selects RX4 yX4_find yX4_find]
def wsL_law_r11 : List Cond := [Cond.code yX4_find cX4_find 3 none, Cond.methodLink RX4 27 yX4_measureFrom, Cond.instanceMethod yX4_measureFrom, Cond.selects RX4 yX4_measureFrom yX4_measureFrom, Cond.code yX4_measureFrom cX4_measureFrom 10 none, Cond.fieldLink RX4 68 "RopedHalls$Hall" "doorCell" "[I", Cond.methodLink RX4 71 yX1_stepFrom, Cond.instanceMethod yX1_stepFrom, Cond.selects RX1 yX1_stepFrom yX1_stepFrom, Cond.code yX1_stepFrom cX1_stepFrom 4 (some .int), Cond.methodLink RX4 52 yX4_stepsTo, Cond.instanceMethod yX4_stepsTo, Cond.selects RX4 yX4_stepsTo yX4_stepsTo, Cond.code yX4_stepsTo cX4_stepsTo 3 (some .int), Cond.methodLink RX4 31 yX4_chooseGoal, Cond.instanceMethod yX4_chooseGoal, Cond.selects RX4 yX4_chooseGoal yX4_chooseGoal, Cond.code yX4_chooseGoal cX4_chooseGoal 7 (some .int), Cond.fieldLink RX4 74 "RopedHalls$Hall" "guards" "[I", Cond.fieldLink RX4 77 "RopedHalls$Hall" "doorOpen" "[Z", Cond.methodLink RX4 35 yX4_chooseNext, Cond.instanceMethod yX4_chooseNext, Cond.selects RX4 yX4_chooseNext yX4_chooseNext, Cond.code yX4_chooseNext cX4_chooseNext 6 (some .int)]
def wsL_law_r12 : List Cond := [Cond.methodLink RX4 81 yX4_stepsToGoal, Cond.instanceMethod yX4_stepsToGoal, Cond.selects RX4 yX4_stepsToGoal yX4_stepsToGoal, Cond.code yX4_stepsToGoal cX4_stepsToGoal 2 (some .int), Cond.methodLink RX4 48 yX4_goalOf, Cond.instanceMethod yX4_goalOf, Cond.selects RX4 yX4_goalOf yX4_goalOf, Cond.code yX4_goalOf cX4_goalOf 2 (some .int), Cond.methodLink RX4 38 yX4_orderTurns, Cond.instanceMethod yX4_orderTurns, Cond.selects RX4 yX4_orderTurns yX4_orderTurns, Cond.code yX4_orderTurns cX4_orderTurns 3 none, Cond.fieldLink RX4 56 "RopedHalls$Routes" "turnCount" "I", Cond.methodLink RX5 115 yX4_goalOf, Cond.methodLink RL 37 yX6_guard, Cond.instanceMethod yX6_guard, Cond.selects RX6 yX6_guard yX6_guard, Cond.code yX6_guard cX6_guard 4 (some .int), Cond.methodLink RX6 118 yX6_layWays, Cond.instanceMethod yX6_layWays, Cond.selects RX6 yX6_layWays yX6_layWays, Cond.code yX6_layWays cX6_layWays 2 none, Cond.methodLink RX6 69 yX6_layFar, Cond.instanceMethod yX6_layFar]
def wsL_law_r13 : List Cond := [Cond.selects RX6 yX6_layFar yX6_layFar, Cond.code yX6_layFar cX6_layFar 6 none, Cond.methodLink RX6 62 yX6_isFree, Cond.instanceMethod yX6_isFree, Cond.selects RX6 yX6_isFree yX6_isFree, Cond.code yX6_isFree cX6_isFree 3 (some .boolean), Cond.methodLink RX6 73 yX6_goalOf, Cond.instanceMethod yX6_goalOf, Cond.selects RX6 yX6_goalOf yX6_goalOf, Cond.code yX6_goalOf cX6_goalOf 5 (some .int), Cond.methodLink RX6 66 yX6_leads, Cond.instanceMethod yX6_leads, Cond.selects RX6 yX6_leads yX6_leads, Cond.code yX6_leads cX6_leads 3 (some .boolean), Cond.methodLink RX6 77 yX6_nextOf, Cond.instanceMethod yX6_nextOf, Cond.selects RX6 yX6_nextOf yX6_nextOf, Cond.code yX6_nextOf cX6_nextOf 5 (some .int), Cond.methodLink RL 38 yX5_enter, Cond.instanceMethod yX5_enter, Cond.selects RX5 yX5_enter yX5_enter, Cond.code yX5_enter cX5_enter 3 (some .int), Cond.fieldLink RX5 118 "RopedHalls$Hall" "people" "[I", Cond.methodLink RX5 121 yX1_letIn]
def wsL_law_r14 : List Cond := [Cond.instanceMethod yX1_letIn, Cond.selects RX1 yX1_letIn yX1_letIn, Cond.code yX1_letIn cX1_letIn 3 none, Cond.methodLink RL 41 yX6_enter, Cond.instanceMethod yX6_enter, Cond.selects RX6 yX6_enter yX6_enter, Cond.code yX6_enter cX6_enter 3 (some .int), Cond.methodLink RL 42 yX5_read, Cond.instanceMethod yX5_read, Cond.selects RX5 yX5_read yX5_read, Cond.code yX5_read cX5_read 2 (some .int), Cond.fieldLink RX5 128 "RopedHalls$Hall" "cameIn" "I", Cond.fieldLink RX5 134 "RopedHalls$Pad" "length" "I", Cond.methodLink RX5 125 yX3_firstFault, Cond.instanceMethod yX3_firstFault, Cond.selects RX3 yX3_firstFault yX3_firstFault, Cond.code yX3_firstFault cX3_firstFault 3 (some .int), Cond.fieldLink RX3 15 "RopedHalls$Pad" "length" "I", Cond.methodLink RX3 19 yX3_codeAt, Cond.instanceMethod yX3_codeAt, Cond.selects RX3 yX3_codeAt yX3_codeAt, Cond.code yX3_codeAt cX3_codeAt 2 (some .int), Cond.methodLink RX3 23 yX3_placeBehind, Cond.static yX3_placeBehind]
def wsL_law_r15 : List Cond := [Cond.code yX3_placeBehind cX3_placeBehind 3 (some .int), Cond.methodLink RX3 45 yX3_placeBehindFirstDigit, Cond.static yX3_placeBehindFirstDigit, Cond.code yX3_placeBehindFirstDigit cX3_placeBehindFirstDigit 1 (some .int), Cond.methodLink RX5 131 yX3_letCrowdsIn, Cond.instanceMethod yX3_letCrowdsIn, Cond.selects RX3 yX3_letCrowdsIn yX3_letCrowdsIn, Cond.code yX3_letCrowdsIn cX3_letCrowdsIn 4 none, Cond.methodLink RX3 27 yX3_letCrowdIn, Cond.instanceMethod yX3_letCrowdIn, Cond.selects RX3 yX3_letCrowdIn yX3_letCrowdIn, Cond.code yX3_letCrowdIn cX3_letCrowdIn 6 none, Cond.methodLink RX3 36 Lib.Math.min.name, Cond.methodLink RX3 31 yX1_roomIn, Cond.instanceMethod yX1_roomIn, Cond.selects RX1 yX1_roomIn yX1_roomIn, Cond.code yX1_roomIn cX1_roomIn 2 (some .int), Cond.methodLink RX3 41 yX1_letIn, Cond.methodLink RL 46 yX6_read, Cond.instanceMethod yX6_read, Cond.selects RX6 yX6_read yX6_read, Cond.code yX6_read cX6_read 3 (some .int), Cond.fieldLink RX6 161 "RopedHallsModel" "isWrong" "Z", Cond.fieldLink RX6 143 "RopedHallsModel" "length" "I"]
def wsL_law_r16 : List Cond := [Cond.methodLink RX6 177 yX6_reads, Cond.instanceMethod yX6_reads, Cond.selects RX6 yX6_reads yX6_reads, Cond.code yX6_reads cX6_reads 10 (some .int), Cond.fieldLink RX6 165 "RopedHallsModel" "position" "I", Cond.methodLink RX6 168 yX6_takes, Cond.instanceMethod yX6_takes, Cond.selects RX6 yX6_takes yX6_takes, Cond.code yX6_takes cX6_takes 4 (some .int), Cond.methodLink RX6 174 yX6_takesMany, Cond.instanceMethod yX6_takesMany, Cond.selects RX6 yX6_takesMany yX6_takesMany, Cond.code yX6_takesMany cX6_takesMany 3 (some .int), Cond.methodLink RX6 171 yX6_isNext, Cond.instanceMethod yX6_isNext, Cond.selects RX6 yX6_isNext yX6_isNext, Cond.code yX6_isNext cX6_isNext 3 (some .boolean), Cond.methodLink RL 47 yX5_pass, Cond.instanceMethod yX5_pass, Cond.selects RX5 yX5_pass yX5_pass, Cond.code yX5_pass cX5_pass 4 (some .int), Cond.fieldLink RX5 137 "RopedHalls$Hall" "minutes" "I", Cond.methodLink RX5 140 yX2_run, Cond.instanceMethod yX2_run]
def wsL_law_r17 : List Cond := [Cond.selects RX2 yX2_run yX2_run, Cond.code yX2_run cX2_run 6 (some .int), Cond.fieldLink RX2 15 "RopedHalls$Hall" "minutes" "I", Cond.methodLink RX2 21 yX2_letOut, Cond.static yX2_letOut, Cond.code yX2_letOut cX2_letOut 4 (some .int), Cond.fieldLink RX2 42 "RopedHalls$Hall" "doorCell" "[I", Cond.fieldLink RX2 45 "RopedHalls$Hall" "doorOpen" "[Z", Cond.fieldLink RX2 53 "RopedHalls$Hall" "doorRate" "[I", Cond.fieldLink RX2 56 "RopedHalls$Hall" "people" "[I", Cond.methodLink RX2 59 Lib.Math.min.name, Cond.fieldLink RX2 65 "RopedHalls$Hall" "doorOut" "[I", Cond.methodLink RX2 25 yX4_turnsAMinute, Cond.instanceMethod yX4_turnsAMinute, Cond.selects RX4 yX4_turnsAMinute yX4_turnsAMinute, Cond.code yX4_turnsAMinute cX4_turnsAMinute 1 (some .int), Cond.methodLink RX2 31 yX4_cellAtTurn, Cond.instanceMethod yX4_cellAtTurn, Cond.selects RX4 yX4_cellAtTurn yX4_cellAtTurn, Cond.code yX4_cellAtTurn cX4_cellAtTurn 2 (some .int), Cond.methodLink RX2 35 yX4_nextOf, Cond.instanceMethod yX4_nextOf, Cond.selects RX4 yX4_nextOf yX4_nextOf, Cond.code yX4_nextOf cX4_nextOf 2 (some .int)]
def wsL_law_r18 : List Cond := [Cond.methodLink RX2 38 yX2_move, Cond.instanceMethod yX2_move, Cond.selects RX2 yX2_move yX2_move, Cond.code yX2_move cX2_move 6 none, Cond.fieldLink RX2 71 "RopedHalls$Hall" "jams" "I", Cond.fieldLink RX2 74 "RopedHalls$Hall" "waited" "I", Cond.methodLink RX2 68 yX1_roomIn, Cond.methodLink RL 50 yX6_pass, Cond.instanceMethod yX6_pass, Cond.selects RX6 yX6_pass yX6_pass, Cond.code yX6_pass cX6_pass 4 (some .int), Cond.methodLink RX6 121 yX6_out, Cond.instanceMethod yX6_out, Cond.selects RX6 yX6_out yX6_out, Cond.code yX6_out cX6_out 1 (some .int), Cond.methodLink RX6 93 yX6_minute, Cond.instanceMethod yX6_minute, Cond.selects RX6 yX6_minute yX6_minute, Cond.code yX6_minute cX6_minute 3 none, Cond.methodLink RX6 80 yX6_letsOut, Cond.instanceMethod yX6_letsOut, Cond.selects RX6 yX6_letsOut yX6_letsOut, Cond.code yX6_letsOut cX6_letsOut 4 none, Cond.methodLink RX6 83 yX6_goes]
def wsL_law_r19 : List Cond := [Cond.instanceMethod yX6_goes, Cond.selects RX6 yX6_goes yX6_goes, Cond.code yX6_goes cX6_goes 6 none, Cond.methodLink RL 51 yX5_cell, Cond.instanceMethod yX5_cell, Cond.selects RX5 yX5_cell yX5_cell, Cond.code yX5_cell cX5_cell 3 (some .int), Cond.methodLink RX5 144 yX4_stepsToGoal, Cond.methodLink RX5 147 yX4_nextOf, Cond.methodLink RX5 150 yX1_ropesAround, Cond.instanceMethod yX1_ropesAround, Cond.selects RX1 yX1_ropesAround yX1_ropesAround, Cond.code yX1_ropesAround cX1_ropesAround 5 (some .int), Cond.methodLink RL 54 yX6_cell, Cond.instanceMethod yX6_cell, Cond.selects RX6 yX6_cell yX6_cell, Cond.code yX6_cell cX6_cell 3 (some .int), Cond.methodLink RX6 127 yX6_ropesOf, Cond.instanceMethod yX6_ropesOf, Cond.selects RX6 yX6_ropesOf yX6_ropesOf, Cond.code yX6_ropesOf cX6_ropesOf 4 (some .int), Cond.methodLink RX6 124 yX6_hasRope, Cond.instanceMethod yX6_hasRope, Cond.selects RX6 yX6_hasRope yX6_hasRope]
def wsL_law_r20 : List Cond := [Cond.code yX6_hasRope cX6_hasRope 3 (some .boolean), Cond.methodLink RL 55 yX5_doorOf, Cond.instanceMethod yX5_doorOf, Cond.selects RX5 yX5_doorOf yX5_doorOf, Cond.code yX5_doorOf cX5_doorOf 3 (some .int), Cond.fieldLink RX5 153 "RopedHalls$Hall" "doorOut" "[I", Cond.methodLink RX5 156 yX4_cellsWithGoal, Cond.instanceMethod yX4_cellsWithGoal, Cond.selects RX4 yX4_cellsWithGoal yX4_cellsWithGoal, Cond.code yX4_cellsWithGoal cX4_cellsWithGoal 4 (some .int), Cond.methodLink RX5 159 yX4_peopleWithGoal, Cond.instanceMethod yX4_peopleWithGoal, Cond.selects RX4 yX4_peopleWithGoal yX4_peopleWithGoal, Cond.code yX4_peopleWithGoal cX4_peopleWithGoal 5 (some .int), Cond.fieldLink RX4 60 "RopedHalls$Hall" "people" "[I", Cond.methodLink RL 58 yX6_doorOf, Cond.instanceMethod yX6_doorOf, Cond.selects RX6 yX6_doorOf yX6_doorOf, Cond.code yX6_doorOf cX6_doorOf 3 (some .int), Cond.methodLink RX6 130 yX6_goalOfMany, Cond.instanceMethod yX6_goalOfMany, Cond.selects RX6 yX6_goalOfMany yX6_goalOfMany, Cond.code yX6_goalOfMany cX6_goalOfMany 5 (some .int), Cond.methodLink RL 59 yX5_count]
def wsL_law_r21 : List Cond := [Cond.instanceMethod yX5_count, Cond.selects RX5 yX5_count yX5_count, Cond.code yX5_count cX5_count 2 (some .int), Cond.fieldLink RX5 169 "RopedHalls$Hall" "waited" "I", Cond.fieldLink RX5 172 "RopedHalls$Hall" "jams" "I", Cond.methodLink RX5 163 yX1_peopleInside, Cond.instanceMethod yX1_peopleInside, Cond.selects RX1 yX1_peopleInside yX1_peopleInside, Cond.code yX1_peopleInside cX1_peopleInside 3 (some .int), Cond.methodLink RX5 166 yX1_peopleOut, Cond.instanceMethod yX1_peopleOut, Cond.selects RX1 yX1_peopleOut yX1_peopleOut, Cond.code yX1_peopleOut cX1_peopleOut 3 (some .int), Cond.methodLink RX5 175 yX5_strandedNow, Cond.instanceMethod yX5_strandedNow, Cond.selects RX5 yX5_strandedNow yX5_strandedNow, Cond.code yX5_strandedNow cX5_strandedNow 1 (some .int), Cond.methodLink RX5 233 yX4_stranded, Cond.instanceMethod yX4_stranded, Cond.selects RX4 yX4_stranded yX4_stranded, Cond.code yX4_stranded cX4_stranded 2 (some .int), Cond.methodLink RX4 65 yX4_peopleWithGoal, Cond.methodLink RX5 178 yX1_unevenness, Cond.instanceMethod yX1_unevenness]
def wsL_law_r22 : List Cond := [Cond.selects RX1 yX1_unevenness yX1_unevenness, Cond.code yX1_unevenness cX1_unevenness 4 (some .int), Cond.methodLink RX1 60 Lib.Math.min.name, Cond.methodLink RX5 181 yX1_guardCount, Cond.instanceMethod yX1_guardCount, Cond.selects RX1 yX1_guardCount yX1_guardCount, Cond.code yX1_guardCount cX1_guardCount 3 (some .int), Cond.methodLink RL 62 yX6_count, Cond.instanceMethod yX6_count, Cond.selects RX6 yX6_count yX6_count, Cond.code yX6_count cX6_count 2 (some .int), Cond.methodLink RX6 86 yX6_people, Cond.instanceMethod yX6_people, Cond.selects RX6 yX6_people yX6_people, Cond.code yX6_people cX6_people 3 (some .int), Cond.methodLink RX6 134 yX6_openSet, Cond.instanceMethod yX6_openSet, Cond.selects RX6 yX6_openSet yX6_openSet, Cond.code yX6_openSet cX6_openSet 1 (some .int), Cond.methodLink RX6 90 yX6_shutIn, Cond.instanceMethod yX6_shutIn, Cond.selects RX6 yX6_shutIn yX6_shutIn, Cond.code yX6_shutIn cX6_shutIn 3 (some .int), Cond.methodLink RX6 137 yX6_uneven]
def wsL_law_r23 : List Cond := [Cond.instanceMethod yX6_uneven, Cond.selects RX6 yX6_uneven yX6_uneven, Cond.code yX6_uneven cX6_uneven 4 (some .int), Cond.methodLink RX6 140 yX6_guards, Cond.instanceMethod yX6_guards, Cond.selects RX6 yX6_guards yX6_guards, Cond.code yX6_guards cX6_guards 3 (some .int), Cond.methodLink RL 63 yX5_distance, Cond.instanceMethod yX5_distance, Cond.selects RX5 yX5_distance yX5_distance, Cond.code yX5_distance cX5_distance 3 (some .int), Cond.methodLink RX5 187 yX4_stepsTo, Cond.methodLink RL 66 yX6_distance, Cond.instanceMethod yX6_distance, Cond.selects RX6 yX6_distance yX6_distance, Cond.code yX6_distance cX6_distance 3 (some .int), Cond.methodLink RL 67 yX5_untilOut, Cond.instanceMethod yX5_untilOut, Cond.selects RX5 yX5_untilOut yX5_untilOut, Cond.code yX5_untilOut cX5_untilOut 1 (some .int), Cond.methodLink RX5 190 yX0_startFrom, Cond.instanceMethod yX0_startFrom, Cond.selects RX0 yX0_startFrom yX0_startFrom, Cond.code yX0_startFrom cX0_startFrom 2 none]
def wsL_law_r24 : List Cond := [Cond.methodLink RX0 32 yX1_copyFrom, Cond.methodLink RX0 36 yX4_find, Cond.methodLink RX5 193 yX0_runUntilOut, Cond.instanceMethod yX0_runUntilOut, Cond.selects RX0 yX0_runUntilOut yX0_runUntilOut, Cond.code yX0_runUntilOut cX0_runUntilOut 3 (some .int), Cond.methodLink RX0 47 yX1_peopleInside, Cond.methodLink RX0 51 yX4_stranded, Cond.methodLink RX0 55 yX2_run, Cond.methodLink RL 70 yX6_untilOut, Cond.instanceMethod yX6_untilOut, Cond.selects RX6 yX6_untilOut yX6_untilOut, Cond.code yX6_untilOut cX6_untilOut 2 (some .int), Cond.methodLink RX6 146 yX6_putAside, Cond.instanceMethod yX6_putAside, Cond.selects RX6 yX6_putAside yX6_putAside, Cond.code yX6_putAside cX6_putAside 2 none, Cond.methodLink RX6 149 yX6_emptied, Cond.instanceMethod yX6_emptied, Cond.selects RX6 yX6_emptied yX6_emptied, Cond.code yX6_emptied cX6_emptied 2 (some .int), Cond.methodLink RX6 152 yX6_putBack, Cond.instanceMethod yX6_putBack, Cond.selects RX6 yX6_putBack yX6_putBack]
def wsL_law_r25 : List Cond := [Cond.code yX6_putBack cX6_putBack 2 none, Cond.methodLink RL 71 yX5_ifRope, Cond.instanceMethod yX5_ifRope, Cond.selects RX5 yX5_ifRope yX5_ifRope, Cond.code yX5_ifRope cX5_ifRope 6 (some .int), Cond.methodLink RX5 196 yX0_startWithRopeTurned, Cond.instanceMethod yX0_startWithRopeTurned, Cond.selects RX0 yX0_startWithRopeTurned yX0_startWithRopeTurned, Cond.code yX0_startWithRopeTurned cX0_startWithRopeTurned 3 none, Cond.fieldLink RX0 43 "RopedHalls$Hall" "ropes" "[Z", Cond.methodLink RX5 200 yX0_stranded, Cond.instanceMethod yX0_stranded, Cond.selects RX0 yX0_stranded yX0_stranded, Cond.code yX0_stranded cX0_stranded 1 (some .int), Cond.methodLink RX5 203 yX0_unevenness, Cond.instanceMethod yX0_unevenness, Cond.selects RX0 yX0_unevenness yX0_unevenness, Cond.code yX0_unevenness cX0_unevenness 1 (some .int), Cond.methodLink RX0 59 yX1_unevenness, Cond.methodLink RL 74 yX6_ifRope, Cond.instanceMethod yX6_ifRope, Cond.selects RX6 yX6_ifRope yX6_ifRope, Cond.code yX6_ifRope cX6_ifRope 4 (some .int), Cond.methodLink RX6 155 yX6_tries]
def wsL_law_r26 : List Cond := [Cond.instanceMethod yX6_tries, Cond.selects RX6 yX6_tries yX6_tries, Cond.code yX6_tries cX6_tries 3 none, Cond.methodLink RL 75 yX5_bestRope, Cond.instanceMethod yX5_bestRope, Cond.selects RX5 yX5_bestRope yX5_bestRope, Cond.code yX5_bestRope cX5_bestRope 9 (some .int), Cond.methodLink RX5 204 yX5_canHang, Cond.instanceMethod yX5_canHang, Cond.selects RX5 yX5_canHang yX5_canHang, Cond.code yX5_canHang cX5_canHang 2 (some .boolean), Cond.methodLink RL 78 yX6_bestRope, Cond.instanceMethod yX6_bestRope, Cond.selects RX6 yX6_bestRope yX6_bestRope, Cond.code yX6_bestRope cX6_bestRope 9 (some .int), Cond.methodLink RL 79 yX5_waiting, Cond.instanceMethod yX5_waiting, Cond.selects RX5 yX5_waiting yX5_waiting, Cond.code yX5_waiting cX5_waiting 1 (some .int), Cond.methodLink RX5 207 yX0_waited, Cond.instanceMethod yX0_waited, Cond.selects RX0 yX0_waited yX0_waited, Cond.code yX0_waited cX0_waited 1 (some .int), Cond.fieldLink RX0 62 "RopedHalls$Hall" "waited" "I"]
def wsL_law_r27 : List Cond := [Cond.methodLink RL 82 yX6_waiting, Cond.instanceMethod yX6_waiting, Cond.selects RX6 yX6_waiting yX6_waiting, Cond.code yX6_waiting cX6_waiting 4 (some .int), Cond.methodLink RL 85 yX5_put, Cond.instanceMethod yX5_put, Cond.selects RX5 yX5_put yX5_put, Cond.code yX5_put cX5_put 5 (some .int), Cond.methodLink RX5 209 yX5_charactersIn, Cond.static yX5_charactersIn, Cond.code yX5_charactersIn cX5_charactersIn 6 (some .int), Cond.methodLink RX5 213 yX3_append, Cond.instanceMethod yX3_append, Cond.selects RX3 yX3_append yX3_append, Cond.code yX3_append cX3_append 2 none, Cond.methodLink RL 89 yX6_put, Cond.instanceMethod yX6_put, Cond.selects RX6 yX6_put yX6_put, Cond.code yX6_put cX6_put 8 (some .int), Cond.constantLong RX6 159 (255), Cond.methodLink RL 90 yX5_wipe, Cond.instanceMethod yX5_wipe, Cond.selects RX5 yX5_wipe yX5_wipe, Cond.code yX5_wipe cX5_wipe 2 (some .int)]
def wsL_law_r28 : List Cond := [Cond.methodLink RL 93 yX6_wipe, Cond.instanceMethod yX6_wipe, Cond.selects RX6 yX6_wipe yX6_wipe, Cond.code yX6_wipe cX6_wipe 2 (some .int), Cond.methodLink RL 94 yX5_fault, Cond.instanceMethod yX5_fault, Cond.selects RX5 yX5_fault yX5_fault, Cond.code yX5_fault cX5_fault 1 (some .int), Cond.methodLink RL 97 yX6_fault, Cond.instanceMethod yX6_fault, Cond.selects RX6 yX6_fault yX6_fault, Cond.code yX6_fault cX6_fault 2 (some .int), Cond.methodLink RL 98 yX5_undo, Cond.instanceMethod yX5_undo, Cond.selects RX5 yX5_undo yX5_undo, Cond.code yX5_undo cX5_undo 1 (some .int), Cond.methodLink RL 101 yX6_undo, Cond.instanceMethod yX6_undo, Cond.selects RX6 yX6_undo yX6_undo, Cond.code yX6_undo cX6_undo 2 (some .int), Cond.methodLink RL 102 yX5_save, Cond.instanceMethod yX5_save, Cond.selects RX5 yX5_save yX5_save, Cond.code yX5_save cX5_save 2 (some .int)]
def wsL_law_r29 : List Cond := [Cond.methodLink RL 105 yX6_save, Cond.instanceMethod yX6_save, Cond.selects RX6 yX6_save yX6_save, Cond.code yX6_save cX6_save 3 (some .int), Cond.methodLink RL 106 yX5_restore, Cond.instanceMethod yX5_restore, Cond.selects RX5 yX5_restore yX5_restore, Cond.code yX5_restore cX5_restore 2 (some .int), Cond.methodLink RL 109 yX6_restore, Cond.instanceMethod yX6_restore, Cond.selects RX6 yX6_restore yX6_restore, Cond.code yX6_restore cX6_restore 3 (some .int)]
def wsL_law : List Cond := (wsL_law_r1 ++ (wsL_law_r2 ++ (wsL_law_r3 ++ (wsL_law_r4 ++ (wsL_law_r5 ++ (wsL_law_r6 ++ (wsL_law_r7 ++ (wsL_law_r8 ++ (wsL_law_r9 ++ (wsL_law_r10 ++ (wsL_law_r11 ++ (wsL_law_r12 ++ (wsL_law_r13 ++ (wsL_law_r14 ++ (wsL_law_r15 ++ (wsL_law_r16 ++ (wsL_law_r17 ++ (wsL_law_r18 ++ (wsL_law_r19 ++ (wsL_law_r20 ++ (wsL_law_r21 ++ (wsL_law_r22 ++ (wsL_law_r23 ++ (wsL_law_r24 ++ (wsL_law_r25 ++ (wsL_law_r26 ++ (wsL_law_r27 ++ (wsL_law_r28 ++ wsL_law_r29)))))))))))))))))))))))))))) ++ wsX50 ++ wsX60 ++ wsX10 ++ wsX40 ++ wsX20 ++ wsX00 ++ wsX30 ++ ([] : List Cond)
set_option maxRecDepth 20000 in
abbrev vwCl : List vw_C := [(RX0, TX0, 3), (RX1, TX1, 12), (RX2, TX2, 1), (RX3, TX3, 2), (RX4, TX4, 6), (RX5, TX5, 10), (RX6, TX6, 16)]
end
section
/-! THE ENGINE: a world of cells by ids (class, instance, sub-cell), rows of numbers, one symbolic step of the machine as a proposition that computes. -/
abbrev je_C : Type := Nat × Nat × Nat
abbrev je_V : Type := Int32 ⊕ Int64 ⊕ Option je_C
abbrev jI (x : Int32) : je_V := Sum.inl x
abbrev jL (x : Int64) : je_V := Sum.inr (Sum.inl x)
abbrev jR (q : je_C) : je_V := Sum.inr (Sum.inr (some q))
abbrev jN : je_V := Sum.inr (Sum.inr none)
abbrev je_G : Type := Nat → Nat → Nat → Nat → Int32
def je_set (G : je_G) (c n r : Nat) (f : Nat → Int32) : je_G := fun c' n' r' => if (r' = r ∧ c' = c) ∧ n' = n then f else G c' n' r'
def je_e (ad : je_C → Nat) (v : je_V) : Value := match v with
  | .inl x => .int x
  | .inr (.inl x) => .long x
  | .inr (.inr (some q)) => .ref (ad q)
  | .inr (.inr none) => .null
def je_cat (v : je_V) : Nat := match v with
  | .inr (.inl _) => 2
  | _ => 1
def je_sm : List je_V → Nat
  | [] => 0
  | v :: t => je_cat v + je_sm t
/-- how many instances -/
def je_cnt (c : Nat) : Nat := match c with
  | 0 => 1
  | 1 => 10
  | 2 => 2
  | 3 => 1
  | 4 => 2
  | 5 => 1
  | 6 => 1
  | _ => 0
/-- the fields of an object, in the order of the slots: a number (row, place), or a cell -/
def je_F (c n : Nat) : List ((Nat × Nat) ⊕ je_C) := match c with
  | 0 => [.inr (1, 9, 0), .inr (4, 1, 0), .inr (2, 1, 0)]
  | 1 => [.inl (0, 0), .inl (0, 1), .inl (0, 2), .inl (0, 3), .inl (0, 4), .inr (1, n, 6), .inr (1, n, 7), .inr (1, n, 8), .inr (1, n, 9), .inr (1, n, 10), .inr (1, n, 11), .inr (1, n, 12)]
  | 2 => [.inr (2, n, 1)]
  | 3 => [.inl (0, 0), .inr (3, n, 2)]
  | 4 => [.inr (4, n, 1), .inr (4, n, 2), .inr (4, n, 3), .inr (4, n, 4), .inr (4, n, 5), .inl (5, 0)]
  | 5 => [.inr (1, 0, 0), .inr (4, 0, 0), .inr (2, 0, 0), .inr (0, 0, 0), .inr (3, 0, 0), .inr (5, 0, 6), .inr (5, 0, 7), .inr (5, 0, 8), .inl (8, 0), .inl (9, 0)]
  | 6 => [.inr (6, 0, 1), .inr (6, 0, 2), .inr (6, 0, 3), .inl (3, 0), .inr (6, 0, 5), .inr (6, 0, 6), .inr (6, 0, 7), .inl (7, 0), .inr (6, 0, 9), .inr (6, 0, 10), .inr (6, 0, 11), .inr (6, 0, 12), .inr (6, 0, 13), .inr (6, 0, 14), .inl (14, 0), .inl (15, 0)]
  | _ => []
/-- the array of numbers of a field: kind (0 int, 1 boolean), length, row, first place -/
def je_Ar (c j : Nat) : Option (Nat × Nat × Nat × Nat) := match c with
  | 1 => match j with
    | 5 => some (0, 35, 0, 21)
    | 6 => some (0, 35, 0, 56)
    | 7 => some (1, 70, 0, 91)
    | 8 => some (0, 4, 0, 5)
    | 9 => some (0, 4, 0, 9)
    | 10 => some (1, 4, 0, 13)
    | 11 => some (0, 4, 0, 17)
    | _ => none
  | 2 => match j with
    | 0 => some (0, 35, 0, 0)
    | _ => none
  | 3 => match j with
    | 1 => some (0, 60, 1, 0)
    | _ => none
  | 4 => match j with
    | 0 => some (0, 140, 0, 0)
    | 1 => some (0, 35, 1, 0)
    | 2 => some (0, 35, 2, 0)
    | 3 => some (0, 35, 3, 0)
    | 4 => some (0, 35, 4, 0)
    | _ => none
  | 5 => match j with
    | 7 => some (1, 2, 7, 0)
    | _ => none
  | 6 => match j with
    | 0 => some (0, 161, 0, 0)
    | 1 => some (0, 161, 1, 0)
    | 2 => some (0, 966, 2, 0)
    | 4 => some (0, 322, 4, 0)
    | 5 => some (1, 2, 5, 0)
    | 6 => some (0, 60, 6, 0)
    | 8 => some (0, 140, 8, 0)
    | 9 => some (0, 35, 9, 0)
    | 10 => some (0, 35, 10, 0)
    | 11 => some (0, 35, 11, 0)
    | 12 => some (0, 35, 12, 0)
    | 13 => some (0, 3, 13, 0)
    | _ => none
  | _ => none
/-- the array of halls of a field: length, first instance -/
def je_Ra (c j : Nat) : Option (Nat × Nat) := match c with
  | 5 => match j with
    | 5 => some (6, 1)
    | 6 => some (2, 7)
    | _ => none
  | _ => none
def je_kd (c k : Nat) : Bool := match k with
  | 0 => Nat.blt c 7
  | j + 1 => (je_Ar c j).isSome || (je_Ra c j).isSome
def je_ok (q : je_C) : Prop := q.2.1 < je_cnt q.1 ∧ je_kd q.1 q.2.2 = true
def je_fv (ad : je_C → Nat) (G : je_G) (c n : Nat) (f : (Nat × Nat) ⊕ je_C) : Value := match f with
  | .inl q => .int (G c n q.1 q.2)
  | .inr q => .ref (ad q)
def je_arr (G : je_G) (c n len r b : Nat) : Nat → Int32 := fun i => if i < len then G c n r (b + i) else 0
def je_E (ad : je_C → Nat) (cA : Nat → ClassId) (G : je_G) (c n k : Nat) : va_E := match k with
  | 0 => .inr (c, (je_F c n).map (je_fv ad G c n))
  | j + 1 => match je_Ar c j with
    | some (t, len, r, b) => .inl (cA t, len, .inl (je_arr G c n len r b))
    | none => match je_Ra c j with
      | some (len, b) => .inl (cA 2, len, .inr (.inr (.inr (.inr (fun i => some (ad (1, b + i, 0)))))))
      | none => .inl (cA 0, 0, .inl (fun _ => 0))
def je_W (D : va_G) (ad : je_C → Nat) (cA : Nat → ClassId) (G : je_G) (H : Heap) : Prop := ∀ q : je_C, je_ok q → va_at D vwCl (ad q, je_E ad cA G q.1 q.2.1 q.2.2) H
def je_inj (ad : je_C → Nat) : Prop := ∀ q q' : je_C, je_ok q → je_ok q' → ad q = ad q' → q = q'
def je_A (ad : je_C → Nat) : Nat → Prop := fun a => ∃ q : je_C, je_ok q ∧ a = ad q
def je_T (cA : Nat → ClassId) : List (ClassId × FieldType) := [(cA 0, .int), (cA 1, .boolean), (cA 2, .object "RopedHalls$Hall")]
-- ===== locals =====
def je_get : List (Option je_V) → Nat → Option je_V
  | [], _ => none
  | v :: _, 0 => v
  | _ :: t, n + 1 => je_get t n
def je_put : List (Option je_V) → Nat → Option je_V → (List (Option je_V) → Prop) → Prop
  | [], _, _, _ => False
  | _ :: t, 0, v, F => F (v :: t)
  | w :: t, n + 1, v, F => je_put t n v (fun t' => F (w :: t'))
def je_nl (L : List (Option je_V)) (a : Nat) : Bool := match a with
  | 0 => true
  | b + 1 => match je_get L b with
    | some (.inr (.inl _)) => false
    | _ => true
def je_eL (ad : je_C → Nat) : Nat → List (Option je_V) → List (Nat × Value)
  | _, [] => []
  | i, none :: t => je_eL ad (i + 1) t
  | i, some v :: t => (i, je_e ad v) :: je_eL ad (i + 1) t
-- ===== one step =====
abbrev je_K : Type := je_G → Nat → List (Option je_V) → List je_V → Prop
/-- instruction, next place, two numbers (a jump's target; class and field; a local's place), a switch's targets, a constant -/
abbrev je_I : Type := Instr × Nat × Nat × Nat × List (Nat × Int32) × Int32
def je_i1 (S : List je_V) (F : Int32 → List je_V → Prop) : Prop := match S with
  | .inl x :: S' => F x S'
  | _ => False
def je_l1 (S : List je_V) (F : Int64 → List je_V → Prop) : Prop := match S with
  | .inr (.inl x) :: S' => F x S'
  | _ => False
def je_r1 (S : List je_V) (F : Option je_C → List je_V → Prop) : Prop := match S with
  | .inr (.inr x) :: S' => F x S'
  | _ => False
/-- a value of one word -/
def je_v1 (S : List je_V) (F : je_V → List je_V → Prop) : Prop := match S with
  | .inl x :: S' => F (.inl x) S'
  | .inr (.inr x) :: S' => F (.inr (.inr x)) S'
  | _ => False
def je_i2 (S : List je_V) (F : Int32 → Int32 → List je_V → Prop) : Prop := je_i1 S (fun y S1 => je_i1 S1 (fun x S2 => F y x S2))
def je_l2 (S : List je_V) (F : Int64 → Int64 → List je_V → Prop) : Prop := je_l1 S (fun y S1 => je_l1 S1 (fun x S2 => F y x S2))
/-- a cell, not null -/
def je_c1 (S : List je_V) (F : Nat → Nat → Nat → List je_V → Prop) : Prop := je_r1 S (fun r S1 => match r with
  | some q => F q.1 q.2.1 q.2.2 S1
  | none => False)
def je_gi (o : Option je_V) (F : Int32 → Prop) : Prop := match o with
  | some (.inl x) => F x
  | _ => False
def je_gl (o : Option je_V) (F : Int64 → Prop) : Prop := match o with
  | some (.inr (.inl x)) => F x
  | _ => False
def je_gr (o : Option je_V) (F : Option je_C → Prop) : Prop := match o with
  | some (.inr (.inr x)) => F x
  | _ => False
def je_bb (b : Bool) (P : Prop) : Prop := match b with
  | true => P
  | false => False
def je_nth {α : Type} : List α → Nat → Option α
  | [], _ => none
  | v :: _, 0 => some v
  | _ :: t, n + 1 => je_nth t n
def je_cond (op : ClassFile.Cond) (x y : Int32) (A B : Prop) : Prop := match op with
  | .eq => (x = y → A) ∧ (¬ x = y → B)
  | .ne => (¬ x = y → A) ∧ (x = y → B)
  | .lt => (x < y → A) ∧ (¬ x < y → B)
  | .ge => (y ≤ x → A) ∧ (¬ y ≤ x → B)
  | .gt => (y < x → A) ∧ (¬ y < x → B)
  | .le => (x ≤ y → A) ∧ (¬ x ≤ y → B)
def je_sw (x : Int32) : List (Nat × Int32) → (Nat → Prop) → Prop → Prop
  | [], _, B => B
  | (t, v) :: ts, A, B => (x = v → A t) ∧ (¬ x = v → je_sw x ts A B)
def je_isZ (c j : Nat) : Bool := match c with
  | 6 => Nat.beq j 15
  | _ => false
def je_zz (b : Bool) (x : Int32) (P : Prop) : Prop := match b with
  | true => (x = 0 ∨ x = 1) ∧ P
  | false => P
def je_ald (t : Nat) (S : List je_V) (F : Int32 → je_G → Nat → Nat → Nat → Nat → Nat → List je_V → Prop) (G : je_G) : Prop :=
  je_i1 S (fun i S1 => je_c1 S1 (fun c n k S2 => match k with
    | 0 => False
    | j + 1 => match je_Ar c j with
      | some (t', len, r, b) => je_bb (Nat.beq t t') (vp_in i len ∧ F i G c n len r b S2)
      | none => False))
def je_step (t : je_I) (rt : Nat) (K : je_K) (Rt : je_G → Option je_V → Prop) (G : je_G) (L : List (Option je_V)) (S : List je_V) : Prop :=
  match t with
  | (i, nx, a, b, tg, v) => match i with
    | .iconst _ => K G nx L (jI v :: S)
    | .bipush _ => K G nx L (jI v :: S)
    | .sipush _ => K G nx L (jI v :: S)
    | .ldc_w _ => K G nx L (jI v :: S)
    | .lconst _ => K G nx L (jL (Int64.ofNat a) :: S)
    | .ldc2_w _ => K G nx L (jL (Int64.ofNat a) :: S)
    | .aconst_null => K G nx L (jN :: S)
    | .iload_n _ => je_gi (je_get L a) (fun x => K G nx L (jI x :: S))
    | .iload _ => je_gi (je_get L a) (fun x => K G nx L (jI x :: S))
    | .lload_n _ => je_gl (je_get L a) (fun x => K G nx L (jL x :: S))
    | .aload_n _ => je_gr (je_get L a) (fun x => K G nx L (.inr (.inr x) :: S))
    | .istore_n _ => je_bb (je_nl L a) (je_i1 S (fun x S1 => je_put L a (some (jI x)) (fun L1 => K G nx L1 S1)))
    | .istore _ => je_bb (je_nl L a) (je_i1 S (fun x S1 => je_put L a (some (jI x)) (fun L1 => K G nx L1 S1)))
    | .lstore_n _ => je_bb (je_nl L a) (je_l1 S (fun x S1 => je_put L a (some (jL x)) (fun L1 => je_put L1 (a + 1) none (fun L2 => K G nx L2 S1))))
    | .iinc _ _ => je_bb (je_nl L a) (je_gi (je_get L a) (fun x => je_put L a (some (jI (x + v))) (fun L1 => K G nx L1 S)))
    | .iadd => je_i2 S (fun y x S1 => K G nx L (jI (x + y) :: S1))
    | .isub => je_i2 S (fun y x S1 => K G nx L (jI (x - y) :: S1))
    | .imul => je_i2 S (fun y x S1 => K G nx L (jI (x * y) :: S1))
    | .idiv => je_i2 S (fun y x S1 => ¬ y = 0 ∧ K G nx L (jI (x / y) :: S1))
    | .irem => je_i2 S (fun y x S1 => ¬ y = 0 ∧ K G nx L (jI (x - x / y * y) :: S1))
    | .iand => je_i2 S (fun y x S1 => K G nx L (jI (x &&& y) :: S1))
    | .ior => je_i2 S (fun y x S1 => K G nx L (jI (x ||| y) :: S1))
    | .ixor => je_i2 S (fun y x S1 => K G nx L (jI (x ^^^ y) :: S1))
    | .ishl => je_i2 S (fun y x S1 => K G nx L (jI (x <<< (y &&& 31)) :: S1))
    | .iushr => je_i2 S (fun y x S1 => K G nx L (jI (x.toUInt32 >>> (y.toUInt32 &&& Int32.toUInt32 31)).toInt32 :: S1))
    | .lushr => je_i1 S (fun y S1 => je_l1 S1 (fun x S2 => K G nx L (jL (x.toUInt64 >>> (y.toInt64.toUInt64 &&& Int64.toUInt64 63)).toInt64 :: S2)))
    | .lshl => je_i1 S (fun y S1 => je_l1 S1 (fun x S2 => K G nx L (jL (x <<< (y.toInt64 &&& 63)) :: S2)))
    | .land => je_l2 S (fun y x S1 => K G nx L (jL (x &&& y) :: S1))
    | .lor => je_l2 S (fun y x S1 => K G nx L (jL (x ||| y) :: S1))
    | .lcmp => je_l2 S (fun y x S1 => K G nx L (jI (lg_cmp x y) :: S1))
    | .i2l => je_i1 S (fun x S1 => K G nx L (jL x.toInt64 :: S1))
    | .l2i => je_l1 S (fun x S1 => K G nx L (jI x.toInt32 :: S1))
    | .dup => je_v1 S (fun x S1 => K G nx L (x :: x :: S1))
    | .dup2 => je_v1 S (fun x S1 => je_v1 S1 (fun y S2 => K G nx L (x :: y :: x :: y :: S2)))
    | .pop => je_v1 S (fun _ S1 => K G nx L S1)
    | .ifCond op _ => je_i1 S (fun x S1 => je_cond op x 0 (K G a L S1) (K G nx L S1))
    | .if_icmp op _ => je_i2 S (fun y x S1 => je_cond op x y (K G a L S1) (K G nx L S1))
    | .goto _ => K G a L S
    | .ifnull _ => je_r1 S (fun r S1 => match r with
      | none => K G a L S1
      | some _ => K G nx L S1)
    | .tableswitch _ _ _ _ => je_i1 S (fun x S1 => je_sw x tg (fun t => K G t L S1) (K G a L S1))
    | .getfield _ => je_c1 S (fun c n k S1 => je_bb (Nat.beq c a && Nat.beq k 0) (match je_nth (je_F a n) b with
      | some (.inl q) => K G nx L (jI (G a n q.1 q.2) :: S1)
      | some (.inr q) => K G nx L (jR q :: S1)
      | none => False))
    | .putfield _ => je_i1 S (fun x S1 => je_c1 S1 (fun c n k S2 => je_bb (Nat.beq c a && Nat.beq k 0) (match je_nth (je_F a n) b with
      | some (.inl q) => je_zz (je_isZ a b) x (K (je_set G a n q.1 (upd (G a n q.1) q.2 x)) nx L S2)
      | _ => False)))
    | .iaload => je_ald 0 S (fun i G c n _ r b S2 => K G nx L (jI (G c n r (b + i.toNatClampNeg)) :: S2)) G
    | .baload => je_ald 1 S (fun i G c n _ r b S2 => K G nx L (jI (G c n r (b + i.toNatClampNeg)) :: S2)) G
    | .iastore => je_i1 S (fun x S0 => je_ald 0 S0 (fun i G c n _ r b S2 => K (je_set G c n r (upd (G c n r) (b + i.toNatClampNeg) x)) nx L S2) G)
    | .bastore => je_i1 S (fun x S0 => je_ald 1 S0 (fun i G c n _ r b S2 => (x = 0 ∨ x = 1) ∧ K (je_set G c n r (upd (G c n r) (b + i.toNatClampNeg) x)) nx L S2) G)
    | .aaload => je_i1 S (fun i S1 => je_c1 S1 (fun c _ k S2 => match k with
      | 0 => False
      | j + 1 => match je_Ra c j with
        | some q => vp_in i q.1 ∧ K G nx L (jR (1, q.2 + i.toNatClampNeg, 0) :: S2)
        | none => False))
    | .invokestatic _ => match b with
      | 1 => je_i2 S (fun y x S1 => je_bb (Nat.ble (je_sm S1) 8) (K G nx L (jI (if x < y then y else x) :: S1)))
      | 2 => je_i2 S (fun y x S1 => je_bb (Nat.ble (je_sm S1) 8) (K G nx L (jI (if y < x then y else x) :: S1)))
      | _ => False
    | .ireturn => je_i1 S (fun x S1 => match S1 with
      | [] => je_zz (Nat.beq rt 2) x (je_bb (Nat.blt 0 rt && Nat.blt rt 3) (Rt G (some (jI x))))
      | _ => False)
    | .areturn => je_r1 S (fun x S1 => match S1 with
      | [] => je_bb (Nat.beq rt 3) (Rt G (some (.inr (.inr x))))
      | _ => False)
    | .return_ => match S with
      | [] => je_bb (Nat.beq rt 0) (Rt G none)
      | _ => False
    | _ => False
def je_look : List (Nat × je_I) → Nat → Option je_I
  | [], _ => none
  | q :: t, pc => match Nat.beq q.1 pc with
    | true => some q.2
    | false => je_look t pc
/-- n steps; where the table says nothing (a call) the walk stands -/
def je_run (tbl : List (Nat × je_I)) (rt : Nat) (J : je_K) (Rt : je_G → Option je_V → Prop) : Nat → je_K
  | 0, G, pc, L, S => J G pc L S
  | n + 1, G, pc, L, S => match je_look tbl pc with
    | none => J G pc L S
    | some t => je_step t rt (je_run tbl rt J Rt n) Rt G L S
end
section
/-! THE WORLD: cells lie apart; what a store changes -/
theorem je_Ar_lt {c j : Nat} {x : Nat × Nat × Nat × Nat} (h : je_Ar c j = some x) : c < 7 ∧ j < 16 := by
  unfold je_Ar at h
  split at h <;> (first | (cases h; done) | (split at h <;> first | (cases h; done) | exact ⟨by decide, by decide⟩))
def je_inA (c j r i : Nat) : Prop := ∃ t len b, je_Ar c j = some (t, len, r, b) ∧ b ≤ i ∧ i < b + len
def je_chA (c j j' : Nat) : Bool := (je_Ar c j).all fun x => (je_Ar c j').all fun y => decide (j' = j ∨ x.2.2.1 ≠ y.2.2.1 ∨ x.2.2.2 + x.2.1 ≤ y.2.2.2 ∨ y.2.2.2 + y.2.1 ≤ x.2.2.2)
theorem je_chA_all : ∀ c : Fin 7, ∀ j j' : Fin 16, je_chA c.val j.val j'.val = true := by decide +kernel
theorem je_apA {c j j' t len r b i : Nat} (h : je_Ar c j = some (t, len, r, b)) (hi : i < len) (h2 : je_inA c j' r (b + i)) : j' = j := by
  obtain ⟨hc, hj⟩ := je_Ar_lt h
  obtain ⟨t', len', b', hx, e1, e2⟩ := h2
  have hk := je_chA_all ⟨c, hc⟩ ⟨j, hj⟩ ⟨j', (je_Ar_lt hx).2⟩
  simp only [je_chA, h, hx, Option.all_some, decide_eq_true_eq] at hk
  rcases hk with hk | hk | hk | hk
  · exact hk
  · exact absurd rfl hk
  · omega
  · omega
/-- the places of an object's own numbers -/
def je_pF (c : Nat) : List (Option (Nat × Nat)) := match c with
  | 1 => [some (0, 0), some (0, 1), some (0, 2), some (0, 3), some (0, 4)]
  | 3 => [some (0, 0)]
  | 4 => [none, none, none, none, none, some (5, 0)]
  | 5 => [none, none, none, none, none, none, none, none, some (8, 0), some (9, 0)]
  | 6 => [none, none, none, some (3, 0), none, none, none, some (7, 0), none, none, none, none, none, none, some (14, 0), some (15, 0)]
  | _ => []
theorem je_pF_of {c n k : Nat} {q : Nat × Nat} (h : je_nth (je_F c n) k = some (.inl q)) : c < 7 ∧ k < 16 ∧ je_nth (je_pF c) k = some (some q) := by
  unfold je_F at h
  split at h <;>
    (rcases k with _ | _ | _ | _ | _ | _ | _ | _ | _ | _ | _ | _ | _ | _ | _ | _ | k <;>
      first
        | (simp [je_nth] at h; done)
        | (simp only [je_nth, Option.some.injEq, Sum.inl.injEq] at h; subst h; exact ⟨by decide, by decide, rfl⟩))
def je_chF (c k k' : Nat) : Bool := (je_nth (je_pF c) k).all fun x => (je_nth (je_pF c) k').all fun y => x.all fun x => y.all fun y => decide (k = k' ∨ x ≠ y)
theorem je_chF_all : ∀ c : Fin 7, ∀ k k' : Fin 16, je_chF c.val k.val k'.val = true := by decide +kernel
theorem je_apF {c n k k' : Nat} {q : Nat × Nat} (h : je_nth (je_F c n) k = some (.inl q)) (h2 : je_nth (je_F c n) k' = some (.inl q)) : k = k' := by
  obtain ⟨hc, hk, e⟩ := je_pF_of h
  obtain ⟨-, hk', e'⟩ := je_pF_of h2
  have hx := je_chF_all ⟨c, hc⟩ ⟨k, hk⟩ ⟨k', hk'⟩
  simp only [je_chF, e, e', Option.all_some, decide_eq_true_eq] at hx
  rcases hx with hx | hx
  · exact hx
  · exact absurd rfl hx
def je_chX (c k j : Nat) : Bool := (je_nth (je_pF c) k).all fun x => x.all fun x => (je_Ar c j).all fun y => decide (x.1 ≠ y.2.2.1 ∨ x.2 < y.2.2.2 ∨ y.2.2.2 + y.2.1 ≤ x.2)
theorem je_chX_all : ∀ c : Fin 7, ∀ k j : Fin 16, je_chX c.val k.val j.val = true := by decide +kernel
theorem je_apX {c n k j : Nat} {q : Nat × Nat} (h : je_nth (je_F c n) k = some (.inl q)) : ¬ je_inA c j q.1 q.2 := by
  intro ⟨t, len, b, hx, e1, e2⟩
  obtain ⟨hc, hk, e⟩ := je_pF_of h
  have hy := je_chX_all ⟨c, hc⟩ ⟨k, hk⟩ ⟨j, (je_Ar_lt hx).2⟩
  simp only [je_chX, e, hx, Option.all_some, decide_eq_true_eq] at hy
  rcases hy with hy | hy | hy
  · exact absurd rfl hy
  · omega
  · omega
theorem je_set_ne {G : je_G} {c n r c' n' r' : Nat} {f : Nat → Int32} (h : ¬ (c' = c ∧ n' = n ∧ r' = r)) : je_set G c n r f c' n' r' = G c' n' r' := by
  unfold je_set
  rw [if_neg]
  intro ⟨⟨h1, h2⟩, h3⟩
  exact h ⟨h2, h3, h1⟩
theorem je_set_eq {G : je_G} {c n r : Nat} {f : Nat → Int32} : je_set G c n r f c n r = f := by
  unfold je_set
  rw [if_pos ⟨⟨rfl, rfl⟩, rfl⟩]
/-- a store at one place -/
abbrev je_up (G : je_G) (c n r i : Nat) (x : Int32) : je_G := je_set G c n r (upd (G c n r) i x)
theorem je_up_ne {G : je_G} {c n r i c' n' r' i' : Nat} {x : Int32} (h : ¬ (c' = c ∧ n' = n ∧ r' = r ∧ i' = i)) : je_up G c n r i x c' n' r' i' = G c' n' r' i' := by
  by_cases h1 : c' = c ∧ n' = n ∧ r' = r
  · obtain ⟨rfl, rfl, rfl⟩ := h1
    show je_set _ _ _ _ _ _ _ _ _ = _
    rw [je_set_eq]
    unfold upd
    rw [if_neg (fun e => h ⟨rfl, rfl, rfl, e⟩)]
  · show je_set _ _ _ _ _ _ _ _ _ = _
    rw [je_set_ne h1]
theorem je_up_eq {G : je_G} {c n r i : Nat} {x : Int32} : je_up G c n r i x c n r i = x := by
  show je_set _ _ _ _ _ _ _ _ _ = _
  rw [je_set_eq]
  unfold upd
  rw [if_pos rfl]
/-- a cell's content rests on its own places alone -/
theorem je_E_ext {ad : je_C → Nat} {cA : Nat → ClassId} {G G' : je_G} {c n k : Nat} (hF : ∀ j q, k = 0 → je_nth (je_F c n) j = some (.inl q) → G c n q.1 q.2 = G' c n q.1 q.2) (hA : ∀ j r i, k = j + 1 → je_inA c j r i → G c n r i = G' c n r i) : je_E ad cA G c n k = je_E ad cA G' c n k := by
  cases k with
  | zero =>
    show (Sum.inr (c, (je_F c n).map (je_fv ad G c n)) : va_E) = Sum.inr (c, (je_F c n).map (je_fv ad G' c n))
    congr 2
    have key : ∀ (l : List ((Nat × Nat) ⊕ je_C)), (∀ j q, je_nth l j = some (.inl q) → G c n q.1 q.2 = G' c n q.1 q.2) → l.map (je_fv ad G c n) = l.map (je_fv ad G' c n) := by
      intro l
      induction l with
      | nil => intro _; rfl
      | cons a t ih =>
        intro h
        rw [List.map_cons, List.map_cons, ih (fun j q hq => h (j + 1) q hq)]
        congr 1
        cases a with
        | inl q =>
          show Value.int _ = Value.int _
          rw [h 0 q rfl]
        | inr q => rfl
    exact key _ (fun j q hq => hF j q rfl hq)
  | succ j =>
    simp only [je_E]
    cases hx : je_Ar c j with
    | none => rfl
    | some x =>
      obtain ⟨t, len, r, b⟩ := x
      have e : je_arr G c n len r b = je_arr G' c n len r b := by
        funext i
        unfold je_arr
        by_cases hi : i < len
        · rw [if_pos hi, if_pos hi]
          exact hA j r (b + i) rfl ⟨t, len, b, hx, by omega, by omega⟩
        · rw [if_neg hi, if_neg hi]
      simp only [e]
theorem je_W_ext {D : va_G} {ad : je_C → Nat} {cA : Nat → ClassId} {G G' : je_G} {H : Heap} (h : je_W D ad cA G H) (hF : ∀ c n j q, n < je_cnt c → je_nth (je_F c n) j = some (.inl q) → G c n q.1 q.2 = G' c n q.1 q.2) (hA : ∀ c n j r i, n < je_cnt c → je_inA c j r i → G c n r i = G' c n r i) : je_W D ad cA G' H := by
  intro q hq
  rw [← je_E_ext (G := G) (fun j p _ hp => hF _ _ j p hq.1 hp) (fun j r i _ hi => hA _ _ j r i hq.1 hi)]
  exact h q hq
/-- the world behind a store into one cell -/
theorem je_W_set {D : va_G} {ad : je_C → Nat} {cA : Nat → ClassId} {G G' : je_G} {H H1 : Heap} (hJ : je_inj ad) (h : je_W D ad cA G H) {q : je_C} (hq : je_ok q) (h1 : va_at D vwCl (ad q, je_E ad cA G' q.1 q.2.1 q.2.2) H1) (oq : ∀ a, a ≠ ad q → H1[a]? = H[a]?)
    (hE : ∀ q' : je_C, je_ok q' → q' ≠ q → je_E ad cA G q'.1 q'.2.1 q'.2.2 = je_E ad cA G' q'.1 q'.2.1 q'.2.2) : je_W D ad cA G' H1 := by
  intro q' hq'
  by_cases e : q' = q
  · subst e
    exact h1
  · rw [← hE q' hq' e]
    exact (h q' hq').kept (oq (ad q') (fun e2 => e (hJ q' q hq' hq e2)))
theorem je_upA_E {ad : je_C → Nat} {cA : Nat → ClassId} {G : je_G} {c n j t len r b i : Nat} {x : Int32} (h : je_Ar c j = some (t, len, r, b)) (hi : i < len) (q' : je_C) (hne : q' ≠ (c, n, j + 1)) : je_E ad cA G q'.1 q'.2.1 q'.2.2 = je_E ad cA (je_up G c n r (b + i) x) q'.1 q'.2.1 q'.2.2 := by
  obtain ⟨c', n', k'⟩ := q'
  refine je_E_ext (fun j' p hk hp => ?_) (fun j' r' i' hk hp => ?_)
  · refine (je_up_ne ?_).symm
    intro ⟨e1, e2, e3, e4⟩
    dsimp only at e1 e2 hp
    subst e1
    exact je_apX hp ⟨t, len, b, by rw [e3]; exact h, by omega, by omega⟩
  · refine (je_up_ne ?_).symm
    intro ⟨e1, e2, e3, e4⟩
    dsimp only at e1 e2 hp hk
    subst e1; subst e2; subst e3; subst e4
    have := je_apA h hi hp
    subst this
    exact hne (by rw [hk])
theorem je_upF_E {ad : je_C → Nat} {cA : Nat → ClassId} {G : je_G} {c n k : Nat} {q : Nat × Nat} {x : Int32} (h : je_nth (je_F c n) k = some (.inl q)) (q' : je_C) (hne : q' ≠ (c, n, 0)) : je_E ad cA G q'.1 q'.2.1 q'.2.2 = je_E ad cA (je_up G c n q.1 q.2 x) q'.1 q'.2.1 q'.2.2 := by
  obtain ⟨c', n', k'⟩ := q'
  refine je_E_ext (fun j' p hk hp => ?_) (fun j' r' i' hk hp => ?_)
  · refine (je_up_ne ?_).symm
    intro ⟨e1, e2, e3, e4⟩
    dsimp only at e1 e2 hp hk
    exact hne (by rw [e1, e2, hk])
  · refine (je_up_ne ?_).symm
    intro ⟨e1, e2, e3, e4⟩
    dsimp only at e1 e2 hp hk
    subst e1; subst e2; subst e3; subst e4
    exact je_apX h hp
theorem je_upF_fs {ad : je_C → Nat} {G : je_G} {c n k : Nat} {q : Nat × Nat} {x : Int32} (h : je_nth (je_F c n) k = some (.inl q)) : (je_F c n).map (je_fv ad (je_up G c n q.1 q.2 x) c n) = ((je_F c n).map (je_fv ad G c n)).set k (.int x) := by
  have key : ∀ (l : List ((Nat × Nat) ⊕ je_C)) (k : Nat), je_nth l k = some (.inl q) → (∀ j, je_nth l j = some (.inl q) → j = k) → l.map (je_fv ad (je_up G c n q.1 q.2 x) c n) = (l.map (je_fv ad G c n)).set k (.int x) := by
    intro l
    induction l with
    | nil => intro k h; cases h
    | cons a t ih =>
      intro k h hu
      cases k with
      | zero =>
        cases h
        rw [List.map_cons, List.map_cons, List.set_cons_zero]
        have e1 : je_fv ad (je_up G c n q.1 q.2 x) c n (.inl q) = .int x := by
          show Value.int _ = _
          rw [je_up_eq]
        rw [e1]
        congr 1
        refine List.map_congr_left (fun b hb => ?_)
        cases b with
        | inr z => rfl
        | inl z =>
          show Value.int _ = Value.int _
          rw [je_up_ne]
          intro ⟨_, _, e3, e4⟩
          have hz : z = q := Prod.ext e3 e4
          subst hz
          have : ∀ (t : List ((Nat × Nat) ⊕ je_C)), Sum.inl z ∈ t → ∃ j, je_nth t j = some (.inl z) := by
            intro t
            induction t with
            | nil => intro h; cases h
            | cons w t ih2 =>
              intro h
              rcases List.mem_cons.mp h with h | h
              · exact ⟨0, by rw [← h]; rfl⟩
              · obtain ⟨j, hj⟩ := ih2 h
                exact ⟨j + 1, hj⟩
          obtain ⟨j, hj⟩ := this t hb
          have := hu (j + 1) hj
          omega
      | succ k =>
        rw [List.map_cons, List.map_cons, List.set_cons_succ, ih k h (fun j hj => by have := hu (j + 1) hj; omega)]
        congr 1
        cases a with
        | inr z => rfl
        | inl z =>
          show Value.int _ = Value.int _
          rw [je_up_ne]
          intro ⟨_, _, e3, e4⟩
          have hz : z = q := Prod.ext e3 e4
          subst hz
          have := hu 0 rfl
          omega
  exact key _ k h (fun j hj => je_apF hj h)
theorem je_nth_map {α β : Type} (f : α → β) : ∀ (l : List α) (k : Nat) {v : α}, je_nth l k = some v → (l.map f)[k]? = some (f v)
  | [], k, v, h => by cases h
  | a :: t, 0, v, h => by cases h; rfl
  | a :: t, k + 1, v, h => by
    rw [List.map_cons, List.getElem?_cons_succ]
    exact je_nth_map f t k h
theorem je_P1 {D : va_G} {cl : List vw_C} {q : Nat × va_E} {H : Heap} (h : va_at D cl q H) : va_P D cl [q] H := by
  intro k q' hk
  cases k with
  | zero => cases hk; exact h
  | succ k => simp at hk
-- ===== locals =====
theorem je_get_mem {ad : je_C → Nat} {v : je_V} : ∀ (L : List (Option je_V)) (a i : Nat), je_get L a = some v → (i + a, je_e ad v) ∈ je_eL ad i L
  | [], a, i, h => by cases h
  | w :: t, 0, i, h => by
    cases (show w = some v from h)
    exact List.mem_cons_self
  | w :: t, a + 1, i, h => by
    have := je_get_mem (ad := ad) t a (i + 1) h
    rw [show i + (a + 1) = i + 1 + a by omega]
    cases w with
    | none => exact this
    | some w => exact List.mem_cons_of_mem _ this
theorem je_mem_get {ad : je_C → Nat} {q : Nat × Value} : ∀ (L : List (Option je_V)) (i : Nat), q ∈ je_eL ad i L → ∃ a v, je_get L a = some v ∧ q = (i + a, je_e ad v)
  | [], i, h => by cases h
  | none :: t, i, h => by
    obtain ⟨a, v, h1, h2⟩ := je_mem_get t (i + 1) h
    exact ⟨a + 1, v, h1, by rw [h2, show i + (a + 1) = i + 1 + a by omega]⟩
  | some w :: t, i, h => by
    rcases List.mem_cons.mp h with h | h
    · exact ⟨0, w, rfl, h⟩
    · obtain ⟨a, v, h1, h2⟩ := je_mem_get t (i + 1) h
      exact ⟨a + 1, v, h1, by rw [h2, show i + (a + 1) = i + 1 + a by omega]⟩
theorem je_get_in {v : je_V} : ∀ (L : List (Option je_V)) (a : Nat), je_get L a = some v → some v ∈ L
  | [], a, h => by cases h
  | w :: t, 0, h => by
    cases (show w = some v from h)
    exact List.mem_cons_self
  | w :: t, a + 1, h => List.mem_cons_of_mem _ (je_get_in t a h)
theorem je_in_get {v : je_V} : ∀ (L : List (Option je_V)), some v ∈ L → ∃ a, je_get L a = some v
  | [], h => by cases h
  | w :: t, h => by
    rcases List.mem_cons.mp h with h | h
    · exact ⟨0, h.symm⟩
    · obtain ⟨a, ha⟩ := je_in_get t h
      exact ⟨a + 1, ha⟩
theorem je_put_inv {v : Option je_V} : ∀ (L : List (Option je_V)) (a : Nat) (F : List (Option je_V) → Prop), je_put L a v F → ∃ L', F L' ∧ a < L.length ∧ L'.length = L.length ∧ ∀ j, je_get L' j = if j = a then v else je_get L j
  | [], a, F, h => by cases h
  | w :: t, 0, F, h => by
    refine ⟨v :: t, h, by simp, by simp, fun j => ?_⟩
    cases j with
    | zero => rfl
    | succ j => rw [if_neg (by omega)]; rfl
  | w :: t, a + 1, F, h => by
    obtain ⟨t', h1, h2, h3, h4⟩ := je_put_inv t a _ h
    refine ⟨w :: t', h1, by simp; exact h2, by simp [h3], fun j => ?_⟩
    cases j with
    | zero => rw [if_neg (by omega)]; rfl
    | succ j =>
      show je_get t' j = _
      rw [h4 j]
      by_cases hj : j = a
      · rw [if_pos hj, if_pos (by omega)]
      · rw [if_neg hj, if_neg (by omega)]; rfl
theorem je_nl_ok {L : List (Option je_V)} {a j : Nat} {v : je_V} (h : je_nl L a = true) (hj : j + 1 = a) (hg : je_get L j = some v) (ad : je_C → Nat) : ((je_e ad v).category == 2) = false := by
  subst hj
  unfold je_nl at h
  simp only [hg] at h
  rcases v with x | x | x
  · rfl
  · cases h
  · cases x <;> rfl
theorem lv_mono {ls : Array Slot} {n : Nat} {l l' : List (Nat × Value)} (h : lv_has ls n l) (hs : ∀ q ∈ l', q ∈ l) : lv_has ls n l' := ⟨h.1, h.2.1, fun q hq => h.2.2 q (hs q hq)⟩
theorem je_st1 {ad : je_C → Nat} {L L' : List (Option je_V)} {a : Nat} {v : je_V} (hn : je_nl L a = true) (hg : ∀ j, je_get L' j = if j = a then some v else je_get L j) : ∀ q ∈ je_eL ad 0 L', q ∈ (a, je_e ad v) :: (je_eL ad 0 L).filter (fun q => !(q.1 == a) && !(q.1 + 1 == a && q.2.category == 2)) := by
  intro q hq
  obtain ⟨j, w, h1, h2⟩ := je_mem_get L' 0 hq
  rw [hg j] at h1
  subst h2
  rw [Nat.zero_add]
  by_cases hj : j = a
  · rw [if_pos hj] at h1
    cases h1
    rw [hj]
    exact List.mem_cons_self
  · rw [if_neg hj] at h1
    refine List.mem_cons_of_mem _ (List.mem_filter.mpr ⟨by have := je_get_mem (ad := ad) L j 0 h1; rwa [Nat.zero_add] at this, ?_⟩)
    have e1 : (j == a) = false := by simp [hj]
    by_cases hj2 : j + 1 = a
    · have e2 := je_nl_ok hn hj2 h1 ad
      simp only [e1, e2, Bool.and_false, Bool.not_false, Bool.and_true]
    · have e2 : (j + 1 == a) = false := by simp [hj2]
      simp only [e1, e2, Bool.false_and, Bool.not_false, Bool.and_true]
theorem je_st2 {ad : je_C → Nat} {L L1 L2 : List (Option je_V)} {a : Nat} {v : je_V} (hn : je_nl L a = true) (hg : ∀ j, je_get L1 j = if j = a then some v else je_get L j) (hg2 : ∀ j, je_get L2 j = if j = a + 1 then none else je_get L1 j) : ∀ q ∈ je_eL ad 0 L2, q ∈ (a, je_e ad v) :: (je_eL ad 0 L).filter (fun q => !(q.1 == a) && (!(q.1 == a + 1) && !(q.1 + 1 == a && q.2.category == 2))) := by
  intro q hq
  obtain ⟨j, w, h1, h2⟩ := je_mem_get L2 0 hq
  rw [hg2 j] at h1
  subst h2
  rw [Nat.zero_add]
  by_cases hj3 : j = a + 1
  · rw [if_pos hj3] at h1
    cases h1
  rw [if_neg hj3, hg j] at h1
  by_cases hj : j = a
  · rw [if_pos hj] at h1
    cases h1
    rw [hj]
    exact List.mem_cons_self
  · rw [if_neg hj] at h1
    refine List.mem_cons_of_mem _ (List.mem_filter.mpr ⟨by have := je_get_mem (ad := ad) L j 0 h1; rwa [Nat.zero_add] at this, ?_⟩)
    have e1 : (j == a) = false := by simp [hj]
    have e3 : (j == a + 1) = false := by simp [hj3]
    by_cases hj2 : j + 1 = a
    · have e2 := je_nl_ok hn hj2 h1 ad
      simp only [e1, e2, e3, Bool.and_false, Bool.not_false, Bool.and_true]
    · have e2 : (j + 1 == a) = false := by simp [hj2]
      simp only [e1, e2, e3, Bool.false_and, Bool.not_false, Bool.and_true]
end
section
/-! ONE STEP IS SOUND: the propositional step gives the machine's -/
theorem je_i1_inv {S : List je_V} {F : Int32 → List je_V → Prop} (h : je_i1 S F) : ∃ x S', S = jI x :: S' ∧ F x S' := by
  unfold je_i1 at h
  split at h
  · exact ⟨_, _, rfl, h⟩
  · exact h.elim
theorem je_l1_inv {S : List je_V} {F : Int64 → List je_V → Prop} (h : je_l1 S F) : ∃ x S', S = jL x :: S' ∧ F x S' := by
  unfold je_l1 at h
  split at h
  · exact ⟨_, _, rfl, h⟩
  · exact h.elim
theorem je_r1_inv {S : List je_V} {F : Option je_C → List je_V → Prop} (h : je_r1 S F) : ∃ x S', S = .inr (.inr x) :: S' ∧ F x S' := by
  unfold je_r1 at h
  split at h
  · exact ⟨_, _, rfl, h⟩
  · exact h.elim
theorem je_v1_inv {S : List je_V} {F : je_V → List je_V → Prop} (h : je_v1 S F) : ∃ v S', S = v :: S' ∧ F v S' ∧ ∀ ad : je_C → Nat, (je_e ad v).category = 1 := by
  unfold je_v1 at h
  split at h
  · exact ⟨_, _, rfl, h, fun ad => rfl⟩
  · rename_i x S'
    exact ⟨_, _, rfl, h, fun ad => by cases x <;> rfl⟩
  · exact h.elim
theorem je_i2_inv {S : List je_V} {F : Int32 → Int32 → List je_V → Prop} (h : je_i2 S F) : ∃ y x S', S = jI y :: jI x :: S' ∧ F y x S' := by
  obtain ⟨y, S1, e, h⟩ := je_i1_inv h
  obtain ⟨x, S2, e2, h⟩ := je_i1_inv h
  subst e; subst e2
  exact ⟨y, x, S2, rfl, h⟩
theorem je_l2_inv {S : List je_V} {F : Int64 → Int64 → List je_V → Prop} (h : je_l2 S F) : ∃ y x S', S = jL y :: jL x :: S' ∧ F y x S' := by
  obtain ⟨y, S1, e, h⟩ := je_l1_inv h
  obtain ⟨x, S2, e2, h⟩ := je_l1_inv h
  subst e; subst e2
  exact ⟨y, x, S2, rfl, h⟩
theorem je_c1_inv {S : List je_V} {F : Nat → Nat → Nat → List je_V → Prop} (h : je_c1 S F) : ∃ c n k S', S = jR (c, n, k) :: S' ∧ F c n k S' := by
  obtain ⟨x, S1, e, h⟩ := je_r1_inv h
  cases x with
  | none => exact h.elim
  | some q => exact ⟨q.1, q.2.1, q.2.2, S1, e, h⟩
theorem je_gi_inv {o : Option je_V} {F : Int32 → Prop} (h : je_gi o F) : ∃ x, o = some (jI x) ∧ F x := by
  unfold je_gi at h
  split at h
  · exact ⟨_, rfl, h⟩
  · exact h.elim
theorem je_gl_inv {o : Option je_V} {F : Int64 → Prop} (h : je_gl o F) : ∃ x, o = some (jL x) ∧ F x := by
  unfold je_gl at h
  split at h
  · exact ⟨_, rfl, h⟩
  · exact h.elim
theorem je_gr_inv {o : Option je_V} {F : Option je_C → Prop} (h : je_gr o F) : ∃ x, o = some (.inr (.inr x)) ∧ F x := by
  unfold je_gr at h
  split at h
  · exact ⟨_, rfl, h⟩
  · exact h.elim
theorem je_bb_inv {b : Bool} {P : Prop} (h : je_bb b P) : b = true ∧ P := by
  cases b with
  | true => exact ⟨rfl, h⟩
  | false => exact h.elim
theorem je_zz_inv {b : Bool} {x : Int32} {P : Prop} (h : je_zz b x P) : (b = true → x = 0 ∨ x = 1) ∧ P := by
  cases b with
  | true => exact ⟨fun _ => h.1, h.2⟩
  | false => exact ⟨fun h => (by cases h), h⟩
theorem je_ald_inv {t : Nat} {S : List je_V} {F : Int32 → je_G → Nat → Nat → Nat → Nat → Nat → List je_V → Prop} {G : je_G} (h : je_ald t S F G) : ∃ i c n j len r b S', S = jI i :: jR (c, n, j + 1) :: S' ∧ je_Ar c j = some (t, len, r, b) ∧ vp_in i len ∧ F i G c n len r b S' := by
  obtain ⟨i, S1, e, h⟩ := je_i1_inv h
  obtain ⟨c, n, k, S2, e2, h⟩ := je_c1_inv h
  cases k with
  | zero => exact h.elim
  | succ j =>
    try dsimp only at h
    cases hx : je_Ar c j with
    | none => rw [hx] at h; exact h.elim
    | some x =>
      obtain ⟨t', len, r, b⟩ := x
      rw [hx] at h
      have h5 : je_bb (Nat.beq t t') (vp_in i len ∧ F i G c n len r b S2) := h
      obtain ⟨hb, h6⟩ := je_bb_inv h5
      have ht : t = t' := Nat.eq_of_beq_eq_true hb
      subst ht; subst e; subst e2
      exact ⟨i, c, n, j, len, r, b, S2, rfl, hx, h6.1, h6.2⟩
/-- what the instruction of a row is, and what it links -/
def je_okI (own : String) (cc : ByteArray) (Ts : List Jvm.Cond) (pc : Nat) (t : je_I) : Prop :=
  match t with
  | (i, nx, a, b, tg, v) => decode cc pc = .ok (i, nx - pc) ∧ match i with
    | .iconst n => nx = pc + 1 ∧ Int32.ofInt n = v
    | .bipush n => nx = pc + 2 ∧ (Int8.ofInt n).toInt32 = v
    | .sipush n => nx = pc + 3 ∧ (Int16.ofInt n).toInt32 = v
    | .ldc_w k => nx = pc + 3 ∧ Jvm.Cond.constant own k v ∈ Ts
    | .lconst n => nx = pc + 1 ∧ (n : Nat) = a
    | .ldc2_w k => nx = pc + 3 ∧ Jvm.Cond.constantLong own k (Int64.ofNat a) ∈ Ts
    | .iload_n k => nx = pc + 1 ∧ (k : Nat) = a
    | .iload k => nx = pc + 2 ∧ k = a
    | .lload_n k => nx = pc + 1 ∧ (k : Nat) = a
    | .aload_n k => nx = pc + 1 ∧ (k : Nat) = a
    | .istore_n k => nx = pc + 1 ∧ (k : Nat) = a
    | .istore k => nx = pc + 2 ∧ k = a
    | .lstore_n k => nx = pc + 1 ∧ (k : Nat) = a
    | .iinc k n => nx = pc + 3 ∧ k = a ∧ Int32.ofInt n = v
    | .ifCond _ off => nx = pc + 3 ∧ (pc : Int) + off = (a : Int)
    | .if_icmp _ off => nx = pc + 3 ∧ (pc : Int) + off = (a : Int)
    | .goto off => (nx = pc + 3) ∧ (pc : Int) + off = (a : Int)
    | .ifnull off => nx = pc + 3 ∧ (pc : Int) + off = (a : Int)
    | .tableswitch d lo hi offs => pc < nx ∧ (pc : Int) + d = (a : Int) ∧ (tg.length : Int) = hi - lo + 1 ∧ -1000 < lo ∧ hi < 1000 ∧ ∀ j : Fin tg.length, (tg[j.val]).2 = Int32.ofInt (lo + (j.val : Int)) ∧ ∃ off : Int, offs[j.val]? = some off ∧ (pc : Int) + off = ((tg[j.val]).1 : Int)
    | .getfield k => nx = pc + 3 ∧ match vwCl[a]? with
      | some r => b < r.2.2 ∧ Jvm.Cond.fieldLink own k (r.2.1 b).1 (r.2.1 b).2.1 (r.2.1 b).2.2.1 ∈ Ts ∧ ∀ w ∈ u_ws r.1 r.2.1 r.2.2, w ∈ Ts
      | none => False
    | .putfield k => nx = pc + 3 ∧ match vwCl[a]? with
      | some r => b < r.2.2 ∧ Jvm.Cond.fieldLink own k (r.2.1 b).1 (r.2.1 b).2.1 (r.2.1 b).2.2.1 ∈ Ts ∧ (∀ w ∈ u_ws r.1 r.2.1 r.2.2, w ∈ Ts) ∧ (r.2.1 b).2.2.2 = false ∧ parseFieldDescriptor (r.2.1 b).2.2.1 = some (match je_isZ a b with | true => .boolean | false => .int)
      | none => False
    | .invokestatic k => nx = pc + 3 ∧ Jvm.Cond.initialized "java/lang/Math" ∈ Ts ∧ match b with
      | 1 => Jvm.Cond.methodLink own k Lib.Math.max.name ∈ Ts ∧ Jvm.Cond.static Lib.Math.max.name ∈ Ts ∧ Jvm.Cond.code Lib.Math.max.name Lib.Math.max.code 2 (some .int) ∈ Ts
      | 2 => Jvm.Cond.methodLink own k Lib.Math.min.name ∈ Ts ∧ Jvm.Cond.static Lib.Math.min.name ∈ Ts ∧ Jvm.Cond.code Lib.Math.min.name Lib.Math.min.code 2 (some .int) ∈ Ts
      | _ => False
    | _ => nx = pc + 1
def je_oks (S : List je_V) : Prop := ∀ q, jR q ∈ S → je_ok q
def je_okL (L : List (Option je_V)) : Prop := ∀ q, some (jR q) ∈ L → je_ok q
theorem je_oks_tl {v : je_V} {S : List je_V} (h : je_oks (v :: S)) : je_oks S := fun q hq => h q (List.mem_cons_of_mem _ hq)
theorem je_oks_hd {q : je_C} {S : List je_V} (h : je_oks (jR q :: S)) : je_ok q := h q List.mem_cons_self
theorem je_oks_i {x : Int32} {S : List je_V} (h : je_oks S) : je_oks (jI x :: S) := fun q hq => by
  rcases List.mem_cons.mp hq with h1 | h1
  · cases h1
  · exact h q h1
theorem je_oks_l {x : Int64} {S : List je_V} (h : je_oks S) : je_oks (jL x :: S) := fun q hq => by
  rcases List.mem_cons.mp hq with h1 | h1
  · cases h1
  · exact h q h1
theorem je_oks_r {p : je_C} {S : List je_V} (hp : je_ok p) (h : je_oks S) : je_oks (jR p :: S) := fun q hq => by
  rcases List.mem_cons.mp hq with h1 | h1
  · cases h1; exact hp
  · exact h q h1
theorem je_oks_n {S : List je_V} (h : je_oks S) : je_oks (jN :: S) := fun q hq => by
  rcases List.mem_cons.mp hq with h1 | h1
  · cases h1
  · exact h q h1
theorem je_okL_put {L L' : List (Option je_V)} {a : Nat} {v : Option je_V} (h : je_okL L) (hv : ∀ q, v = some (jR q) → je_ok q) (hg : ∀ j, je_get L' j = if j = a then v else je_get L j) : je_okL L' := by
  intro q hq
  obtain ⟨j, hj⟩ := je_in_get L' hq
  rw [hg j] at hj
  by_cases e : j = a
  · rw [if_pos e] at hj
    exact hv q hj
  · rw [if_neg e] at hj
    exact h q (je_get_in L j hj)
/-- the judgement: from here the machine comes to Q, whatever the heap is that holds the world, whatever the slots are that hold the locals -/
def je_J (p : Program) (l : Launch) (e : Env) (R : Room) (s : State) (m : MethodId) (args : Array Value) (below : List Frame) (meth : Method) (c : Code) (cells slots : Nat) (Q : State → Prop) (D : va_G) (ad : je_C → Nat) (cA : Nat → ClassId) (nL : Nat) (H0 : Heap) : je_K := fun G pc L S =>
  L.length ≤ nL → je_okL L → je_oks S → ∀ (H : Heap) (locs : List Loc) (ls : Array Slot), je_W D ad cA G H → va_S (je_A ad) H0 H locs → lv_has ls nL (je_eL ad 0 L) → W p l e R s m args below meth c H locs cells slots Q (F0 m pc ls (S.map (je_e ad)))
theorem je_cat_e (ad : je_C → Nat) (v : je_V) : (je_e ad v).category = je_cat v := by
  rcases v with x | x | x
  · rfl
  · rfl
  · cases x <;> rfl
theorem je_sm_e (ad : je_C → Nat) : ∀ S : List je_V, ((S.map (je_e ad)).map fun v => v.category).sum = je_sm S
  | [] => rfl
  | v :: t => by
    rw [List.map_cons, List.map_cons, List.sum_cons, je_sm_e ad t, je_cat_e]
    rfl
theorem je_look_mem : ∀ (tbl : List (Nat × je_I)) (pc : Nat) {t : je_I}, je_look tbl pc = some t → (pc, t) ∈ tbl
  | [], pc, t, h => by cases h
  | q :: tbl, pc, t, h => by
    unfold je_look at h
    split at h
    · rename_i hb
      have := Nat.eq_of_beq_eq_true hb
      cases h
      subst this
      exact List.mem_cons_self
    · exact List.mem_cons_of_mem _ (je_look_mem tbl pc h)
theorem je_tys {r : vw_C} {a : Nat} (h : vwCl[a]? = some r) : (∃ ty : Nat → FieldType, ∀ k, k < r.2.2 → parseFieldDescriptor (r.2.1 k).2.2.1 = some (ty k)) ∧ (∀ x, x < r.2.2 → ∀ y, y < r.2.2 → x ≠ y → (r.2.1 x).2.1 ≠ (r.2.1 y).2.1) := by
  match a, h with
  | 0, h => cases h; exact ⟨⟨tyX0, tyX0_ok⟩, nmX0⟩
  | 1, h => cases h; exact ⟨⟨tyX1, tyX1_ok⟩, nmX1⟩
  | 2, h => cases h; exact ⟨⟨tyX2, tyX2_ok⟩, nmX2⟩
  | 3, h => cases h; exact ⟨⟨tyX3, tyX3_ok⟩, nmX3⟩
  | 4, h => cases h; exact ⟨⟨tyX4, tyX4_ok⟩, nmX4⟩
  | 5, h => cases h; exact ⟨⟨tyX5, tyX5_ok⟩, nmX5⟩
  | 6, h => cases h; exact ⟨⟨tyX6, tyX6_ok⟩, nmX6⟩
  | a + 7, h => simp [vwCl] at h
theorem je_F_ok {c n j : Nat} {q : je_C} (hn : n < je_cnt c) (h : je_nth (je_F c n) j = some (.inr q)) : je_ok q := by
  unfold je_F at h
  split at h <;>
    (rcases j with _ | _ | _ | _ | _ | _ | _ | _ | _ | _ | _ | _ | _ | _ | _ | _ | j <;>
      first
        | (simp [je_nth] at h; done)
        | (simp only [je_nth, Option.some.injEq, Sum.inr.injEq] at h; subst h; first | exact ⟨hn, rfl⟩ | exact ⟨by decide, rfl⟩))
theorem je_Ra_ok {c j i : Nat} {q : Nat × Nat} (h : je_Ra c j = some q) (hi : i < q.1) : je_ok (1, q.2 + i, 0) := by
  unfold je_Ra at h
  split at h
  · split at h
    · cases h
      exact ⟨by show 1 + i < 10; dsimp only at hi; omega, rfl⟩
    · cases h
      exact ⟨by show 7 + i < 10; dsimp only at hi; omega, rfl⟩
    · cases h
  · cases h
theorem je_Ra_E {ad : je_C → Nat} {cA : Nat → ClassId} {G : je_G} {c n j : Nat} {q : Nat × Nat} (h : je_Ra c j = some q) : je_E ad cA G c n (j + 1) = .inl (cA 2, q.1, .inr (.inr (.inr (.inr (fun i => some (ad (1, q.2 + i, 0))))))) := by
  unfold je_Ra at h
  split at h
  · split at h
    · cases h; rfl
    · cases h; rfl
    · cases h
  · cases h
theorem je_Ar_E {ad : je_C → Nat} {cA : Nat → ClassId} {G : je_G} {c n j t len r b : Nat} (h : je_Ar c j = some (t, len, r, b)) : je_E ad cA G c n (j + 1) = .inl (cA t, len, .inl (je_arr G c n len r b)) := by
  simp only [je_E, h]
end
section
/-! ONE STEP IS SOUND, instruction by instruction (laid by wip/whole/gen/gen_sound.py) -/
section JE
variable {p : Program} {l : Launch} {e : Env} {R : Room} {s : State} {m : MethodId} {args : Array Value} {below : List Frame} {meth : Method} {c : Code} {cells slots : Nat} {Q : State → Prop} {D : va_G} {ad : je_C → Nat} {cA : Nat → ClassId} {nL : Nat} {H0 : Heap} {cc : ByteArray} {own : String} {Ts : List Jvm.Cond}
theorem je_s_get (hx : p.tables.exec = Jvm.exec) (hb : c.code = cc) (hown : s.vm.findClass own = some m.cls) (hts : ∀ w ∈ Ts, w.before args s = true) (hK : va_K D vwCl (je_T cA) s) {pc a b k : Nat} {r : vw_C} (hr : vwCl[a]? = some r) (hbr : b < r.2.2) (hlink : Jvm.Cond.fieldLink own k (r.2.1 b).1 (r.2.1 b).2.1 (r.2.1 b).2.2.1 ∈ Ts) (hin : ∀ w ∈ u_ws r.1 r.2.1 r.2.2, w ∈ Ts) (hd : decode cc pc = .ok (.getfield k, 3)) {n : Nat} (hok : je_ok (a, n, 0)) {f : (Nat × Nat) ⊕ je_C} (hf : je_nth (je_F a n) b = some f)
    {G : je_G} {H : Heap} {locs : List Loc} {ls : Array Slot} {rest : List Value} (hW : je_W D ad cA G H) (kk : W p l e R s m args below meth c H locs cells slots Q (F0 m (pc + 3) ls (je_fv ad G a n f :: rest))) : W p l e R s m args below meth c H locs cells slots Q (F0 m pc ls (.ref (ad (a, n, 0)) :: rest)) := by
  obtain ⟨C, T, N⟩ := r
  exact va_get (own := own) (ref := (T b).1) (C := C) (T := T) (N := N) (ci := a) hx hb hts hin hown hK (je_P1 (hW _ hok)) 0 (fs := (je_F a n).map (je_fv ad G a n)) rfl hr b hbr (hts _ hlink) (fun _ h => h) (je_nth_map _ _ _ hf) hd kk
theorem je_s_put (hx : p.tables.exec = Jvm.exec) (hb : c.code = cc) (hown : s.vm.findClass own = some m.cls) (hts : ∀ w ∈ Ts, w.before args s = true) (hK : va_K D vwCl (je_T cA) s) (hJ : je_inj ad) {pc a b k : Nat} {r : vw_C} (hr : vwCl[a]? = some r) (hbr : b < r.2.2) (hlink : Jvm.Cond.fieldLink own k (r.2.1 b).1 (r.2.1 b).2.1 (r.2.1 b).2.2.1 ∈ Ts) (hin : ∀ w ∈ u_ws r.1 r.2.1 r.2.2, w ∈ Ts) (hfin : (r.2.1 b).2.2.2 = false) {ty : FieldType} (hty : parseFieldDescriptor (r.2.1 b).2.2.1 = some ty) {x : Int32} (hn : narrow ty (.int x) = .int x) (hfit : fits ty (.int x) = true) (hd : decode cc pc = .ok (.putfield k, 3)) {n : Nat} (hok : je_ok (a, n, 0)) {q : Nat × Nat} (hf : je_nth (je_F a n) b = some (.inl q))
    {G : je_G} {H : Heap} {locs : List Loc} {ls : Array Slot} {rest : List Value} (hW : je_W D ad cA G H) (hS : va_S (je_A ad) H0 H locs) (kk : ∀ (H1 : Heap) (locs1 : List Loc), je_W D ad cA (je_up G a n q.1 q.2 x) H1 → va_S (je_A ad) H0 H1 locs1 → W p l e R s m args below meth c H1 locs1 cells slots Q (F0 m (pc + 3) ls rest)) : W p l e R s m args below meth c H locs cells slots Q (F0 m pc ls (.int x :: .ref (ad (a, n, 0)) :: rest)) := by
  obtain ⟨C, T, N⟩ := r
  obtain ⟨⟨ty0, hty0⟩, hnm⟩ := je_tys hr
  have hap := va_apart (own := own) hts hin ty0 hty0 hnm hK hr
  have hcell := hW _ hok
  obtain ⟨r, h1, cell, q1, q2, q3, q4⟩ := hcell
  have hr' : r = (C, T, N) := Option.some.inj (h1.symm.trans hr)
  subst hr'
  obtain ⟨hSl, hfc, kC, hkC, hkind⟩ := hK.1 a _ hr
  obtain ⟨cf, kf, fi, f, hi, hsl⟩ := hSl b hbr
  have hlay := hts _ (hin _ (u_in_lay hbr))
  unfold u_lay at hlay
  rw [if_neg (by rw [hfin]; decide)] at hlay
  have hst := (u_facts hfc hkC (u_lays hts hin hbr) hi).1
  have h6 := u_store hfc hkC hkind hlay hi hty hn hfit
  refine W.putK hx hb (f := f) ⟨hown, hts _ hlink, ⟨_, _, _, hi⟩, hst⟩ (by rw [q2]; exact h6) q1 q3 (by rw [hsl]; exact k2_hasslot (q4 b hbr)) rfl rfl hd fun H' e1 e2 e3 => ?_
  rw [hsl] at e1 ⊢
  have hlen : b < ((je_F a n).map (je_fv ad G a n)).length := (List.getElem?_eq_some_iff.mp (je_nth_map (je_fv ad G a n) _ _ hf)).1
  refine kk H' _ (je_W_set hJ hW hok ?_ e3 (fun q' _ hne => je_upF_E hf q' hne)) (hS.put e2 e3 ⟨_, hok, rfl⟩)
  show va_at D vwCl (ad (a, n, 0), .inr (a, (je_F a n).map (je_fv ad (je_up G a n q.1 q.2 x) a n))) H'
  rw [je_upF_fs hf]
  exact ⟨_, hr, t_OB.to (V := updV (vp_V ((je_F a n).map (je_fv ad G a n))) b (.int x)) ⟨_, e1, q2, q3, t_set q4 hap hbr (.int x)⟩ (fun j _ => vp_updV_set hlen (.int x) j)⟩
theorem je_arr_set {G : je_G} {c n r b len i : Nat} {x : Int32} (hi : i < len) : updV (fun j => .int (je_arr G c n len r b j)) i (.int x) = fun j => .int (je_arr (je_up G c n r (b + i) x) c n len r b j) := by
  funext j
  unfold updV
  by_cases hj : j = i
  · subst hj
    unfold je_arr
    rw [if_pos rfl, if_pos hi, je_up_eq]
  · rw [if_neg hj]
    show Value.int (je_arr G c n len r b j) = Value.int (je_arr _ c n len r b j)
    unfold je_arr
    by_cases hl : j < len
    · rw [if_pos hl, if_pos hl, je_up_ne (by omega)]
    · rw [if_neg hl, if_neg hl]
theorem je_arr_at {G : je_G} {c n r b len : Nat} {i : Int32} (h : vp_in i len) : je_arr G c n len r b i.toNatClampNeg = G c n r (b + i.toNatClampNeg) := by
  unfold je_arr
  rw [if_pos (Nat.not_le.mp fun q => h (Or.inr q))]
theorem je_s_iald (hx : p.tables.exec = Jvm.exec) (hb : c.code = cc) (hK : va_K D vwCl (je_T cA) s) {pc c' n j len r b : Nat} (hA : je_Ar c' j = some (0, len, r, b)) {i : Int32} (hi : vp_in i len) (hd : decode cc pc = .ok (.iaload, 1)) (hok : je_ok (c', n, j + 1))
    {G : je_G} {H : Heap} {locs : List Loc} {ls : Array Slot} {rest : List Value} (hW : je_W D ad cA G H) (kk : W p l e R s m args below meth c H locs cells slots Q (F0 m (pc + 1) ls (.int (G c' n r (b + i.toNatClampNeg)) :: rest))) : W p l e R s m args below meth c H locs cells slots Q (F0 m pc ls (.int i :: .ref (ad (c', n, j + 1)) :: rest)) := by
  have h1 := hW _ hok
  dsimp only at h1
  rw [je_Ar_E hA] at h1
  refine va_iald (D := D) (cl := vwCl) (tys := je_T cA) (f := je_arr G c' n len r b) (n := len) (cA := cA 0) hx hb hK (je_P1 h1) 0 0 rfl rfl hi hd ?_
  rw [je_arr_at hi]
  exact kk
theorem je_s_zald (hx : p.tables.exec = Jvm.exec) (hb : c.code = cc) (hK : va_K D vwCl (je_T cA) s) {pc c' n j len r b : Nat} (hA : je_Ar c' j = some (1, len, r, b)) {i : Int32} (hi : vp_in i len) (hd : decode cc pc = .ok (.baload, 1)) (hok : je_ok (c', n, j + 1))
    {G : je_G} {H : Heap} {locs : List Loc} {ls : Array Slot} {rest : List Value} (hW : je_W D ad cA G H) (kk : W p l e R s m args below meth c H locs cells slots Q (F0 m (pc + 1) ls (.int (G c' n r (b + i.toNatClampNeg)) :: rest))) : W p l e R s m args below meth c H locs cells slots Q (F0 m pc ls (.int i :: .ref (ad (c', n, j + 1)) :: rest)) := by
  have h1 := hW _ hok
  dsimp only at h1
  rw [je_Ar_E hA] at h1
  refine va_zald (D := D) (cl := vwCl) (tys := je_T cA) (f := je_arr G c' n len r b) (n := len) (cA := cA 1) hx hb hK (je_P1 h1) 0 1 rfl rfl hi hd ?_
  rw [je_arr_at hi]
  exact kk
theorem je_s_aald (hx : p.tables.exec = Jvm.exec) (hb : c.code = cc) (hK : va_K D vwCl (je_T cA) s) {pc c' n j : Nat} {q : Nat × Nat} (hA : je_Ra c' j = some q) {i : Int32} (hi : vp_in i q.1) (hd : decode cc pc = .ok (.aaload, 1)) (hok : je_ok (c', n, j + 1))
    {G : je_G} {H : Heap} {locs : List Loc} {ls : Array Slot} {rest : List Value} (hW : je_W D ad cA G H) (kk : W p l e R s m args below meth c H locs cells slots Q (F0 m (pc + 1) ls (.ref (ad (1, q.2 + i.toNatClampNeg, 0)) :: rest))) : W p l e R s m args below meth c H locs cells slots Q (F0 m pc ls (.int i :: .ref (ad (c', n, j + 1)) :: rest)) := by
  have h1 := hW _ hok
  dsimp only at h1
  rw [je_Ra_E hA] at h1
  exact va_aldq (D := D) (cl := vwCl) (tys := je_T cA) (n := q.1) (cA := cA 2) (C := "RopedHalls$Hall") (f := fun i => some (ad (1, q.2 + i, 0))) hx hb hK (je_P1 h1) 0 2 rfl rfl hi hd kk
theorem je_s_iast (hx : p.tables.exec = Jvm.exec) (hb : c.code = cc) (hK : va_K D vwCl (je_T cA) s) (hJ : je_inj ad) {pc c' n j len r b : Nat} (hA : je_Ar c' j = some (0, len, r, b)) {i x : Int32} (hi : vp_in i len) (hd : decode cc pc = .ok (.iastore, 1)) (hok : je_ok (c', n, j + 1))
    {G : je_G} {H : Heap} {locs : List Loc} {ls : Array Slot} {rest : List Value} (hW : je_W D ad cA G H) (hS : va_S (je_A ad) H0 H locs) (kk : ∀ (H1 : Heap) (locs1 : List Loc), je_W D ad cA (je_up G c' n r (b + i.toNatClampNeg) x) H1 → va_S (je_A ad) H0 H1 locs1 → W p l e R s m args below meth c H1 locs1 cells slots Q (F0 m (pc + 1) ls rest)) : W p l e R s m args below meth c H locs cells slots Q (F0 m pc ls (.int x :: .int i :: .ref (ad (c', n, j + 1)) :: rest)) := by
  have hlt : i.toNatClampNeg < len := Nat.not_le.mp fun q => hi (Or.inr q)
  have h1 := hW _ hok
  dsimp only at h1
  rw [je_Ar_E hA] at h1
  refine W.iast hx hb h1 ((hK.2 0 _ rfl).1 len (fun q => .int (je_arr G c' n len r b q))) (fun q => by cases q) (by show ¬ (i < 0 ∨ (arrV _ _ _).slots.size ≤ _); rw [arrV_size]; exact hi) rfl rfl hd fun H1 e1 z oq => ?_
  refine kk H1 _ (je_W_set hJ hW hok ?_ oq (fun q' _ hne => je_upA_E hA hlt q' hne)) (hS.put z oq ⟨_, hok, rfl⟩)
  dsimp only
  rw [je_Ar_E hA]
  show H1[ad (c', n, j + 1)]? = some (vp_cell _ _)
  rw [e1, vp_cell_i, vp_cell_i, arrV_store, je_arr_set hlt]
theorem je_s_zast (hx : p.tables.exec = Jvm.exec) (hb : c.code = cc) (hK : va_K D vwCl (je_T cA) s) (hJ : je_inj ad) {pc c' n j len r b : Nat} (hA : je_Ar c' j = some (1, len, r, b)) {i x : Int32} (hi : vp_in i len) (h01 : x = 0 ∨ x = 1) (hd : decode cc pc = .ok (.bastore, 1)) (hok : je_ok (c', n, j + 1))
    {G : je_G} {H : Heap} {locs : List Loc} {ls : Array Slot} {rest : List Value} (hW : je_W D ad cA G H) (hS : va_S (je_A ad) H0 H locs) (kk : ∀ (H1 : Heap) (locs1 : List Loc), je_W D ad cA (je_up G c' n r (b + i.toNatClampNeg) x) H1 → va_S (je_A ad) H0 H1 locs1 → W p l e R s m args below meth c H1 locs1 cells slots Q (F0 m (pc + 1) ls rest)) : W p l e R s m args below meth c H locs cells slots Q (F0 m pc ls (.int x :: .int i :: .ref (ad (c', n, j + 1)) :: rest)) := by
  have hlt : i.toNatClampNeg < len := Nat.not_le.mp fun q => hi (Or.inr q)
  have h1 := hW _ hok
  dsimp only at h1
  rw [je_Ar_E hA] at h1
  have hn : narrow .boolean (.int x) = .int x := by rcases h01 with rfl | rfl <;> rfl
  refine W.zast hx hb h1 ((hK.2 1 _ rfl).1 len (fun q => .int (je_arr G c' n len r b q))) (fun q => by cases q) (by show ¬ (i < 0 ∨ (arrV _ _ _).slots.size ≤ _); rw [arrV_size]; exact hi) rfl rfl hd fun H1 e1 z oq => ?_
  refine kk H1 _ (je_W_set hJ hW hok ?_ oq (fun q' _ hne => je_upA_E hA hlt q' hne)) (hS.put z oq ⟨_, hok, rfl⟩)
  dsimp only
  rw [je_Ar_E hA]
  show H1[ad (c', n, j + 1)]? = some (vp_cell _ _)
  rw [e1, hn, vp_cell_i, vp_cell_i, arrV_store, je_arr_set hlt]

theorem va_tsInt {lo hi : Int} {k : Nat} (h1 : -1000 < lo) (h2 : hi < 1000) (h3 : lo + (k : Int) ≤ hi) : (Int32.ofInt (lo + (k : Int))).toInt = lo + (k : Int) := by
  rw [Int32.toInt_ofInt]
  exact Int.bmod_eq_of_le (by simp [Int32.size]; omega) (by simp [Int32.size]; omega)
theorem je_cond_ok {A B : Prop} {op : ClassFile.Cond} {x y : Int32} (h : je_cond op x y A B) : je_cond op x y A B := h
set_option maxHeartbeats 4000000 in
theorem je_sound (hx : p.tables.exec = Jvm.exec) (hb : c.code = cc) (hown : s.vm.findClass own = some m.cls) (hml : c.maxLocals = nL) (hts : ∀ w ∈ Ts, w.before args s = true) (hK : va_K D vwCl (je_T cA) s) (hJ : je_inj ad) (hroom : 1 ≤ R.frames ∧ 21 ≤ R.locals ∧ cells ≤ R.cells ∧ slots ≤ R.slots) {rt : Nat} {Rt : je_G → Option je_V → Prop}
    (hRi : ∀ G pc x H locs ls, decode cc pc = .ok (.ireturn, 1) → (rt = 1 ∨ (rt = 2 ∧ (x = 0 ∨ x = 1))) → Rt G (some (jI x)) → je_W D ad cA G H → va_S (je_A ad) H0 H locs → W p l e R s m args below meth c H locs cells slots Q (F0 m pc ls [.int x]))
    (hRa : ∀ G pc (r : Option je_C) H locs ls, decode cc pc = .ok (.areturn, 1) → rt = 3 → Rt G (some (.inr (.inr r))) → (∀ q, r = some q → je_ok q) → je_W D ad cA G H → va_S (je_A ad) H0 H locs → W p l e R s m args below meth c H locs cells slots Q (F0 m pc ls [je_e ad (.inr (.inr r))]))
    (hRv : ∀ G pc H locs ls, decode cc pc = .ok (.return_, 1) → rt = 0 → Rt G none → je_W D ad cA G H → va_S (je_A ad) H0 H locs → W p l e R s m args below meth c H locs cells slots Q (F0 m pc ls []))
    {pc : Nat} {t : je_I} {G : je_G} {L : List (Option je_V)} {S : List je_V} (hok : je_okI own cc Ts pc t) {K : je_K} (hKJ : ∀ G pc L S, K G pc L S → je_J p l e R s m args below meth c cells slots Q D ad cA nL H0 G pc L S) (h : je_step t rt K Rt G L S) : je_J p l e R s m args below meth c cells slots Q D ad cA nL H0 G pc L S := by
  obtain ⟨i, nx, a, b, tg, v⟩ := t
  intro h0 hL hS H locs ls hW hV hl
  have hls : c.maxLocals = ls.size := hml.trans hl.1.symm
  cases i with
  | iconst n =>
    obtain ⟨hd, e1, e2⟩ := hok
    subst e1
    rw [Nat.add_sub_cancel_left] at hd
    exact lv_iconst hx hb hd e2 (hKJ _ _ _ _ h h0 hL (je_oks_i hS) H locs ls hW hV hl)
  | bipush n =>
    obtain ⟨hd, e1, e2⟩ := hok
    subst e1
    rw [Nat.add_sub_cancel_left] at hd
    exact lv_bipush hx hb hd e2 (hKJ _ _ _ _ h h0 hL (je_oks_i hS) H locs ls hW hV hl)
  | sipush n =>
    obtain ⟨hd, e1, e2⟩ := hok
    subst e1
    rw [Nat.add_sub_cancel_left] at hd
    exact lv_sipush hx hb hd e2 (hKJ _ _ _ _ h h0 hL (je_oks_i hS) H locs ls hW hV hl)
  | ldc_w k =>
    obtain ⟨hd, e1, e2⟩ := hok
    subst e1
    rw [Nat.add_sub_cancel_left] at hd
    exact lv_ldcw hx hb hown (hts _ e2) hd (hKJ _ _ _ _ h h0 hL (je_oks_i hS) H locs ls hW hV hl)
  | lconst n =>
    obtain ⟨hd, e1, e2⟩ := hok
    subst e1
    rw [Nat.add_sub_cancel_left] at hd
    subst e2
    exact lv_lconst hx hb hd rfl (hKJ _ _ _ _ h h0 hL (je_oks_l hS) H locs ls hW hV hl)
  | ldc2_w k =>
    obtain ⟨hd, e1, e2⟩ := hok
    subst e1
    rw [Nat.add_sub_cancel_left] at hd
    exact lv_ldc2 hx hb hown (hts _ e2) hd (hKJ _ _ _ _ h h0 hL (je_oks_l hS) H locs ls hW hV hl)
  | aconst_null =>
    obtain ⟨hd, e1⟩ := hok
    subst e1
    rw [Nat.add_sub_cancel_left] at hd
    exact lv_null hx hb hd (hKJ _ _ _ _ h h0 hL (je_oks_n hS) H locs ls hW hV hl)
  | iload_n k =>
    obtain ⟨hd, e1, e3⟩ := hok
    subst e1
    rw [Nat.add_sub_cancel_left] at hd
    obtain ⟨x, e2, hh⟩ := je_gi_inv h
    clear h
    have h := hh
    clear hh
    have hg := hl.2.2 _ (je_get_mem (ad := ad) L a 0 e2)
    rw [Nat.zero_add] at hg
    exact lv_iload_n hx hb hd e3 hg (hKJ _ _ _ _ h h0 hL (je_oks_i hS) H locs ls hW hV hl)
  | iload k =>
    obtain ⟨hd, e1, e3⟩ := hok
    subst e1
    rw [Nat.add_sub_cancel_left] at hd
    obtain ⟨x, e2, hh⟩ := je_gi_inv h
    clear h
    have h := hh
    clear hh
    have hg := hl.2.2 _ (je_get_mem (ad := ad) L a 0 e2)
    rw [Nat.zero_add] at hg
    subst e3
    exact lv_iload hx hb hd hg (hKJ _ _ _ _ h h0 hL (je_oks_i hS) H locs ls hW hV hl)
  | lload_n k =>
    obtain ⟨hd, e1, e3⟩ := hok
    subst e1
    rw [Nat.add_sub_cancel_left] at hd
    obtain ⟨x, e2, hh⟩ := je_gl_inv h
    clear h
    have h := hh
    clear hh
    have hg := hl.2.2 _ (je_get_mem (ad := ad) L a 0 e2)
    rw [Nat.zero_add] at hg
    exact lv_lload_n hx hb hd e3 hg (hKJ _ _ _ _ h h0 hL (je_oks_l hS) H locs ls hW hV hl)
  | aload_n k =>
    obtain ⟨hd, e1, e3⟩ := hok
    subst e1
    rw [Nat.add_sub_cancel_left] at hd
    obtain ⟨x, e2, hh⟩ := je_gr_inv h
    clear h
    have h := hh
    clear hh
    have hg := hl.2.2 _ (je_get_mem (ad := ad) L a 0 e2)
    rw [Nat.zero_add] at hg
    cases x with
    | none => exact lv_aload_nN hx hb hd e3 hg (hKJ _ _ _ _ h h0 hL (je_oks_n hS) H locs ls hW hV hl)
    | some q => exact lv_aload_n hx hb hd e3 hg (hKJ _ _ _ _ h h0 hL (je_oks_r (hL q (je_get_in L a e2)) hS) H locs ls hW hV hl)
  | istore_n k =>
    obtain ⟨hd, e1, e3⟩ := hok
    subst e1
    rw [Nat.add_sub_cancel_left] at hd
    obtain ⟨hnl, hh⟩ := je_bb_inv h
    clear h
    have h := hh
    clear hh
    obtain ⟨x, S1, e2, hh⟩ := je_i1_inv h
    clear h
    have h := hh
    clear hh
    subst e2
    obtain ⟨L1, hh, hlt, hlen, hg⟩ := je_put_inv L a _ h
    clear h
    have h := hh
    clear hh
    refine lv_istore_n hx hb hd e3 hl (Nat.lt_of_lt_of_le hlt h0) rfl (fun ls1 hl1 => ?_)
    exact hKJ _ _ _ _ h (by rw [hlen]; exact h0) (je_okL_put hL (fun q hq => by cases hq) hg) (je_oks_tl hS) H locs ls1 hW hV (lv_mono hl1 (je_st1 (v := jI x) hnl hg))
  | istore k =>
    obtain ⟨hd, e1, e3⟩ := hok
    subst e1
    rw [Nat.add_sub_cancel_left] at hd
    obtain ⟨hnl, hh⟩ := je_bb_inv h
    clear h
    have h := hh
    clear hh
    obtain ⟨x, S1, e2, hh⟩ := je_i1_inv h
    clear h
    have h := hh
    clear hh
    subst e2
    obtain ⟨L1, hh, hlt, hlen, hg⟩ := je_put_inv L a _ h
    clear h
    have h := hh
    clear hh
    subst e3
    refine lv_istore hx hb hd hl (Nat.lt_of_lt_of_le hlt h0) rfl (fun ls1 hl1 => ?_)
    exact hKJ _ _ _ _ h (by rw [hlen]; exact h0) (je_okL_put hL (fun q hq => by cases hq) hg) (je_oks_tl hS) H locs ls1 hW hV (lv_mono hl1 (je_st1 (v := jI x) hnl hg))
  | lstore_n k =>
    obtain ⟨hd, e1, e3⟩ := hok
    subst e1
    rw [Nat.add_sub_cancel_left] at hd
    obtain ⟨hnl, hh⟩ := je_bb_inv h
    clear h
    have h := hh
    clear hh
    obtain ⟨x, S1, e2, hh⟩ := je_l1_inv h
    clear h
    have h := hh
    clear hh
    subst e2
    obtain ⟨L1, hh, hlt, hlen, hg⟩ := je_put_inv L a _ h
    clear h
    have h := hh
    clear hh
    obtain ⟨L2, hh, hlt2, hlen2, hg2⟩ := je_put_inv L1 (a + 1) _ h
    clear h
    have h := hh
    clear hh
    refine lv_lstore_n hx hb hd e3 hl (Nat.lt_of_lt_of_le (by rw [hlen] at hlt2; exact hlt2) h0) rfl (fun ls1 hl1 => ?_)
    exact hKJ _ _ _ _ h (by rw [hlen2, hlen]; exact h0) (je_okL_put (je_okL_put hL (fun q hq => by cases hq) hg) (fun q hq => by cases hq) hg2) (je_oks_tl hS) H locs ls1 hW hV (lv_mono hl1 (je_st2 (v := jL x) hnl hg hg2))
  | iinc k n =>
    obtain ⟨hd, e1, e3, e4⟩ := hok
    subst e1
    rw [Nat.add_sub_cancel_left] at hd
    obtain ⟨hnl, hh⟩ := je_bb_inv h
    clear h
    have h := hh
    clear hh
    obtain ⟨x, e2, hh⟩ := je_gi_inv h
    clear h
    have h := hh
    clear hh
    obtain ⟨L1, hh, hlt, hlen, hg⟩ := je_put_inv L a _ h
    clear h
    have h := hh
    clear hh
    subst e3
    have hm := je_get_mem (ad := ad) L _ 0 e2
    rw [Nat.zero_add] at hm
    obtain ⟨z, hz⟩ := List.getElem?_of_mem hm
    refine lv_iinc hx hb hd hl (k := z) hz (by rw [e4]) (Nat.lt_of_lt_of_le hlt h0) rfl (fun ls1 hl1 => ?_)
    exact hKJ _ _ _ _ h (by rw [hlen]; exact h0) (je_okL_put hL (fun q hq => by cases hq) hg) hS H locs ls1 hW hV (lv_mono hl1 (je_st1 (v := jI (x + v)) hnl hg))
  | iadd =>
    obtain ⟨hd, e1⟩ := hok
    subst e1
    rw [Nat.add_sub_cancel_left] at hd
    obtain ⟨y, x, S1, e2, hh⟩ := je_i2_inv h
    clear h
    have h := hh
    clear hh
    subst e2
    exact lv_iadd hx hb hd (hKJ _ _ _ _ h h0 hL (je_oks_i (je_oks_tl (je_oks_tl hS))) H locs ls hW hV hl)
  | isub =>
    obtain ⟨hd, e1⟩ := hok
    subst e1
    rw [Nat.add_sub_cancel_left] at hd
    obtain ⟨y, x, S1, e2, hh⟩ := je_i2_inv h
    clear h
    have h := hh
    clear hh
    subst e2
    exact lv_isub hx hb hd (hKJ _ _ _ _ h h0 hL (je_oks_i (je_oks_tl (je_oks_tl hS))) H locs ls hW hV hl)
  | imul =>
    obtain ⟨hd, e1⟩ := hok
    subst e1
    rw [Nat.add_sub_cancel_left] at hd
    obtain ⟨y, x, S1, e2, hh⟩ := je_i2_inv h
    clear h
    have h := hh
    clear hh
    subst e2
    exact lv_imul hx hb hd (hKJ _ _ _ _ h h0 hL (je_oks_i (je_oks_tl (je_oks_tl hS))) H locs ls hW hV hl)
  | iand =>
    obtain ⟨hd, e1⟩ := hok
    subst e1
    rw [Nat.add_sub_cancel_left] at hd
    obtain ⟨y, x, S1, e2, hh⟩ := je_i2_inv h
    clear h
    have h := hh
    clear hh
    subst e2
    exact lv_iand hx hb hd (hKJ _ _ _ _ h h0 hL (je_oks_i (je_oks_tl (je_oks_tl hS))) H locs ls hW hV hl)
  | ior =>
    obtain ⟨hd, e1⟩ := hok
    subst e1
    rw [Nat.add_sub_cancel_left] at hd
    obtain ⟨y, x, S1, e2, hh⟩ := je_i2_inv h
    clear h
    have h := hh
    clear hh
    subst e2
    exact lv_ior hx hb hd (hKJ _ _ _ _ h h0 hL (je_oks_i (je_oks_tl (je_oks_tl hS))) H locs ls hW hV hl)
  | ixor =>
    obtain ⟨hd, e1⟩ := hok
    subst e1
    rw [Nat.add_sub_cancel_left] at hd
    obtain ⟨y, x, S1, e2, hh⟩ := je_i2_inv h
    clear h
    have h := hh
    clear hh
    subst e2
    exact lv_ixor hx hb hd (hKJ _ _ _ _ h h0 hL (je_oks_i (je_oks_tl (je_oks_tl hS))) H locs ls hW hV hl)
  | ishl =>
    obtain ⟨hd, e1⟩ := hok
    subst e1
    rw [Nat.add_sub_cancel_left] at hd
    obtain ⟨y, x, S1, e2, hh⟩ := je_i2_inv h
    clear h
    have h := hh
    clear hh
    subst e2
    exact lv_ishl hx hb hd (hKJ _ _ _ _ h h0 hL (je_oks_i (je_oks_tl (je_oks_tl hS))) H locs ls hW hV hl)
  | iushr =>
    obtain ⟨hd, e1⟩ := hok
    subst e1
    rw [Nat.add_sub_cancel_left] at hd
    obtain ⟨y, x, S1, e2, hh⟩ := je_i2_inv h
    clear h
    have h := hh
    clear hh
    subst e2
    exact lv_iushr hx hb hd rfl (hKJ _ _ _ _ h h0 hL (je_oks_i (je_oks_tl (je_oks_tl hS))) H locs ls hW hV hl)
  | idiv =>
    obtain ⟨hd, e1⟩ := hok
    subst e1
    rw [Nat.add_sub_cancel_left] at hd
    obtain ⟨y, x, S1, e2, hne, hh⟩ := je_i2_inv h
    clear h
    have h := hh
    clear hh
    subst e2
    exact lv_idiv hx hb hd hne (hKJ _ _ _ _ h h0 hL (je_oks_i (je_oks_tl (je_oks_tl hS))) H locs ls hW hV hl)
  | irem =>
    obtain ⟨hd, e1⟩ := hok
    subst e1
    rw [Nat.add_sub_cancel_left] at hd
    obtain ⟨y, x, S1, e2, hne, hh⟩ := je_i2_inv h
    clear h
    have h := hh
    clear hh
    subst e2
    exact lv_irem hx hb hd hne (hKJ _ _ _ _ h h0 hL (je_oks_i (je_oks_tl (je_oks_tl hS))) H locs ls hW hV hl)
  | land =>
    obtain ⟨hd, e1⟩ := hok
    subst e1
    rw [Nat.add_sub_cancel_left] at hd
    obtain ⟨y, x, S1, e2, hh⟩ := je_l2_inv h
    clear h
    have h := hh
    clear hh
    subst e2
    exact lv_land hx hb hd (hKJ _ _ _ _ h h0 hL (je_oks_l (je_oks_tl (je_oks_tl hS))) H locs ls hW hV hl)
  | lor =>
    obtain ⟨hd, e1⟩ := hok
    subst e1
    rw [Nat.add_sub_cancel_left] at hd
    obtain ⟨y, x, S1, e2, hh⟩ := je_l2_inv h
    clear h
    have h := hh
    clear hh
    subst e2
    exact lv_lor hx hb hd (hKJ _ _ _ _ h h0 hL (je_oks_l (je_oks_tl (je_oks_tl hS))) H locs ls hW hV hl)
  | lcmp =>
    obtain ⟨hd, e1⟩ := hok
    subst e1
    rw [Nat.add_sub_cancel_left] at hd
    obtain ⟨y, x, S1, e2, hh⟩ := je_l2_inv h
    clear h
    have h := hh
    clear hh
    subst e2
    exact W.lcmp hx hb hd (hKJ _ _ _ _ h h0 hL (je_oks_i (je_oks_tl (je_oks_tl hS))) H locs ls hW hV hl)
  | lushr =>
    obtain ⟨hd, e1⟩ := hok
    subst e1
    rw [Nat.add_sub_cancel_left] at hd
    obtain ⟨y, S1, e2, hh⟩ := je_i1_inv h
    clear h
    have h := hh
    clear hh
    obtain ⟨x, S2, e3, hh⟩ := je_l1_inv h
    clear h
    have h := hh
    clear hh
    subst e2
    subst e3
    exact lv_lushr hx hb hd rfl (hKJ _ _ _ _ h h0 hL (je_oks_l (je_oks_tl (je_oks_tl hS))) H locs ls hW hV hl)
  | lshl =>
    obtain ⟨hd, e1⟩ := hok
    subst e1
    rw [Nat.add_sub_cancel_left] at hd
    obtain ⟨y, S1, e2, hh⟩ := je_i1_inv h
    clear h
    have h := hh
    clear hh
    obtain ⟨x, S2, e3, hh⟩ := je_l1_inv h
    clear h
    have h := hh
    clear hh
    subst e2
    subst e3
    exact lv_lshl hx hb hd rfl (hKJ _ _ _ _ h h0 hL (je_oks_l (je_oks_tl (je_oks_tl hS))) H locs ls hW hV hl)
  | i2l =>
    obtain ⟨hd, e1⟩ := hok
    subst e1
    rw [Nat.add_sub_cancel_left] at hd
    obtain ⟨x, S1, e2, hh⟩ := je_i1_inv h
    clear h
    have h := hh
    clear hh
    subst e2
    exact lv_i2l hx hb hd rfl (hKJ _ _ _ _ h h0 hL (je_oks_l (je_oks_tl hS)) H locs ls hW hV hl)
  | l2i =>
    obtain ⟨hd, e1⟩ := hok
    subst e1
    rw [Nat.add_sub_cancel_left] at hd
    obtain ⟨x, S1, e2, hh⟩ := je_l1_inv h
    clear h
    have h := hh
    clear hh
    subst e2
    exact lv_l2i hx hb hd rfl (hKJ _ _ _ _ h h0 hL (je_oks_i (je_oks_tl hS)) H locs ls hW hV hl)
  | dup =>
    obtain ⟨hd, e1⟩ := hok
    subst e1
    rw [Nat.add_sub_cancel_left] at hd
    dsimp only [je_step] at h
    obtain ⟨x, S1, e2, hh, hc⟩ := je_v1_inv h
    clear h
    have h := hh
    clear hh
    subst e2
    refine lv_dup hx hb hd (hc ad) (hKJ _ _ _ _ h h0 hL (fun q hq => ?_) H locs ls hW hV hl)
    rcases List.mem_cons.mp hq with h1 | h1
    · exact hS q (List.mem_cons.mpr (Or.inl h1))
    · exact hS q h1
  | dup2 =>
    obtain ⟨hd, e1⟩ := hok
    subst e1
    rw [Nat.add_sub_cancel_left] at hd
    dsimp only [je_step] at h
    obtain ⟨x, S1, e2, hh, hc⟩ := je_v1_inv h
    clear h
    have h := hh
    clear hh
    obtain ⟨y, S2, e3, hh, hc2⟩ := je_v1_inv h
    clear h
    have h := hh
    clear hh
    subst e2
    subst e3
    refine lv_dup2_11 hx hb hd (hc ad) (hc2 ad) (hKJ _ _ _ _ h h0 hL (fun q hq => ?_) H locs ls hW hV hl)
    rcases List.mem_cons.mp hq with h1 | h1
    · exact hS q (List.mem_cons.mpr (Or.inl h1))
    rcases List.mem_cons.mp h1 with h1 | h1
    · exact hS q (List.mem_cons.mpr (Or.inr (List.mem_cons.mpr (Or.inl h1))))
    · exact hS q h1
  | pop =>
    obtain ⟨hd, e1⟩ := hok
    subst e1
    rw [Nat.add_sub_cancel_left] at hd
    dsimp only [je_step] at h
    obtain ⟨x, S1, e2, hh, hc⟩ := je_v1_inv h
    clear h
    have h := hh
    clear hh
    subst e2
    exact lv_pop hx hb hd (hc ad) (hKJ _ _ _ _ h h0 hL (je_oks_tl hS) H locs ls hW hV hl)
  | ifCond op off =>
    obtain ⟨hd, e1, e3⟩ := hok
    subst e1
    rw [Nat.add_sub_cancel_left] at hd
    obtain ⟨x, S1, e2, hh⟩ := je_i1_inv h
    clear h
    have h := hh
    clear hh
    subst e2
    cases op with
    | eq => exact lv_if_eq hx hb hd e3 (fun q => hKJ _ _ _ _ (h.1 q) h0 hL (je_oks_tl hS) H locs ls hW hV hl) (fun q => hKJ _ _ _ _ (h.2 q) h0 hL (je_oks_tl hS) H locs ls hW hV hl)
    | ne => exact lv_if_ne hx hb hd e3 (fun q => hKJ _ _ _ _ (h.1 q) h0 hL (je_oks_tl hS) H locs ls hW hV hl) (fun q => hKJ _ _ _ _ (h.2 q) h0 hL (je_oks_tl hS) H locs ls hW hV hl)
    | lt => exact lv_if_lt hx hb hd e3 (fun q => hKJ _ _ _ _ (h.1 q) h0 hL (je_oks_tl hS) H locs ls hW hV hl) (fun q => hKJ _ _ _ _ (h.2 q) h0 hL (je_oks_tl hS) H locs ls hW hV hl)
    | ge => exact lv_if_ge hx hb hd e3 (fun q => hKJ _ _ _ _ (h.1 q) h0 hL (je_oks_tl hS) H locs ls hW hV hl) (fun q => hKJ _ _ _ _ (h.2 q) h0 hL (je_oks_tl hS) H locs ls hW hV hl)
    | gt => exact lv_if_gt hx hb hd e3 (fun q => hKJ _ _ _ _ (h.1 q) h0 hL (je_oks_tl hS) H locs ls hW hV hl) (fun q => hKJ _ _ _ _ (h.2 q) h0 hL (je_oks_tl hS) H locs ls hW hV hl)
    | le => exact lv_if_le hx hb hd e3 (fun q => hKJ _ _ _ _ (h.1 q) h0 hL (je_oks_tl hS) H locs ls hW hV hl) (fun q => hKJ _ _ _ _ (h.2 q) h0 hL (je_oks_tl hS) H locs ls hW hV hl)
  | if_icmp op off =>
    obtain ⟨hd, e1, e3⟩ := hok
    subst e1
    rw [Nat.add_sub_cancel_left] at hd
    obtain ⟨y, x, S1, e2, hh⟩ := je_i2_inv h
    clear h
    have h := hh
    clear hh
    subst e2
    cases op with
    | eq => exact lv_icmp_eq hx hb hd e3 (fun q => hKJ _ _ _ _ (h.1 q) h0 hL (je_oks_tl (je_oks_tl hS)) H locs ls hW hV hl) (fun q => hKJ _ _ _ _ (h.2 q) h0 hL (je_oks_tl (je_oks_tl hS)) H locs ls hW hV hl)
    | ne => exact lv_icmp_ne hx hb hd e3 (fun q => hKJ _ _ _ _ (h.1 q) h0 hL (je_oks_tl (je_oks_tl hS)) H locs ls hW hV hl) (fun q => hKJ _ _ _ _ (h.2 q) h0 hL (je_oks_tl (je_oks_tl hS)) H locs ls hW hV hl)
    | lt => exact lv_icmp_lt hx hb hd e3 (fun q => hKJ _ _ _ _ (h.1 q) h0 hL (je_oks_tl (je_oks_tl hS)) H locs ls hW hV hl) (fun q => hKJ _ _ _ _ (h.2 q) h0 hL (je_oks_tl (je_oks_tl hS)) H locs ls hW hV hl)
    | ge => exact lv_icmp_ge hx hb hd e3 (fun q => hKJ _ _ _ _ (h.1 q) h0 hL (je_oks_tl (je_oks_tl hS)) H locs ls hW hV hl) (fun q => hKJ _ _ _ _ (h.2 q) h0 hL (je_oks_tl (je_oks_tl hS)) H locs ls hW hV hl)
    | gt => exact lv_icmp_gt hx hb hd e3 (fun q => hKJ _ _ _ _ (h.1 q) h0 hL (je_oks_tl (je_oks_tl hS)) H locs ls hW hV hl) (fun q => hKJ _ _ _ _ (h.2 q) h0 hL (je_oks_tl (je_oks_tl hS)) H locs ls hW hV hl)
    | le => exact lv_icmp_le hx hb hd e3 (fun q => hKJ _ _ _ _ (h.1 q) h0 hL (je_oks_tl (je_oks_tl hS)) H locs ls hW hV hl) (fun q => hKJ _ _ _ _ (h.2 q) h0 hL (je_oks_tl (je_oks_tl hS)) H locs ls hW hV hl)
  | goto off =>
    obtain ⟨hd, e1, e3⟩ := hok
    subst e1
    rw [Nat.add_sub_cancel_left] at hd
    exact lv_goto hx hb hd e3 (hKJ _ _ _ _ h h0 hL hS H locs ls hW hV hl)
  | ifnull off =>
    obtain ⟨hd, e1, e3⟩ := hok
    subst e1
    rw [Nat.add_sub_cancel_left] at hd
    obtain ⟨x, S1, e2, hh⟩ := je_r1_inv h
    clear h
    have h := hh
    clear hh
    subst e2
    cases x with
    | none => exact lv_ifnullN hx hb hd e3 (hKJ _ _ _ _ h h0 hL (je_oks_tl hS) H locs ls hW hV hl)
    | some q => exact lv_ifnull hx hb hd (hKJ _ _ _ _ h h0 hL (je_oks_tl hS) H locs ls hW hV hl)
  | tableswitch d lo hi offs =>
    obtain ⟨hd, e1, e3, e4, elo, ehi, e5⟩ := hok
    obtain ⟨x, S1, e2, hh⟩ := je_i1_inv h
    clear h
    have h := hh
    clear hh
    subst e2
    have key : ∀ (ts : List (Nat × Int32)) (k : Nat), tg = tg.take k ++ ts → (tg.take k).length = k → je_sw x ts (fun t => K G t L S1) (K G a L S1) → (∀ j : Nat, j < k → x ≠ Int32.ofInt (lo + (j : Int))) → W p l e R s m args below meth c H locs cells slots Q (F0 m pc ls ((jI x :: S1).map (je_e ad))) := by
      intro ts
      induction ts with
      | nil =>
        intro k ek elk h hne
        have hk : k = tg.length := by rw [← elk]; rw [List.append_nil] at ek; rw [← ek]
        refine lv_tableOut hx hb hd ?_ e3 (hKJ _ _ _ _ h h0 hL (je_oks_tl hS) H locs ls hW hV hl)
        by_cases q1 : x.toInt < lo
        · exact Or.inl q1
        by_cases q2 : hi < x.toInt
        · exact Or.inr q2
        exact absurd (by rw [show lo + (((x.toInt - lo).toNat : Nat) : Int) = x.toInt by omega, Int32.ofInt_toInt]) (hne (x.toInt - lo).toNat (by omega))
      | cons z ts ih =>
        intro k ek elk h hne
        obtain ⟨t, v⟩ := z
        have hkl : k < tg.length := by
          have := congrArg List.length ek
          rw [List.length_append, elk, List.length_cons] at this
          omega
        have hz : tg[k]? = some (t, v) := by
          rw [ek, List.getElem?_append_right (by rw [elk]; exact Nat.le_refl _), elk, Nat.sub_self]
          rfl
        have hz2 : tg[k] = (t, v) := by
          have := List.getElem?_eq_getElem hkl
          rw [hz] at this
          exact (Option.some.inj this).symm
        obtain ⟨f1, off, f2, f3⟩ := e5 ⟨k, hkl⟩
        dsimp only at f1 f2 f3
        rw [hz2] at f1 f3
        dsimp only at f1 f3
        by_cases hv : x = v
        · have hxi : x.toInt = lo + (k : Int) := by
            rw [hv, f1]
            exact va_tsInt elo ehi (by omega)
          exact lv_tableIn hx hb hd (by omega) (by omega) (off := off) (by rw [hxi, show (lo + (k : Int) - lo).toNat = k by omega]; exact f2) f3 (hKJ _ _ _ _ (h.1 hv) h0 hL (je_oks_tl hS) H locs ls hW hV hl)
        · refine ih (k + 1) ?_ ?_ (h.2 hv) ?_
          · rw [List.take_add_one, hz, Option.toList_some, List.append_assoc]
            exact ek
          · rw [List.length_take]; omega
          · intro j hj
            by_cases e9 : j = k
            · subst e9; rw [← f1]; exact hv
            · exact hne j (by omega)
    exact key tg 0 (by simp) (by simp) h (fun j hj => absurd hj (Nat.not_lt_zero j))
  | getfield k =>
    obtain ⟨hd, e1, e3⟩ := hok
    subst e1
    rw [Nat.add_sub_cancel_left] at hd
    dsimp only [je_step] at h
    obtain ⟨c1, n1, k1, S1, e2, hh⟩ := je_c1_inv h
    clear h
    have h := hh
    clear hh
    try dsimp only at h
    obtain ⟨hbb, hh⟩ := je_bb_inv h
    clear h
    have h := hh
    clear hh
    rw [Bool.and_eq_true] at hbb
    have ec := Nat.eq_of_beq_eq_true hbb.1
    have ek := Nat.eq_of_beq_eq_true hbb.2
    subst ec; subst ek; subst e2
    cases hr : vwCl[c1]? with
    | none => rw [hr] at e3; exact e3.elim
    | some r =>
      rw [hr] at e3
      dsimp only at e3
      cases hf : je_nth (je_F c1 n1) b with
      | none => rw [hf] at h; exact h.elim
      | some f =>
        rw [hf] at h
        refine je_s_get hx hb hown hts hK hr e3.1 e3.2.1 e3.2.2 hd (je_oks_hd hS) hf hW ?_
        cases f with
        | inl q => exact hKJ _ _ _ _ h h0 hL (je_oks_i (je_oks_tl hS)) H locs ls hW hV hl
        | inr q => exact hKJ _ _ _ _ h h0 hL (je_oks_r (je_F_ok (je_oks_hd hS).1 hf) (je_oks_tl hS)) H locs ls hW hV hl
  | putfield k =>
    obtain ⟨hd, e1, e3⟩ := hok
    subst e1
    rw [Nat.add_sub_cancel_left] at hd
    obtain ⟨x, S0, e4, hh⟩ := je_i1_inv h
    clear h
    have h := hh
    clear hh
    obtain ⟨c1, n1, k1, S1, e2, hh⟩ := je_c1_inv h
    clear h
    have h := hh
    clear hh
    try dsimp only at h
    obtain ⟨hbb, hh⟩ := je_bb_inv h
    clear h
    have h := hh
    clear hh
    rw [Bool.and_eq_true] at hbb
    have ec := Nat.eq_of_beq_eq_true hbb.1
    have ek := Nat.eq_of_beq_eq_true hbb.2
    subst ec; subst ek; subst e4; subst e2
    cases hr : vwCl[c1]? with
    | none => rw [hr] at e3; exact e3.elim
    | some r =>
      rw [hr] at e3
      dsimp only at e3
      cases hf : je_nth (je_F c1 n1) b with
      | none => rw [hf] at h; exact h.elim
      | some f =>
        rw [hf] at h
        cases f with
        | inr q => exact h.elim
        | inl q =>
          obtain ⟨hz, hh⟩ := je_zz_inv h
          clear h
          have h := hh
          clear hh
          have hnf : narrow (match je_isZ c1 b with | true => FieldType.boolean | false => FieldType.int) (.int x) = .int x ∧ fits (match je_isZ c1 b with | true => FieldType.boolean | false => FieldType.int) (.int x) = true := by
            cases hzb : je_isZ c1 b with
            | true => rcases hz hzb with rfl | rfl <;> exact ⟨rfl, rfl⟩
            | false => exact ⟨rfl, rfl⟩
          exact je_s_put hx hb hown hts hK hJ hr e3.1 e3.2.1 e3.2.2.1 e3.2.2.2.1 e3.2.2.2.2 hnf.1 hnf.2 hd (je_oks_hd (je_oks_tl hS)) hf hW hV (fun H1 locs1 hW1 hV1 => hKJ _ _ _ _ h h0 hL (je_oks_tl (je_oks_tl hS)) H1 locs1 ls hW1 hV1 hl)
  | iaload =>
    obtain ⟨hd, e1⟩ := hok
    subst e1
    rw [Nat.add_sub_cancel_left] at hd
    dsimp only [je_step] at h
    obtain ⟨i, c1, n1, j, len, r, b1, S1, e2, hA, hi, hh⟩ := je_ald_inv h
    clear h
    have h := hh
    clear hh
    subst e2
    exact je_s_iald hx hb hK hA hi hd (je_oks_hd (je_oks_tl hS)) hW (hKJ _ _ _ _ h h0 hL (je_oks_i (je_oks_tl (je_oks_tl hS))) H locs ls hW hV hl)
  | baload =>
    obtain ⟨hd, e1⟩ := hok
    subst e1
    rw [Nat.add_sub_cancel_left] at hd
    dsimp only [je_step] at h
    obtain ⟨i, c1, n1, j, len, r, b1, S1, e2, hA, hi, hh⟩ := je_ald_inv h
    clear h
    have h := hh
    clear hh
    subst e2
    exact je_s_zald hx hb hK hA hi hd (je_oks_hd (je_oks_tl hS)) hW (hKJ _ _ _ _ h h0 hL (je_oks_i (je_oks_tl (je_oks_tl hS))) H locs ls hW hV hl)
  | iastore =>
    obtain ⟨hd, e1⟩ := hok
    subst e1
    rw [Nat.add_sub_cancel_left] at hd
    obtain ⟨x, S0, e4, hh⟩ := je_i1_inv h
    clear h
    have h := hh
    clear hh
    obtain ⟨i, c1, n1, j, len, r, b1, S1, e2, hA, hi, hh⟩ := je_ald_inv h
    clear h
    have h := hh
    clear hh
    subst e4; subst e2
    exact je_s_iast hx hb hK hJ hA hi hd (je_oks_hd (je_oks_tl (je_oks_tl hS))) hW hV (fun H1 locs1 hW1 hV1 => hKJ _ _ _ _ h h0 hL (je_oks_tl (je_oks_tl (je_oks_tl hS))) H1 locs1 ls hW1 hV1 hl)
  | bastore =>
    obtain ⟨hd, e1⟩ := hok
    subst e1
    rw [Nat.add_sub_cancel_left] at hd
    obtain ⟨x, S0, e4, hh⟩ := je_i1_inv h
    clear h
    have h := hh
    clear hh
    obtain ⟨i, c1, n1, j, len, r, b1, S1, e2, hA, hi, h01, hh⟩ := je_ald_inv h
    clear h
    have h := hh
    clear hh
    subst e4; subst e2
    exact je_s_zast hx hb hK hJ hA hi h01 hd (je_oks_hd (je_oks_tl (je_oks_tl hS))) hW hV (fun H1 locs1 hW1 hV1 => hKJ _ _ _ _ h h0 hL (je_oks_tl (je_oks_tl (je_oks_tl hS))) H1 locs1 ls hW1 hV1 hl)
  | aaload =>
    obtain ⟨hd, e1⟩ := hok
    subst e1
    rw [Nat.add_sub_cancel_left] at hd
    obtain ⟨i, S0, e4, hh⟩ := je_i1_inv h
    clear h
    have h := hh
    clear hh
    obtain ⟨c1, n1, k1, S1, e2, hh⟩ := je_c1_inv h
    clear h
    have h := hh
    clear hh
    try dsimp only at h
    cases k1 with
    | zero => exact h.elim
    | succ j =>
      dsimp only at h
      cases hA : je_Ra c1 j with
      | none => rw [hA] at h; exact h.elim
      | some q =>
        rw [hA] at h
        subst e4; subst e2
        obtain ⟨hi, h⟩ := h
        exact je_s_aald hx hb hK hA hi hd (je_oks_hd (je_oks_tl hS)) hW (hKJ _ _ _ _ h h0 hL (je_oks_r (je_Ra_ok hA (Nat.not_le.mp fun q => hi (Or.inr q))) (je_oks_tl (je_oks_tl hS))) H locs ls hW hV hl)
  | invokestatic k =>
    obtain ⟨hd, e1, e3⟩ := hok
    subst e1
    rw [Nat.add_sub_cancel_left] at hd
    match b, e3, h with
    | 0, e3, h3 => exact h3.elim
    | 1, e3, h3 =>
      obtain ⟨y, x, S1, e2, h4⟩ := je_i2_inv h3
      obtain ⟨hsm, h5⟩ := je_bb_inv h4
      subst e2
      exact va_mmax hx hb hls hown (hts _ e3.2.1) (hts _ e3.2.2.1) (hts _ e3.1) (hts _ e3.2.2.2) hroom.1 (by have := je_sm_e ad S1; have h8 := Nat.le_of_ble_eq_true hsm; omega) hroom.2.2.1 hroom.2.2.2 hd (hKJ _ _ _ _ h5 h0 hL (je_oks_i (je_oks_tl (je_oks_tl hS))) H locs ls hW hV hl)
    | 2, e3, h3 =>
      obtain ⟨y, x, S1, e2, h4⟩ := je_i2_inv h3
      obtain ⟨hsm, h5⟩ := je_bb_inv h4
      subst e2
      exact va_mmin hx hb hls hown (hts _ e3.2.1) (hts _ e3.2.2.1) (hts _ e3.1) (hts _ e3.2.2.2) hroom.1 (by have := je_sm_e ad S1; have h8 := Nat.le_of_ble_eq_true hsm; omega) hroom.2.2.1 hroom.2.2.2 hd (hKJ _ _ _ _ h5 h0 hL (je_oks_i (je_oks_tl (je_oks_tl hS))) H locs ls hW hV hl)
    | b + 3, e3, h3 => exact h3.elim
  | ireturn =>
    obtain ⟨hd, e1⟩ := hok
    subst e1
    rw [Nat.add_sub_cancel_left] at hd
    obtain ⟨x, S1, e2, hh⟩ := je_i1_inv h
    clear h
    have h := hh
    clear hh
    cases S1 with
    | cons z S2 => exact h.elim
    | nil =>
      dsimp only at h
      obtain ⟨hz, hh⟩ := je_zz_inv h
      clear h
      have h := hh
      clear hh
      obtain ⟨hrt, hh⟩ := je_bb_inv h
      clear h
      have h := hh
      clear hh
      subst e2
      rw [Bool.and_eq_true] at hrt
      have h1 : 0 < rt := Nat.le_of_ble_eq_true hrt.1
      have h2 : rt < 3 := Nat.le_of_ble_eq_true hrt.2
      refine hRi G pc x H locs ls hd ?_ h hW hV
      rcases (show rt = 1 ∨ rt = 2 by omega) with e | e
      · exact Or.inl e
      · exact Or.inr ⟨e, hz (by rw [e]; rfl)⟩
  | areturn =>
    obtain ⟨hd, e1⟩ := hok
    subst e1
    rw [Nat.add_sub_cancel_left] at hd
    obtain ⟨x, S1, e2, hh⟩ := je_r1_inv h
    clear h
    have h := hh
    clear hh
    cases S1 with
    | cons z S2 => exact h.elim
    | nil =>
      dsimp only at h
      obtain ⟨hrt, hh⟩ := je_bb_inv h
      clear h
      have h := hh
      clear hh
      subst e2
      exact hRa G pc x H locs ls hd (Nat.eq_of_beq_eq_true hrt) h (fun q hq => by subst hq; exact je_oks_hd hS) hW hV
  | return_ =>
    obtain ⟨hd, e1⟩ := hok
    subst e1
    rw [Nat.add_sub_cancel_left] at hd
    cases S with
    | cons z S2 => exact h.elim
    | nil =>
      obtain ⟨hrt, hh⟩ := je_bb_inv h
      clear h
      have h := hh
      clear hh
      exact hRv G pc H locs ls hd (Nat.eq_of_beq_eq_true hrt) h hW hV
  | _ => exact h.elim
end JE
end
section
/-! CONTRACTS over the world, and the rules that a method's walk goes by -/
def je_nest : List Jvm.Cond := [.methodLinkNest RX0 39 yX5_isEdge RX5, .methodLinkNest RX1 50 yX5_isCell RX5, .methodLinkNest RX1 63 yX5_edgeTowards RX5, .methodLinkNest RX1 66 yX5_isEdge RX5, .methodLinkNest RX1 69 yX5_beside RX5, .methodLinkNest RX2 49 yX5_isCell RX5, .methodLinkNest RX4 41 yX5_isDoor RX5, .methodLinkNest RX4 45 yX5_isCell RX5]
def je_Pc (D : va_G) (ad : je_C → Nat) (cA : Nat → ClassId) (As : List je_V) (G : je_G) : Array Value → State → Prop := fun v U => v = (As.map (je_e ad)).toArray ∧ je_W D ad cA G U.heap ∧ va_K D vwCl (je_T cA) U ∧ ∀ w ∈ je_nest, va_Nw w U
def je_Qc (D : va_G) (ad : je_C → Nat) (cA : Nat → ClassId) (Post : Option je_V → je_G → Prop) : Array Value → State → Outcome → State → Prop := fun _ st oc t => (∃ (r : Option je_V) (G' : je_G), oc = .returned (r.map (je_e ad)) ∧ Post r G' ∧ (∀ q, r = some (jR q) → je_ok q) ∧ je_W D ad cA G' t.heap) ∧ va_F (je_A ad) st t
/-- a method's contract over the world: arguments and rows before; answer and rows behind -/
def je_M (l : Launch) (y : MethodName) (ws : List Jvm.Cond) (rm : Room) (Pre : List je_V → je_G → Prop) (Post : List je_V → je_G → Option je_V → je_G → Prop) : Prop := ∀ (D : va_G) (ad : je_C → Nat) (cA : Nat → ClassId), je_inj ad → ∀ (As : List je_V) (G : je_G), je_oks As → Pre As G → Met l y ws rm (je_Pc D ad cA As G) (je_Qc D ad cA (Post As G)) 0 0 (je_A ad)
/-- a call of a method of an object: what the words say of it -/
def je_LkV (own : String) (cc : ByteArray) (Ts : List Jvm.Cond) (rm : Room) (pc : Nat) (y : MethodName) (ws : List Jvm.Cond) (rm' : Room) (ci n : Nat) : Prop := ∃ (idx : Nat) (C : String) (bytes : ByteArray) (maxL : Nat) (ret : Option FieldType) (ws' : List Jvm.Cond) (T : u_T) (N : Nat), decode cc pc = .ok (.invokevirtual idx, 3) ∧ GoodIn Ts (wsV own idx C y ws) ∧ ws = .code y bytes maxL ret :: ws' ∧ (y.cls = C ∧ y.cls ≠ "java/lang/invoke/MethodHandle" ∧ y.cls ≠ "java/lang/invoke/VarHandle" ∧ (parseMethodDescriptor y.desc).map (fun d => d.parameters.length) = some n) ∧ (rm'.cells = 0 ∧ rm'.slots = 0) ∧ (rm'.frames + 1 ≤ rm.frames ∧ 8 + (maxL + 11) + rm'.locals ≤ rm.locals) ∧ vwCl[ci]? = some (C, T, N)
/-- a call of a static method: of any class whose it is openly, or of a nest mate -/
def je_LkS (own : String) (cc : ByteArray) (Ts : List Jvm.Cond) (rm : Room) (pc : Nat) (y : MethodName) (ws : List Jvm.Cond) (rm' : Room) (n : Nat) : Prop := ∃ (idx : Nat) (bytes : ByteArray) (maxL : Nat) (ret : Option FieldType) (ws' : List Jvm.Cond), decode cc pc = .ok (.invokestatic idx, 3) ∧ (GoodIn Ts (va_wsS own idx y ws) ∨ (∃ host : String, GoodIn Ts ws ∧ Jvm.Cond.static y ∈ Ts ∧ Jvm.Cond.initialized y.cls ∈ Ts ∧ Jvm.Cond.methodLinkNest own idx y host ∈ je_nest)) ∧ ws = .code y bytes maxL ret :: ws' ∧ (y.cls ≠ "java/lang/invoke/MethodHandle" ∧ y.cls ≠ "java/lang/invoke/VarHandle" ∧ (parseMethodDescriptor y.desc).map (fun d => d.parameters.length) = some n) ∧ (rm'.cells = 0 ∧ rm'.slots = 0) ∧ (rm'.frames + 1 ≤ rm.frames ∧ 8 + (maxL + 11) + rm'.locals ≤ rm.locals)
theorem je_nest_on {w : Jvm.Cond} (h : w ∈ je_nest) : ∃ a i x hst, w = .methodLinkNest a i x hst := by
  simp only [je_nest, List.mem_cons, List.not_mem_nil, or_false] at h
  rcases h with h | h | h | h | h | h | h | h <;> exact ⟨_, _, _, _, h⟩
theorem je_nest_warm {s U : State} (hW : s.WarmedH U.vm) (h : ∀ w ∈ je_nest, va_Nw w s) : ∀ w ∈ je_nest, va_Nw w U := by
  intro w hw
  obtain ⟨a, i, x, hst, rfl⟩ := je_nest_on hw
  exact va_Nw.warmM hW (h _ hw)
theorem je_nest_same {s U : State} (e : s.vm = U.vm) (h : ∀ w ∈ je_nest, va_Nw w s) : ∀ w ∈ je_nest, va_Nw w U := by
  intro w hw
  obtain ⟨a, i, x, hst, rfl⟩ := je_nest_on hw
  exact va_Nw.same rfl e (h _ hw)
theorem je_blind {D : va_G} {ad : je_C → Nat} {cA : Nat → ClassId} {As : List je_V} {G : je_G} : FrameBlind (je_Pc D ad cA As G) := by
  intro a U g mk q
  obtain ⟨h1, h2, h3, h4⟩ := q
  exact ⟨h1, h2, va_K.moved (u := U) (U := U.calling g mk a) (Vm.Alike.refl U.vm) h3, je_nest_same (s := U) (U := U.calling g mk a) rfl h4⟩
section JR
variable {p : Program} {l : Launch} {e : Env} {R : Room} {s : State} {m : MethodId} {args : Array Value} {below : List Frame} {meth : Method} {c : Code} {cells slots : Nat} {Q : State → Prop} {D : va_G} {ad : je_C → Nat} {cA : Nat → ClassId} {nL : Nat} {H0 : Heap} {cc : ByteArray} {own : String} {Ts : List Jvm.Cond}
theorem je_after {H : Heap} {locs : List Loc} {pc : Nat} {ls : Array Slot} {st0 rest : List Value} {Post : Option je_V → je_G → Prop} {a : Array Value} (hr : va_Run p l e R s m args below meth c H locs cells slots 0 0 (F0 m pc ls st0) rest (je_Qc D ad cA Post a) (je_A ad)) (hS : va_S (je_A ad) H0 H locs)
    (kk : ∀ (r : Option je_V) (G' : je_G) (H1 : Heap) (locs1 : List Loc), Post r G' → (∀ q, r = some (jR q) → je_ok q) → je_W D ad cA G' H1 → va_S (je_A ad) H0 H1 locs1 → W p l e R s m args below meth c H1 locs1 cells slots Q (F0 m (pc + 3) ls ((r.map (je_e ad)).toList ++ rest))) : W p l e R s m args below meth c H locs cells slots Q (F0 m pc ls st0) := by
  intro T hT X
  obtain ⟨v, st₀, t, T', L, h0, X', hL, e1, e2, ⟨⟨r, G', hv, hp, hok, hw⟩, hz, hk⟩, st⟩ := hr T hT X
  cases hv
  rw [h0] at hz hk
  obtain ⟨t2, a1, b1⟩ := kk r G' T'.heap (locs ++ L) hp hok (by rw [e1]; exact hw)
    ⟨Nat.le_trans hS.1 (by rw [e1]; exact hz), fun q h1 h2 => by rw [e1, hk q (Nat.lt_of_lt_of_le h1 hS.1) h2]; exact hS.2.1 q h1 h2, fun q hq => by
      rcases List.mem_append.mp hq with h | h
      · exact hS.2.2 q h
      · exact hL q h⟩ T' rfl X'
  exact ⟨t2, st t2 a1, b1⟩
theorem je_rest {ad : je_C → Nat} {pc : Nat} {m : MethodId} {ls : Array Slot} {st : List Value} {S : List je_V} (h : Nat.ble (je_sm S) 8 = true) : 2 * (F0 m pc ls st).monitorRoom + ((S.map (je_e ad)).map fun v => v.category).sum ≤ 8 := by
  have h1 := je_sm_e ad S
  have h2 := Nat.le_of_ble_eq_true h
  show 2 * 0 + _ ≤ 8
  omega
theorem je_callV (hx : p.tables.exec = Jvm.exec) (hb : c.code = cc) (hown : s.vm.findClass own = some m.cls) (hml : c.maxLocals = nL) (hts : ∀ w ∈ Ts, w.before args s = true) (hK : va_K D vwCl (je_T cA) s) (hJ : je_inj ad) (hN : ∀ w ∈ je_nest, va_Nw w s) (hroom : cells ≤ R.cells ∧ slots ≤ R.slots) {pc : Nat} {y : MethodName} {ws : List Jvm.Cond} {rm' : Room} {ci n : Nat} (hk : je_LkV own cc Ts R pc y ws rm' ci n) {Pre : List je_V → je_G → Prop} {Post : List je_V → je_G → Option je_V → je_G → Prop} (hM : je_M l y ws rm' Pre Post)
    {G : je_G} {L : List (Option je_V)} {S : List je_V} {As : List je_V} {i : Nat} (hn : As.length = n) (hP : Pre (jR (ci, i, 0) :: As) G) (hsm : Nat.ble (je_sm S) 8 = true) (kk : ∀ r G', Post (jR (ci, i, 0) :: As) G r G' → je_J p l e R s m args below meth c cells slots Q D ad cA nL H0 G' (pc + 3) L (r.toList ++ S)) : je_J p l e R s m args below meth c cells slots Q D ad cA nL H0 G pc L (As.reverse ++ jR (ci, i, 0) :: S) := by
  obtain ⟨idx, C, bytes, maxL, ret, ws', T, N, hd, hG, hw, hd2, hc0, hR, hcl⟩ := hk
  intro h0 hL hS H locs ls hW hV hl
  have hokA : je_oks (jR (ci, i, 0) :: As) := fun q hq => hS q (by
    rcases List.mem_cons.mp hq with h | h
    · exact List.mem_append_right _ (List.mem_cons.mpr (Or.inl h))
    · exact List.mem_append_left _ (List.mem_reverse.mpr h))
  have hcell := hW _ (hokA (ci, i, 0) List.mem_cons_self)
  refine je_after (va_runV (As := As.map (je_e ad)) (rest := S.map (je_e ad)) ⟨hx, hb, hml, hown, hts⟩ (hM D ad cA hJ (jR (ci, i, 0) :: As) G hokA hP) (cwV n hts hG hw hc0.1 hc0.2 hd2 hR)
    ⟨je_blind, va_recv hK (je_P1 hcell) (ci := ci) (q0 := 0) hcl rfl, fun U hU hWm => ⟨rfl, by rw [hU]; exact hW, va_K.moved hWm.alike hK, je_nest_warm hWm hN⟩⟩ rfl (by rw [List.length_map]; exact hn) hl.1 (by show List.map _ _ = _; rw [List.map_append, List.map_reverse]; rfl) (je_rest hsm) hd hroom) hV (fun r G' H1 locs1 hp hok hW1 hV1 => ?_)
  have := kk r G' hp h0 hL (fun q hq => by
    rcases List.mem_append.mp hq with h | h
    · exact hok q (by cases r with | none => cases h | some v => cases List.mem_singleton.mp h; rfl)
    · exact hS q (List.mem_append_right _ (List.mem_cons_of_mem _ h))) H1 locs1 ls hW1 hV1 hl
  rw [List.map_append] at this
  cases r <;> exact this
theorem je_callS (hx : p.tables.exec = Jvm.exec) (hb : c.code = cc) (hown : s.vm.findClass own = some m.cls) (hml : c.maxLocals = nL) (hts : ∀ w ∈ Ts, w.before args s = true) (hK : va_K D vwCl (je_T cA) s) (hJ : je_inj ad) (hN : ∀ w ∈ je_nest, va_Nw w s) (hroom : cells ≤ R.cells ∧ slots ≤ R.slots) {pc : Nat} {y : MethodName} {ws : List Jvm.Cond} {rm' : Room} {n : Nat} (hk : je_LkS own cc Ts R pc y ws rm' n) {Pre : List je_V → je_G → Prop} {Post : List je_V → je_G → Option je_V → je_G → Prop} (hM : je_M l y ws rm' Pre Post)
    {G : je_G} {L : List (Option je_V)} {S : List je_V} {As : List je_V} (hn : As.length = n) (hP : Pre As G) (hsm : Nat.ble (je_sm S) 8 = true) (kk : ∀ r G', Post As G r G' → je_J p l e R s m args below meth c cells slots Q D ad cA nL H0 G' (pc + 3) L (r.toList ++ S)) : je_J p l e R s m args below meth c cells slots Q D ad cA nL H0 G pc L (As.reverse ++ S) := by
  obtain ⟨idx, bytes, maxL, ret, ws', hd, hG, hw, hd2, hc0, hR⟩ := hk
  intro h0 hL hS H locs ls hW hV hl
  have hokA : je_oks As := fun q hq => hS q (List.mem_append_left _ (List.mem_reverse.mpr hq))
  have hend : ∀ (r : Option je_V) (G' : je_G) (H1 : Heap) (locs1 : List Loc), Post As G r G' → (∀ q, r = some (jR q) → je_ok q) → je_W D ad cA G' H1 → va_S (je_A ad) H0 H1 locs1 → W p l e R s m args below meth c H1 locs1 cells slots Q (F0 m (pc + 3) ls ((r.map (je_e ad)).toList ++ S.map (je_e ad))) := by
    intro r G' H1 locs1 hp hok hW1 hV1
    have := kk r G' hp h0 hL (fun q hq => by
      rcases List.mem_append.mp hq with h | h
      · exact hok q (by cases r with | none => cases h | some v => cases List.mem_singleton.mp h; rfl)
      · exact hS q (List.mem_append_right _ h)) H1 locs1 ls hW1 hV1 hl
    rw [List.map_append] at this
    cases r <;> exact this
  have hpre : PreS s H (je_Pc D ad cA As G) (As.map (je_e ad)) := ⟨je_blind, fun U hU hWm => ⟨rfl, by rw [hU]; exact hW, va_K.moved hWm.alike hK, je_nest_warm hWm hN⟩⟩
  rcases hG with hG | ⟨host, hG, hst, hini, hnw⟩
  · exact je_after (va_runS (As := As.map (je_e ad)) (rest := S.map (je_e ad)) ⟨hx, hb, hml, hown, hts⟩ (hM D ad cA hJ As G hokA hP) (va_cwS n hts hG hw hc0.1 hc0.2 hd2 hR) hpre rfl (by rw [List.length_map]; exact hn) hl.1 (by show List.map _ _ = _; rw [List.map_append, List.map_reverse]) (je_rest hsm) hd hroom) hV hend
  · exact je_after (va_runSN (As := As.map (je_e ad)) (rest := S.map (je_e ad)) ⟨hx, hb, hml, hown, hts⟩ (hM D ad cA hJ As G hokA hP) ⟨va_cnB n hts hG hw hc0.1 hc0.2 (hN _ hnw) (hts _ hini) hd2 hR, hts _ hst, trivial⟩ hpre rfl (by rw [List.length_map]; exact hn) hl.1 (by show List.map _ _ = _; rw [List.map_append, List.map_reverse]) (je_rest hsm) hd hroom) hV hend
end JR
-- ===== the rules, as a method's walk sees them =====
def je_okT (own : String) (cc : ByteArray) (Ts : List Jvm.Cond) : List (Nat × je_I) → Prop
  | [] => True
  | q :: t => je_okI own cc Ts q.1 q.2 ∧ je_okT own cc Ts t
theorem je_okT_mem {own : String} {cc : ByteArray} {Ts : List Jvm.Cond} : ∀ (tbl : List (Nat × je_I)), je_okT own cc Ts tbl → ∀ q ∈ tbl, je_okI own cc Ts q.1 q.2
  | [], _, q, h => by cases h
  | z :: t, ok, q, h => by
    rcases List.mem_cons.mp h with h | h
    · rw [h]; exact ok.1
    · exact je_okT_mem t ok.2 q h
/-- fewer locals known -/
def je_le : List (Option je_V) → List (Option je_V) → Prop
  | [], [] => True
  | none :: t, _ :: t' => je_le t t'
  | some v :: t, w :: t' => w = some v ∧ je_le t t'
  | _, _ => False
theorem je_le_len : ∀ (L' L : List (Option je_V)), je_le L' L → L'.length = L.length
  | [], [], _ => rfl
  | none :: t, w :: t', h => by simp [je_le_len t t' h]
  | some v :: t, w :: t', h => by simp [je_le_len t t' h.2]
  | [], w :: t', h => h.elim
  | none :: t, [], h => h.elim
  | some v :: t, [], h => h.elim
theorem je_le_get : ∀ (L' L : List (Option je_V)), je_le L' L → ∀ a v, je_get L' a = some v → je_get L a = some v
  | [], [], _, a, v, h => h
  | none :: t, w :: t', hl, a, v, h => by
    cases a with
    | zero => cases h
    | succ a => exact je_le_get t t' hl a v h
  | some z :: t, w :: t', hl, a, v, h => by
    cases a with
    | zero => rw [hl.1]; exact h
    | succ a => exact je_le_get t t' hl.2 a v h
  | [], w :: t', hl, a, v, h => hl.elim
  | none :: t, [], hl, a, v, h => hl.elim
  | some z :: t, [], hl, a, v, h => hl.elim
/-- the rows agree wherever the world holds something -/
def je_eqv (G G' : je_G) : Prop := (∀ c n j q, n < je_cnt c → je_nth (je_F c n) j = some (.inl q) → G c n q.1 q.2 = G' c n q.1 q.2) ∧ ∀ c n j r i, n < je_cnt c → je_inA c j r i → G c n r i = G' c n r i
/-- what a walk may use: n steps of the table; calls; worlds that agree; fewer locals -/
def je_R (l : Launch) (own : String) (cc : ByteArray) (Ts : List Jvm.Cond) (rm : Room) (tbl : List (Nat × je_I)) (rt : Nat) (Rt : je_G → Option je_V → Prop) (J : je_K) : Prop :=
  (∀ n G pc L S, je_run tbl rt J Rt n G pc L S → J G pc L S) ∧
  (∀ {pc : Nat} {y : MethodName} {ws : List Jvm.Cond} {rm' : Room} {ci n : Nat}, je_LkV own cc Ts rm pc y ws rm' ci n → ∀ {Pre : List je_V → je_G → Prop} {Post : List je_V → je_G → Option je_V → je_G → Prop}, je_M l y ws rm' Pre Post → ∀ {G : je_G} {L : List (Option je_V)} {S : List je_V} {As : List je_V} {i : Nat}, As.length = n → Pre (jR (ci, i, 0) :: As) G → Nat.ble (je_sm S) 8 = true → (∀ r G', Post (jR (ci, i, 0) :: As) G r G' → J G' (pc + 3) L (r.toList ++ S)) → J G pc L (As.reverse ++ jR (ci, i, 0) :: S)) ∧
  (∀ {pc : Nat} {y : MethodName} {ws : List Jvm.Cond} {rm' : Room} {n : Nat}, je_LkS own cc Ts rm pc y ws rm' n → ∀ {Pre : List je_V → je_G → Prop} {Post : List je_V → je_G → Option je_V → je_G → Prop}, je_M l y ws rm' Pre Post → ∀ {G : je_G} {L : List (Option je_V)} {S : List je_V} {As : List je_V}, As.length = n → Pre As G → Nat.ble (je_sm S) 8 = true → (∀ r G', Post As G r G' → J G' (pc + 3) L (r.toList ++ S)) → J G pc L (As.reverse ++ S)) ∧
  (∀ {G G' : je_G} {pc : Nat} {L : List (Option je_V)} {S : List je_V}, je_eqv G G' → J G' pc L S → J G pc L S) ∧
  (∀ {G : je_G} {pc : Nat} {L L' : List (Option je_V)} {S : List je_V}, je_le L' L → J G pc L' S → J G pc L S)
theorem je_run_ok {own : String} {cc : ByteArray} {Ts : List Jvm.Cond} {tbl : List (Nat × je_I)} {rt : Nat} {Rt : je_G → Option je_V → Prop} {J : je_K} (hT : je_okT own cc Ts tbl) (hs : ∀ (K : je_K), (∀ G pc L S, K G pc L S → J G pc L S) → ∀ {pc t G L S}, je_okI own cc Ts pc t → je_step t rt K Rt G L S → J G pc L S) : ∀ n G pc L S, je_run tbl rt J Rt n G pc L S → J G pc L S
  | 0, G, pc, L, S, h => h
  | n + 1, G, pc, L, S, h => by
    unfold je_run at h
    cases hl : je_look tbl pc with
    | none => rw [hl] at h; exact h
    | some t =>
      rw [hl] at h
      exact hs _ (fun G pc L S => je_run_ok hT hs n G pc L S) (je_okT_mem tbl hT (pc, t) (je_look_mem tbl pc hl)) h
/-- the arguments in the locals -/
def je_L0 : List je_V → List (Option je_V)
  | [] => []
  | .inr (.inl x) :: t => some (.inr (.inl x)) :: none :: je_L0 t
  | .inl x :: t => some (.inl x) :: je_L0 t
  | .inr (.inr x) :: t => some (.inr (.inr x)) :: je_L0 t
def je_fill : Nat → List (Option je_V) → List (Option je_V)
  | 0, _ => []
  | n + 1, [] => none :: je_fill n []
  | n + 1, v :: t => v :: je_fill n t
theorem je_fill_len : ∀ (n : Nat) (L : List (Option je_V)), (je_fill n L).length = n
  | 0, _ => rfl
  | n + 1, [] => by show (none :: je_fill n []).length = _; rw [List.length_cons, je_fill_len n]
  | n + 1, v :: t => by show (v :: je_fill n t).length = _; rw [List.length_cons, je_fill_len n]
theorem je_fill_get : ∀ (n : Nat) (L : List (Option je_V)) (a : Nat) (v : je_V), je_get (je_fill n L) a = some v → je_get L a = some v
  | 0, L, a, v, h => by cases h
  | n + 1, [], a, v, h => by
    cases a with
    | zero => cases h
    | succ a => exact (by have := je_fill_get n [] a v h; cases this)
  | n + 1, w :: t, a, v, h => by
    cases a with
    | zero => exact h
    | succ a => exact je_fill_get n t a v h
theorem je_L0_args (ad : je_C → Nat) : ∀ (As : List je_V) (i : Nat), ∀ q ∈ je_eL ad i (je_L0 As), q ∈ lv_args i (As.map (je_e ad))
  | [], i, q, h => by cases h
  | .inr (.inl x) :: t, i, q, h => by
    rcases List.mem_cons.mp h with h | h
    · rw [h]; exact List.mem_cons_self
    · exact List.mem_cons_of_mem _ (je_L0_args ad t (i + 2) q h)
  | .inl x :: t, i, q, h => by
    rcases List.mem_cons.mp h with h | h
    · rw [h]; exact List.mem_cons_self
    · exact List.mem_cons_of_mem _ (je_L0_args ad t (i + 1) q h)
  | .inr (.inr x) :: t, i, q, h => by
    rcases List.mem_cons.mp h with h | h
    · rw [h]; exact List.mem_cons_self
    · refine List.mem_cons_of_mem _ ?_
      have h9 := je_L0_args ad t (i + 1) q h
      cases x <;> exact h9
theorem je_L0_in : ∀ (As : List je_V) (v : je_V), some v ∈ je_L0 As → v ∈ As
  | [], v, h => by cases h
  | .inr (.inl x) :: t, v, h => by
    rcases List.mem_cons.mp h with h | h
    · cases h; exact List.mem_cons_self
    · rcases List.mem_cons.mp h with h | h
      · cases h
      · exact List.mem_cons_of_mem _ (je_L0_in t v h)
  | .inl x :: t, v, h => by
    rcases List.mem_cons.mp h with h | h
    · cases h; exact List.mem_cons_self
    · exact List.mem_cons_of_mem _ (je_L0_in t v h)
  | .inr (.inr x) :: t, v, h => by
    rcases List.mem_cons.mp h with h | h
    · cases h; exact List.mem_cons_self
    · exact List.mem_cons_of_mem _ (je_L0_in t v h)
theorem je_sl_len (ad : je_C → Nat) (As : List je_V) : (lg_sl (As.map (je_e ad))).length = je_sm As := by
  induction As with
  | nil => rfl
  | cons v t ih =>
    have h1 : lg_sl ((v :: t).map (je_e ad)) = (if (je_e ad v).category = 2 then [Slot.val (je_e ad v), .second] else [.val (je_e ad v)]) ++ lg_sl (t.map (je_e ad)) := rfl
    rw [h1, List.length_append, ih, je_cat_e]
    rcases v with x | x | x <;> rfl
/-- what a return may answer -/
def je_ret (rt : Nat) (ret : Option FieldType) : Prop := (rt = 0 ∧ ret = none) ∨ (rt = 1 ∧ ret = some .int) ∨ (rt = 2 ∧ ret = some .boolean) ∨ (rt = 3 ∧ ∃ n, ret = some (.object n))
theorem je_met {l : Launch} {own : String} {y : MethodName} {ws ws' : List Jvm.Cond} {cc : ByteArray} {maxL : Nat} {ret : Option FieldType} {rm : Room} {Pre : List je_V → je_G → Prop} {Post : List je_V → je_G → Option je_V → je_G → Prop} (tbl : List (Nat × je_I)) (rt : Nat) (hT : je_okT own cc ws tbl) (hw : ws = .code y cc maxL ret :: ws') (hy : plainName y.cls = true) (hown : y.cls = own) (hrt : je_ret rt ret) (hroom : 1 ≤ rm.frames ∧ 21 ≤ rm.locals) (hlen : ∀ As G, Pre As G → je_sm As ≤ maxL)
    (body : ∀ (As : List je_V) (G : je_G) (J : je_K), Pre As G → je_oks As → je_R l own cc ws rm tbl rt (fun G' r => Post As G r G') J → J G 0 (je_fill maxL (je_L0 As)) []) : je_M l y ws rm Pre Post := by
  intro D ad cA hJ As G hoA hP
  refine Met.ofW (cc := cc) (maxL := maxL) (ret := ret) hy hw ?_
  intro p e s m args below meth c s₁ B hml hv
  obtain ⟨rfl, hW, hK, hN⟩ := hv
  have hx := B.exec
  have hb := B.bytes
  have hr := B.returns
  have hts := atoms_spec (ws := ws) B.pre
  have ho : s.vm.findClass own = some m.cls := by rw [← hown]; exact findClass_of_methodNamed B.named
  have hlocks := B.notSynchronized
  rw [lg_entry_eq]
  have hl := lv_entry (As.map (je_e ad)) (n := maxL) (by rw [je_sl_len]; exact hlen As G hP)
  generalize (lg_sl (As.map (je_e ad)) ++ List.replicate (maxL - (lg_sl (As.map (je_e ad))).length) Slot.unset).toArray = ls at hl ⊢
  have hroom' : 1 ≤ rm.frames ∧ 21 ≤ rm.locals ∧ 0 ≤ rm.cells ∧ 0 ≤ rm.slots := ⟨hroom.1, hroom.2, Nat.zero_le _, Nat.zero_le _⟩
  have hQ : ∀ (G' : je_G) (r : Option je_V) (H : Heap) (locs : List Loc), Post As G r G' → (∀ q, r = some (jR q) → je_ok q) → je_W D ad cA G' H → va_S (je_A ad) s.heap H locs → ∀ t : State, t.heap = H → s.WarmedH t.vm → je_Qc D ad cA (Post As G) (As.map (je_e ad)).toArray s (.returned (r.map (je_e ad))) t := fun G' r H locs hp hok hW' hS t ht hWm => ⟨⟨r, G', rfl, hp, hok, by rw [ht]; exact hW'⟩, hS.F ht⟩
  have hrules := body As G (je_J p l e rm s m (As.map (je_e ad)).toArray below meth c 0 0 (MQ below (je_Qc D ad cA (Post As G)) (As.map (je_e ad)).toArray s 0 0 (je_A ad)) D ad cA maxL s.heap) hP hoA ⟨?_, ?_, ?_, ?_, ?_⟩
  · refine hrules (by rw [je_fill_len]; exact Nat.le_refl _) (fun q hq => ?_) (fun q hq => by cases hq) s.heap [] ls hW va_S.rf (lv_mono hl (fun q hq => ?_))
    · obtain ⟨a, ha⟩ := je_in_get _ hq
      exact hoA q (je_L0_in As _ (je_get_in _ a (je_fill_get _ _ a _ ha)))
    · obtain ⟨a, v, h1, h2⟩ := je_mem_get _ 0 hq
      rw [h2]
      exact je_L0_args ad As 0 _ (je_get_mem _ a 0 (je_fill_get _ _ a v h1))
  · refine je_run_ok hT (fun K hKJ {pc t G' L S} hok h => je_sound (rt := rt) (Rt := fun G' r => Post As G r G') hx hb ho hml hts hK hJ hroom' ?_ ?_ ?_ hok hKJ h)
    · intro G' pc x H locs ls' hd hz hp hW' hS
      rcases hz with hz | ⟨hz, h01⟩
      · have hre : meth.sig.returnType = some .int := by
          rw [hr]
          rcases hrt with h | h | h | h
          · omega
          · exact h.2
          · omega
          · omega
        exact W.iret hx hb hre (hQ G' (some (jI x)) H locs hp (fun q hq => by cases hq) hW' hS) hS.2.2 hd hlocks
      · have hre : meth.sig.returnType = some .boolean := by
          rw [hr]
          rcases hrt with h | h | h | h
          · omega
          · omega
          · exact h.2
          · omega
        exact W.zret hx hb hre (by rcases h01 with rfl | rfl <;> rfl) (hQ G' (some (jI x)) H locs hp (fun q hq => by cases hq) hW' hS) hS.2.2 hd hlocks
    · intro G' pc r H locs ls' hd hz hp hok2 hW' hS
      obtain ⟨n, hre⟩ : ∃ n, meth.sig.returnType = some (.object n) := by
        rw [hr]
        rcases hrt with h | h | h | h
        · omega
        · omega
        · omega
        · exact h.2
      exact W.aret hx hb hre (Or.inl ⟨n, rfl⟩) (by cases r with | none => exact Or.inl rfl | some q => exact Or.inr ⟨_, rfl⟩) (hQ G' (some (.inr (.inr r))) H locs hp (fun q hq => hok2 q (by cases hq; rfl)) hW' hS) hS.2.2 hd hlocks
    · intro G' pc H locs ls' hd hz hp hW' hS
      have hre : meth.sig.returnType = none := by
        rw [hr]
        rcases hrt with h | h | h | h
        · exact h.2
        · omega
        · omega
        · omega
      exact W.vret hx hb hre (hQ G' none H locs hp (fun q hq => by cases hq) hW' hS) hS.2.2 hd hlocks
  · intro pc y' ws2 rm' ci n hk Pre' Post' hM G' L S As' i hn hP' hsm kk
    exact je_callV hx hb ho hml hts hK hJ hN ⟨Nat.zero_le _, Nat.zero_le _⟩ hk hM hn hP' hsm kk
  · intro pc y' ws2 rm' n hk Pre' Post' hM G' L S As' hn hP' hsm kk
    exact je_callS hx hb ho hml hts hK hJ hN ⟨Nat.zero_le _, Nat.zero_le _⟩ hk hM hn hP' hsm kk
  · intro G1 G2 pc L S he h h0 hL hS H locs ls' hW' hV hl'
    exact h h0 hL hS H locs ls' (je_W_ext hW' he.1 he.2) hV hl'
  · intro G1 pc L L' S he h h0 hL hS H locs ls' hW' hV hl'
    refine h (by rw [je_le_len _ _ he]; exact h0) (fun q hq => ?_) hS H locs ls' hW' hV (lv_mono hl' (fun q hq => ?_))
    · obtain ⟨a, ha⟩ := je_in_get _ hq
      exact hL q (je_get_in _ a (je_le_get _ _ he a _ ha))
    · obtain ⟨a, v, h1, h2⟩ := je_mem_get _ 0 hq
      rw [h2]
      exact je_get_mem _ a 0 (je_le_get _ _ he a v h1)
end
