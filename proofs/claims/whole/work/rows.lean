section
-- ===== PART A: goes FIRST, ahead of the names: the tables' words, and 'selects' of the private methods out of them =====
/-- a private method of a class that the tables say can be made, by its rows of tables_1 -/
def lw_okq (q : MethodName × Nat) : Prop := (q.1.cls ≠ "java/lang/invoke/MethodHandle" ∧ q.1.cls ≠ "java/lang/invoke/VarHandle") ∧ Cond.instantiable q.1.cls q.2 ∈ tables_1 ∧ Cond.privateMethod q.1 ∈ tables_1 ∧ Cond.instanceMethod q.1 ∈ tables_1
theorem lw_p0 : lw_okq (⟨"RopedHalls", "remember", "()V"⟩, 10) := ⟨⟨by decide +kernel, by decide +kernel⟩, List.mem_of_getElem? (i := 11) (by decide +kernel), List.mem_of_getElem? (i := 204) (by decide +kernel), List.mem_of_getElem? (i := 205) (by decide +kernel)⟩
theorem lw_p1 : lw_okq (⟨"RopedHalls", "recorded", "(I)LRopedHalls$Hall;"⟩, 10) := ⟨⟨by decide +kernel, by decide +kernel⟩, List.mem_of_getElem? (i := 11) (by decide +kernel), List.mem_of_getElem? (i := 208) (by decide +kernel), List.mem_of_getElem? (i := 209) (by decide +kernel)⟩
theorem lw_p2 : lw_okq (⟨"RopedHalls$Routes", "measureFrom", "(LRopedHalls$Hall;I)V"⟩, 6) := ⟨⟨by decide +kernel, by decide +kernel⟩, List.mem_of_getElem? (i := 90) (by decide +kernel), List.mem_of_getElem? (i := 277) (by decide +kernel), List.mem_of_getElem? (i := 278) (by decide +kernel)⟩
theorem lw_p3 : lw_okq (⟨"RopedHalls$Routes", "chooseGoal", "(LRopedHalls$Hall;I)I"⟩, 6) := ⟨⟨by decide +kernel, by decide +kernel⟩, List.mem_of_getElem? (i := 90) (by decide +kernel), List.mem_of_getElem? (i := 294) (by decide +kernel), List.mem_of_getElem? (i := 295) (by decide +kernel)⟩
theorem lw_p4 : lw_okq (⟨"RopedHalls$Routes", "chooseNext", "(LRopedHalls$Hall;I)I"⟩, 6) := ⟨⟨by decide +kernel, by decide +kernel⟩, List.mem_of_getElem? (i := 90) (by decide +kernel), List.mem_of_getElem? (i := 298) (by decide +kernel), List.mem_of_getElem? (i := 299) (by decide +kernel)⟩
theorem lw_p5 : lw_okq (⟨"RopedHalls$Routes", "orderTurns", "()V"⟩, 6) := ⟨⟨by decide +kernel, by decide +kernel⟩, List.mem_of_getElem? (i := 90) (by decide +kernel), List.mem_of_getElem? (i := 310) (by decide +kernel), List.mem_of_getElem? (i := 311) (by decide +kernel)⟩
theorem lw_p6 : lw_okq (⟨"RopedHalls$Pad", "codeAt", "(I)I"⟩, 2) := ⟨⟨by decide +kernel, by decide +kernel⟩, List.mem_of_getElem? (i := 147) (by decide +kernel), List.mem_of_getElem? (i := 332) (by decide +kernel), List.mem_of_getElem? (i := 333) (by decide +kernel)⟩
theorem lw_p7 : lw_okq (⟨"RopedHalls$Pad", "letCrowdIn", "(LRopedHalls$Hall;II)V"⟩, 2) := ⟨⟨by decide +kernel, by decide +kernel⟩, List.mem_of_getElem? (i := 147) (by decide +kernel), List.mem_of_getElem? (i := 346) (by decide +kernel), List.mem_of_getElem? (i := 347) (by decide +kernel)⟩
theorem lw_p8 : lw_okq (⟨"RopedHalls$Minute", "move", "(LRopedHalls$Hall;II)V"⟩, 1) := ⟨⟨by decide +kernel, by decide +kernel⟩, List.mem_of_getElem? (i := 115) (by decide +kernel), List.mem_of_getElem? (i := 381) (by decide +kernel), List.mem_of_getElem? (i := 382) (by decide +kernel)⟩
theorem lw_p9 : lw_okq (⟨"RopedHalls", "strandedNow", "()I"⟩, 10) := ⟨⟨by decide +kernel, by decide +kernel⟩, List.mem_of_getElem? (i := 11) (by decide +kernel), List.mem_of_getElem? (i := 420) (by decide +kernel), List.mem_of_getElem? (i := 421) (by decide +kernel)⟩
theorem lw_p10 : lw_okq (⟨"RopedHalls", "canHang", "(I)Z"⟩, 10) := ⟨⟨by decide +kernel, by decide +kernel⟩, List.mem_of_getElem? (i := 11) (by decide +kernel), List.mem_of_getElem? (i := 482) (by decide +kernel), List.mem_of_getElem? (i := 483) (by decide +kernel)⟩
theorem lw_p11 : lw_okq (⟨"RopedHallsModel", "lays", "(II)I"⟩, 16) := ⟨⟨by decide +kernel, by decide +kernel⟩, List.mem_of_getElem? (i := 525) (by decide +kernel), List.mem_of_getElem? (i := 587) (by decide +kernel), List.mem_of_getElem? (i := 588) (by decide +kernel)⟩
theorem lw_p12 : lw_okq (⟨"RopedHallsModel", "record", "()V"⟩, 16) := ⟨⟨by decide +kernel, by decide +kernel⟩, List.mem_of_getElem? (i := 525) (by decide +kernel), List.mem_of_getElem? (i := 591) (by decide +kernel), List.mem_of_getElem? (i := 592) (by decide +kernel)⟩
theorem lw_p13 : lw_okq (⟨"RopedHallsModel", "ropes", "()I"⟩, 16) := ⟨⟨by decide +kernel, by decide +kernel⟩, List.mem_of_getElem? (i := 525) (by decide +kernel), List.mem_of_getElem? (i := 611) (by decide +kernel), List.mem_of_getElem? (i := 612) (by decide +kernel)⟩
theorem lw_p14 : lw_okq (⟨"RopedHallsModel", "openDoors", "()I"⟩, 16) := ⟨⟨by decide +kernel, by decide +kernel⟩, List.mem_of_getElem? (i := 525) (by decide +kernel), List.mem_of_getElem? (i := 626) (by decide +kernel), List.mem_of_getElem? (i := 627) (by decide +kernel)⟩
theorem lw_p15 : lw_okq (⟨"RopedHallsModel", "layWays", "()V"⟩, 16) := ⟨⟨by decide +kernel, by decide +kernel⟩, List.mem_of_getElem? (i := 525) (by decide +kernel), List.mem_of_getElem? (i := 634) (by decide +kernel), List.mem_of_getElem? (i := 635) (by decide +kernel)⟩
def lw_privs_1 : List (MethodName × Nat) := [(⟨"RopedHalls", "remember", "()V"⟩, 10), (⟨"RopedHalls", "recorded", "(I)LRopedHalls$Hall;"⟩, 10), (⟨"RopedHalls$Routes", "measureFrom", "(LRopedHalls$Hall;I)V"⟩, 6), (⟨"RopedHalls$Routes", "chooseGoal", "(LRopedHalls$Hall;I)I"⟩, 6), (⟨"RopedHalls$Routes", "chooseNext", "(LRopedHalls$Hall;I)I"⟩, 6), (⟨"RopedHalls$Routes", "orderTurns", "()V"⟩, 6), (⟨"RopedHalls$Pad", "codeAt", "(I)I"⟩, 2), (⟨"RopedHalls$Pad", "letCrowdIn", "(LRopedHalls$Hall;II)V"⟩, 2), (⟨"RopedHalls$Minute", "move", "(LRopedHalls$Hall;II)V"⟩, 1), (⟨"RopedHalls", "strandedNow", "()I"⟩, 10), (⟨"RopedHalls", "canHang", "(I)Z"⟩, 10), (⟨"RopedHallsModel", "lays", "(II)I"⟩, 16), (⟨"RopedHallsModel", "record", "()V"⟩, 16), (⟨"RopedHallsModel", "ropes", "()I"⟩, 16), (⟨"RopedHallsModel", "openDoors", "()I"⟩, 16), (⟨"RopedHallsModel", "layWays", "()V"⟩, 16)]
theorem lw_r1 : ∀ q ∈ lw_privs_1, lw_okq q := List.forall_mem_cons.mpr ⟨lw_p0, List.forall_mem_cons.mpr ⟨lw_p1, List.forall_mem_cons.mpr ⟨lw_p2, List.forall_mem_cons.mpr ⟨lw_p3, List.forall_mem_cons.mpr ⟨lw_p4, List.forall_mem_cons.mpr ⟨lw_p5, List.forall_mem_cons.mpr ⟨lw_p6, List.forall_mem_cons.mpr ⟨lw_p7, List.forall_mem_cons.mpr ⟨lw_p8, List.forall_mem_cons.mpr ⟨lw_p9, List.forall_mem_cons.mpr ⟨lw_p10, List.forall_mem_cons.mpr ⟨lw_p11, List.forall_mem_cons.mpr ⟨lw_p12, List.forall_mem_cons.mpr ⟨lw_p13, List.forall_mem_cons.mpr ⟨lw_p14, List.forall_mem_cons.mpr ⟨lw_p15, fun _ h => absurd h List.not_mem_nil⟩⟩⟩⟩⟩⟩⟩⟩⟩⟩⟩⟩⟩⟩⟩⟩
theorem lw_p16 : lw_okq (⟨"RopedHallsModel", "layFar", "(I)V"⟩, 16) := ⟨⟨by decide +kernel, by decide +kernel⟩, List.mem_of_getElem? (i := 525) (by decide +kernel), List.mem_of_getElem? (i := 638) (by decide +kernel), List.mem_of_getElem? (i := 639) (by decide +kernel)⟩
theorem lw_p17 : lw_okq (⟨"RopedHallsModel", "isFree", "(II)Z"⟩, 16) := ⟨⟨by decide +kernel, by decide +kernel⟩, List.mem_of_getElem? (i := 525) (by decide +kernel), List.mem_of_getElem? (i := 642) (by decide +kernel), List.mem_of_getElem? (i := 643) (by decide +kernel)⟩
theorem lw_p18 : lw_okq (⟨"RopedHallsModel", "goalOf", "(I)I"⟩, 16) := ⟨⟨by decide +kernel, by decide +kernel⟩, List.mem_of_getElem? (i := 525) (by decide +kernel), List.mem_of_getElem? (i := 646) (by decide +kernel), List.mem_of_getElem? (i := 647) (by decide +kernel)⟩
theorem lw_p19 : lw_okq (⟨"RopedHallsModel", "leads", "(II)Z"⟩, 16) := ⟨⟨by decide +kernel, by decide +kernel⟩, List.mem_of_getElem? (i := 525) (by decide +kernel), List.mem_of_getElem? (i := 650) (by decide +kernel), List.mem_of_getElem? (i := 651) (by decide +kernel)⟩
theorem lw_p20 : lw_okq (⟨"RopedHallsModel", "nextOf", "(I)I"⟩, 16) := ⟨⟨by decide +kernel, by decide +kernel⟩, List.mem_of_getElem? (i := 525) (by decide +kernel), List.mem_of_getElem? (i := 654) (by decide +kernel), List.mem_of_getElem? (i := 655) (by decide +kernel)⟩
theorem lw_p21 : lw_okq (⟨"RopedHallsModel", "out", "()I"⟩, 16) := ⟨⟨by decide +kernel, by decide +kernel⟩, List.mem_of_getElem? (i := 525) (by decide +kernel), List.mem_of_getElem? (i := 666) (by decide +kernel), List.mem_of_getElem? (i := 667) (by decide +kernel)⟩
theorem lw_p22 : lw_okq (⟨"RopedHallsModel", "minute", "()V"⟩, 16) := ⟨⟨by decide +kernel, by decide +kernel⟩, List.mem_of_getElem? (i := 525) (by decide +kernel), List.mem_of_getElem? (i := 670) (by decide +kernel), List.mem_of_getElem? (i := 671) (by decide +kernel)⟩
theorem lw_p23 : lw_okq (⟨"RopedHallsModel", "letsOut", "(I)V"⟩, 16) := ⟨⟨by decide +kernel, by decide +kernel⟩, List.mem_of_getElem? (i := 525) (by decide +kernel), List.mem_of_getElem? (i := 674) (by decide +kernel), List.mem_of_getElem? (i := 675) (by decide +kernel)⟩
theorem lw_p24 : lw_okq (⟨"RopedHallsModel", "goes", "(I)V"⟩, 16) := ⟨⟨by decide +kernel, by decide +kernel⟩, List.mem_of_getElem? (i := 525) (by decide +kernel), List.mem_of_getElem? (i := 678) (by decide +kernel), List.mem_of_getElem? (i := 679) (by decide +kernel)⟩
theorem lw_p25 : lw_okq (⟨"RopedHallsModel", "ropesOf", "(I)I"⟩, 16) := ⟨⟨by decide +kernel, by decide +kernel⟩, List.mem_of_getElem? (i := 525) (by decide +kernel), List.mem_of_getElem? (i := 686) (by decide +kernel), List.mem_of_getElem? (i := 687) (by decide +kernel)⟩
theorem lw_p26 : lw_okq (⟨"RopedHallsModel", "hasRope", "(II)Z"⟩, 16) := ⟨⟨by decide +kernel, by decide +kernel⟩, List.mem_of_getElem? (i := 525) (by decide +kernel), List.mem_of_getElem? (i := 690) (by decide +kernel), List.mem_of_getElem? (i := 691) (by decide +kernel)⟩
theorem lw_p27 : lw_okq (⟨"RopedHallsModel", "goalOfMany", "(IZ)I"⟩, 16) := ⟨⟨by decide +kernel, by decide +kernel⟩, List.mem_of_getElem? (i := 525) (by decide +kernel), List.mem_of_getElem? (i := 698) (by decide +kernel), List.mem_of_getElem? (i := 699) (by decide +kernel)⟩
theorem lw_p28 : lw_okq (⟨"RopedHallsModel", "people", "()I"⟩, 16) := ⟨⟨by decide +kernel, by decide +kernel⟩, List.mem_of_getElem? (i := 525) (by decide +kernel), List.mem_of_getElem? (i := 706) (by decide +kernel), List.mem_of_getElem? (i := 707) (by decide +kernel)⟩
theorem lw_p29 : lw_okq (⟨"RopedHallsModel", "openSet", "()I"⟩, 16) := ⟨⟨by decide +kernel, by decide +kernel⟩, List.mem_of_getElem? (i := 525) (by decide +kernel), List.mem_of_getElem? (i := 710) (by decide +kernel), List.mem_of_getElem? (i := 711) (by decide +kernel)⟩
theorem lw_p30 : lw_okq (⟨"RopedHallsModel", "shutIn", "()I"⟩, 16) := ⟨⟨by decide +kernel, by decide +kernel⟩, List.mem_of_getElem? (i := 525) (by decide +kernel), List.mem_of_getElem? (i := 714) (by decide +kernel), List.mem_of_getElem? (i := 715) (by decide +kernel)⟩
theorem lw_p31 : lw_okq (⟨"RopedHallsModel", "uneven", "()I"⟩, 16) := ⟨⟨by decide +kernel, by decide +kernel⟩, List.mem_of_getElem? (i := 525) (by decide +kernel), List.mem_of_getElem? (i := 718) (by decide +kernel), List.mem_of_getElem? (i := 719) (by decide +kernel)⟩
def lw_privs_2 : List (MethodName × Nat) := [(⟨"RopedHallsModel", "layFar", "(I)V"⟩, 16), (⟨"RopedHallsModel", "isFree", "(II)Z"⟩, 16), (⟨"RopedHallsModel", "goalOf", "(I)I"⟩, 16), (⟨"RopedHallsModel", "leads", "(II)Z"⟩, 16), (⟨"RopedHallsModel", "nextOf", "(I)I"⟩, 16), (⟨"RopedHallsModel", "out", "()I"⟩, 16), (⟨"RopedHallsModel", "minute", "()V"⟩, 16), (⟨"RopedHallsModel", "letsOut", "(I)V"⟩, 16), (⟨"RopedHallsModel", "goes", "(I)V"⟩, 16), (⟨"RopedHallsModel", "ropesOf", "(I)I"⟩, 16), (⟨"RopedHallsModel", "hasRope", "(II)Z"⟩, 16), (⟨"RopedHallsModel", "goalOfMany", "(IZ)I"⟩, 16), (⟨"RopedHallsModel", "people", "()I"⟩, 16), (⟨"RopedHallsModel", "openSet", "()I"⟩, 16), (⟨"RopedHallsModel", "shutIn", "()I"⟩, 16), (⟨"RopedHallsModel", "uneven", "()I"⟩, 16)]
theorem lw_r2 : ∀ q ∈ lw_privs_2, lw_okq q := List.forall_mem_cons.mpr ⟨lw_p16, List.forall_mem_cons.mpr ⟨lw_p17, List.forall_mem_cons.mpr ⟨lw_p18, List.forall_mem_cons.mpr ⟨lw_p19, List.forall_mem_cons.mpr ⟨lw_p20, List.forall_mem_cons.mpr ⟨lw_p21, List.forall_mem_cons.mpr ⟨lw_p22, List.forall_mem_cons.mpr ⟨lw_p23, List.forall_mem_cons.mpr ⟨lw_p24, List.forall_mem_cons.mpr ⟨lw_p25, List.forall_mem_cons.mpr ⟨lw_p26, List.forall_mem_cons.mpr ⟨lw_p27, List.forall_mem_cons.mpr ⟨lw_p28, List.forall_mem_cons.mpr ⟨lw_p29, List.forall_mem_cons.mpr ⟨lw_p30, List.forall_mem_cons.mpr ⟨lw_p31, fun _ h => absurd h List.not_mem_nil⟩⟩⟩⟩⟩⟩⟩⟩⟩⟩⟩⟩⟩⟩⟩⟩
theorem lw_p32 : lw_okq (⟨"RopedHallsModel", "guards", "()I"⟩, 16) := ⟨⟨by decide +kernel, by decide +kernel⟩, List.mem_of_getElem? (i := 525) (by decide +kernel), List.mem_of_getElem? (i := 722) (by decide +kernel), List.mem_of_getElem? (i := 723) (by decide +kernel)⟩
theorem lw_p33 : lw_okq (⟨"RopedHallsModel", "putAside", "()V"⟩, 16) := ⟨⟨by decide +kernel, by decide +kernel⟩, List.mem_of_getElem? (i := 525) (by decide +kernel), List.mem_of_getElem? (i := 734) (by decide +kernel), List.mem_of_getElem? (i := 735) (by decide +kernel)⟩
theorem lw_p34 : lw_okq (⟨"RopedHallsModel", "emptied", "()I"⟩, 16) := ⟨⟨by decide +kernel, by decide +kernel⟩, List.mem_of_getElem? (i := 525) (by decide +kernel), List.mem_of_getElem? (i := 738) (by decide +kernel), List.mem_of_getElem? (i := 739) (by decide +kernel)⟩
theorem lw_p35 : lw_okq (⟨"RopedHallsModel", "putBack", "()V"⟩, 16) := ⟨⟨by decide +kernel, by decide +kernel⟩, List.mem_of_getElem? (i := 525) (by decide +kernel), List.mem_of_getElem? (i := 742) (by decide +kernel), List.mem_of_getElem? (i := 743) (by decide +kernel)⟩
theorem lw_p36 : lw_okq (⟨"RopedHallsModel", "tries", "(II)V"⟩, 16) := ⟨⟨by decide +kernel, by decide +kernel⟩, List.mem_of_getElem? (i := 525) (by decide +kernel), List.mem_of_getElem? (i := 750) (by decide +kernel), List.mem_of_getElem? (i := 751) (by decide +kernel)⟩
theorem lw_p37 : lw_okq (⟨"RopedHallsModel", "reads", "(Z)I"⟩, 16) := ⟨⟨by decide +kernel, by decide +kernel⟩, List.mem_of_getElem? (i := 525) (by decide +kernel), List.mem_of_getElem? (i := 775) (by decide +kernel), List.mem_of_getElem? (i := 776) (by decide +kernel)⟩
theorem lw_p38 : lw_okq (⟨"RopedHallsModel", "takes", "(II)I"⟩, 16) := ⟨⟨by decide +kernel, by decide +kernel⟩, List.mem_of_getElem? (i := 525) (by decide +kernel), List.mem_of_getElem? (i := 779) (by decide +kernel), List.mem_of_getElem? (i := 780) (by decide +kernel)⟩
theorem lw_p39 : lw_okq (⟨"RopedHallsModel", "takesMany", "()I"⟩, 16) := ⟨⟨by decide +kernel, by decide +kernel⟩, List.mem_of_getElem? (i := 525) (by decide +kernel), List.mem_of_getElem? (i := 783) (by decide +kernel), List.mem_of_getElem? (i := 784) (by decide +kernel)⟩
theorem lw_p40 : lw_okq (⟨"RopedHallsModel", "isNext", "(II)Z"⟩, 16) := ⟨⟨by decide +kernel, by decide +kernel⟩, List.mem_of_getElem? (i := 525) (by decide +kernel), List.mem_of_getElem? (i := 787) (by decide +kernel), List.mem_of_getElem? (i := 788) (by decide +kernel)⟩
def lw_privs_3 : List (MethodName × Nat) := [(⟨"RopedHallsModel", "guards", "()I"⟩, 16), (⟨"RopedHallsModel", "putAside", "()V"⟩, 16), (⟨"RopedHallsModel", "emptied", "()I"⟩, 16), (⟨"RopedHallsModel", "putBack", "()V"⟩, 16), (⟨"RopedHallsModel", "tries", "(II)V"⟩, 16), (⟨"RopedHallsModel", "reads", "(Z)I"⟩, 16), (⟨"RopedHallsModel", "takes", "(II)I"⟩, 16), (⟨"RopedHallsModel", "takesMany", "()I"⟩, 16), (⟨"RopedHallsModel", "isNext", "(II)Z"⟩, 16)]
theorem lw_r3 : ∀ q ∈ lw_privs_3, lw_okq q := List.forall_mem_cons.mpr ⟨lw_p32, List.forall_mem_cons.mpr ⟨lw_p33, List.forall_mem_cons.mpr ⟨lw_p34, List.forall_mem_cons.mpr ⟨lw_p35, List.forall_mem_cons.mpr ⟨lw_p36, List.forall_mem_cons.mpr ⟨lw_p37, List.forall_mem_cons.mpr ⟨lw_p38, List.forall_mem_cons.mpr ⟨lw_p39, List.forall_mem_cons.mpr ⟨lw_p40, fun _ h => absurd h List.not_mem_nil⟩⟩⟩⟩⟩⟩⟩⟩⟩
def lw_privs : List (MethodName × Nat) := lw_privs_1 ++ (lw_privs_2 ++ (lw_privs_3))
def lw_tbl : List Cond := k2_sels lw_privs ++ tables_1
theorem lw_privs_ok : ∀ q ∈ lw_privs, lw_okq q := by
  show ∀ q ∈ lw_privs_1 ++ (lw_privs_2 ++ (lw_privs_3)), lw_okq q
  exact List.forall_mem_append.mpr ⟨lw_r1, List.forall_mem_append.mpr ⟨lw_r2, lw_r3⟩⟩
-- ===== end of PART A; then your names; then what follows =====
end
section
/-! ===== BEGIN words of one list among another's, by their places ===== -/
theorem goodIn_r {big : List Cond} (ws : List Cond) (ps : List Nat) (hp : ws = ps.filterMap (fun i => big[i]?)) (h : ws.all goodWord = true) : GoodIn big ws := by
  intro w hw
  have h1 := List.all_eq_true.mp h w hw
  rw [hp] at hw
  obtain ⟨i, -, hi⟩ := List.mem_filterMap.mp hw
  have hm : w ∈ big := by first | exact List.mem_of_getElem? hi | exact List.getElem?_mem hi
  exact ⟨hm, good_of_word h1⟩
theorem goodIn_app {big a b : List Cond} (ha : GoodIn big a) (hb : GoodIn big b) : GoodIn big (a ++ b) := fun w h => (List.mem_append.mp h).elim (ha w) (hb w)
theorem goodIn_ca {big a b : List Cond} {c : Cond} (ha : GoodIn big (c :: a)) (hb : GoodIn big b) : GoodIn big (c :: (a ++ b)) := fun w h => (List.mem_cons.mp h).elim (fun e => ha w (List.mem_cons.mpr (Or.inl e))) (fun h => (List.mem_append.mp h).elim (fun h => ha w (List.mem_cons.mpr (Or.inr h))) (hb w))
theorem goodIn_sub {big ws : List Cond} (hm : ∀ w ∈ ws, w ∈ big) (h : ws.all goodWord = true) : GoodIn big ws := fun w hw => ⟨hm w hw, good_of_word (List.all_eq_true.mp h w hw)⟩
/-! ===== END ===== -/

/-! ===== BEGIN printed: names, fields, word lists, decode rows ===== -/
def RX0 : String := "RopedHalls$Forecast"
def TX0 : u_T := fun k => match k with
  | 0 => ("RopedHalls$Forecast", "trial", "LRopedHalls$Hall;", true)
  | 1 => ("RopedHalls$Forecast", "routes", "LRopedHalls$Routes;", true)
  | _ => ("RopedHalls$Forecast", "minute", "LRopedHalls$Minute;", true)
def tyX0 : Nat → FieldType := fun k => match k with
  | 0 => .object "RopedHalls$Hall"
  | 1 => .object "RopedHalls$Routes"
  | _ => .object "RopedHalls$Minute"
abbrev wsX00 : List Cond := u_ws RX0 TX0 3
theorem nmX0 : ∀ a, a < 3 → ∀ b, b < 3 → a ≠ b → (TX0 a).2.1 ≠ (TX0 b).2.1 := by decide +kernel
theorem tyX0_ok : ∀ k, k < 3 → parseFieldDescriptor (TX0 k).2.2.1 = some (tyX0 k) := by decide +kernel
abbrev cX0_init : ByteArray := prog_2_method_1_code
def yX0_init : MethodName := ⟨RX0, "<init>", "()V"⟩
abbrev cX0_startFrom : ByteArray := prog_2_method_2_code
def yX0_startFrom : MethodName := ⟨RX0, "startFrom", "(LRopedHalls$Hall;)V"⟩
abbrev cX0_startWithRopeTurned : ByteArray := prog_2_method_3_code
def yX0_startWithRopeTurned : MethodName := ⟨RX0, "startWithRopeTurned", "(LRopedHalls$Hall;I)V"⟩
abbrev cX0_runUntilOut : ByteArray := prog_2_method_4_code
def yX0_runUntilOut : MethodName := ⟨RX0, "runUntilOut", "()I"⟩
abbrev cX0_stranded : ByteArray := prog_2_method_5_code
def yX0_stranded : MethodName := ⟨RX0, "stranded", "()I"⟩
abbrev cX0_unevenness : ByteArray := prog_2_method_6_code
def yX0_unevenness : MethodName := ⟨RX0, "unevenness", "()I"⟩
abbrev cX0_waited : ByteArray := prog_2_method_7_code
def yX0_waited : MethodName := ⟨RX0, "waited", "()I"⟩
def RX1 : String := "RopedHalls$Hall"
def TX1 : u_T := fun k => match k with
  | 0 => ("RopedHalls$Hall", "room", "I", false)
  | 1 => ("RopedHalls$Hall", "minutes", "I", false)
  | 2 => ("RopedHalls$Hall", "cameIn", "I", false)
  | 3 => ("RopedHalls$Hall", "waited", "I", false)
  | 4 => ("RopedHalls$Hall", "jams", "I", false)
  | 5 => ("RopedHalls$Hall", "people", "[I", true)
  | 6 => ("RopedHalls$Hall", "guards", "[I", true)
  | 7 => ("RopedHalls$Hall", "ropes", "[Z", true)
  | 8 => ("RopedHalls$Hall", "doorCell", "[I", true)
  | 9 => ("RopedHalls$Hall", "doorRate", "[I", true)
  | 10 => ("RopedHalls$Hall", "doorOpen", "[Z", true)
  | _ => ("RopedHalls$Hall", "doorOut", "[I", true)
def tyX1 : Nat → FieldType := fun k => match k with
  | 0 => .int
  | 1 => .int
  | 2 => .int
  | 3 => .int
  | 4 => .int
  | 5 => .array .int
  | 6 => .array .int
  | 7 => .array .boolean
  | 8 => .array .int
  | 9 => .array .int
  | 10 => .array .boolean
  | _ => .array .int
abbrev wsX10 : List Cond := u_ws RX1 TX1 12
theorem nmX1 : ∀ a, a < 12 → ∀ b, b < 12 → a ≠ b → (TX1 a).2.1 ≠ (TX1 b).2.1 := by decide +kernel
theorem tyX1_ok : ∀ k, k < 12 → parseFieldDescriptor (TX1 k).2.2.1 = some (tyX1 k) := by decide +kernel
abbrev cX1_init : ByteArray := prog_3_method_1_code
def yX1_init : MethodName := ⟨RX1, "<init>", "()V"⟩
abbrev cX1_copyFrom : ByteArray := prog_3_method_2_code
def yX1_copyFrom : MethodName := ⟨RX1, "copyFrom", "(LRopedHalls$Hall;)V"⟩
abbrev cX1_letIn : ByteArray := prog_3_method_3_code
def yX1_letIn : MethodName := ⟨RX1, "letIn", "(II)V"⟩
abbrev cX1_roomIn : ByteArray := prog_3_method_4_code
def yX1_roomIn : MethodName := ⟨RX1, "roomIn", "(I)I"⟩
abbrev cX1_fullestCell : ByteArray := prog_3_method_5_code
def yX1_fullestCell : MethodName := ⟨RX1, "fullestCell", "()I"⟩
abbrev cX1_peopleInside : ByteArray := prog_3_method_6_code
def yX1_peopleInside : MethodName := ⟨RX1, "peopleInside", "()I"⟩
abbrev cX1_peopleOut : ByteArray := prog_3_method_7_code
def yX1_peopleOut : MethodName := ⟨RX1, "peopleOut", "()I"⟩
abbrev cX1_ropeCount : ByteArray := prog_3_method_8_code
def yX1_ropeCount : MethodName := ⟨RX1, "ropeCount", "()I"⟩
abbrev cX1_guardCount : ByteArray := prog_3_method_9_code
def yX1_guardCount : MethodName := ⟨RX1, "guardCount", "()I"⟩
abbrev cX1_openDoors : ByteArray := prog_3_method_10_code
def yX1_openDoors : MethodName := ⟨RX1, "openDoors", "()I"⟩
abbrev cX1_unevenness : ByteArray := prog_3_method_11_code
def yX1_unevenness : MethodName := ⟨RX1, "unevenness", "()I"⟩
abbrev cX1_ropesAround : ByteArray := prog_3_method_12_code
def yX1_ropesAround : MethodName := ⟨RX1, "ropesAround", "(I)I"⟩
abbrev cX1_stepFrom : ByteArray := prog_3_method_13_code
def yX1_stepFrom : MethodName := ⟨RX1, "stepFrom", "(II)I"⟩
def RX2 : String := "RopedHalls$Minute"
def TX2 : u_T := fun k => match k with
  | _ => ("RopedHalls$Minute", "arrived", "[I", true)
def tyX2 : Nat → FieldType := fun k => match k with
  | _ => .array .int
abbrev wsX20 : List Cond := u_ws RX2 TX2 1
theorem nmX2 : ∀ a, a < 1 → ∀ b, b < 1 → a ≠ b → (TX2 a).2.1 ≠ (TX2 b).2.1 := by decide +kernel
theorem tyX2_ok : ∀ k, k < 1 → parseFieldDescriptor (TX2 k).2.2.1 = some (tyX2 k) := by decide +kernel
abbrev cX2_init : ByteArray := prog_4_method_1_code
def yX2_init : MethodName := ⟨RX2, "<init>", "()V"⟩
abbrev cX2_run : ByteArray := prog_4_method_2_code
def yX2_run : MethodName := ⟨RX2, "run", "(LRopedHalls$Hall;LRopedHalls$Routes;)I"⟩
abbrev cX2_letOut : ByteArray := prog_4_method_3_code
def yX2_letOut : MethodName := ⟨RX2, "letOut", "(LRopedHalls$Hall;I)I"⟩
abbrev cX2_move : ByteArray := prog_4_method_4_code
def yX2_move : MethodName := ⟨RX2, "move", "(LRopedHalls$Hall;II)V"⟩
def RX3 : String := "RopedHalls$Pad"
def TX3 : u_T := fun k => match k with
  | 0 => ("RopedHalls$Pad", "length", "I", false)
  | _ => ("RopedHalls$Pad", "codes", "[I", true)
def tyX3 : Nat → FieldType := fun k => match k with
  | 0 => .int
  | _ => .array .int
abbrev wsX30 : List Cond := u_ws RX3 TX3 2
theorem nmX3 : ∀ a, a < 2 → ∀ b, b < 2 → a ≠ b → (TX3 a).2.1 ≠ (TX3 b).2.1 := by decide +kernel
theorem tyX3_ok : ∀ k, k < 2 → parseFieldDescriptor (TX3 k).2.2.1 = some (tyX3 k) := by decide +kernel
abbrev cX3_init : ByteArray := prog_5_method_1_code
def yX3_init : MethodName := ⟨RX3, "<init>", "()V"⟩
abbrev cX3_append : ByteArray := prog_5_method_2_code
def yX3_append : MethodName := ⟨RX3, "append", "(I)V"⟩
abbrev cX3_firstFault : ByteArray := prog_5_method_3_code
def yX3_firstFault : MethodName := ⟨RX3, "firstFault", "()I"⟩
abbrev cX3_letCrowdsIn : ByteArray := prog_5_method_4_code
def yX3_letCrowdsIn : MethodName := ⟨RX3, "letCrowdsIn", "(LRopedHalls$Hall;)V"⟩
abbrev cX3_letCrowdIn : ByteArray := prog_5_method_5_code
def yX3_letCrowdIn : MethodName := ⟨RX3, "letCrowdIn", "(LRopedHalls$Hall;II)V"⟩
abbrev cX3_codeAt : ByteArray := prog_5_method_6_code
def yX3_codeAt : MethodName := ⟨RX3, "codeAt", "(I)I"⟩
abbrev cX3_placeBehind : ByteArray := prog_5_method_7_code
def yX3_placeBehind : MethodName := ⟨RX3, "placeBehind", "(II)I"⟩
abbrev cX3_placeBehindFirstDigit : ByteArray := prog_5_method_8_code
def yX3_placeBehindFirstDigit : MethodName := ⟨RX3, "placeBehindFirstDigit", "(I)I"⟩
def RX4 : String := "RopedHalls$Routes"
def TX4 : u_T := fun k => match k with
  | 0 => ("RopedHalls$Routes", "steps", "[I", true)
  | 1 => ("RopedHalls$Routes", "queue", "[I", true)
  | 2 => ("RopedHalls$Routes", "goals", "[I", true)
  | 3 => ("RopedHalls$Routes", "nexts", "[I", true)
  | 4 => ("RopedHalls$Routes", "turns", "[I", true)
  | _ => ("RopedHalls$Routes", "turnCount", "I", false)
def tyX4 : Nat → FieldType := fun k => match k with
  | 0 => .array .int
  | 1 => .array .int
  | 2 => .array .int
  | 3 => .array .int
  | 4 => .array .int
  | _ => .int
abbrev wsX40 : List Cond := u_ws RX4 TX4 6
theorem nmX4 : ∀ a, a < 6 → ∀ b, b < 6 → a ≠ b → (TX4 a).2.1 ≠ (TX4 b).2.1 := by decide +kernel
theorem tyX4_ok : ∀ k, k < 6 → parseFieldDescriptor (TX4 k).2.2.1 = some (tyX4 k) := by decide +kernel
abbrev cX4_init : ByteArray := prog_6_method_1_code
def yX4_init : MethodName := ⟨RX4, "<init>", "()V"⟩
abbrev cX4_find : ByteArray := prog_6_method_2_code
def yX4_find : MethodName := ⟨RX4, "find", "(LRopedHalls$Hall;)V"⟩
abbrev cX4_stepsTo : ByteArray := prog_6_method_3_code
def yX4_stepsTo : MethodName := ⟨RX4, "stepsTo", "(II)I"⟩
abbrev cX4_goalOf : ByteArray := prog_6_method_4_code
def yX4_goalOf : MethodName := ⟨RX4, "goalOf", "(I)I"⟩
abbrev cX4_nextOf : ByteArray := prog_6_method_5_code
def yX4_nextOf : MethodName := ⟨RX4, "nextOf", "(I)I"⟩
abbrev cX4_stepsToGoal : ByteArray := prog_6_method_6_code
def yX4_stepsToGoal : MethodName := ⟨RX4, "stepsToGoal", "(I)I"⟩
abbrev cX4_turnsAMinute : ByteArray := prog_6_method_7_code
def yX4_turnsAMinute : MethodName := ⟨RX4, "turnsAMinute", "()I"⟩
abbrev cX4_cellAtTurn : ByteArray := prog_6_method_8_code
def yX4_cellAtTurn : MethodName := ⟨RX4, "cellAtTurn", "(I)I"⟩
abbrev cX4_cellsWithGoal : ByteArray := prog_6_method_9_code
def yX4_cellsWithGoal : MethodName := ⟨RX4, "cellsWithGoal", "(I)I"⟩
abbrev cX4_peopleWithGoal : ByteArray := prog_6_method_10_code
def yX4_peopleWithGoal : MethodName := ⟨RX4, "peopleWithGoal", "(LRopedHalls$Hall;I)I"⟩
abbrev cX4_stranded : ByteArray := prog_6_method_11_code
def yX4_stranded : MethodName := ⟨RX4, "stranded", "(LRopedHalls$Hall;)I"⟩
abbrev cX4_measureFrom : ByteArray := prog_6_method_12_code
def yX4_measureFrom : MethodName := ⟨RX4, "measureFrom", "(LRopedHalls$Hall;I)V"⟩
abbrev cX4_chooseGoal : ByteArray := prog_6_method_13_code
def yX4_chooseGoal : MethodName := ⟨RX4, "chooseGoal", "(LRopedHalls$Hall;I)I"⟩
abbrev cX4_chooseNext : ByteArray := prog_6_method_14_code
def yX4_chooseNext : MethodName := ⟨RX4, "chooseNext", "(LRopedHalls$Hall;I)I"⟩
abbrev cX4_orderTurns : ByteArray := prog_6_method_15_code
def yX4_orderTurns : MethodName := ⟨RX4, "orderTurns", "()V"⟩
def RX5 : String := "RopedHalls"
def TX5 : u_T := fun k => match k with
  | 0 => ("RopedHalls", "hall", "LRopedHalls$Hall;", true)
  | 1 => ("RopedHalls", "routes", "LRopedHalls$Routes;", true)
  | 2 => ("RopedHalls", "minute", "LRopedHalls$Minute;", true)
  | 3 => ("RopedHalls", "forecast", "LRopedHalls$Forecast;", true)
  | 4 => ("RopedHalls", "pad", "LRopedHalls$Pad;", true)
  | 5 => ("RopedHalls", "history", "[LRopedHalls$Hall;", true)
  | 6 => ("RopedHalls", "slots", "[LRopedHalls$Hall;", true)
  | 7 => ("RopedHalls", "isSaved", "[Z", true)
  | 8 => ("RopedHalls", "changes", "I", false)
  | _ => ("RopedHalls", "newest", "I", false)
def tyX5 : Nat → FieldType := fun k => match k with
  | 0 => .object "RopedHalls$Hall"
  | 1 => .object "RopedHalls$Routes"
  | 2 => .object "RopedHalls$Minute"
  | 3 => .object "RopedHalls$Forecast"
  | 4 => .object "RopedHalls$Pad"
  | 5 => .array (.object "RopedHalls$Hall")
  | 6 => .array (.object "RopedHalls$Hall")
  | 7 => .array .boolean
  | 8 => .int
  | _ => .int
abbrev wsX50 : List Cond := u_ws RX5 TX5 10
theorem nmX5 : ∀ a, a < 10 → ∀ b, b < 10 → a ≠ b → (TX5 a).2.1 ≠ (TX5 b).2.1 := by decide +kernel
theorem tyX5_ok : ∀ k, k < 10 → parseFieldDescriptor (TX5 k).2.2.1 = some (tyX5 k) := by decide +kernel
abbrev cX5_init : ByteArray := prog_1_method_1_code
def yX5_init : MethodName := ⟨RX5, "<init>", "()V"⟩
abbrev cX5_setRoom : ByteArray := prog_1_method_2_code
def yX5_setRoom : MethodName := ⟨RX5, "setRoom", "(I)I"⟩
abbrev cX5_rope : ByteArray := prog_1_method_3_code
def yX5_rope : MethodName := ⟨RX5, "rope", "(IIZ)I"⟩
abbrev cX5_door : ByteArray := prog_1_method_4_code
def yX5_door : MethodName := ⟨RX5, "door", "(III)I"⟩
abbrev cX5_open : ByteArray := prog_1_method_5_code
def yX5_open : MethodName := ⟨RX5, "open", "(IZ)I"⟩
abbrev cX5_guard : ByteArray := prog_1_method_6_code
def yX5_guard : MethodName := ⟨RX5, "guard", "(II)I"⟩
abbrev cX5_enter : ByteArray := prog_1_method_7_code
def yX5_enter : MethodName := ⟨RX5, "enter", "(II)I"⟩
abbrev cX5_read : ByteArray := prog_1_method_8_code
def yX5_read : MethodName := ⟨RX5, "read", "()I"⟩
abbrev cX5_pass : ByteArray := prog_1_method_9_code
def yX5_pass : MethodName := ⟨RX5, "pass", "(I)I"⟩
abbrev cX5_cell : ByteArray := prog_1_method_10_code
def yX5_cell : MethodName := ⟨RX5, "cell", "(II)I"⟩
abbrev cX5_doorOf : ByteArray := prog_1_method_11_code
def yX5_doorOf : MethodName := ⟨RX5, "doorOf", "(II)I"⟩
abbrev cX5_count : ByteArray := prog_1_method_12_code
def yX5_count : MethodName := ⟨RX5, "count", "(I)I"⟩
abbrev cX5_distance : ByteArray := prog_1_method_13_code
def yX5_distance : MethodName := ⟨RX5, "distance", "(II)I"⟩
abbrev cX5_untilOut : ByteArray := prog_1_method_14_code
def yX5_untilOut : MethodName := ⟨RX5, "untilOut", "()I"⟩
abbrev cX5_ifRope : ByteArray := prog_1_method_15_code
def yX5_ifRope : MethodName := ⟨RX5, "ifRope", "(III)I"⟩
abbrev cX5_bestRope : ByteArray := prog_1_method_16_code
def yX5_bestRope : MethodName := ⟨RX5, "bestRope", "(I)I"⟩
abbrev cX5_waiting : ByteArray := prog_1_method_17_code
def yX5_waiting : MethodName := ⟨RX5, "waiting", "()I"⟩
abbrev cX5_put : ByteArray := prog_1_method_18_code
def yX5_put : MethodName := ⟨RX5, "put", "(J)I"⟩
abbrev cX5_wipe : ByteArray := prog_1_method_19_code
def yX5_wipe : MethodName := ⟨RX5, "wipe", "()I"⟩
abbrev cX5_fault : ByteArray := prog_1_method_20_code
def yX5_fault : MethodName := ⟨RX5, "fault", "()I"⟩
abbrev cX5_undo : ByteArray := prog_1_method_21_code
def yX5_undo : MethodName := ⟨RX5, "undo", "()I"⟩
abbrev cX5_save : ByteArray := prog_1_method_22_code
def yX5_save : MethodName := ⟨RX5, "save", "(I)I"⟩
abbrev cX5_restore : ByteArray := prog_1_method_23_code
def yX5_restore : MethodName := ⟨RX5, "restore", "(I)I"⟩
abbrev cX5_remember : ByteArray := prog_1_method_24_code
def yX5_remember : MethodName := ⟨RX5, "remember", "()V"⟩
abbrev cX5_recorded : ByteArray := prog_1_method_25_code
def yX5_recorded : MethodName := ⟨RX5, "recorded", "(I)LRopedHalls$Hall;"⟩
abbrev cX5_strandedNow : ByteArray := prog_1_method_26_code
def yX5_strandedNow : MethodName := ⟨RX5, "strandedNow", "()I"⟩
abbrev cX5_canHang : ByteArray := prog_1_method_27_code
def yX5_canHang : MethodName := ⟨RX5, "canHang", "(I)Z"⟩
abbrev cX5_copyHall : ByteArray := prog_1_method_28_code
def yX5_copyHall : MethodName := ⟨RX5, "copyHall", "(LRopedHalls$Hall;LRopedHalls$Hall;)V"⟩
abbrev cX5_isCell : ByteArray := prog_1_method_29_code
def yX5_isCell : MethodName := ⟨RX5, "isCell", "(I)Z"⟩
abbrev cX5_isDoor : ByteArray := prog_1_method_30_code
def yX5_isDoor : MethodName := ⟨RX5, "isDoor", "(I)Z"⟩
abbrev cX5_isSide : ByteArray := prog_1_method_31_code
def yX5_isSide : MethodName := ⟨RX5, "isSide", "(I)Z"⟩
abbrev cX5_isEdge : ByteArray := prog_1_method_32_code
def yX5_isEdge : MethodName := ⟨RX5, "isEdge", "(I)Z"⟩
abbrev cX5_beside : ByteArray := prog_1_method_33_code
def yX5_beside : MethodName := ⟨RX5, "beside", "(II)I"⟩
abbrev cX5_edgeTowards : ByteArray := prog_1_method_34_code
def yX5_edgeTowards : MethodName := ⟨RX5, "edgeTowards", "(II)I"⟩
abbrev cX5_edgeAt : ByteArray := prog_1_method_35_code
def yX5_edgeAt : MethodName := ⟨RX5, "edgeAt", "(II)I"⟩
abbrev cX5_charactersIn : ByteArray := prog_1_method_36_code
def yX5_charactersIn : MethodName := ⟨RX5, "charactersIn", "(J)I"⟩
def RX6 : String := "RopedHallsModel"
def TX6 : u_T := fun k => match k with
  | 0 => ("RopedHallsModel", "s", "[I", true)
  | 1 => ("RopedHallsModel", "aside", "[I", true)
  | 2 => ("RopedHallsModel", "history", "[I", true)
  | 3 => ("RopedHallsModel", "kept", "I", false)
  | 4 => ("RopedHallsModel", "slots", "[I", true)
  | 5 => ("RopedHallsModel", "isSaved", "[Z", true)
  | 6 => ("RopedHallsModel", "pad", "[I", true)
  | 7 => ("RopedHallsModel", "length", "I", false)
  | 8 => ("RopedHallsModel", "far", "[I", true)
  | 9 => ("RopedHallsModel", "goals", "[I", true)
  | 10 => ("RopedHallsModel", "steps", "[I", true)
  | 11 => ("RopedHallsModel", "nexts", "[I", true)
  | 12 => ("RopedHallsModel", "fresh", "[I", true)
  | 13 => ("RopedHallsModel", "tried", "[I", true)
  | 14 => ("RopedHallsModel", "position", "I", false)
  | _ => ("RopedHallsModel", "isWrong", "Z", false)
def tyX6 : Nat → FieldType := fun k => match k with
  | 0 => .array .int
  | 1 => .array .int
  | 2 => .array .int
  | 3 => .int
  | 4 => .array .int
  | 5 => .array .boolean
  | 6 => .array .int
  | 7 => .int
  | 8 => .array .int
  | 9 => .array .int
  | 10 => .array .int
  | 11 => .array .int
  | 12 => .array .int
  | 13 => .array .int
  | 14 => .int
  | _ => .boolean
abbrev wsX60 : List Cond := u_ws RX6 TX6 16
theorem nmX6 : ∀ a, a < 16 → ∀ b, b < 16 → a ≠ b → (TX6 a).2.1 ≠ (TX6 b).2.1 := by decide +kernel
theorem tyX6_ok : ∀ k, k < 16 → parseFieldDescriptor (TX6 k).2.2.1 = some (tyX6 k) := by decide +kernel
abbrev cX6_init : ByteArray := prog_8_method_1_code
def yX6_init : MethodName := ⟨RX6, "<init>", "()V"⟩
abbrev cX6_in : ByteArray := prog_8_method_3_code
def yX6_in : MethodName := ⟨RX6, "in", "(III)Z"⟩
abbrev cX6_isCell : ByteArray := prog_8_method_4_code
def yX6_isCell : MethodName := ⟨RX6, "isCell", "(I)Z"⟩
abbrev cX6_isDoor : ByteArray := prog_8_method_5_code
def yX6_isDoor : MethodName := ⟨RX6, "isDoor", "(I)Z"⟩
abbrev cX6_record : ByteArray := prog_8_method_6_code
def yX6_record : MethodName := ⟨RX6, "record", "()V"⟩
abbrev cX6_putAside : ByteArray := prog_8_method_7_code
def yX6_putAside : MethodName := ⟨RX6, "putAside", "()V"⟩
abbrev cX6_putBack : ByteArray := prog_8_method_8_code
def yX6_putBack : MethodName := ⟨RX6, "putBack", "()V"⟩
abbrev cX6_beside : ByteArray := prog_8_method_9_code
def yX6_beside : MethodName := ⟨RX6, "beside", "(II)I"⟩
abbrev cX6_ropeAt : ByteArray := prog_8_method_10_code
def yX6_ropeAt : MethodName := ⟨RX6, "ropeAt", "(II)I"⟩
abbrev cX6_isFree : ByteArray := prog_8_method_11_code
def yX6_isFree : MethodName := ⟨RX6, "isFree", "(II)Z"⟩
abbrev cX6_hasRope : ByteArray := prog_8_method_12_code
def yX6_hasRope : MethodName := ⟨RX6, "hasRope", "(II)Z"⟩
abbrev cX6_layFar : ByteArray := prog_8_method_13_code
def yX6_layFar : MethodName := ⟨RX6, "layFar", "(I)V"⟩
abbrev cX6_leads : ByteArray := prog_8_method_14_code
def yX6_leads : MethodName := ⟨RX6, "leads", "(II)Z"⟩
abbrev cX6_goalOf : ByteArray := prog_8_method_15_code
def yX6_goalOf : MethodName := ⟨RX6, "goalOf", "(I)I"⟩
abbrev cX6_nextOf : ByteArray := prog_8_method_16_code
def yX6_nextOf : MethodName := ⟨RX6, "nextOf", "(I)I"⟩
abbrev cX6_layWays : ByteArray := prog_8_method_17_code
def yX6_layWays : MethodName := ⟨RX6, "layWays", "()V"⟩
abbrev cX6_letsOut : ByteArray := prog_8_method_18_code
def yX6_letsOut : MethodName := ⟨RX6, "letsOut", "(I)V"⟩
abbrev cX6_goes : ByteArray := prog_8_method_19_code
def yX6_goes : MethodName := ⟨RX6, "goes", "(I)V"⟩
abbrev cX6_minute : ByteArray := prog_8_method_20_code
def yX6_minute : MethodName := ⟨RX6, "minute", "()V"⟩
abbrev cX6_people : ByteArray := prog_8_method_21_code
def yX6_people : MethodName := ⟨RX6, "people", "()I"⟩
abbrev cX6_out : ByteArray := prog_8_method_22_code
def yX6_out : MethodName := ⟨RX6, "out", "()I"⟩
abbrev cX6_shutIn : ByteArray := prog_8_method_23_code
def yX6_shutIn : MethodName := ⟨RX6, "shutIn", "()I"⟩
abbrev cX6_emptied : ByteArray := prog_8_method_24_code
def yX6_emptied : MethodName := ⟨RX6, "emptied", "()I"⟩
abbrev cX6_lays : ByteArray := prog_8_method_25_code
def yX6_lays : MethodName := ⟨RX6, "lays", "(II)I"⟩
abbrev cX6_setRoom : ByteArray := prog_8_method_26_code
def yX6_setRoom : MethodName := ⟨RX6, "setRoom", "(I)I"⟩
abbrev cX6_ropes : ByteArray := prog_8_method_27_code
def yX6_ropes : MethodName := ⟨RX6, "ropes", "()I"⟩
abbrev cX6_isEdge : ByteArray := prog_8_method_28_code
def yX6_isEdge : MethodName := ⟨RX6, "isEdge", "(II)Z"⟩
abbrev cX6_rope : ByteArray := prog_8_method_29_code
def yX6_rope : MethodName := ⟨RX6, "rope", "(IIZ)I"⟩
abbrev cX6_door : ByteArray := prog_8_method_30_code
def yX6_door : MethodName := ⟨RX6, "door", "(III)I"⟩
abbrev cX6_openSet : ByteArray := prog_8_method_31_code
def yX6_openSet : MethodName := ⟨RX6, "openSet", "()I"⟩
abbrev cX6_openDoors : ByteArray := prog_8_method_32_code
def yX6_openDoors : MethodName := ⟨RX6, "openDoors", "()I"⟩
abbrev cX6_open : ByteArray := prog_8_method_33_code
def yX6_open : MethodName := ⟨RX6, "open", "(IZ)I"⟩
abbrev cX6_guard : ByteArray := prog_8_method_34_code
def yX6_guard : MethodName := ⟨RX6, "guard", "(II)I"⟩
abbrev cX6_enter : ByteArray := prog_8_method_35_code
def yX6_enter : MethodName := ⟨RX6, "enter", "(II)I"⟩
abbrev cX6_pass : ByteArray := prog_8_method_36_code
def yX6_pass : MethodName := ⟨RX6, "pass", "(I)I"⟩
abbrev cX6_ropesOf : ByteArray := prog_8_method_37_code
def yX6_ropesOf : MethodName := ⟨RX6, "ropesOf", "(I)I"⟩
abbrev cX6_cell : ByteArray := prog_8_method_38_code
def yX6_cell : MethodName := ⟨RX6, "cell", "(II)I"⟩
abbrev cX6_goalOfMany : ByteArray := prog_8_method_39_code
def yX6_goalOfMany : MethodName := ⟨RX6, "goalOfMany", "(IZ)I"⟩
abbrev cX6_doorOf : ByteArray := prog_8_method_40_code
def yX6_doorOf : MethodName := ⟨RX6, "doorOf", "(II)I"⟩
abbrev cX6_uneven : ByteArray := prog_8_method_41_code
def yX6_uneven : MethodName := ⟨RX6, "uneven", "()I"⟩
abbrev cX6_guards : ByteArray := prog_8_method_42_code
def yX6_guards : MethodName := ⟨RX6, "guards", "()I"⟩
abbrev cX6_count : ByteArray := prog_8_method_43_code
def yX6_count : MethodName := ⟨RX6, "count", "(I)I"⟩
abbrev cX6_distance : ByteArray := prog_8_method_44_code
def yX6_distance : MethodName := ⟨RX6, "distance", "(II)I"⟩
abbrev cX6_untilOut : ByteArray := prog_8_method_45_code
def yX6_untilOut : MethodName := ⟨RX6, "untilOut", "()I"⟩
abbrev cX6_tries : ByteArray := prog_8_method_46_code
def yX6_tries : MethodName := ⟨RX6, "tries", "(II)V"⟩
abbrev cX6_ifRope : ByteArray := prog_8_method_47_code
def yX6_ifRope : MethodName := ⟨RX6, "ifRope", "(III)I"⟩
abbrev cX6_bestRope : ByteArray := prog_8_method_48_code
def yX6_bestRope : MethodName := ⟨RX6, "bestRope", "(I)I"⟩
abbrev cX6_waiting : ByteArray := prog_8_method_49_code
def yX6_waiting : MethodName := ⟨RX6, "waiting", "()I"⟩
abbrev cX6_put : ByteArray := prog_8_method_50_code
def yX6_put : MethodName := ⟨RX6, "put", "(J)I"⟩
abbrev cX6_wipe : ByteArray := prog_8_method_51_code
def yX6_wipe : MethodName := ⟨RX6, "wipe", "()I"⟩
abbrev cX6_isNext : ByteArray := prog_8_method_52_code
def yX6_isNext : MethodName := ⟨RX6, "isNext", "(II)Z"⟩
abbrev cX6_takes : ByteArray := prog_8_method_53_code
def yX6_takes : MethodName := ⟨RX6, "takes", "(II)I"⟩
abbrev cX6_takesMany : ByteArray := prog_8_method_54_code
def yX6_takesMany : MethodName := ⟨RX6, "takesMany", "()I"⟩
abbrev cX6_reads : ByteArray := prog_8_method_55_code
def yX6_reads : MethodName := ⟨RX6, "reads", "(Z)I"⟩
abbrev cX6_fault : ByteArray := prog_8_method_56_code
def yX6_fault : MethodName := ⟨RX6, "fault", "()I"⟩
abbrev cX6_read : ByteArray := prog_8_method_57_code
def yX6_read : MethodName := ⟨RX6, "read", "()I"⟩
abbrev cX6_undo : ByteArray := prog_8_method_58_code
def yX6_undo : MethodName := ⟨RX6, "undo", "()I"⟩
abbrev cX6_save : ByteArray := prog_8_method_59_code
def yX6_save : MethodName := ⟨RX6, "save", "(I)I"⟩
abbrev cX6_restore : ByteArray := prog_8_method_60_code
def yX6_restore : MethodName := ⟨RX6, "restore", "(I)I"⟩
def RJ6 : String := "java/lang/Integer"
def TJ6 : u_T := fun k => match k with
  | _ => ("", "", "", false)
def tyJ6 : Nat → FieldType := fun k => match k with
  | _ => .int
abbrev wsJ60 : List Cond := u_ws RJ6 TJ6 0
theorem nmJ6 : ∀ a, a < 0 → ∀ b, b < 0 → a ≠ b → (TJ6 a).2.1 ≠ (TJ6 b).2.1 := by decide +kernel
theorem tyJ6_ok : ∀ k, k < 0 → parseFieldDescriptor (TJ6 k).2.2.1 = some (tyJ6 k) := by decide +kernel
abbrev cJ6_bitCount_0f7a4 : ByteArray := prog_9_method_49_code
def yJ6_bitCount_0f7a4 : MethodName := ⟨RJ6, "bitCount", "(I)I"⟩
def RJ9 : String := "java/lang/Math"
def TJ9 : u_T := fun k => match k with
  | _ => ("", "", "", false)
def tyJ9 : Nat → FieldType := fun k => match k with
  | _ => .int
abbrev wsJ90 : List Cond := u_ws RJ9 TJ9 0
theorem nmJ9 : ∀ a, a < 0 → ∀ b, b < 0 → a ≠ b → (TJ9 a).2.1 ≠ (TJ9 b).2.1 := by decide +kernel
theorem tyJ9_ok : ∀ k, k < 0 → parseFieldDescriptor (TJ9 k).2.2.1 = some (tyJ9 k) := by decide +kernel
abbrev cJ9_max_7cf53 : ByteArray := prog_10_method_65_code
def yJ9_max_7cf53 : MethodName := ⟨RJ9, "max", "(II)I"⟩
abbrev cJ9_min_7cf53 : ByteArray := prog_10_method_69_code
def yJ9_min_7cf53 : MethodName := ⟨RJ9, "min", "(II)I"⟩
def RL : String := "RopedHallsLaw"
abbrev cL_law : ByteArray := code
def yL_law : MethodName := ⟨RL, "law", "([I)Z"⟩
def wsX1_init : List Cond := .code yX1_init cX1_init 2 none :: ([.methodLink RX1 3 objectInit, .instanceMethod objectInit, .code objectInit ⟨#[0xb1]⟩ 1 none, .fieldLink RX1 9 "RopedHalls$Hall" "room" "I", .arrayClass .int, .fieldLink RX1 15 "RopedHalls$Hall" "people" "[I", .fieldLink RX1 19 "RopedHalls$Hall" "guards" "[I", .arrayClass .boolean, .fieldLink RX1 22 "RopedHalls$Hall" "ropes" "[Z", .fieldLink RX1 26 "RopedHalls$Hall" "doorCell" "[I", .fieldLink RX1 29 "RopedHalls$Hall" "doorRate" "[I", .fieldLink RX1 32 "RopedHalls$Hall" "doorOpen" "[Z", .fieldLink RX1 35 "RopedHalls$Hall" "doorOut" "[I"] ++ wsX10)
def wsX4_init : List Cond := .code yX4_init cX4_init 1 none :: ([.methodLink RX4 3 objectInit, .instanceMethod objectInit, .code objectInit ⟨#[0xb1]⟩ 1 none, .arrayClass .int, .fieldLink RX4 9 "RopedHalls$Routes" "steps" "[I", .fieldLink RX4 15 "RopedHalls$Routes" "queue" "[I", .fieldLink RX4 18 "RopedHalls$Routes" "goals" "[I", .fieldLink RX4 21 "RopedHalls$Routes" "nexts" "[I", .fieldLink RX4 24 "RopedHalls$Routes" "turns" "[I"] ++ wsX40)
def wsX2_init : List Cond := .code yX2_init cX2_init 1 none :: ([.methodLink RX2 3 objectInit, .instanceMethod objectInit, .code objectInit ⟨#[0xb1]⟩ 1 none, .arrayClass .int, .fieldLink RX2 9 "RopedHalls$Minute" "arrived" "[I"] ++ wsX20)
def wsX0_init_r1 : List Cond := [Cond.methodLink RX0 3 objectInit, Cond.instanceMethod objectInit, Cond.code objectInit ⟨#[0xb1]⟩ 1 none, Cond.classLink RX0 9 RX1, Cond.instantiable RX1 12, Cond.initialized RX1, Cond.fieldLink RX0 12 "RopedHalls$Forecast" "trial" "LRopedHalls$Hall;", Cond.classLink RX0 18 RX4, Cond.instantiable RX4 6, Cond.initialized RX4, Cond.fieldLink RX0 21 "RopedHalls$Forecast" "routes" "LRopedHalls$Routes;", Cond.classLink RX0 25 RX2, Cond.instantiable RX2 1, Cond.initialized RX2, Cond.fieldLink RX0 28 "RopedHalls$Forecast" "minute" "LRopedHalls$Minute;", Cond.methodLink RX0 11 yX1_init, Cond.instanceMethod yX1_init, Cond.code yX1_init cX1_init 2 none, Cond.methodLink RX1 3 objectInit, Cond.fieldLink RX1 9 "RopedHalls$Hall" "room" "I", Cond.arrayClass .int, Cond.fieldLink RX1 15 "RopedHalls$Hall" "people" "[I", Cond.fieldLink RX1 19 "RopedHalls$Hall" "guards" "[I", Cond.arrayClass .boolean]
def wsX0_init_r2 : List Cond := [Cond.fieldLink RX1 22 "RopedHalls$Hall" "ropes" "[Z", Cond.fieldLink RX1 26 "RopedHalls$Hall" "doorCell" "[I", Cond.fieldLink RX1 29 "RopedHalls$Hall" "doorRate" "[I", Cond.fieldLink RX1 32 "RopedHalls$Hall" "doorOpen" "[Z", Cond.fieldLink RX1 35 "RopedHalls$Hall" "doorOut" "[I", Cond.instanceMethod yX4_init, Cond.code yX4_init cX4_init 1 none, Cond.methodLink RX4 3 objectInit, Cond.fieldLink RX4 9 "RopedHalls$Routes" "steps" "[I", Cond.fieldLink RX4 15 "RopedHalls$Routes" "queue" "[I", Cond.fieldLink RX4 18 "RopedHalls$Routes" "goals" "[I", Cond.fieldLink RX4 21 "RopedHalls$Routes" "nexts" "[I", Cond.fieldLink RX4 24 "RopedHalls$Routes" "turns" "[I", Cond.instanceMethod yX2_init, Cond.code yX2_init cX2_init 1 none, Cond.methodLink RX2 3 objectInit, Cond.fieldLink RX2 9 "RopedHalls$Minute" "arrived" "[I"]
def wsX0_init : List Cond := .code yX0_init cX0_init 1 none :: ((wsX0_init_r1 ++ wsX0_init_r2) ++ wsX10 ++ wsX00 ++ wsX40 ++ wsX20)
def wsX1_copyFrom : List Cond := .code yX1_copyFrom cX1_copyFrom 3 none :: ([.fieldLink RX1 9 "RopedHalls$Hall" "room" "I", .fieldLink RX1 38 "RopedHalls$Hall" "minutes" "I", .fieldLink RX1 41 "RopedHalls$Hall" "cameIn" "I", .fieldLink RX1 44 "RopedHalls$Hall" "waited" "I", .fieldLink RX1 47 "RopedHalls$Hall" "jams" "I", .fieldLink RX1 15 "RopedHalls$Hall" "people" "[I", .fieldLink RX1 19 "RopedHalls$Hall" "guards" "[I", .fieldLink RX1 22 "RopedHalls$Hall" "ropes" "[Z", .fieldLink RX1 26 "RopedHalls$Hall" "doorCell" "[I", .fieldLink RX1 29 "RopedHalls$Hall" "doorRate" "[I", .fieldLink RX1 32 "RopedHalls$Hall" "doorOpen" "[Z", .fieldLink RX1 35 "RopedHalls$Hall" "doorOut" "[I"] ++ wsX10)
def wsX5_isCell : List Cond := .code yX5_isCell cX5_isCell 1 (some .boolean) :: ([])
def wsX5_beside : List Cond := .code yX5_beside cX5_beside 2 (some .int) :: ([])
def wsX5_edgeTowards : List Cond := .code yX5_edgeTowards cX5_edgeTowards 4 (some .int) :: ([.methodLink RX5 228 Lib.Math.min.name, .static Lib.Math.min.name, .initialized "java/lang/Math", .code Lib.Math.min.name Lib.Math.min.code 2 (some .int), .methodLink RX5 239 yX5_beside, .static yX5_beside, .initialized RX5, .code yX5_beside cX5_beside 2 (some .int)])
def wsX5_isEdge : List Cond := .code yX5_isEdge cX5_isEdge 1 (some .boolean) :: ([])
def wsX1_stepFrom : List Cond := .code yX1_stepFrom cX1_stepFrom 4 (some .int) :: ([.fieldLink RX1 22 "RopedHalls$Hall" "ropes" "[Z", .static yX5_edgeTowards, .initialized RX5, .code yX5_edgeTowards cX5_edgeTowards 4 (some .int), .methodLink RX5 228 Lib.Math.min.name, .static Lib.Math.min.name, .initialized "java/lang/Math", .code Lib.Math.min.name Lib.Math.min.code 2 (some .int), .methodLink RX5 239 yX5_beside, .static yX5_beside, .code yX5_beside cX5_beside 2 (some .int), .static yX5_isEdge, .code yX5_isEdge cX5_isEdge 1 (some .boolean)] ++ wsX10)
def wsX5_isDoor : List Cond := .code yX5_isDoor cX5_isDoor 1 (some .boolean) :: ([])
def wsX4_stepsTo : List Cond := .code yX4_stepsTo cX4_stepsTo 3 (some .int) :: ([.fieldLink RX4 9 "RopedHalls$Routes" "steps" "[I", .static yX5_isDoor, .initialized RX5, .code yX5_isDoor cX5_isDoor 1 (some .boolean), .static yX5_isCell, .code yX5_isCell cX5_isCell 1 (some .boolean)] ++ wsX40)
def wsX4_measureFrom_r1 : List Cond := [Cond.fieldLink RX4 9 "RopedHalls$Routes" "steps" "[I", Cond.fieldLink RX4 68 "RopedHalls$Hall" "doorCell" "[I", Cond.fieldLink RX4 15 "RopedHalls$Routes" "queue" "[I", Cond.static yX5_isCell, Cond.initialized RX5, Cond.code yX5_isCell cX5_isCell 1 (some .boolean), Cond.methodLink RX4 71 yX1_stepFrom, Cond.instanceMethod yX1_stepFrom, Cond.selects RX1 yX1_stepFrom yX1_stepFrom, Cond.initialized RX1, Cond.code yX1_stepFrom cX1_stepFrom 4 (some .int), Cond.fieldLink RX1 22 "RopedHalls$Hall" "ropes" "[Z", Cond.static yX5_edgeTowards, Cond.code yX5_edgeTowards cX5_edgeTowards 4 (some .int), Cond.methodLink RX5 228 Lib.Math.min.name, Cond.static Lib.Math.min.name, Cond.initialized "java/lang/Math", Cond.code Lib.Math.min.name Lib.Math.min.code 2 (some .int), Cond.methodLink RX5 239 yX5_beside, Cond.static yX5_beside, Cond.code yX5_beside cX5_beside 2 (some .int), Cond.static yX5_isEdge, Cond.code yX5_isEdge cX5_isEdge 1 (some .boolean), Cond.methodLink RX4 52 yX4_stepsTo]
def wsX4_measureFrom_r2 : List Cond := [Cond.instanceMethod yX4_stepsTo, Cond.selects RX4 yX4_stepsTo yX4_stepsTo, Cond.initialized RX4, Cond.code yX4_stepsTo cX4_stepsTo 3 (some .int), Cond.static yX5_isDoor, Cond.code yX5_isDoor cX5_isDoor 1 (some .boolean)]
def wsX4_measureFrom : List Cond := .code yX4_measureFrom cX4_measureFrom 10 none :: ((wsX4_measureFrom_r1 ++ wsX4_measureFrom_r2) ++ wsX40 ++ wsX10)
def wsX4_chooseGoal : List Cond := .code yX4_chooseGoal cX4_chooseGoal 7 (some .int) :: ([.fieldLink RX4 74 "RopedHalls$Hall" "guards" "[I", .fieldLink RX4 77 "RopedHalls$Hall" "doorOpen" "[Z", .static yX5_isDoor, .initialized RX5, .code yX5_isDoor cX5_isDoor 1 (some .boolean), .methodLink RX4 52 yX4_stepsTo, .instanceMethod yX4_stepsTo, .selects RX4 yX4_stepsTo yX4_stepsTo, .initialized RX4, .code yX4_stepsTo cX4_stepsTo 3 (some .int), .fieldLink RX4 9 "RopedHalls$Routes" "steps" "[I", .static yX5_isCell, .code yX5_isCell cX5_isCell 1 (some .boolean)] ++ wsX10 ++ wsX40)
def wsX4_goalOf : List Cond := .code yX4_goalOf cX4_goalOf 2 (some .int) :: ([.fieldLink RX4 18 "RopedHalls$Routes" "goals" "[I", .static yX5_isCell, .initialized RX5, .code yX5_isCell cX5_isCell 1 (some .boolean)] ++ wsX40)
def wsX4_stepsToGoal : List Cond := .code yX4_stepsToGoal cX4_stepsToGoal 2 (some .int) :: ([.methodLink RX4 48 yX4_goalOf, .instanceMethod yX4_goalOf, .selects RX4 yX4_goalOf yX4_goalOf, .initialized RX4, .code yX4_goalOf cX4_goalOf 2 (some .int), .fieldLink RX4 18 "RopedHalls$Routes" "goals" "[I", .static yX5_isCell, .initialized RX5, .code yX5_isCell cX5_isCell 1 (some .boolean), .methodLink RX4 52 yX4_stepsTo, .instanceMethod yX4_stepsTo, .selects RX4 yX4_stepsTo yX4_stepsTo, .code yX4_stepsTo cX4_stepsTo 3 (some .int), .fieldLink RX4 9 "RopedHalls$Routes" "steps" "[I", .static yX5_isDoor, .code yX5_isDoor cX5_isDoor 1 (some .boolean)] ++ wsX40)
def wsX4_chooseNext_r1 : List Cond := [Cond.methodLink RX4 81 yX4_stepsToGoal, Cond.instanceMethod yX4_stepsToGoal, Cond.selects RX4 yX4_stepsToGoal yX4_stepsToGoal, Cond.initialized RX4, Cond.code yX4_stepsToGoal cX4_stepsToGoal 2 (some .int), Cond.methodLink RX4 48 yX4_goalOf, Cond.instanceMethod yX4_goalOf, Cond.selects RX4 yX4_goalOf yX4_goalOf, Cond.code yX4_goalOf cX4_goalOf 2 (some .int), Cond.fieldLink RX4 18 "RopedHalls$Routes" "goals" "[I", Cond.static yX5_isCell, Cond.initialized RX5, Cond.code yX5_isCell cX5_isCell 1 (some .boolean), Cond.methodLink RX4 52 yX4_stepsTo, Cond.instanceMethod yX4_stepsTo, Cond.selects RX4 yX4_stepsTo yX4_stepsTo, Cond.code yX4_stepsTo cX4_stepsTo 3 (some .int), Cond.fieldLink RX4 9 "RopedHalls$Routes" "steps" "[I", Cond.static yX5_isDoor, Cond.code yX5_isDoor cX5_isDoor 1 (some .boolean), Cond.methodLink RX4 71 yX1_stepFrom, Cond.instanceMethod yX1_stepFrom, Cond.selects RX1 yX1_stepFrom yX1_stepFrom, Cond.initialized RX1]
def wsX4_chooseNext_r2 : List Cond := [Cond.code yX1_stepFrom cX1_stepFrom 4 (some .int), Cond.fieldLink RX1 22 "RopedHalls$Hall" "ropes" "[Z", Cond.static yX5_edgeTowards, Cond.code yX5_edgeTowards cX5_edgeTowards 4 (some .int), Cond.methodLink RX5 228 Lib.Math.min.name, Cond.static Lib.Math.min.name, Cond.initialized "java/lang/Math", Cond.code Lib.Math.min.name Lib.Math.min.code 2 (some .int), Cond.methodLink RX5 239 yX5_beside, Cond.static yX5_beside, Cond.code yX5_beside cX5_beside 2 (some .int), Cond.static yX5_isEdge, Cond.code yX5_isEdge cX5_isEdge 1 (some .boolean)]
def wsX4_chooseNext : List Cond := .code yX4_chooseNext cX4_chooseNext 6 (some .int) :: ((wsX4_chooseNext_r1 ++ wsX4_chooseNext_r2) ++ wsX40 ++ wsX10)
def wsX4_orderTurns : List Cond := .code yX4_orderTurns cX4_orderTurns 3 none :: ([.fieldLink RX4 56 "RopedHalls$Routes" "turnCount" "I", .fieldLink RX4 24 "RopedHalls$Routes" "turns" "[I", .methodLink RX4 81 yX4_stepsToGoal, .instanceMethod yX4_stepsToGoal, .selects RX4 yX4_stepsToGoal yX4_stepsToGoal, .initialized RX4, .code yX4_stepsToGoal cX4_stepsToGoal 2 (some .int), .methodLink RX4 48 yX4_goalOf, .instanceMethod yX4_goalOf, .selects RX4 yX4_goalOf yX4_goalOf, .code yX4_goalOf cX4_goalOf 2 (some .int), .fieldLink RX4 18 "RopedHalls$Routes" "goals" "[I", .static yX5_isCell, .initialized RX5, .code yX5_isCell cX5_isCell 1 (some .boolean), .methodLink RX4 52 yX4_stepsTo, .instanceMethod yX4_stepsTo, .selects RX4 yX4_stepsTo yX4_stepsTo, .code yX4_stepsTo cX4_stepsTo 3 (some .int), .fieldLink RX4 9 "RopedHalls$Routes" "steps" "[I", .static yX5_isDoor, .code yX5_isDoor cX5_isDoor 1 (some .boolean)] ++ wsX40)
def wsX4_find_r1 : List Cond := [Cond.fieldLink RX4 18 "RopedHalls$Routes" "goals" "[I", Cond.fieldLink RX4 21 "RopedHalls$Routes" "nexts" "[I", Cond.methodLink RX4 27 yX4_measureFrom, Cond.instanceMethod yX4_measureFrom, Cond.selects RX4 yX4_measureFrom yX4_measureFrom, Cond.initialized RX4, Cond.code yX4_measureFrom cX4_measureFrom 10 none, Cond.fieldLink RX4 9 "RopedHalls$Routes" "steps" "[I", Cond.fieldLink RX4 68 "RopedHalls$Hall" "doorCell" "[I", Cond.fieldLink RX4 15 "RopedHalls$Routes" "queue" "[I", Cond.static yX5_isCell, Cond.initialized RX5, Cond.code yX5_isCell cX5_isCell 1 (some .boolean), Cond.methodLink RX4 71 yX1_stepFrom, Cond.instanceMethod yX1_stepFrom, Cond.selects RX1 yX1_stepFrom yX1_stepFrom, Cond.initialized RX1, Cond.code yX1_stepFrom cX1_stepFrom 4 (some .int), Cond.fieldLink RX1 22 "RopedHalls$Hall" "ropes" "[Z", Cond.static yX5_edgeTowards, Cond.code yX5_edgeTowards cX5_edgeTowards 4 (some .int), Cond.methodLink RX5 228 Lib.Math.min.name, Cond.static Lib.Math.min.name, Cond.initialized "java/lang/Math"]
def wsX4_find_r2 : List Cond := [Cond.code Lib.Math.min.name Lib.Math.min.code 2 (some .int), Cond.methodLink RX5 239 yX5_beside, Cond.static yX5_beside, Cond.code yX5_beside cX5_beside 2 (some .int), Cond.static yX5_isEdge, Cond.code yX5_isEdge cX5_isEdge 1 (some .boolean), Cond.methodLink RX4 52 yX4_stepsTo, Cond.instanceMethod yX4_stepsTo, Cond.selects RX4 yX4_stepsTo yX4_stepsTo, Cond.code yX4_stepsTo cX4_stepsTo 3 (some .int), Cond.static yX5_isDoor, Cond.code yX5_isDoor cX5_isDoor 1 (some .boolean), Cond.methodLink RX4 31 yX4_chooseGoal, Cond.instanceMethod yX4_chooseGoal, Cond.selects RX4 yX4_chooseGoal yX4_chooseGoal, Cond.code yX4_chooseGoal cX4_chooseGoal 7 (some .int), Cond.fieldLink RX4 74 "RopedHalls$Hall" "guards" "[I", Cond.fieldLink RX4 77 "RopedHalls$Hall" "doorOpen" "[Z", Cond.methodLink RX4 35 yX4_chooseNext, Cond.instanceMethod yX4_chooseNext, Cond.selects RX4 yX4_chooseNext yX4_chooseNext, Cond.code yX4_chooseNext cX4_chooseNext 6 (some .int), Cond.methodLink RX4 81 yX4_stepsToGoal, Cond.instanceMethod yX4_stepsToGoal]
def wsX4_find_r3 : List Cond := [Cond.selects RX4 yX4_stepsToGoal yX4_stepsToGoal, Cond.code yX4_stepsToGoal cX4_stepsToGoal 2 (some .int), Cond.methodLink RX4 48 yX4_goalOf, Cond.instanceMethod yX4_goalOf, Cond.selects RX4 yX4_goalOf yX4_goalOf, Cond.code yX4_goalOf cX4_goalOf 2 (some .int), Cond.methodLink RX4 38 yX4_orderTurns, Cond.instanceMethod yX4_orderTurns, Cond.selects RX4 yX4_orderTurns yX4_orderTurns, Cond.code yX4_orderTurns cX4_orderTurns 3 none, Cond.fieldLink RX4 56 "RopedHalls$Routes" "turnCount" "I", Cond.fieldLink RX4 24 "RopedHalls$Routes" "turns" "[I"]
def wsX4_find : List Cond := .code yX4_find cX4_find 3 none :: ((wsX4_find_r1 ++ (wsX4_find_r2 ++ wsX4_find_r3)) ++ wsX40 ++ wsX10)
def wsX0_startFrom_r1 : List Cond := [Cond.fieldLink RX0 12 "RopedHalls$Forecast" "trial" "LRopedHalls$Hall;", Cond.fieldLink RX0 21 "RopedHalls$Forecast" "routes" "LRopedHalls$Routes;", Cond.methodLink RX0 32 yX1_copyFrom, Cond.instanceMethod yX1_copyFrom, Cond.selects RX1 yX1_copyFrom yX1_copyFrom, Cond.initialized RX1, Cond.code yX1_copyFrom cX1_copyFrom 3 none, Cond.fieldLink RX1 9 "RopedHalls$Hall" "room" "I", Cond.fieldLink RX1 38 "RopedHalls$Hall" "minutes" "I", Cond.fieldLink RX1 41 "RopedHalls$Hall" "cameIn" "I", Cond.fieldLink RX1 44 "RopedHalls$Hall" "waited" "I", Cond.fieldLink RX1 47 "RopedHalls$Hall" "jams" "I", Cond.fieldLink RX1 15 "RopedHalls$Hall" "people" "[I", Cond.fieldLink RX1 19 "RopedHalls$Hall" "guards" "[I", Cond.fieldLink RX1 22 "RopedHalls$Hall" "ropes" "[Z", Cond.fieldLink RX1 26 "RopedHalls$Hall" "doorCell" "[I", Cond.fieldLink RX1 29 "RopedHalls$Hall" "doorRate" "[I", Cond.fieldLink RX1 32 "RopedHalls$Hall" "doorOpen" "[Z", Cond.fieldLink RX1 35 "RopedHalls$Hall" "doorOut" "[I", Cond.methodLink RX0 36 yX4_find, Cond.instanceMethod yX4_find, Cond.selects RX4 yX4_find yX4_find, Cond.initialized RX4, Cond.code yX4_find cX4_find 3 none]
def wsX0_startFrom_r2 : List Cond := [Cond.fieldLink RX4 18 "RopedHalls$Routes" "goals" "[I", Cond.fieldLink RX4 21 "RopedHalls$Routes" "nexts" "[I", Cond.methodLink RX4 27 yX4_measureFrom, Cond.instanceMethod yX4_measureFrom, Cond.selects RX4 yX4_measureFrom yX4_measureFrom, Cond.code yX4_measureFrom cX4_measureFrom 10 none, Cond.fieldLink RX4 9 "RopedHalls$Routes" "steps" "[I", Cond.fieldLink RX4 68 "RopedHalls$Hall" "doorCell" "[I", Cond.fieldLink RX4 15 "RopedHalls$Routes" "queue" "[I", Cond.static yX5_isCell, Cond.initialized RX5, Cond.code yX5_isCell cX5_isCell 1 (some .boolean), Cond.methodLink RX4 71 yX1_stepFrom, Cond.instanceMethod yX1_stepFrom, Cond.selects RX1 yX1_stepFrom yX1_stepFrom, Cond.code yX1_stepFrom cX1_stepFrom 4 (some .int), Cond.static yX5_edgeTowards, Cond.code yX5_edgeTowards cX5_edgeTowards 4 (some .int), Cond.methodLink RX5 228 Lib.Math.min.name, Cond.static Lib.Math.min.name, Cond.initialized "java/lang/Math", Cond.code Lib.Math.min.name Lib.Math.min.code 2 (some .int), Cond.methodLink RX5 239 yX5_beside, Cond.static yX5_beside]
def wsX0_startFrom_r3 : List Cond := [Cond.code yX5_beside cX5_beside 2 (some .int), Cond.static yX5_isEdge, Cond.code yX5_isEdge cX5_isEdge 1 (some .boolean), Cond.methodLink RX4 52 yX4_stepsTo, Cond.instanceMethod yX4_stepsTo, Cond.selects RX4 yX4_stepsTo yX4_stepsTo, Cond.code yX4_stepsTo cX4_stepsTo 3 (some .int), Cond.static yX5_isDoor, Cond.code yX5_isDoor cX5_isDoor 1 (some .boolean), Cond.methodLink RX4 31 yX4_chooseGoal, Cond.instanceMethod yX4_chooseGoal, Cond.selects RX4 yX4_chooseGoal yX4_chooseGoal, Cond.code yX4_chooseGoal cX4_chooseGoal 7 (some .int), Cond.fieldLink RX4 74 "RopedHalls$Hall" "guards" "[I", Cond.fieldLink RX4 77 "RopedHalls$Hall" "doorOpen" "[Z", Cond.methodLink RX4 35 yX4_chooseNext, Cond.instanceMethod yX4_chooseNext, Cond.selects RX4 yX4_chooseNext yX4_chooseNext, Cond.code yX4_chooseNext cX4_chooseNext 6 (some .int), Cond.methodLink RX4 81 yX4_stepsToGoal, Cond.instanceMethod yX4_stepsToGoal, Cond.selects RX4 yX4_stepsToGoal yX4_stepsToGoal, Cond.code yX4_stepsToGoal cX4_stepsToGoal 2 (some .int), Cond.methodLink RX4 48 yX4_goalOf]
def wsX0_startFrom_r4 : List Cond := [Cond.instanceMethod yX4_goalOf, Cond.selects RX4 yX4_goalOf yX4_goalOf, Cond.code yX4_goalOf cX4_goalOf 2 (some .int), Cond.methodLink RX4 38 yX4_orderTurns, Cond.instanceMethod yX4_orderTurns, Cond.selects RX4 yX4_orderTurns yX4_orderTurns, Cond.code yX4_orderTurns cX4_orderTurns 3 none, Cond.fieldLink RX4 56 "RopedHalls$Routes" "turnCount" "I", Cond.fieldLink RX4 24 "RopedHalls$Routes" "turns" "[I"]
def wsX0_startFrom : List Cond := .code yX0_startFrom cX0_startFrom 2 none :: ((wsX0_startFrom_r1 ++ (wsX0_startFrom_r2 ++ (wsX0_startFrom_r3 ++ wsX0_startFrom_r4))) ++ wsX00 ++ wsX10 ++ wsX40)
def wsX0_startWithRopeTurned_r1 : List Cond := [Cond.fieldLink RX0 12 "RopedHalls$Forecast" "trial" "LRopedHalls$Hall;", Cond.fieldLink RX0 43 "RopedHalls$Hall" "ropes" "[Z", Cond.fieldLink RX0 21 "RopedHalls$Forecast" "routes" "LRopedHalls$Routes;", Cond.methodLink RX0 32 yX1_copyFrom, Cond.instanceMethod yX1_copyFrom, Cond.selects RX1 yX1_copyFrom yX1_copyFrom, Cond.initialized RX1, Cond.code yX1_copyFrom cX1_copyFrom 3 none, Cond.fieldLink RX1 9 "RopedHalls$Hall" "room" "I", Cond.fieldLink RX1 38 "RopedHalls$Hall" "minutes" "I", Cond.fieldLink RX1 41 "RopedHalls$Hall" "cameIn" "I", Cond.fieldLink RX1 44 "RopedHalls$Hall" "waited" "I", Cond.fieldLink RX1 47 "RopedHalls$Hall" "jams" "I", Cond.fieldLink RX1 15 "RopedHalls$Hall" "people" "[I", Cond.fieldLink RX1 19 "RopedHalls$Hall" "guards" "[I", Cond.fieldLink RX1 22 "RopedHalls$Hall" "ropes" "[Z", Cond.fieldLink RX1 26 "RopedHalls$Hall" "doorCell" "[I", Cond.fieldLink RX1 29 "RopedHalls$Hall" "doorRate" "[I", Cond.fieldLink RX1 32 "RopedHalls$Hall" "doorOpen" "[Z", Cond.fieldLink RX1 35 "RopedHalls$Hall" "doorOut" "[I", Cond.static yX5_isEdge, Cond.initialized RX5, Cond.code yX5_isEdge cX5_isEdge 1 (some .boolean), Cond.methodLink RX0 36 yX4_find]
def wsX0_startWithRopeTurned_r2 : List Cond := [Cond.instanceMethod yX4_find, Cond.selects RX4 yX4_find yX4_find, Cond.initialized RX4, Cond.code yX4_find cX4_find 3 none, Cond.fieldLink RX4 18 "RopedHalls$Routes" "goals" "[I", Cond.fieldLink RX4 21 "RopedHalls$Routes" "nexts" "[I", Cond.methodLink RX4 27 yX4_measureFrom, Cond.instanceMethod yX4_measureFrom, Cond.selects RX4 yX4_measureFrom yX4_measureFrom, Cond.code yX4_measureFrom cX4_measureFrom 10 none, Cond.fieldLink RX4 9 "RopedHalls$Routes" "steps" "[I", Cond.fieldLink RX4 68 "RopedHalls$Hall" "doorCell" "[I", Cond.fieldLink RX4 15 "RopedHalls$Routes" "queue" "[I", Cond.static yX5_isCell, Cond.code yX5_isCell cX5_isCell 1 (some .boolean), Cond.methodLink RX4 71 yX1_stepFrom, Cond.instanceMethod yX1_stepFrom, Cond.selects RX1 yX1_stepFrom yX1_stepFrom, Cond.code yX1_stepFrom cX1_stepFrom 4 (some .int), Cond.static yX5_edgeTowards, Cond.code yX5_edgeTowards cX5_edgeTowards 4 (some .int), Cond.methodLink RX5 228 Lib.Math.min.name, Cond.static Lib.Math.min.name, Cond.initialized "java/lang/Math"]
def wsX0_startWithRopeTurned_r3 : List Cond := [Cond.code Lib.Math.min.name Lib.Math.min.code 2 (some .int), Cond.methodLink RX5 239 yX5_beside, Cond.static yX5_beside, Cond.code yX5_beside cX5_beside 2 (some .int), Cond.methodLink RX4 52 yX4_stepsTo, Cond.instanceMethod yX4_stepsTo, Cond.selects RX4 yX4_stepsTo yX4_stepsTo, Cond.code yX4_stepsTo cX4_stepsTo 3 (some .int), Cond.static yX5_isDoor, Cond.code yX5_isDoor cX5_isDoor 1 (some .boolean), Cond.methodLink RX4 31 yX4_chooseGoal, Cond.instanceMethod yX4_chooseGoal, Cond.selects RX4 yX4_chooseGoal yX4_chooseGoal, Cond.code yX4_chooseGoal cX4_chooseGoal 7 (some .int), Cond.fieldLink RX4 74 "RopedHalls$Hall" "guards" "[I", Cond.fieldLink RX4 77 "RopedHalls$Hall" "doorOpen" "[Z", Cond.methodLink RX4 35 yX4_chooseNext, Cond.instanceMethod yX4_chooseNext, Cond.selects RX4 yX4_chooseNext yX4_chooseNext, Cond.code yX4_chooseNext cX4_chooseNext 6 (some .int), Cond.methodLink RX4 81 yX4_stepsToGoal, Cond.instanceMethod yX4_stepsToGoal, Cond.selects RX4 yX4_stepsToGoal yX4_stepsToGoal, Cond.code yX4_stepsToGoal cX4_stepsToGoal 2 (some .int)]
def wsX0_startWithRopeTurned_r4 : List Cond := [Cond.methodLink RX4 48 yX4_goalOf, Cond.instanceMethod yX4_goalOf, Cond.selects RX4 yX4_goalOf yX4_goalOf, Cond.code yX4_goalOf cX4_goalOf 2 (some .int), Cond.methodLink RX4 38 yX4_orderTurns, Cond.instanceMethod yX4_orderTurns, Cond.selects RX4 yX4_orderTurns yX4_orderTurns, Cond.code yX4_orderTurns cX4_orderTurns 3 none, Cond.fieldLink RX4 56 "RopedHalls$Routes" "turnCount" "I", Cond.fieldLink RX4 24 "RopedHalls$Routes" "turns" "[I"]
def wsX0_startWithRopeTurned : List Cond := .code yX0_startWithRopeTurned cX0_startWithRopeTurned 3 none :: ((wsX0_startWithRopeTurned_r1 ++ (wsX0_startWithRopeTurned_r2 ++ (wsX0_startWithRopeTurned_r3 ++ wsX0_startWithRopeTurned_r4))) ++ wsX00 ++ wsX10 ++ wsX40)
def wsX1_peopleInside : List Cond := .code yX1_peopleInside cX1_peopleInside 3 (some .int) :: ([.fieldLink RX1 15 "RopedHalls$Hall" "people" "[I"] ++ wsX10)
def wsX4_peopleWithGoal : List Cond := .code yX4_peopleWithGoal cX4_peopleWithGoal 5 (some .int) :: ([.fieldLink RX4 18 "RopedHalls$Routes" "goals" "[I", .fieldLink RX4 60 "RopedHalls$Hall" "people" "[I"] ++ wsX40 ++ wsX10)
def wsX4_stranded : List Cond := .code yX4_stranded cX4_stranded 2 (some .int) :: ([.methodLink RX4 65 yX4_peopleWithGoal, .instanceMethod yX4_peopleWithGoal, .selects RX4 yX4_peopleWithGoal yX4_peopleWithGoal, .initialized RX4, .code yX4_peopleWithGoal cX4_peopleWithGoal 5 (some .int), .fieldLink RX4 18 "RopedHalls$Routes" "goals" "[I", .fieldLink RX4 60 "RopedHalls$Hall" "people" "[I"] ++ wsX40 ++ wsX10)
def wsX2_letOut : List Cond := .code yX2_letOut cX2_letOut 4 (some .int) :: ([.fieldLink RX2 42 "RopedHalls$Hall" "doorCell" "[I", .fieldLink RX2 45 "RopedHalls$Hall" "doorOpen" "[Z", .fieldLink RX2 53 "RopedHalls$Hall" "doorRate" "[I", .fieldLink RX2 56 "RopedHalls$Hall" "people" "[I", .methodLink RX2 59 Lib.Math.min.name, .static Lib.Math.min.name, .initialized "java/lang/Math", .code Lib.Math.min.name Lib.Math.min.code 2 (some .int), .fieldLink RX2 65 "RopedHalls$Hall" "doorOut" "[I", .static yX5_isCell, .initialized RX5, .code yX5_isCell cX5_isCell 1 (some .boolean)] ++ wsX10)
def wsX4_turnsAMinute : List Cond := .code yX4_turnsAMinute cX4_turnsAMinute 1 (some .int) :: ([.fieldLink RX4 56 "RopedHalls$Routes" "turnCount" "I"] ++ wsX40)
def wsX4_cellAtTurn : List Cond := .code yX4_cellAtTurn cX4_cellAtTurn 2 (some .int) :: ([.fieldLink RX4 24 "RopedHalls$Routes" "turns" "[I", .static yX5_isCell, .initialized RX5, .code yX5_isCell cX5_isCell 1 (some .boolean)] ++ wsX40)
def wsX4_nextOf : List Cond := .code yX4_nextOf cX4_nextOf 2 (some .int) :: ([.fieldLink RX4 21 "RopedHalls$Routes" "nexts" "[I", .static yX5_isCell, .initialized RX5, .code yX5_isCell cX5_isCell 1 (some .boolean)] ++ wsX40)
def wsX1_roomIn : List Cond := .code yX1_roomIn cX1_roomIn 2 (some .int) :: ([.fieldLink RX1 9 "RopedHalls$Hall" "room" "I", .fieldLink RX1 15 "RopedHalls$Hall" "people" "[I", .static yX5_isCell, .initialized RX5, .code yX5_isCell cX5_isCell 1 (some .boolean)] ++ wsX10)
def wsX2_move : List Cond := .code yX2_move cX2_move 6 none :: ([.fieldLink RX2 56 "RopedHalls$Hall" "people" "[I", .fieldLink RX2 9 "RopedHalls$Minute" "arrived" "[I", .methodLink RX2 59 Lib.Math.min.name, .static Lib.Math.min.name, .initialized "java/lang/Math", .code Lib.Math.min.name Lib.Math.min.code 2 (some .int), .fieldLink RX2 71 "RopedHalls$Hall" "jams" "I", .fieldLink RX2 74 "RopedHalls$Hall" "waited" "I", .static yX5_isCell, .initialized RX5, .code yX5_isCell cX5_isCell 1 (some .boolean), .methodLink RX2 68 yX1_roomIn, .instanceMethod yX1_roomIn, .selects RX1 yX1_roomIn yX1_roomIn, .initialized RX1, .code yX1_roomIn cX1_roomIn 2 (some .int), .fieldLink RX1 9 "RopedHalls$Hall" "room" "I", .fieldLink RX1 15 "RopedHalls$Hall" "people" "[I"] ++ wsX10 ++ wsX20)
def wsX2_run_r1 : List Cond := [Cond.fieldLink RX2 15 "RopedHalls$Hall" "minutes" "I", Cond.fieldLink RX2 9 "RopedHalls$Minute" "arrived" "[I", Cond.methodLink RX2 21 yX2_letOut, Cond.static yX2_letOut, Cond.initialized RX2, Cond.code yX2_letOut cX2_letOut 4 (some .int), Cond.fieldLink RX2 42 "RopedHalls$Hall" "doorCell" "[I", Cond.fieldLink RX2 45 "RopedHalls$Hall" "doorOpen" "[Z", Cond.fieldLink RX2 53 "RopedHalls$Hall" "doorRate" "[I", Cond.fieldLink RX2 56 "RopedHalls$Hall" "people" "[I", Cond.methodLink RX2 59 Lib.Math.min.name, Cond.static Lib.Math.min.name, Cond.initialized "java/lang/Math", Cond.code Lib.Math.min.name Lib.Math.min.code 2 (some .int), Cond.fieldLink RX2 65 "RopedHalls$Hall" "doorOut" "[I", Cond.static yX5_isCell, Cond.initialized RX5, Cond.code yX5_isCell cX5_isCell 1 (some .boolean), Cond.methodLink RX2 25 yX4_turnsAMinute, Cond.instanceMethod yX4_turnsAMinute, Cond.selects RX4 yX4_turnsAMinute yX4_turnsAMinute, Cond.initialized RX4, Cond.code yX4_turnsAMinute cX4_turnsAMinute 1 (some .int), Cond.fieldLink RX4 56 "RopedHalls$Routes" "turnCount" "I"]
def wsX2_run_r2 : List Cond := [Cond.methodLink RX2 31 yX4_cellAtTurn, Cond.instanceMethod yX4_cellAtTurn, Cond.selects RX4 yX4_cellAtTurn yX4_cellAtTurn, Cond.code yX4_cellAtTurn cX4_cellAtTurn 2 (some .int), Cond.fieldLink RX4 24 "RopedHalls$Routes" "turns" "[I", Cond.methodLink RX2 35 yX4_nextOf, Cond.instanceMethod yX4_nextOf, Cond.selects RX4 yX4_nextOf yX4_nextOf, Cond.code yX4_nextOf cX4_nextOf 2 (some .int), Cond.fieldLink RX4 21 "RopedHalls$Routes" "nexts" "[I", Cond.methodLink RX2 38 yX2_move, Cond.instanceMethod yX2_move, Cond.selects RX2 yX2_move yX2_move, Cond.code yX2_move cX2_move 6 none, Cond.fieldLink RX2 71 "RopedHalls$Hall" "jams" "I", Cond.fieldLink RX2 74 "RopedHalls$Hall" "waited" "I", Cond.methodLink RX2 68 yX1_roomIn, Cond.instanceMethod yX1_roomIn, Cond.selects RX1 yX1_roomIn yX1_roomIn, Cond.initialized RX1, Cond.code yX1_roomIn cX1_roomIn 2 (some .int), Cond.fieldLink RX1 9 "RopedHalls$Hall" "room" "I", Cond.fieldLink RX1 15 "RopedHalls$Hall" "people" "[I"]
def wsX2_run : List Cond := .code yX2_run cX2_run 6 (some .int) :: ((wsX2_run_r1 ++ wsX2_run_r2) ++ wsX10 ++ wsX20 ++ wsX40)
def wsX0_runUntilOut_r1 : List Cond := [Cond.fieldLink RX0 12 "RopedHalls$Forecast" "trial" "LRopedHalls$Hall;", Cond.fieldLink RX0 21 "RopedHalls$Forecast" "routes" "LRopedHalls$Routes;", Cond.fieldLink RX0 28 "RopedHalls$Forecast" "minute" "LRopedHalls$Minute;", Cond.methodLink RX0 47 yX1_peopleInside, Cond.instanceMethod yX1_peopleInside, Cond.selects RX1 yX1_peopleInside yX1_peopleInside, Cond.initialized RX1, Cond.code yX1_peopleInside cX1_peopleInside 3 (some .int), Cond.fieldLink RX1 15 "RopedHalls$Hall" "people" "[I", Cond.methodLink RX0 51 yX4_stranded, Cond.instanceMethod yX4_stranded, Cond.selects RX4 yX4_stranded yX4_stranded, Cond.initialized RX4, Cond.code yX4_stranded cX4_stranded 2 (some .int), Cond.methodLink RX4 65 yX4_peopleWithGoal, Cond.instanceMethod yX4_peopleWithGoal, Cond.selects RX4 yX4_peopleWithGoal yX4_peopleWithGoal, Cond.code yX4_peopleWithGoal cX4_peopleWithGoal 5 (some .int), Cond.fieldLink RX4 18 "RopedHalls$Routes" "goals" "[I", Cond.fieldLink RX4 60 "RopedHalls$Hall" "people" "[I", Cond.methodLink RX0 55 yX2_run, Cond.instanceMethod yX2_run, Cond.selects RX2 yX2_run yX2_run, Cond.initialized RX2]
def wsX0_runUntilOut_r2 : List Cond := [Cond.code yX2_run cX2_run 6 (some .int), Cond.fieldLink RX2 15 "RopedHalls$Hall" "minutes" "I", Cond.fieldLink RX2 9 "RopedHalls$Minute" "arrived" "[I", Cond.methodLink RX2 21 yX2_letOut, Cond.static yX2_letOut, Cond.code yX2_letOut cX2_letOut 4 (some .int), Cond.fieldLink RX2 42 "RopedHalls$Hall" "doorCell" "[I", Cond.fieldLink RX2 45 "RopedHalls$Hall" "doorOpen" "[Z", Cond.fieldLink RX2 53 "RopedHalls$Hall" "doorRate" "[I", Cond.fieldLink RX2 56 "RopedHalls$Hall" "people" "[I", Cond.methodLink RX2 59 Lib.Math.min.name, Cond.static Lib.Math.min.name, Cond.initialized "java/lang/Math", Cond.code Lib.Math.min.name Lib.Math.min.code 2 (some .int), Cond.fieldLink RX2 65 "RopedHalls$Hall" "doorOut" "[I", Cond.static yX5_isCell, Cond.initialized RX5, Cond.code yX5_isCell cX5_isCell 1 (some .boolean), Cond.methodLink RX2 25 yX4_turnsAMinute, Cond.instanceMethod yX4_turnsAMinute, Cond.selects RX4 yX4_turnsAMinute yX4_turnsAMinute, Cond.code yX4_turnsAMinute cX4_turnsAMinute 1 (some .int), Cond.fieldLink RX4 56 "RopedHalls$Routes" "turnCount" "I", Cond.methodLink RX2 31 yX4_cellAtTurn]
def wsX0_runUntilOut_r3 : List Cond := [Cond.instanceMethod yX4_cellAtTurn, Cond.selects RX4 yX4_cellAtTurn yX4_cellAtTurn, Cond.code yX4_cellAtTurn cX4_cellAtTurn 2 (some .int), Cond.fieldLink RX4 24 "RopedHalls$Routes" "turns" "[I", Cond.methodLink RX2 35 yX4_nextOf, Cond.instanceMethod yX4_nextOf, Cond.selects RX4 yX4_nextOf yX4_nextOf, Cond.code yX4_nextOf cX4_nextOf 2 (some .int), Cond.fieldLink RX4 21 "RopedHalls$Routes" "nexts" "[I", Cond.methodLink RX2 38 yX2_move, Cond.instanceMethod yX2_move, Cond.selects RX2 yX2_move yX2_move, Cond.code yX2_move cX2_move 6 none, Cond.fieldLink RX2 71 "RopedHalls$Hall" "jams" "I", Cond.fieldLink RX2 74 "RopedHalls$Hall" "waited" "I", Cond.methodLink RX2 68 yX1_roomIn, Cond.instanceMethod yX1_roomIn, Cond.selects RX1 yX1_roomIn yX1_roomIn, Cond.code yX1_roomIn cX1_roomIn 2 (some .int), Cond.fieldLink RX1 9 "RopedHalls$Hall" "room" "I"]
def wsX0_runUntilOut : List Cond := .code yX0_runUntilOut cX0_runUntilOut 3 (some .int) :: ((wsX0_runUntilOut_r1 ++ (wsX0_runUntilOut_r2 ++ wsX0_runUntilOut_r3)) ++ wsX00 ++ wsX10 ++ wsX40 ++ wsX20)
def wsX0_stranded : List Cond := .code yX0_stranded cX0_stranded 1 (some .int) :: ([.fieldLink RX0 21 "RopedHalls$Forecast" "routes" "LRopedHalls$Routes;", .fieldLink RX0 12 "RopedHalls$Forecast" "trial" "LRopedHalls$Hall;", .methodLink RX0 51 yX4_stranded, .instanceMethod yX4_stranded, .selects RX4 yX4_stranded yX4_stranded, .initialized RX4, .code yX4_stranded cX4_stranded 2 (some .int), .methodLink RX4 65 yX4_peopleWithGoal, .instanceMethod yX4_peopleWithGoal, .selects RX4 yX4_peopleWithGoal yX4_peopleWithGoal, .code yX4_peopleWithGoal cX4_peopleWithGoal 5 (some .int), .fieldLink RX4 18 "RopedHalls$Routes" "goals" "[I", .fieldLink RX4 60 "RopedHalls$Hall" "people" "[I"] ++ wsX00 ++ wsX40 ++ wsX10)
def wsX1_unevenness : List Cond := .code yX1_unevenness cX1_unevenness 4 (some .int) :: ([.fieldLink RX1 32 "RopedHalls$Hall" "doorOpen" "[Z", .fieldLink RX1 35 "RopedHalls$Hall" "doorOut" "[I", .methodLink RX1 54 Lib.Math.max.name, .static Lib.Math.max.name, .initialized "java/lang/Math", .code Lib.Math.max.name Lib.Math.max.code 2 (some .int), .methodLink RX1 60 Lib.Math.min.name, .static Lib.Math.min.name, .code Lib.Math.min.name Lib.Math.min.code 2 (some .int)] ++ wsX10)
def wsX0_unevenness : List Cond := .code yX0_unevenness cX0_unevenness 1 (some .int) :: ([.fieldLink RX0 12 "RopedHalls$Forecast" "trial" "LRopedHalls$Hall;", .methodLink RX0 59 yX1_unevenness, .instanceMethod yX1_unevenness, .selects RX1 yX1_unevenness yX1_unevenness, .initialized RX1, .code yX1_unevenness cX1_unevenness 4 (some .int), .fieldLink RX1 32 "RopedHalls$Hall" "doorOpen" "[Z", .fieldLink RX1 35 "RopedHalls$Hall" "doorOut" "[I", .methodLink RX1 54 Lib.Math.max.name, .static Lib.Math.max.name, .initialized "java/lang/Math", .code Lib.Math.max.name Lib.Math.max.code 2 (some .int), .methodLink RX1 60 Lib.Math.min.name, .static Lib.Math.min.name, .code Lib.Math.min.name Lib.Math.min.code 2 (some .int)] ++ wsX00 ++ wsX10)
def wsX0_waited : List Cond := .code yX0_waited cX0_waited 1 (some .int) :: ([.fieldLink RX0 12 "RopedHalls$Forecast" "trial" "LRopedHalls$Hall;", .fieldLink RX0 62 "RopedHalls$Hall" "waited" "I"] ++ wsX00 ++ wsX10)
def wsX1_letIn : List Cond := .code yX1_letIn cX1_letIn 3 none :: ([.fieldLink RX1 15 "RopedHalls$Hall" "people" "[I", .fieldLink RX1 41 "RopedHalls$Hall" "cameIn" "I", .static yX5_isCell, .initialized RX5, .code yX5_isCell cX5_isCell 1 (some .boolean)] ++ wsX10)
def wsX1_fullestCell : List Cond := .code yX1_fullestCell cX1_fullestCell 3 (some .int) :: ([.fieldLink RX1 15 "RopedHalls$Hall" "people" "[I", .methodLink RX1 54 Lib.Math.max.name, .static Lib.Math.max.name, .initialized "java/lang/Math", .code Lib.Math.max.name Lib.Math.max.code 2 (some .int)] ++ wsX10)
def wsX1_peopleOut : List Cond := .code yX1_peopleOut cX1_peopleOut 3 (some .int) :: ([.fieldLink RX1 35 "RopedHalls$Hall" "doorOut" "[I"] ++ wsX10)
def wsX1_ropeCount : List Cond := .code yX1_ropeCount cX1_ropeCount 3 (some .int) :: ([.fieldLink RX1 22 "RopedHalls$Hall" "ropes" "[Z"] ++ wsX10)
def wsX1_guardCount : List Cond := .code yX1_guardCount cX1_guardCount 3 (some .int) :: ([.fieldLink RX1 19 "RopedHalls$Hall" "guards" "[I"] ++ wsX10)
def wsX1_openDoors : List Cond := .code yX1_openDoors cX1_openDoors 3 (some .int) :: ([.fieldLink RX1 32 "RopedHalls$Hall" "doorOpen" "[Z"] ++ wsX10)
def wsX1_ropesAround : List Cond := .code yX1_ropesAround cX1_ropesAround 5 (some .int) :: ([.fieldLink RX1 22 "RopedHalls$Hall" "ropes" "[Z", .static yX5_edgeTowards, .initialized RX5, .code yX5_edgeTowards cX5_edgeTowards 4 (some .int), .methodLink RX5 228 Lib.Math.min.name, .static Lib.Math.min.name, .initialized "java/lang/Math", .code Lib.Math.min.name Lib.Math.min.code 2 (some .int), .methodLink RX5 239 yX5_beside, .static yX5_beside, .code yX5_beside cX5_beside 2 (some .int), .static yX5_isEdge, .code yX5_isEdge cX5_isEdge 1 (some .boolean)] ++ wsX10)
def wsX3_init : List Cond := .code yX3_init cX3_init 1 none :: ([.methodLink RX3 3 objectInit, .instanceMethod objectInit, .code objectInit ⟨#[0xb1]⟩ 1 none, .arrayClass .int, .fieldLink RX3 9 "RopedHalls$Pad" "codes" "[I"] ++ wsX30)
def wsX3_append : List Cond := .code yX3_append cX3_append 2 none :: ([.fieldLink RX3 15 "RopedHalls$Pad" "length" "I", .fieldLink RX3 9 "RopedHalls$Pad" "codes" "[I"] ++ wsX30)
def wsX3_codeAt : List Cond := .code yX3_codeAt cX3_codeAt 2 (some .int) :: ([.fieldLink RX3 15 "RopedHalls$Pad" "length" "I", .fieldLink RX3 9 "RopedHalls$Pad" "codes" "[I"] ++ wsX30)
def wsX3_placeBehindFirstDigit : List Cond := .code yX3_placeBehindFirstDigit cX3_placeBehindFirstDigit 1 (some .int) :: ([])
def wsX3_placeBehind : List Cond := .code yX3_placeBehind cX3_placeBehind 3 (some .int) :: ([.methodLink RX3 45 yX3_placeBehindFirstDigit, .static yX3_placeBehindFirstDigit, .initialized RX3, .code yX3_placeBehindFirstDigit cX3_placeBehindFirstDigit 1 (some .int)])
def wsX3_firstFault : List Cond := .code yX3_firstFault cX3_firstFault 3 (some .int) :: ([.fieldLink RX3 15 "RopedHalls$Pad" "length" "I", .methodLink RX3 19 yX3_codeAt, .instanceMethod yX3_codeAt, .selects RX3 yX3_codeAt yX3_codeAt, .initialized RX3, .code yX3_codeAt cX3_codeAt 2 (some .int), .fieldLink RX3 9 "RopedHalls$Pad" "codes" "[I", .methodLink RX3 23 yX3_placeBehind, .static yX3_placeBehind, .code yX3_placeBehind cX3_placeBehind 3 (some .int), .methodLink RX3 45 yX3_placeBehindFirstDigit, .static yX3_placeBehindFirstDigit, .code yX3_placeBehindFirstDigit cX3_placeBehindFirstDigit 1 (some .int)] ++ wsX30)
def wsX3_letCrowdIn_r1 : List Cond := [Cond.methodLink RX3 36 Lib.Math.min.name, Cond.static Lib.Math.min.name, Cond.initialized "java/lang/Math", Cond.code Lib.Math.min.name Lib.Math.min.code 2 (some .int), Cond.methodLink RX3 19 yX3_codeAt, Cond.instanceMethod yX3_codeAt, Cond.selects RX3 yX3_codeAt yX3_codeAt, Cond.initialized RX3, Cond.code yX3_codeAt cX3_codeAt 2 (some .int), Cond.fieldLink RX3 15 "RopedHalls$Pad" "length" "I", Cond.fieldLink RX3 9 "RopedHalls$Pad" "codes" "[I", Cond.methodLink RX3 31 yX1_roomIn, Cond.instanceMethod yX1_roomIn, Cond.selects RX1 yX1_roomIn yX1_roomIn, Cond.initialized RX1, Cond.code yX1_roomIn cX1_roomIn 2 (some .int), Cond.fieldLink RX1 9 "RopedHalls$Hall" "room" "I", Cond.fieldLink RX1 15 "RopedHalls$Hall" "people" "[I", Cond.static yX5_isCell, Cond.initialized RX5, Cond.code yX5_isCell cX5_isCell 1 (some .boolean), Cond.methodLink RX3 41 yX1_letIn, Cond.instanceMethod yX1_letIn, Cond.selects RX1 yX1_letIn yX1_letIn]
def wsX3_letCrowdIn_r2 : List Cond := [Cond.code yX1_letIn cX1_letIn 3 none, Cond.fieldLink RX1 41 "RopedHalls$Hall" "cameIn" "I"]
def wsX3_letCrowdIn : List Cond := .code yX3_letCrowdIn cX3_letCrowdIn 6 none :: ((wsX3_letCrowdIn_r1 ++ wsX3_letCrowdIn_r2) ++ wsX30 ++ wsX10)
def wsX3_letCrowdsIn_r1 : List Cond := [Cond.fieldLink RX3 15 "RopedHalls$Pad" "length" "I", Cond.methodLink RX3 19 yX3_codeAt, Cond.instanceMethod yX3_codeAt, Cond.selects RX3 yX3_codeAt yX3_codeAt, Cond.initialized RX3, Cond.code yX3_codeAt cX3_codeAt 2 (some .int), Cond.fieldLink RX3 9 "RopedHalls$Pad" "codes" "[I", Cond.methodLink RX3 27 yX3_letCrowdIn, Cond.instanceMethod yX3_letCrowdIn, Cond.selects RX3 yX3_letCrowdIn yX3_letCrowdIn, Cond.code yX3_letCrowdIn cX3_letCrowdIn 6 none, Cond.methodLink RX3 36 Lib.Math.min.name, Cond.static Lib.Math.min.name, Cond.initialized "java/lang/Math", Cond.code Lib.Math.min.name Lib.Math.min.code 2 (some .int), Cond.methodLink RX3 31 yX1_roomIn, Cond.instanceMethod yX1_roomIn, Cond.selects RX1 yX1_roomIn yX1_roomIn, Cond.initialized RX1, Cond.code yX1_roomIn cX1_roomIn 2 (some .int), Cond.fieldLink RX1 9 "RopedHalls$Hall" "room" "I", Cond.fieldLink RX1 15 "RopedHalls$Hall" "people" "[I", Cond.static yX5_isCell, Cond.initialized RX5]
def wsX3_letCrowdsIn_r2 : List Cond := [Cond.code yX5_isCell cX5_isCell 1 (some .boolean), Cond.methodLink RX3 41 yX1_letIn, Cond.instanceMethod yX1_letIn, Cond.selects RX1 yX1_letIn yX1_letIn, Cond.code yX1_letIn cX1_letIn 3 none, Cond.fieldLink RX1 41 "RopedHalls$Hall" "cameIn" "I"]
def wsX3_letCrowdsIn : List Cond := .code yX3_letCrowdsIn cX3_letCrowdsIn 4 none :: ((wsX3_letCrowdsIn_r1 ++ wsX3_letCrowdsIn_r2) ++ wsX30 ++ wsX10)
def wsX4_cellsWithGoal : List Cond := .code yX4_cellsWithGoal cX4_cellsWithGoal 4 (some .int) :: ([.fieldLink RX4 18 "RopedHalls$Routes" "goals" "[I"] ++ wsX40)
def wsX5_init_r1 : List Cond := [Cond.methodLink RX5 3 objectInit, Cond.instanceMethod objectInit, Cond.code objectInit ⟨#[0xb1]⟩ 1 none, Cond.classLink RX5 9 RX1, Cond.instantiable RX1 12, Cond.initialized RX1, Cond.fieldLink RX5 12 "RopedHalls" "hall" "LRopedHalls$Hall;", Cond.classLink RX5 16 RX4, Cond.instantiable RX4 6, Cond.initialized RX4, Cond.fieldLink RX5 19 "RopedHalls" "routes" "LRopedHalls$Routes;", Cond.classLink RX5 23 RX2, Cond.instantiable RX2 1, Cond.initialized RX2, Cond.fieldLink RX5 26 "RopedHalls" "minute" "LRopedHalls$Minute;", Cond.classLink RX5 30 RX0, Cond.instantiable RX0 3, Cond.initialized RX0, Cond.fieldLink RX5 33 "RopedHalls" "forecast" "LRopedHalls$Forecast;", Cond.classLink RX5 37 RX3, Cond.instantiable RX3 2, Cond.initialized RX3, Cond.fieldLink RX5 40 "RopedHalls" "pad" "LRopedHalls$Pad;", Cond.fieldLink RX5 44 "RopedHalls" "history" "[LRopedHalls$Hall;"]
def wsX5_init_r2 : List Cond := [Cond.fieldLink RX5 48 "RopedHalls" "slots" "[LRopedHalls$Hall;", Cond.arrayClass .boolean, Cond.fieldLink RX5 51 "RopedHalls" "isSaved" "[Z", Cond.methodLink RX5 11 yX1_init, Cond.instanceMethod yX1_init, Cond.code yX1_init cX1_init 2 none, Cond.methodLink RX1 3 objectInit, Cond.fieldLink RX1 9 "RopedHalls$Hall" "room" "I", Cond.arrayClass .int, Cond.fieldLink RX1 15 "RopedHalls$Hall" "people" "[I", Cond.fieldLink RX1 19 "RopedHalls$Hall" "guards" "[I", Cond.fieldLink RX1 22 "RopedHalls$Hall" "ropes" "[Z", Cond.fieldLink RX1 26 "RopedHalls$Hall" "doorCell" "[I", Cond.fieldLink RX1 29 "RopedHalls$Hall" "doorRate" "[I", Cond.fieldLink RX1 32 "RopedHalls$Hall" "doorOpen" "[Z", Cond.fieldLink RX1 35 "RopedHalls$Hall" "doorOut" "[I", Cond.instanceMethod yX4_init, Cond.code yX4_init cX4_init 1 none, Cond.methodLink RX4 3 objectInit, Cond.fieldLink RX4 9 "RopedHalls$Routes" "steps" "[I", Cond.fieldLink RX4 15 "RopedHalls$Routes" "queue" "[I", Cond.fieldLink RX4 18 "RopedHalls$Routes" "goals" "[I", Cond.fieldLink RX4 21 "RopedHalls$Routes" "nexts" "[I", Cond.fieldLink RX4 24 "RopedHalls$Routes" "turns" "[I"]
def wsX5_init_r3 : List Cond := [Cond.instanceMethod yX2_init, Cond.code yX2_init cX2_init 1 none, Cond.methodLink RX2 3 objectInit, Cond.fieldLink RX2 9 "RopedHalls$Minute" "arrived" "[I", Cond.instanceMethod yX0_init, Cond.code yX0_init cX0_init 1 none, Cond.methodLink RX0 3 objectInit, Cond.classLink RX0 9 RX1, Cond.fieldLink RX0 12 "RopedHalls$Forecast" "trial" "LRopedHalls$Hall;", Cond.classLink RX0 18 RX4, Cond.fieldLink RX0 21 "RopedHalls$Forecast" "routes" "LRopedHalls$Routes;", Cond.classLink RX0 25 RX2, Cond.fieldLink RX0 28 "RopedHalls$Forecast" "minute" "LRopedHalls$Minute;", Cond.methodLink RX0 11 yX1_init, Cond.instanceMethod yX3_init, Cond.code yX3_init cX3_init 1 none, Cond.methodLink RX3 3 objectInit, Cond.fieldLink RX3 9 "RopedHalls$Pad" "codes" "[I"]
def wsX5_init : List Cond := .code yX5_init cX5_init 2 none :: ((wsX5_init_r1 ++ (wsX5_init_r2 ++ wsX5_init_r3)) ++ wsX10 ++ wsX50 ++ wsX40 ++ wsX20 ++ wsX00 ++ wsX30)
def wsX5_recorded : List Cond := .code yX5_recorded cX5_recorded 2 (some (.object "RopedHalls$Hall")) :: ([.fieldLink RX5 44 "RopedHalls" "history" "[LRopedHalls$Hall;"] ++ wsX50)
def wsX5_copyHall : List Cond := .code yX5_copyHall cX5_copyHall 2 none :: ([.methodLink RX5 236 yX1_copyFrom, .instanceMethod yX1_copyFrom, .selects RX1 yX1_copyFrom yX1_copyFrom, .initialized RX1, .code yX1_copyFrom cX1_copyFrom 3 none, .fieldLink RX1 9 "RopedHalls$Hall" "room" "I", .fieldLink RX1 38 "RopedHalls$Hall" "minutes" "I", .fieldLink RX1 41 "RopedHalls$Hall" "cameIn" "I", .fieldLink RX1 44 "RopedHalls$Hall" "waited" "I", .fieldLink RX1 47 "RopedHalls$Hall" "jams" "I", .fieldLink RX1 15 "RopedHalls$Hall" "people" "[I", .fieldLink RX1 19 "RopedHalls$Hall" "guards" "[I", .fieldLink RX1 22 "RopedHalls$Hall" "ropes" "[Z", .fieldLink RX1 26 "RopedHalls$Hall" "doorCell" "[I", .fieldLink RX1 29 "RopedHalls$Hall" "doorRate" "[I", .fieldLink RX1 32 "RopedHalls$Hall" "doorOpen" "[Z", .fieldLink RX1 35 "RopedHalls$Hall" "doorOut" "[I"] ++ wsX10)
def wsX5_remember_r1 : List Cond := [Cond.fieldLink RX5 217 "RopedHalls" "newest" "I", Cond.fieldLink RX5 12 "RopedHalls" "hall" "LRopedHalls$Hall;", Cond.fieldLink RX5 184 "RopedHalls" "changes" "I", Cond.methodLink RX5 228 Lib.Math.min.name, Cond.static Lib.Math.min.name, Cond.initialized "java/lang/Math", Cond.code Lib.Math.min.name Lib.Math.min.code 2 (some .int), Cond.methodLink RX5 220 yX5_recorded, Cond.instanceMethod yX5_recorded, Cond.selects RX5 yX5_recorded yX5_recorded, Cond.initialized RX5, Cond.code yX5_recorded cX5_recorded 2 (some (.object "RopedHalls$Hall")), Cond.fieldLink RX5 44 "RopedHalls" "history" "[LRopedHalls$Hall;", Cond.methodLink RX5 224 yX5_copyHall, Cond.static yX5_copyHall, Cond.code yX5_copyHall cX5_copyHall 2 none, Cond.methodLink RX5 236 yX1_copyFrom, Cond.instanceMethod yX1_copyFrom, Cond.selects RX1 yX1_copyFrom yX1_copyFrom, Cond.initialized RX1, Cond.code yX1_copyFrom cX1_copyFrom 3 none, Cond.fieldLink RX1 9 "RopedHalls$Hall" "room" "I", Cond.fieldLink RX1 38 "RopedHalls$Hall" "minutes" "I", Cond.fieldLink RX1 41 "RopedHalls$Hall" "cameIn" "I"]
def wsX5_remember_r2 : List Cond := [Cond.fieldLink RX1 44 "RopedHalls$Hall" "waited" "I", Cond.fieldLink RX1 47 "RopedHalls$Hall" "jams" "I", Cond.fieldLink RX1 15 "RopedHalls$Hall" "people" "[I", Cond.fieldLink RX1 19 "RopedHalls$Hall" "guards" "[I", Cond.fieldLink RX1 22 "RopedHalls$Hall" "ropes" "[Z", Cond.fieldLink RX1 26 "RopedHalls$Hall" "doorCell" "[I", Cond.fieldLink RX1 29 "RopedHalls$Hall" "doorRate" "[I", Cond.fieldLink RX1 32 "RopedHalls$Hall" "doorOpen" "[Z", Cond.fieldLink RX1 35 "RopedHalls$Hall" "doorOut" "[I"]
def wsX5_remember : List Cond := .code yX5_remember cX5_remember 1 none :: ((wsX5_remember_r1 ++ wsX5_remember_r2) ++ wsX50 ++ wsX10)
def wsX5_setRoom_r1 : List Cond := [Cond.fieldLink RX5 12 "RopedHalls" "hall" "LRopedHalls$Hall;", Cond.fieldLink RX5 62 "RopedHalls$Hall" "room" "I", Cond.methodLink RX5 55 yX1_fullestCell, Cond.instanceMethod yX1_fullestCell, Cond.selects RX1 yX1_fullestCell yX1_fullestCell, Cond.initialized RX1, Cond.code yX1_fullestCell cX1_fullestCell 3 (some .int), Cond.fieldLink RX1 15 "RopedHalls$Hall" "people" "[I", Cond.methodLink RX1 54 Lib.Math.max.name, Cond.static Lib.Math.max.name, Cond.initialized "java/lang/Math", Cond.code Lib.Math.max.name Lib.Math.max.code 2 (some .int), Cond.methodLink RX5 59 yX5_remember, Cond.instanceMethod yX5_remember, Cond.selects RX5 yX5_remember yX5_remember, Cond.initialized RX5, Cond.code yX5_remember cX5_remember 1 none, Cond.fieldLink RX5 217 "RopedHalls" "newest" "I", Cond.fieldLink RX5 184 "RopedHalls" "changes" "I", Cond.methodLink RX5 228 Lib.Math.min.name, Cond.static Lib.Math.min.name, Cond.code Lib.Math.min.name Lib.Math.min.code 2 (some .int), Cond.methodLink RX5 220 yX5_recorded, Cond.instanceMethod yX5_recorded]
def wsX5_setRoom_r2 : List Cond := [Cond.selects RX5 yX5_recorded yX5_recorded, Cond.code yX5_recorded cX5_recorded 2 (some (.object "RopedHalls$Hall")), Cond.fieldLink RX5 44 "RopedHalls" "history" "[LRopedHalls$Hall;", Cond.methodLink RX5 224 yX5_copyHall, Cond.static yX5_copyHall, Cond.code yX5_copyHall cX5_copyHall 2 none, Cond.methodLink RX5 236 yX1_copyFrom, Cond.instanceMethod yX1_copyFrom, Cond.selects RX1 yX1_copyFrom yX1_copyFrom, Cond.code yX1_copyFrom cX1_copyFrom 3 none, Cond.fieldLink RX1 9 "RopedHalls$Hall" "room" "I", Cond.fieldLink RX1 38 "RopedHalls$Hall" "minutes" "I", Cond.fieldLink RX1 41 "RopedHalls$Hall" "cameIn" "I", Cond.fieldLink RX1 44 "RopedHalls$Hall" "waited" "I", Cond.fieldLink RX1 47 "RopedHalls$Hall" "jams" "I", Cond.fieldLink RX1 19 "RopedHalls$Hall" "guards" "[I", Cond.fieldLink RX1 22 "RopedHalls$Hall" "ropes" "[Z", Cond.fieldLink RX1 26 "RopedHalls$Hall" "doorCell" "[I", Cond.fieldLink RX1 29 "RopedHalls$Hall" "doorRate" "[I", Cond.fieldLink RX1 32 "RopedHalls$Hall" "doorOpen" "[Z", Cond.fieldLink RX1 35 "RopedHalls$Hall" "doorOut" "[I"]
def wsX5_setRoom : List Cond := .code yX5_setRoom cX5_setRoom 3 (some .int) :: ((wsX5_setRoom_r1 ++ wsX5_setRoom_r2) ++ wsX50 ++ wsX10)
def wsX5_isSide : List Cond := .code yX5_isSide cX5_isSide 1 (some .boolean) :: ([])
def wsX5_edgeAt : List Cond := .code yX5_edgeAt cX5_edgeAt 2 (some .int) :: ([.methodLink RX5 242 yX5_edgeTowards, .static yX5_edgeTowards, .initialized RX5, .code yX5_edgeTowards cX5_edgeTowards 4 (some .int), .methodLink RX5 228 Lib.Math.min.name, .static Lib.Math.min.name, .initialized "java/lang/Math", .code Lib.Math.min.name Lib.Math.min.code 2 (some .int), .methodLink RX5 239 yX5_beside, .static yX5_beside, .code yX5_beside cX5_beside 2 (some .int)])
def wsX5_rope_r1 : List Cond := [Cond.fieldLink RX5 12 "RopedHalls" "hall" "LRopedHalls$Hall;", Cond.fieldLink RX5 80 "RopedHalls$Hall" "ropes" "[Z", Cond.methodLink RX5 66 yX5_isCell, Cond.static yX5_isCell, Cond.initialized RX5, Cond.code yX5_isCell cX5_isCell 1 (some .boolean), Cond.methodLink RX5 70 yX5_isSide, Cond.static yX5_isSide, Cond.code yX5_isSide cX5_isSide 1 (some .boolean), Cond.methodLink RX5 73 yX5_edgeAt, Cond.static yX5_edgeAt, Cond.code yX5_edgeAt cX5_edgeAt 2 (some .int), Cond.methodLink RX5 242 yX5_edgeTowards, Cond.static yX5_edgeTowards, Cond.code yX5_edgeTowards cX5_edgeTowards 4 (some .int), Cond.methodLink RX5 228 Lib.Math.min.name, Cond.static Lib.Math.min.name, Cond.initialized "java/lang/Math", Cond.code Lib.Math.min.name Lib.Math.min.code 2 (some .int), Cond.methodLink RX5 239 yX5_beside, Cond.static yX5_beside, Cond.code yX5_beside cX5_beside 2 (some .int), Cond.methodLink RX5 77 yX5_isEdge, Cond.static yX5_isEdge]
def wsX5_rope_r2 : List Cond := [Cond.code yX5_isEdge cX5_isEdge 1 (some .boolean), Cond.methodLink RX5 83 yX1_ropeCount, Cond.instanceMethod yX1_ropeCount, Cond.selects RX1 yX1_ropeCount yX1_ropeCount, Cond.initialized RX1, Cond.code yX1_ropeCount cX1_ropeCount 3 (some .int), Cond.fieldLink RX1 22 "RopedHalls$Hall" "ropes" "[Z", Cond.methodLink RX5 59 yX5_remember, Cond.instanceMethod yX5_remember, Cond.selects RX5 yX5_remember yX5_remember, Cond.code yX5_remember cX5_remember 1 none, Cond.fieldLink RX5 217 "RopedHalls" "newest" "I", Cond.fieldLink RX5 184 "RopedHalls" "changes" "I", Cond.methodLink RX5 220 yX5_recorded, Cond.instanceMethod yX5_recorded, Cond.selects RX5 yX5_recorded yX5_recorded, Cond.code yX5_recorded cX5_recorded 2 (some (.object "RopedHalls$Hall")), Cond.fieldLink RX5 44 "RopedHalls" "history" "[LRopedHalls$Hall;", Cond.methodLink RX5 224 yX5_copyHall, Cond.static yX5_copyHall, Cond.code yX5_copyHall cX5_copyHall 2 none, Cond.methodLink RX5 236 yX1_copyFrom, Cond.instanceMethod yX1_copyFrom, Cond.selects RX1 yX1_copyFrom yX1_copyFrom]
def wsX5_rope_r3 : List Cond := [Cond.code yX1_copyFrom cX1_copyFrom 3 none, Cond.fieldLink RX1 9 "RopedHalls$Hall" "room" "I", Cond.fieldLink RX1 38 "RopedHalls$Hall" "minutes" "I", Cond.fieldLink RX1 41 "RopedHalls$Hall" "cameIn" "I", Cond.fieldLink RX1 44 "RopedHalls$Hall" "waited" "I", Cond.fieldLink RX1 47 "RopedHalls$Hall" "jams" "I", Cond.fieldLink RX1 15 "RopedHalls$Hall" "people" "[I", Cond.fieldLink RX1 19 "RopedHalls$Hall" "guards" "[I", Cond.fieldLink RX1 26 "RopedHalls$Hall" "doorCell" "[I", Cond.fieldLink RX1 29 "RopedHalls$Hall" "doorRate" "[I", Cond.fieldLink RX1 32 "RopedHalls$Hall" "doorOpen" "[Z", Cond.fieldLink RX1 35 "RopedHalls$Hall" "doorOut" "[I"]
def wsX5_rope : List Cond := .code yX5_rope cX5_rope 5 (some .int) :: ((wsX5_rope_r1 ++ (wsX5_rope_r2 ++ wsX5_rope_r3)) ++ wsX50 ++ wsX10)
def wsX5_door_r1 : List Cond := [Cond.fieldLink RX5 12 "RopedHalls" "hall" "LRopedHalls$Hall;", Cond.fieldLink RX5 89 "RopedHalls$Hall" "doorCell" "[I", Cond.fieldLink RX5 93 "RopedHalls$Hall" "doorRate" "[I", Cond.methodLink RX5 86 yX5_isDoor, Cond.static yX5_isDoor, Cond.initialized RX5, Cond.code yX5_isDoor cX5_isDoor 1 (some .boolean), Cond.methodLink RX5 66 yX5_isCell, Cond.static yX5_isCell, Cond.code yX5_isCell cX5_isCell 1 (some .boolean), Cond.methodLink RX5 59 yX5_remember, Cond.instanceMethod yX5_remember, Cond.selects RX5 yX5_remember yX5_remember, Cond.code yX5_remember cX5_remember 1 none, Cond.fieldLink RX5 217 "RopedHalls" "newest" "I", Cond.fieldLink RX5 184 "RopedHalls" "changes" "I", Cond.methodLink RX5 228 Lib.Math.min.name, Cond.static Lib.Math.min.name, Cond.initialized "java/lang/Math", Cond.code Lib.Math.min.name Lib.Math.min.code 2 (some .int), Cond.methodLink RX5 220 yX5_recorded, Cond.instanceMethod yX5_recorded, Cond.selects RX5 yX5_recorded yX5_recorded, Cond.code yX5_recorded cX5_recorded 2 (some (.object "RopedHalls$Hall"))]
def wsX5_door_r2 : List Cond := [Cond.fieldLink RX5 44 "RopedHalls" "history" "[LRopedHalls$Hall;", Cond.methodLink RX5 224 yX5_copyHall, Cond.static yX5_copyHall, Cond.code yX5_copyHall cX5_copyHall 2 none, Cond.methodLink RX5 236 yX1_copyFrom, Cond.instanceMethod yX1_copyFrom, Cond.selects RX1 yX1_copyFrom yX1_copyFrom, Cond.initialized RX1, Cond.code yX1_copyFrom cX1_copyFrom 3 none, Cond.fieldLink RX1 9 "RopedHalls$Hall" "room" "I", Cond.fieldLink RX1 38 "RopedHalls$Hall" "minutes" "I", Cond.fieldLink RX1 41 "RopedHalls$Hall" "cameIn" "I", Cond.fieldLink RX1 44 "RopedHalls$Hall" "waited" "I", Cond.fieldLink RX1 47 "RopedHalls$Hall" "jams" "I", Cond.fieldLink RX1 15 "RopedHalls$Hall" "people" "[I", Cond.fieldLink RX1 19 "RopedHalls$Hall" "guards" "[I", Cond.fieldLink RX1 22 "RopedHalls$Hall" "ropes" "[Z", Cond.fieldLink RX1 26 "RopedHalls$Hall" "doorCell" "[I", Cond.fieldLink RX1 29 "RopedHalls$Hall" "doorRate" "[I", Cond.fieldLink RX1 32 "RopedHalls$Hall" "doorOpen" "[Z", Cond.fieldLink RX1 35 "RopedHalls$Hall" "doorOut" "[I"]
def wsX5_door : List Cond := .code yX5_door cX5_door 5 (some .int) :: ((wsX5_door_r1 ++ wsX5_door_r2) ++ wsX50 ++ wsX10)
def wsJ6_bitCount_0f7a4 : List Cond := .code yJ6_bitCount_0f7a4 cJ6_bitCount_0f7a4 1 (some .int) :: ([.constant RJ6 265 (1431655765), .constant RJ6 266 (858993459), .constant RJ6 267 (252645135)])
def wsX5_open_r1 : List Cond := [Cond.fieldLink RX5 12 "RopedHalls" "hall" "LRopedHalls$Hall;", Cond.fieldLink RX5 96 "RopedHalls$Hall" "doorOpen" "[Z", Cond.methodLink RX5 86 yX5_isDoor, Cond.static yX5_isDoor, Cond.initialized RX5, Cond.code yX5_isDoor cX5_isDoor 1 (some .boolean), Cond.methodLink RX5 59 yX5_remember, Cond.instanceMethod yX5_remember, Cond.selects RX5 yX5_remember yX5_remember, Cond.code yX5_remember cX5_remember 1 none, Cond.fieldLink RX5 217 "RopedHalls" "newest" "I", Cond.fieldLink RX5 184 "RopedHalls" "changes" "I", Cond.methodLink RX5 228 Lib.Math.min.name, Cond.static Lib.Math.min.name, Cond.initialized "java/lang/Math", Cond.code Lib.Math.min.name Lib.Math.min.code 2 (some .int), Cond.methodLink RX5 220 yX5_recorded, Cond.instanceMethod yX5_recorded, Cond.selects RX5 yX5_recorded yX5_recorded, Cond.code yX5_recorded cX5_recorded 2 (some (.object "RopedHalls$Hall")), Cond.fieldLink RX5 44 "RopedHalls" "history" "[LRopedHalls$Hall;", Cond.methodLink RX5 224 yX5_copyHall, Cond.static yX5_copyHall, Cond.code yX5_copyHall cX5_copyHall 2 none]
def wsX5_open_r2 : List Cond := [Cond.methodLink RX5 236 yX1_copyFrom, Cond.instanceMethod yX1_copyFrom, Cond.selects RX1 yX1_copyFrom yX1_copyFrom, Cond.initialized RX1, Cond.code yX1_copyFrom cX1_copyFrom 3 none, Cond.fieldLink RX1 9 "RopedHalls$Hall" "room" "I", Cond.fieldLink RX1 38 "RopedHalls$Hall" "minutes" "I", Cond.fieldLink RX1 41 "RopedHalls$Hall" "cameIn" "I", Cond.fieldLink RX1 44 "RopedHalls$Hall" "waited" "I", Cond.fieldLink RX1 47 "RopedHalls$Hall" "jams" "I", Cond.fieldLink RX1 15 "RopedHalls$Hall" "people" "[I", Cond.fieldLink RX1 19 "RopedHalls$Hall" "guards" "[I", Cond.fieldLink RX1 22 "RopedHalls$Hall" "ropes" "[Z", Cond.fieldLink RX1 26 "RopedHalls$Hall" "doorCell" "[I", Cond.fieldLink RX1 29 "RopedHalls$Hall" "doorRate" "[I", Cond.fieldLink RX1 32 "RopedHalls$Hall" "doorOpen" "[Z", Cond.fieldLink RX1 35 "RopedHalls$Hall" "doorOut" "[I", Cond.methodLink RX5 99 yX1_openDoors, Cond.instanceMethod yX1_openDoors, Cond.selects RX1 yX1_openDoors yX1_openDoors, Cond.code yX1_openDoors cX1_openDoors 3 (some .int), Cond.methodLink RX5 102 yJ6_bitCount_0f7a4, Cond.static yJ6_bitCount_0f7a4, Cond.initialized RJ6]
def wsX5_open_r3 : List Cond := [Cond.code yJ6_bitCount_0f7a4 cJ6_bitCount_0f7a4 1 (some .int), Cond.constant RJ6 265 (1431655765), Cond.constant RJ6 266 (858993459), Cond.constant RJ6 267 (252645135)]
def wsX5_open : List Cond := .code yX5_open cX5_open 3 (some .int) :: ((wsX5_open_r1 ++ (wsX5_open_r2 ++ wsX5_open_r3)) ++ wsX50 ++ wsX10)
def wsX5_guard_r1 : List Cond := [Cond.fieldLink RX5 12 "RopedHalls" "hall" "LRopedHalls$Hall;", Cond.fieldLink RX5 108 "RopedHalls$Hall" "guards" "[I", Cond.fieldLink RX5 19 "RopedHalls" "routes" "LRopedHalls$Routes;", Cond.methodLink RX5 66 yX5_isCell, Cond.static yX5_isCell, Cond.initialized RX5, Cond.code yX5_isCell cX5_isCell 1 (some .boolean), Cond.methodLink RX5 86 yX5_isDoor, Cond.static yX5_isDoor, Cond.code yX5_isDoor cX5_isDoor 1 (some .boolean), Cond.methodLink RX5 59 yX5_remember, Cond.instanceMethod yX5_remember, Cond.selects RX5 yX5_remember yX5_remember, Cond.code yX5_remember cX5_remember 1 none, Cond.fieldLink RX5 217 "RopedHalls" "newest" "I", Cond.fieldLink RX5 184 "RopedHalls" "changes" "I", Cond.methodLink RX5 228 Lib.Math.min.name, Cond.static Lib.Math.min.name, Cond.initialized "java/lang/Math", Cond.code Lib.Math.min.name Lib.Math.min.code 2 (some .int), Cond.methodLink RX5 220 yX5_recorded, Cond.instanceMethod yX5_recorded, Cond.selects RX5 yX5_recorded yX5_recorded, Cond.code yX5_recorded cX5_recorded 2 (some (.object "RopedHalls$Hall"))]
def wsX5_guard_r2 : List Cond := [Cond.fieldLink RX5 44 "RopedHalls" "history" "[LRopedHalls$Hall;", Cond.methodLink RX5 224 yX5_copyHall, Cond.static yX5_copyHall, Cond.code yX5_copyHall cX5_copyHall 2 none, Cond.methodLink RX5 236 yX1_copyFrom, Cond.instanceMethod yX1_copyFrom, Cond.selects RX1 yX1_copyFrom yX1_copyFrom, Cond.initialized RX1, Cond.code yX1_copyFrom cX1_copyFrom 3 none, Cond.fieldLink RX1 9 "RopedHalls$Hall" "room" "I", Cond.fieldLink RX1 38 "RopedHalls$Hall" "minutes" "I", Cond.fieldLink RX1 41 "RopedHalls$Hall" "cameIn" "I", Cond.fieldLink RX1 44 "RopedHalls$Hall" "waited" "I", Cond.fieldLink RX1 47 "RopedHalls$Hall" "jams" "I", Cond.fieldLink RX1 15 "RopedHalls$Hall" "people" "[I", Cond.fieldLink RX1 19 "RopedHalls$Hall" "guards" "[I", Cond.fieldLink RX1 22 "RopedHalls$Hall" "ropes" "[Z", Cond.fieldLink RX1 26 "RopedHalls$Hall" "doorCell" "[I", Cond.fieldLink RX1 29 "RopedHalls$Hall" "doorRate" "[I", Cond.fieldLink RX1 32 "RopedHalls$Hall" "doorOpen" "[Z", Cond.fieldLink RX1 35 "RopedHalls$Hall" "doorOut" "[I", Cond.methodLink RX5 111 yX4_find, Cond.instanceMethod yX4_find, Cond.selects RX4 yX4_find yX4_find]
def wsX5_guard_r3 : List Cond := [Cond.initialized RX4, Cond.code yX4_find cX4_find 3 none, Cond.fieldLink RX4 18 "RopedHalls$Routes" "goals" "[I", Cond.fieldLink RX4 21 "RopedHalls$Routes" "nexts" "[I", Cond.methodLink RX4 27 yX4_measureFrom, Cond.instanceMethod yX4_measureFrom, Cond.selects RX4 yX4_measureFrom yX4_measureFrom, Cond.code yX4_measureFrom cX4_measureFrom 10 none, Cond.fieldLink RX4 9 "RopedHalls$Routes" "steps" "[I", Cond.fieldLink RX4 68 "RopedHalls$Hall" "doorCell" "[I", Cond.fieldLink RX4 15 "RopedHalls$Routes" "queue" "[I", Cond.methodLink RX4 71 yX1_stepFrom, Cond.instanceMethod yX1_stepFrom, Cond.selects RX1 yX1_stepFrom yX1_stepFrom, Cond.code yX1_stepFrom cX1_stepFrom 4 (some .int), Cond.static yX5_edgeTowards, Cond.code yX5_edgeTowards cX5_edgeTowards 4 (some .int), Cond.methodLink RX5 239 yX5_beside, Cond.static yX5_beside, Cond.code yX5_beside cX5_beside 2 (some .int), Cond.static yX5_isEdge, Cond.code yX5_isEdge cX5_isEdge 1 (some .boolean), Cond.methodLink RX4 52 yX4_stepsTo, Cond.instanceMethod yX4_stepsTo]
def wsX5_guard_r4 : List Cond := [Cond.selects RX4 yX4_stepsTo yX4_stepsTo, Cond.code yX4_stepsTo cX4_stepsTo 3 (some .int), Cond.methodLink RX4 31 yX4_chooseGoal, Cond.instanceMethod yX4_chooseGoal, Cond.selects RX4 yX4_chooseGoal yX4_chooseGoal, Cond.code yX4_chooseGoal cX4_chooseGoal 7 (some .int), Cond.fieldLink RX4 74 "RopedHalls$Hall" "guards" "[I", Cond.fieldLink RX4 77 "RopedHalls$Hall" "doorOpen" "[Z", Cond.methodLink RX4 35 yX4_chooseNext, Cond.instanceMethod yX4_chooseNext, Cond.selects RX4 yX4_chooseNext yX4_chooseNext, Cond.code yX4_chooseNext cX4_chooseNext 6 (some .int), Cond.methodLink RX4 81 yX4_stepsToGoal, Cond.instanceMethod yX4_stepsToGoal, Cond.selects RX4 yX4_stepsToGoal yX4_stepsToGoal, Cond.code yX4_stepsToGoal cX4_stepsToGoal 2 (some .int), Cond.methodLink RX4 48 yX4_goalOf, Cond.instanceMethod yX4_goalOf, Cond.selects RX4 yX4_goalOf yX4_goalOf, Cond.code yX4_goalOf cX4_goalOf 2 (some .int), Cond.methodLink RX4 38 yX4_orderTurns, Cond.instanceMethod yX4_orderTurns, Cond.selects RX4 yX4_orderTurns yX4_orderTurns, Cond.code yX4_orderTurns cX4_orderTurns 3 none]
def wsX5_guard_r5 : List Cond := [Cond.fieldLink RX4 56 "RopedHalls$Routes" "turnCount" "I", Cond.fieldLink RX4 24 "RopedHalls$Routes" "turns" "[I", Cond.methodLink RX5 115 yX4_goalOf]
def wsX5_guard : List Cond := .code yX5_guard cX5_guard 3 (some .int) :: ((wsX5_guard_r1 ++ (wsX5_guard_r2 ++ (wsX5_guard_r3 ++ (wsX5_guard_r4 ++ wsX5_guard_r5)))) ++ wsX50 ++ wsX10 ++ wsX40)
def wsX5_enter_r1 : List Cond := [Cond.fieldLink RX5 12 "RopedHalls" "hall" "LRopedHalls$Hall;", Cond.fieldLink RX5 118 "RopedHalls$Hall" "people" "[I", Cond.fieldLink RX5 62 "RopedHalls$Hall" "room" "I", Cond.methodLink RX5 66 yX5_isCell, Cond.static yX5_isCell, Cond.initialized RX5, Cond.code yX5_isCell cX5_isCell 1 (some .boolean), Cond.methodLink RX5 59 yX5_remember, Cond.instanceMethod yX5_remember, Cond.selects RX5 yX5_remember yX5_remember, Cond.code yX5_remember cX5_remember 1 none, Cond.fieldLink RX5 217 "RopedHalls" "newest" "I", Cond.fieldLink RX5 184 "RopedHalls" "changes" "I", Cond.methodLink RX5 228 Lib.Math.min.name, Cond.static Lib.Math.min.name, Cond.initialized "java/lang/Math", Cond.code Lib.Math.min.name Lib.Math.min.code 2 (some .int), Cond.methodLink RX5 220 yX5_recorded, Cond.instanceMethod yX5_recorded, Cond.selects RX5 yX5_recorded yX5_recorded, Cond.code yX5_recorded cX5_recorded 2 (some (.object "RopedHalls$Hall")), Cond.fieldLink RX5 44 "RopedHalls" "history" "[LRopedHalls$Hall;", Cond.methodLink RX5 224 yX5_copyHall, Cond.static yX5_copyHall]
def wsX5_enter_r2 : List Cond := [Cond.code yX5_copyHall cX5_copyHall 2 none, Cond.methodLink RX5 236 yX1_copyFrom, Cond.instanceMethod yX1_copyFrom, Cond.selects RX1 yX1_copyFrom yX1_copyFrom, Cond.initialized RX1, Cond.code yX1_copyFrom cX1_copyFrom 3 none, Cond.fieldLink RX1 9 "RopedHalls$Hall" "room" "I", Cond.fieldLink RX1 38 "RopedHalls$Hall" "minutes" "I", Cond.fieldLink RX1 41 "RopedHalls$Hall" "cameIn" "I", Cond.fieldLink RX1 44 "RopedHalls$Hall" "waited" "I", Cond.fieldLink RX1 47 "RopedHalls$Hall" "jams" "I", Cond.fieldLink RX1 15 "RopedHalls$Hall" "people" "[I", Cond.fieldLink RX1 19 "RopedHalls$Hall" "guards" "[I", Cond.fieldLink RX1 22 "RopedHalls$Hall" "ropes" "[Z", Cond.fieldLink RX1 26 "RopedHalls$Hall" "doorCell" "[I", Cond.fieldLink RX1 29 "RopedHalls$Hall" "doorRate" "[I", Cond.fieldLink RX1 32 "RopedHalls$Hall" "doorOpen" "[Z", Cond.fieldLink RX1 35 "RopedHalls$Hall" "doorOut" "[I", Cond.methodLink RX5 121 yX1_letIn, Cond.instanceMethod yX1_letIn, Cond.selects RX1 yX1_letIn yX1_letIn, Cond.code yX1_letIn cX1_letIn 3 none]
def wsX5_enter : List Cond := .code yX5_enter cX5_enter 3 (some .int) :: ((wsX5_enter_r1 ++ wsX5_enter_r2) ++ wsX50 ++ wsX10)
def wsX5_read_r1 : List Cond := [Cond.fieldLink RX5 40 "RopedHalls" "pad" "LRopedHalls$Pad;", Cond.fieldLink RX5 12 "RopedHalls" "hall" "LRopedHalls$Hall;", Cond.fieldLink RX5 128 "RopedHalls$Hall" "cameIn" "I", Cond.fieldLink RX5 134 "RopedHalls$Pad" "length" "I", Cond.methodLink RX5 125 yX3_firstFault, Cond.instanceMethod yX3_firstFault, Cond.selects RX3 yX3_firstFault yX3_firstFault, Cond.initialized RX3, Cond.code yX3_firstFault cX3_firstFault 3 (some .int), Cond.fieldLink RX3 15 "RopedHalls$Pad" "length" "I", Cond.methodLink RX3 19 yX3_codeAt, Cond.instanceMethod yX3_codeAt, Cond.selects RX3 yX3_codeAt yX3_codeAt, Cond.code yX3_codeAt cX3_codeAt 2 (some .int), Cond.fieldLink RX3 9 "RopedHalls$Pad" "codes" "[I", Cond.methodLink RX3 23 yX3_placeBehind, Cond.static yX3_placeBehind, Cond.code yX3_placeBehind cX3_placeBehind 3 (some .int), Cond.methodLink RX3 45 yX3_placeBehindFirstDigit, Cond.static yX3_placeBehindFirstDigit, Cond.code yX3_placeBehindFirstDigit cX3_placeBehindFirstDigit 1 (some .int), Cond.methodLink RX5 59 yX5_remember, Cond.instanceMethod yX5_remember, Cond.selects RX5 yX5_remember yX5_remember]
def wsX5_read_r2 : List Cond := [Cond.initialized RX5, Cond.code yX5_remember cX5_remember 1 none, Cond.fieldLink RX5 217 "RopedHalls" "newest" "I", Cond.fieldLink RX5 184 "RopedHalls" "changes" "I", Cond.methodLink RX5 228 Lib.Math.min.name, Cond.static Lib.Math.min.name, Cond.initialized "java/lang/Math", Cond.code Lib.Math.min.name Lib.Math.min.code 2 (some .int), Cond.methodLink RX5 220 yX5_recorded, Cond.instanceMethod yX5_recorded, Cond.selects RX5 yX5_recorded yX5_recorded, Cond.code yX5_recorded cX5_recorded 2 (some (.object "RopedHalls$Hall")), Cond.fieldLink RX5 44 "RopedHalls" "history" "[LRopedHalls$Hall;", Cond.methodLink RX5 224 yX5_copyHall, Cond.static yX5_copyHall, Cond.code yX5_copyHall cX5_copyHall 2 none, Cond.methodLink RX5 236 yX1_copyFrom, Cond.instanceMethod yX1_copyFrom, Cond.selects RX1 yX1_copyFrom yX1_copyFrom, Cond.initialized RX1, Cond.code yX1_copyFrom cX1_copyFrom 3 none, Cond.fieldLink RX1 9 "RopedHalls$Hall" "room" "I", Cond.fieldLink RX1 38 "RopedHalls$Hall" "minutes" "I", Cond.fieldLink RX1 41 "RopedHalls$Hall" "cameIn" "I"]
def wsX5_read_r3 : List Cond := [Cond.fieldLink RX1 44 "RopedHalls$Hall" "waited" "I", Cond.fieldLink RX1 47 "RopedHalls$Hall" "jams" "I", Cond.fieldLink RX1 15 "RopedHalls$Hall" "people" "[I", Cond.fieldLink RX1 19 "RopedHalls$Hall" "guards" "[I", Cond.fieldLink RX1 22 "RopedHalls$Hall" "ropes" "[Z", Cond.fieldLink RX1 26 "RopedHalls$Hall" "doorCell" "[I", Cond.fieldLink RX1 29 "RopedHalls$Hall" "doorRate" "[I", Cond.fieldLink RX1 32 "RopedHalls$Hall" "doorOpen" "[Z", Cond.fieldLink RX1 35 "RopedHalls$Hall" "doorOut" "[I", Cond.methodLink RX5 131 yX3_letCrowdsIn, Cond.instanceMethod yX3_letCrowdsIn, Cond.selects RX3 yX3_letCrowdsIn yX3_letCrowdsIn, Cond.code yX3_letCrowdsIn cX3_letCrowdsIn 4 none, Cond.methodLink RX3 27 yX3_letCrowdIn, Cond.instanceMethod yX3_letCrowdIn, Cond.selects RX3 yX3_letCrowdIn yX3_letCrowdIn, Cond.code yX3_letCrowdIn cX3_letCrowdIn 6 none, Cond.methodLink RX3 36 Lib.Math.min.name, Cond.methodLink RX3 31 yX1_roomIn, Cond.instanceMethod yX1_roomIn, Cond.selects RX1 yX1_roomIn yX1_roomIn, Cond.code yX1_roomIn cX1_roomIn 2 (some .int), Cond.static yX5_isCell, Cond.code yX5_isCell cX5_isCell 1 (some .boolean)]
def wsX5_read_r4 : List Cond := [Cond.methodLink RX3 41 yX1_letIn, Cond.instanceMethod yX1_letIn, Cond.selects RX1 yX1_letIn yX1_letIn, Cond.code yX1_letIn cX1_letIn 3 none]
def wsX5_read : List Cond := .code yX5_read cX5_read 2 (some .int) :: ((wsX5_read_r1 ++ (wsX5_read_r2 ++ (wsX5_read_r3 ++ wsX5_read_r4))) ++ wsX50 ++ wsX10 ++ wsX30)
def wsX5_pass_r1 : List Cond := [Cond.fieldLink RX5 12 "RopedHalls" "hall" "LRopedHalls$Hall;", Cond.fieldLink RX5 137 "RopedHalls$Hall" "minutes" "I", Cond.fieldLink RX5 19 "RopedHalls" "routes" "LRopedHalls$Routes;", Cond.fieldLink RX5 26 "RopedHalls" "minute" "LRopedHalls$Minute;", Cond.methodLink RX5 59 yX5_remember, Cond.instanceMethod yX5_remember, Cond.selects RX5 yX5_remember yX5_remember, Cond.initialized RX5, Cond.code yX5_remember cX5_remember 1 none, Cond.fieldLink RX5 217 "RopedHalls" "newest" "I", Cond.fieldLink RX5 184 "RopedHalls" "changes" "I", Cond.methodLink RX5 228 Lib.Math.min.name, Cond.static Lib.Math.min.name, Cond.initialized "java/lang/Math", Cond.code Lib.Math.min.name Lib.Math.min.code 2 (some .int), Cond.methodLink RX5 220 yX5_recorded, Cond.instanceMethod yX5_recorded, Cond.selects RX5 yX5_recorded yX5_recorded, Cond.code yX5_recorded cX5_recorded 2 (some (.object "RopedHalls$Hall")), Cond.fieldLink RX5 44 "RopedHalls" "history" "[LRopedHalls$Hall;", Cond.methodLink RX5 224 yX5_copyHall, Cond.static yX5_copyHall, Cond.code yX5_copyHall cX5_copyHall 2 none, Cond.methodLink RX5 236 yX1_copyFrom]
def wsX5_pass_r2 : List Cond := [Cond.instanceMethod yX1_copyFrom, Cond.selects RX1 yX1_copyFrom yX1_copyFrom, Cond.initialized RX1, Cond.code yX1_copyFrom cX1_copyFrom 3 none, Cond.fieldLink RX1 9 "RopedHalls$Hall" "room" "I", Cond.fieldLink RX1 38 "RopedHalls$Hall" "minutes" "I", Cond.fieldLink RX1 41 "RopedHalls$Hall" "cameIn" "I", Cond.fieldLink RX1 44 "RopedHalls$Hall" "waited" "I", Cond.fieldLink RX1 47 "RopedHalls$Hall" "jams" "I", Cond.fieldLink RX1 15 "RopedHalls$Hall" "people" "[I", Cond.fieldLink RX1 19 "RopedHalls$Hall" "guards" "[I", Cond.fieldLink RX1 22 "RopedHalls$Hall" "ropes" "[Z", Cond.fieldLink RX1 26 "RopedHalls$Hall" "doorCell" "[I", Cond.fieldLink RX1 29 "RopedHalls$Hall" "doorRate" "[I", Cond.fieldLink RX1 32 "RopedHalls$Hall" "doorOpen" "[Z", Cond.fieldLink RX1 35 "RopedHalls$Hall" "doorOut" "[I", Cond.methodLink RX5 111 yX4_find, Cond.instanceMethod yX4_find, Cond.selects RX4 yX4_find yX4_find, Cond.initialized RX4, Cond.code yX4_find cX4_find 3 none, Cond.fieldLink RX4 18 "RopedHalls$Routes" "goals" "[I", Cond.fieldLink RX4 21 "RopedHalls$Routes" "nexts" "[I", Cond.methodLink RX4 27 yX4_measureFrom]
def wsX5_pass_r3 : List Cond := [Cond.instanceMethod yX4_measureFrom, Cond.selects RX4 yX4_measureFrom yX4_measureFrom, Cond.code yX4_measureFrom cX4_measureFrom 10 none, Cond.fieldLink RX4 9 "RopedHalls$Routes" "steps" "[I", Cond.fieldLink RX4 68 "RopedHalls$Hall" "doorCell" "[I", Cond.fieldLink RX4 15 "RopedHalls$Routes" "queue" "[I", Cond.static yX5_isCell, Cond.code yX5_isCell cX5_isCell 1 (some .boolean), Cond.methodLink RX4 71 yX1_stepFrom, Cond.instanceMethod yX1_stepFrom, Cond.selects RX1 yX1_stepFrom yX1_stepFrom, Cond.code yX1_stepFrom cX1_stepFrom 4 (some .int), Cond.static yX5_edgeTowards, Cond.code yX5_edgeTowards cX5_edgeTowards 4 (some .int), Cond.methodLink RX5 239 yX5_beside, Cond.static yX5_beside, Cond.code yX5_beside cX5_beside 2 (some .int), Cond.static yX5_isEdge, Cond.code yX5_isEdge cX5_isEdge 1 (some .boolean), Cond.methodLink RX4 52 yX4_stepsTo, Cond.instanceMethod yX4_stepsTo, Cond.selects RX4 yX4_stepsTo yX4_stepsTo, Cond.code yX4_stepsTo cX4_stepsTo 3 (some .int), Cond.static yX5_isDoor]
def wsX5_pass_r4 : List Cond := [Cond.code yX5_isDoor cX5_isDoor 1 (some .boolean), Cond.methodLink RX4 31 yX4_chooseGoal, Cond.instanceMethod yX4_chooseGoal, Cond.selects RX4 yX4_chooseGoal yX4_chooseGoal, Cond.code yX4_chooseGoal cX4_chooseGoal 7 (some .int), Cond.fieldLink RX4 74 "RopedHalls$Hall" "guards" "[I", Cond.fieldLink RX4 77 "RopedHalls$Hall" "doorOpen" "[Z", Cond.methodLink RX4 35 yX4_chooseNext, Cond.instanceMethod yX4_chooseNext, Cond.selects RX4 yX4_chooseNext yX4_chooseNext, Cond.code yX4_chooseNext cX4_chooseNext 6 (some .int), Cond.methodLink RX4 81 yX4_stepsToGoal, Cond.instanceMethod yX4_stepsToGoal, Cond.selects RX4 yX4_stepsToGoal yX4_stepsToGoal, Cond.code yX4_stepsToGoal cX4_stepsToGoal 2 (some .int), Cond.methodLink RX4 48 yX4_goalOf, Cond.instanceMethod yX4_goalOf, Cond.selects RX4 yX4_goalOf yX4_goalOf, Cond.code yX4_goalOf cX4_goalOf 2 (some .int), Cond.methodLink RX4 38 yX4_orderTurns, Cond.instanceMethod yX4_orderTurns, Cond.selects RX4 yX4_orderTurns yX4_orderTurns, Cond.code yX4_orderTurns cX4_orderTurns 3 none, Cond.fieldLink RX4 56 "RopedHalls$Routes" "turnCount" "I"]
def wsX5_pass_r5 : List Cond := [Cond.fieldLink RX4 24 "RopedHalls$Routes" "turns" "[I", Cond.methodLink RX5 140 yX2_run, Cond.instanceMethod yX2_run, Cond.selects RX2 yX2_run yX2_run, Cond.initialized RX2, Cond.code yX2_run cX2_run 6 (some .int), Cond.fieldLink RX2 15 "RopedHalls$Hall" "minutes" "I", Cond.fieldLink RX2 9 "RopedHalls$Minute" "arrived" "[I", Cond.methodLink RX2 21 yX2_letOut, Cond.static yX2_letOut, Cond.code yX2_letOut cX2_letOut 4 (some .int), Cond.fieldLink RX2 42 "RopedHalls$Hall" "doorCell" "[I", Cond.fieldLink RX2 45 "RopedHalls$Hall" "doorOpen" "[Z", Cond.fieldLink RX2 53 "RopedHalls$Hall" "doorRate" "[I", Cond.fieldLink RX2 56 "RopedHalls$Hall" "people" "[I", Cond.methodLink RX2 59 Lib.Math.min.name, Cond.fieldLink RX2 65 "RopedHalls$Hall" "doorOut" "[I", Cond.methodLink RX2 25 yX4_turnsAMinute, Cond.instanceMethod yX4_turnsAMinute, Cond.selects RX4 yX4_turnsAMinute yX4_turnsAMinute, Cond.code yX4_turnsAMinute cX4_turnsAMinute 1 (some .int), Cond.methodLink RX2 31 yX4_cellAtTurn, Cond.instanceMethod yX4_cellAtTurn, Cond.selects RX4 yX4_cellAtTurn yX4_cellAtTurn]
def wsX5_pass_r6 : List Cond := [Cond.code yX4_cellAtTurn cX4_cellAtTurn 2 (some .int), Cond.methodLink RX2 35 yX4_nextOf, Cond.instanceMethod yX4_nextOf, Cond.selects RX4 yX4_nextOf yX4_nextOf, Cond.code yX4_nextOf cX4_nextOf 2 (some .int), Cond.methodLink RX2 38 yX2_move, Cond.instanceMethod yX2_move, Cond.selects RX2 yX2_move yX2_move, Cond.code yX2_move cX2_move 6 none, Cond.fieldLink RX2 71 "RopedHalls$Hall" "jams" "I", Cond.fieldLink RX2 74 "RopedHalls$Hall" "waited" "I", Cond.methodLink RX2 68 yX1_roomIn, Cond.instanceMethod yX1_roomIn, Cond.selects RX1 yX1_roomIn yX1_roomIn, Cond.code yX1_roomIn cX1_roomIn 2 (some .int)]
def wsX5_pass : List Cond := .code yX5_pass cX5_pass 4 (some .int) :: ((wsX5_pass_r1 ++ (wsX5_pass_r2 ++ (wsX5_pass_r3 ++ (wsX5_pass_r4 ++ (wsX5_pass_r5 ++ wsX5_pass_r6))))) ++ wsX50 ++ wsX10 ++ wsX40 ++ wsX20)
def wsX5_cell_r1 : List Cond := [Cond.fieldLink RX5 19 "RopedHalls" "routes" "LRopedHalls$Routes;", Cond.fieldLink RX5 12 "RopedHalls" "hall" "LRopedHalls$Hall;", Cond.fieldLink RX5 118 "RopedHalls$Hall" "people" "[I", Cond.fieldLink RX5 108 "RopedHalls$Hall" "guards" "[I", Cond.methodLink RX5 66 yX5_isCell, Cond.static yX5_isCell, Cond.initialized RX5, Cond.code yX5_isCell cX5_isCell 1 (some .boolean), Cond.methodLink RX5 111 yX4_find, Cond.instanceMethod yX4_find, Cond.selects RX4 yX4_find yX4_find, Cond.initialized RX4, Cond.code yX4_find cX4_find 3 none, Cond.fieldLink RX4 18 "RopedHalls$Routes" "goals" "[I", Cond.fieldLink RX4 21 "RopedHalls$Routes" "nexts" "[I", Cond.methodLink RX4 27 yX4_measureFrom, Cond.instanceMethod yX4_measureFrom, Cond.selects RX4 yX4_measureFrom yX4_measureFrom, Cond.code yX4_measureFrom cX4_measureFrom 10 none, Cond.fieldLink RX4 9 "RopedHalls$Routes" "steps" "[I", Cond.fieldLink RX4 68 "RopedHalls$Hall" "doorCell" "[I", Cond.fieldLink RX4 15 "RopedHalls$Routes" "queue" "[I", Cond.methodLink RX4 71 yX1_stepFrom, Cond.instanceMethod yX1_stepFrom]
def wsX5_cell_r2 : List Cond := [Cond.selects RX1 yX1_stepFrom yX1_stepFrom, Cond.initialized RX1, Cond.code yX1_stepFrom cX1_stepFrom 4 (some .int), Cond.fieldLink RX1 22 "RopedHalls$Hall" "ropes" "[Z", Cond.static yX5_edgeTowards, Cond.code yX5_edgeTowards cX5_edgeTowards 4 (some .int), Cond.methodLink RX5 228 Lib.Math.min.name, Cond.static Lib.Math.min.name, Cond.initialized "java/lang/Math", Cond.code Lib.Math.min.name Lib.Math.min.code 2 (some .int), Cond.methodLink RX5 239 yX5_beside, Cond.static yX5_beside, Cond.code yX5_beside cX5_beside 2 (some .int), Cond.static yX5_isEdge, Cond.code yX5_isEdge cX5_isEdge 1 (some .boolean), Cond.methodLink RX4 52 yX4_stepsTo, Cond.instanceMethod yX4_stepsTo, Cond.selects RX4 yX4_stepsTo yX4_stepsTo, Cond.code yX4_stepsTo cX4_stepsTo 3 (some .int), Cond.static yX5_isDoor, Cond.code yX5_isDoor cX5_isDoor 1 (some .boolean), Cond.methodLink RX4 31 yX4_chooseGoal, Cond.instanceMethod yX4_chooseGoal, Cond.selects RX4 yX4_chooseGoal yX4_chooseGoal]
def wsX5_cell_r3 : List Cond := [Cond.code yX4_chooseGoal cX4_chooseGoal 7 (some .int), Cond.fieldLink RX4 74 "RopedHalls$Hall" "guards" "[I", Cond.fieldLink RX4 77 "RopedHalls$Hall" "doorOpen" "[Z", Cond.methodLink RX4 35 yX4_chooseNext, Cond.instanceMethod yX4_chooseNext, Cond.selects RX4 yX4_chooseNext yX4_chooseNext, Cond.code yX4_chooseNext cX4_chooseNext 6 (some .int), Cond.methodLink RX4 81 yX4_stepsToGoal, Cond.instanceMethod yX4_stepsToGoal, Cond.selects RX4 yX4_stepsToGoal yX4_stepsToGoal, Cond.code yX4_stepsToGoal cX4_stepsToGoal 2 (some .int), Cond.methodLink RX4 48 yX4_goalOf, Cond.instanceMethod yX4_goalOf, Cond.selects RX4 yX4_goalOf yX4_goalOf, Cond.code yX4_goalOf cX4_goalOf 2 (some .int), Cond.methodLink RX4 38 yX4_orderTurns, Cond.instanceMethod yX4_orderTurns, Cond.selects RX4 yX4_orderTurns yX4_orderTurns, Cond.code yX4_orderTurns cX4_orderTurns 3 none, Cond.fieldLink RX4 56 "RopedHalls$Routes" "turnCount" "I", Cond.fieldLink RX4 24 "RopedHalls$Routes" "turns" "[I", Cond.methodLink RX5 115 yX4_goalOf, Cond.methodLink RX5 144 yX4_stepsToGoal, Cond.methodLink RX5 147 yX4_nextOf]
def wsX5_cell_r4 : List Cond := [Cond.instanceMethod yX4_nextOf, Cond.selects RX4 yX4_nextOf yX4_nextOf, Cond.code yX4_nextOf cX4_nextOf 2 (some .int), Cond.methodLink RX5 150 yX1_ropesAround, Cond.instanceMethod yX1_ropesAround, Cond.selects RX1 yX1_ropesAround yX1_ropesAround, Cond.code yX1_ropesAround cX1_ropesAround 5 (some .int)]
def wsX5_cell : List Cond := .code yX5_cell cX5_cell 3 (some .int) :: ((wsX5_cell_r1 ++ (wsX5_cell_r2 ++ (wsX5_cell_r3 ++ wsX5_cell_r4))) ++ wsX50 ++ wsX10 ++ wsX40)
def wsX5_doorOf_r1 : List Cond := [Cond.fieldLink RX5 19 "RopedHalls" "routes" "LRopedHalls$Routes;", Cond.fieldLink RX5 12 "RopedHalls" "hall" "LRopedHalls$Hall;", Cond.fieldLink RX5 89 "RopedHalls$Hall" "doorCell" "[I", Cond.fieldLink RX5 93 "RopedHalls$Hall" "doorRate" "[I", Cond.fieldLink RX5 96 "RopedHalls$Hall" "doorOpen" "[Z", Cond.fieldLink RX5 153 "RopedHalls$Hall" "doorOut" "[I", Cond.methodLink RX5 86 yX5_isDoor, Cond.static yX5_isDoor, Cond.initialized RX5, Cond.code yX5_isDoor cX5_isDoor 1 (some .boolean), Cond.methodLink RX5 111 yX4_find, Cond.instanceMethod yX4_find, Cond.selects RX4 yX4_find yX4_find, Cond.initialized RX4, Cond.code yX4_find cX4_find 3 none, Cond.fieldLink RX4 18 "RopedHalls$Routes" "goals" "[I", Cond.fieldLink RX4 21 "RopedHalls$Routes" "nexts" "[I", Cond.methodLink RX4 27 yX4_measureFrom, Cond.instanceMethod yX4_measureFrom, Cond.selects RX4 yX4_measureFrom yX4_measureFrom, Cond.code yX4_measureFrom cX4_measureFrom 10 none, Cond.fieldLink RX4 9 "RopedHalls$Routes" "steps" "[I", Cond.fieldLink RX4 68 "RopedHalls$Hall" "doorCell" "[I", Cond.fieldLink RX4 15 "RopedHalls$Routes" "queue" "[I"]
def wsX5_doorOf_r2 : List Cond := [Cond.static yX5_isCell, Cond.code yX5_isCell cX5_isCell 1 (some .boolean), Cond.methodLink RX4 71 yX1_stepFrom, Cond.instanceMethod yX1_stepFrom, Cond.selects RX1 yX1_stepFrom yX1_stepFrom, Cond.initialized RX1, Cond.code yX1_stepFrom cX1_stepFrom 4 (some .int), Cond.fieldLink RX1 22 "RopedHalls$Hall" "ropes" "[Z", Cond.static yX5_edgeTowards, Cond.code yX5_edgeTowards cX5_edgeTowards 4 (some .int), Cond.methodLink RX5 228 Lib.Math.min.name, Cond.static Lib.Math.min.name, Cond.initialized "java/lang/Math", Cond.code Lib.Math.min.name Lib.Math.min.code 2 (some .int), Cond.methodLink RX5 239 yX5_beside, Cond.static yX5_beside, Cond.code yX5_beside cX5_beside 2 (some .int), Cond.static yX5_isEdge, Cond.code yX5_isEdge cX5_isEdge 1 (some .boolean), Cond.methodLink RX4 52 yX4_stepsTo, Cond.instanceMethod yX4_stepsTo, Cond.selects RX4 yX4_stepsTo yX4_stepsTo, Cond.code yX4_stepsTo cX4_stepsTo 3 (some .int), Cond.methodLink RX4 31 yX4_chooseGoal]
def wsX5_doorOf_r3 : List Cond := [Cond.instanceMethod yX4_chooseGoal, Cond.selects RX4 yX4_chooseGoal yX4_chooseGoal, Cond.code yX4_chooseGoal cX4_chooseGoal 7 (some .int), Cond.fieldLink RX4 74 "RopedHalls$Hall" "guards" "[I", Cond.fieldLink RX4 77 "RopedHalls$Hall" "doorOpen" "[Z", Cond.methodLink RX4 35 yX4_chooseNext, Cond.instanceMethod yX4_chooseNext, Cond.selects RX4 yX4_chooseNext yX4_chooseNext, Cond.code yX4_chooseNext cX4_chooseNext 6 (some .int), Cond.methodLink RX4 81 yX4_stepsToGoal, Cond.instanceMethod yX4_stepsToGoal, Cond.selects RX4 yX4_stepsToGoal yX4_stepsToGoal, Cond.code yX4_stepsToGoal cX4_stepsToGoal 2 (some .int), Cond.methodLink RX4 48 yX4_goalOf, Cond.instanceMethod yX4_goalOf, Cond.selects RX4 yX4_goalOf yX4_goalOf, Cond.code yX4_goalOf cX4_goalOf 2 (some .int), Cond.methodLink RX4 38 yX4_orderTurns, Cond.instanceMethod yX4_orderTurns, Cond.selects RX4 yX4_orderTurns yX4_orderTurns, Cond.code yX4_orderTurns cX4_orderTurns 3 none, Cond.fieldLink RX4 56 "RopedHalls$Routes" "turnCount" "I", Cond.fieldLink RX4 24 "RopedHalls$Routes" "turns" "[I", Cond.methodLink RX5 156 yX4_cellsWithGoal]
def wsX5_doorOf_r4 : List Cond := [Cond.instanceMethod yX4_cellsWithGoal, Cond.selects RX4 yX4_cellsWithGoal yX4_cellsWithGoal, Cond.code yX4_cellsWithGoal cX4_cellsWithGoal 4 (some .int), Cond.methodLink RX5 159 yX4_peopleWithGoal, Cond.instanceMethod yX4_peopleWithGoal, Cond.selects RX4 yX4_peopleWithGoal yX4_peopleWithGoal, Cond.code yX4_peopleWithGoal cX4_peopleWithGoal 5 (some .int), Cond.fieldLink RX4 60 "RopedHalls$Hall" "people" "[I"]
def wsX5_doorOf : List Cond := .code yX5_doorOf cX5_doorOf 3 (some .int) :: ((wsX5_doorOf_r1 ++ (wsX5_doorOf_r2 ++ (wsX5_doorOf_r3 ++ wsX5_doorOf_r4))) ++ wsX50 ++ wsX10 ++ wsX40)
def wsX5_strandedNow_r1 : List Cond := [Cond.fieldLink RX5 19 "RopedHalls" "routes" "LRopedHalls$Routes;", Cond.fieldLink RX5 12 "RopedHalls" "hall" "LRopedHalls$Hall;", Cond.methodLink RX5 111 yX4_find, Cond.instanceMethod yX4_find, Cond.selects RX4 yX4_find yX4_find, Cond.initialized RX4, Cond.code yX4_find cX4_find 3 none, Cond.fieldLink RX4 18 "RopedHalls$Routes" "goals" "[I", Cond.fieldLink RX4 21 "RopedHalls$Routes" "nexts" "[I", Cond.methodLink RX4 27 yX4_measureFrom, Cond.instanceMethod yX4_measureFrom, Cond.selects RX4 yX4_measureFrom yX4_measureFrom, Cond.code yX4_measureFrom cX4_measureFrom 10 none, Cond.fieldLink RX4 9 "RopedHalls$Routes" "steps" "[I", Cond.fieldLink RX4 68 "RopedHalls$Hall" "doorCell" "[I", Cond.fieldLink RX4 15 "RopedHalls$Routes" "queue" "[I", Cond.static yX5_isCell, Cond.initialized RX5, Cond.code yX5_isCell cX5_isCell 1 (some .boolean), Cond.methodLink RX4 71 yX1_stepFrom, Cond.instanceMethod yX1_stepFrom, Cond.selects RX1 yX1_stepFrom yX1_stepFrom, Cond.initialized RX1, Cond.code yX1_stepFrom cX1_stepFrom 4 (some .int)]
def wsX5_strandedNow_r2 : List Cond := [Cond.fieldLink RX1 22 "RopedHalls$Hall" "ropes" "[Z", Cond.static yX5_edgeTowards, Cond.code yX5_edgeTowards cX5_edgeTowards 4 (some .int), Cond.methodLink RX5 228 Lib.Math.min.name, Cond.static Lib.Math.min.name, Cond.initialized "java/lang/Math", Cond.code Lib.Math.min.name Lib.Math.min.code 2 (some .int), Cond.methodLink RX5 239 yX5_beside, Cond.static yX5_beside, Cond.code yX5_beside cX5_beside 2 (some .int), Cond.static yX5_isEdge, Cond.code yX5_isEdge cX5_isEdge 1 (some .boolean), Cond.methodLink RX4 52 yX4_stepsTo, Cond.instanceMethod yX4_stepsTo, Cond.selects RX4 yX4_stepsTo yX4_stepsTo, Cond.code yX4_stepsTo cX4_stepsTo 3 (some .int), Cond.static yX5_isDoor, Cond.code yX5_isDoor cX5_isDoor 1 (some .boolean), Cond.methodLink RX4 31 yX4_chooseGoal, Cond.instanceMethod yX4_chooseGoal, Cond.selects RX4 yX4_chooseGoal yX4_chooseGoal, Cond.code yX4_chooseGoal cX4_chooseGoal 7 (some .int), Cond.fieldLink RX4 74 "RopedHalls$Hall" "guards" "[I", Cond.fieldLink RX4 77 "RopedHalls$Hall" "doorOpen" "[Z"]
def wsX5_strandedNow_r3 : List Cond := [Cond.methodLink RX4 35 yX4_chooseNext, Cond.instanceMethod yX4_chooseNext, Cond.selects RX4 yX4_chooseNext yX4_chooseNext, Cond.code yX4_chooseNext cX4_chooseNext 6 (some .int), Cond.methodLink RX4 81 yX4_stepsToGoal, Cond.instanceMethod yX4_stepsToGoal, Cond.selects RX4 yX4_stepsToGoal yX4_stepsToGoal, Cond.code yX4_stepsToGoal cX4_stepsToGoal 2 (some .int), Cond.methodLink RX4 48 yX4_goalOf, Cond.instanceMethod yX4_goalOf, Cond.selects RX4 yX4_goalOf yX4_goalOf, Cond.code yX4_goalOf cX4_goalOf 2 (some .int), Cond.methodLink RX4 38 yX4_orderTurns, Cond.instanceMethod yX4_orderTurns, Cond.selects RX4 yX4_orderTurns yX4_orderTurns, Cond.code yX4_orderTurns cX4_orderTurns 3 none, Cond.fieldLink RX4 56 "RopedHalls$Routes" "turnCount" "I", Cond.fieldLink RX4 24 "RopedHalls$Routes" "turns" "[I", Cond.methodLink RX5 233 yX4_stranded, Cond.instanceMethod yX4_stranded, Cond.selects RX4 yX4_stranded yX4_stranded, Cond.code yX4_stranded cX4_stranded 2 (some .int), Cond.methodLink RX4 65 yX4_peopleWithGoal, Cond.instanceMethod yX4_peopleWithGoal]
def wsX5_strandedNow_r4 : List Cond := [Cond.selects RX4 yX4_peopleWithGoal yX4_peopleWithGoal, Cond.code yX4_peopleWithGoal cX4_peopleWithGoal 5 (some .int), Cond.fieldLink RX4 60 "RopedHalls$Hall" "people" "[I"]
def wsX5_strandedNow : List Cond := .code yX5_strandedNow cX5_strandedNow 1 (some .int) :: ((wsX5_strandedNow_r1 ++ (wsX5_strandedNow_r2 ++ (wsX5_strandedNow_r3 ++ wsX5_strandedNow_r4))) ++ wsX50 ++ wsX40 ++ wsX10)
def wsX5_count_r1 : List Cond := [Cond.fieldLink RX5 12 "RopedHalls" "hall" "LRopedHalls$Hall;", Cond.fieldLink RX5 62 "RopedHalls$Hall" "room" "I", Cond.fieldLink RX5 137 "RopedHalls$Hall" "minutes" "I", Cond.fieldLink RX5 128 "RopedHalls$Hall" "cameIn" "I", Cond.fieldLink RX5 169 "RopedHalls$Hall" "waited" "I", Cond.fieldLink RX5 172 "RopedHalls$Hall" "jams" "I", Cond.fieldLink RX5 40 "RopedHalls" "pad" "LRopedHalls$Pad;", Cond.fieldLink RX5 134 "RopedHalls$Pad" "length" "I", Cond.fieldLink RX5 184 "RopedHalls" "changes" "I", Cond.methodLink RX5 163 yX1_peopleInside, Cond.instanceMethod yX1_peopleInside, Cond.selects RX1 yX1_peopleInside yX1_peopleInside, Cond.initialized RX1, Cond.code yX1_peopleInside cX1_peopleInside 3 (some .int), Cond.fieldLink RX1 15 "RopedHalls$Hall" "people" "[I", Cond.methodLink RX5 166 yX1_peopleOut, Cond.instanceMethod yX1_peopleOut, Cond.selects RX1 yX1_peopleOut yX1_peopleOut, Cond.code yX1_peopleOut cX1_peopleOut 3 (some .int), Cond.fieldLink RX1 35 "RopedHalls$Hall" "doorOut" "[I", Cond.methodLink RX5 83 yX1_ropeCount, Cond.instanceMethod yX1_ropeCount, Cond.selects RX1 yX1_ropeCount yX1_ropeCount, Cond.code yX1_ropeCount cX1_ropeCount 3 (some .int)]
def wsX5_count_r2 : List Cond := [Cond.fieldLink RX1 22 "RopedHalls$Hall" "ropes" "[Z", Cond.methodLink RX5 99 yX1_openDoors, Cond.instanceMethod yX1_openDoors, Cond.selects RX1 yX1_openDoors yX1_openDoors, Cond.code yX1_openDoors cX1_openDoors 3 (some .int), Cond.fieldLink RX1 32 "RopedHalls$Hall" "doorOpen" "[Z", Cond.methodLink RX5 175 yX5_strandedNow, Cond.instanceMethod yX5_strandedNow, Cond.selects RX5 yX5_strandedNow yX5_strandedNow, Cond.initialized RX5, Cond.code yX5_strandedNow cX5_strandedNow 1 (some .int), Cond.fieldLink RX5 19 "RopedHalls" "routes" "LRopedHalls$Routes;", Cond.methodLink RX5 111 yX4_find, Cond.instanceMethod yX4_find, Cond.selects RX4 yX4_find yX4_find, Cond.initialized RX4, Cond.code yX4_find cX4_find 3 none, Cond.fieldLink RX4 18 "RopedHalls$Routes" "goals" "[I", Cond.fieldLink RX4 21 "RopedHalls$Routes" "nexts" "[I", Cond.methodLink RX4 27 yX4_measureFrom, Cond.instanceMethod yX4_measureFrom, Cond.selects RX4 yX4_measureFrom yX4_measureFrom, Cond.code yX4_measureFrom cX4_measureFrom 10 none, Cond.fieldLink RX4 9 "RopedHalls$Routes" "steps" "[I"]
def wsX5_count_r3 : List Cond := [Cond.fieldLink RX4 68 "RopedHalls$Hall" "doorCell" "[I", Cond.fieldLink RX4 15 "RopedHalls$Routes" "queue" "[I", Cond.static yX5_isCell, Cond.code yX5_isCell cX5_isCell 1 (some .boolean), Cond.methodLink RX4 71 yX1_stepFrom, Cond.instanceMethod yX1_stepFrom, Cond.selects RX1 yX1_stepFrom yX1_stepFrom, Cond.code yX1_stepFrom cX1_stepFrom 4 (some .int), Cond.static yX5_edgeTowards, Cond.code yX5_edgeTowards cX5_edgeTowards 4 (some .int), Cond.methodLink RX5 228 Lib.Math.min.name, Cond.static Lib.Math.min.name, Cond.initialized "java/lang/Math", Cond.code Lib.Math.min.name Lib.Math.min.code 2 (some .int), Cond.methodLink RX5 239 yX5_beside, Cond.static yX5_beside, Cond.code yX5_beside cX5_beside 2 (some .int), Cond.static yX5_isEdge, Cond.code yX5_isEdge cX5_isEdge 1 (some .boolean), Cond.methodLink RX4 52 yX4_stepsTo, Cond.instanceMethod yX4_stepsTo, Cond.selects RX4 yX4_stepsTo yX4_stepsTo, Cond.code yX4_stepsTo cX4_stepsTo 3 (some .int), Cond.static yX5_isDoor]
def wsX5_count_r4 : List Cond := [Cond.code yX5_isDoor cX5_isDoor 1 (some .boolean), Cond.methodLink RX4 31 yX4_chooseGoal, Cond.instanceMethod yX4_chooseGoal, Cond.selects RX4 yX4_chooseGoal yX4_chooseGoal, Cond.code yX4_chooseGoal cX4_chooseGoal 7 (some .int), Cond.fieldLink RX4 74 "RopedHalls$Hall" "guards" "[I", Cond.fieldLink RX4 77 "RopedHalls$Hall" "doorOpen" "[Z", Cond.methodLink RX4 35 yX4_chooseNext, Cond.instanceMethod yX4_chooseNext, Cond.selects RX4 yX4_chooseNext yX4_chooseNext, Cond.code yX4_chooseNext cX4_chooseNext 6 (some .int), Cond.methodLink RX4 81 yX4_stepsToGoal, Cond.instanceMethod yX4_stepsToGoal, Cond.selects RX4 yX4_stepsToGoal yX4_stepsToGoal, Cond.code yX4_stepsToGoal cX4_stepsToGoal 2 (some .int), Cond.methodLink RX4 48 yX4_goalOf, Cond.instanceMethod yX4_goalOf, Cond.selects RX4 yX4_goalOf yX4_goalOf, Cond.code yX4_goalOf cX4_goalOf 2 (some .int), Cond.methodLink RX4 38 yX4_orderTurns, Cond.instanceMethod yX4_orderTurns, Cond.selects RX4 yX4_orderTurns yX4_orderTurns, Cond.code yX4_orderTurns cX4_orderTurns 3 none, Cond.fieldLink RX4 56 "RopedHalls$Routes" "turnCount" "I"]
def wsX5_count_r5 : List Cond := [Cond.fieldLink RX4 24 "RopedHalls$Routes" "turns" "[I", Cond.methodLink RX5 233 yX4_stranded, Cond.instanceMethod yX4_stranded, Cond.selects RX4 yX4_stranded yX4_stranded, Cond.code yX4_stranded cX4_stranded 2 (some .int), Cond.methodLink RX4 65 yX4_peopleWithGoal, Cond.instanceMethod yX4_peopleWithGoal, Cond.selects RX4 yX4_peopleWithGoal yX4_peopleWithGoal, Cond.code yX4_peopleWithGoal cX4_peopleWithGoal 5 (some .int), Cond.fieldLink RX4 60 "RopedHalls$Hall" "people" "[I", Cond.methodLink RX5 178 yX1_unevenness, Cond.instanceMethod yX1_unevenness, Cond.selects RX1 yX1_unevenness yX1_unevenness, Cond.code yX1_unevenness cX1_unevenness 4 (some .int), Cond.methodLink RX1 54 Lib.Math.max.name, Cond.static Lib.Math.max.name, Cond.code Lib.Math.max.name Lib.Math.max.code 2 (some .int), Cond.methodLink RX1 60 Lib.Math.min.name, Cond.methodLink RX5 181 yX1_guardCount, Cond.instanceMethod yX1_guardCount, Cond.selects RX1 yX1_guardCount yX1_guardCount, Cond.code yX1_guardCount cX1_guardCount 3 (some .int), Cond.fieldLink RX1 19 "RopedHalls$Hall" "guards" "[I"]
def wsX5_count : List Cond := .code yX5_count cX5_count 2 (some .int) :: ((wsX5_count_r1 ++ (wsX5_count_r2 ++ (wsX5_count_r3 ++ (wsX5_count_r4 ++ wsX5_count_r5)))) ++ wsX50 ++ wsX10 ++ wsX30 ++ wsX40)
def wsX5_distance_r1 : List Cond := [Cond.fieldLink RX5 19 "RopedHalls" "routes" "LRopedHalls$Routes;", Cond.fieldLink RX5 12 "RopedHalls" "hall" "LRopedHalls$Hall;", Cond.methodLink RX5 66 yX5_isCell, Cond.static yX5_isCell, Cond.initialized RX5, Cond.code yX5_isCell cX5_isCell 1 (some .boolean), Cond.methodLink RX5 86 yX5_isDoor, Cond.static yX5_isDoor, Cond.code yX5_isDoor cX5_isDoor 1 (some .boolean), Cond.methodLink RX5 111 yX4_find, Cond.instanceMethod yX4_find, Cond.selects RX4 yX4_find yX4_find, Cond.initialized RX4, Cond.code yX4_find cX4_find 3 none, Cond.fieldLink RX4 18 "RopedHalls$Routes" "goals" "[I", Cond.fieldLink RX4 21 "RopedHalls$Routes" "nexts" "[I", Cond.methodLink RX4 27 yX4_measureFrom, Cond.instanceMethod yX4_measureFrom, Cond.selects RX4 yX4_measureFrom yX4_measureFrom, Cond.code yX4_measureFrom cX4_measureFrom 10 none, Cond.fieldLink RX4 9 "RopedHalls$Routes" "steps" "[I", Cond.fieldLink RX4 68 "RopedHalls$Hall" "doorCell" "[I", Cond.fieldLink RX4 15 "RopedHalls$Routes" "queue" "[I", Cond.methodLink RX4 71 yX1_stepFrom]
def wsX5_distance_r2 : List Cond := [Cond.instanceMethod yX1_stepFrom, Cond.selects RX1 yX1_stepFrom yX1_stepFrom, Cond.initialized RX1, Cond.code yX1_stepFrom cX1_stepFrom 4 (some .int), Cond.fieldLink RX1 22 "RopedHalls$Hall" "ropes" "[Z", Cond.static yX5_edgeTowards, Cond.code yX5_edgeTowards cX5_edgeTowards 4 (some .int), Cond.methodLink RX5 228 Lib.Math.min.name, Cond.static Lib.Math.min.name, Cond.initialized "java/lang/Math", Cond.code Lib.Math.min.name Lib.Math.min.code 2 (some .int), Cond.methodLink RX5 239 yX5_beside, Cond.static yX5_beside, Cond.code yX5_beside cX5_beside 2 (some .int), Cond.static yX5_isEdge, Cond.code yX5_isEdge cX5_isEdge 1 (some .boolean), Cond.methodLink RX4 52 yX4_stepsTo, Cond.instanceMethod yX4_stepsTo, Cond.selects RX4 yX4_stepsTo yX4_stepsTo, Cond.code yX4_stepsTo cX4_stepsTo 3 (some .int), Cond.methodLink RX4 31 yX4_chooseGoal, Cond.instanceMethod yX4_chooseGoal, Cond.selects RX4 yX4_chooseGoal yX4_chooseGoal, Cond.code yX4_chooseGoal cX4_chooseGoal 7 (some .int)]
def wsX5_distance_r3 : List Cond := [Cond.fieldLink RX4 74 "RopedHalls$Hall" "guards" "[I", Cond.fieldLink RX4 77 "RopedHalls$Hall" "doorOpen" "[Z", Cond.methodLink RX4 35 yX4_chooseNext, Cond.instanceMethod yX4_chooseNext, Cond.selects RX4 yX4_chooseNext yX4_chooseNext, Cond.code yX4_chooseNext cX4_chooseNext 6 (some .int), Cond.methodLink RX4 81 yX4_stepsToGoal, Cond.instanceMethod yX4_stepsToGoal, Cond.selects RX4 yX4_stepsToGoal yX4_stepsToGoal, Cond.code yX4_stepsToGoal cX4_stepsToGoal 2 (some .int), Cond.methodLink RX4 48 yX4_goalOf, Cond.instanceMethod yX4_goalOf, Cond.selects RX4 yX4_goalOf yX4_goalOf, Cond.code yX4_goalOf cX4_goalOf 2 (some .int), Cond.methodLink RX4 38 yX4_orderTurns, Cond.instanceMethod yX4_orderTurns, Cond.selects RX4 yX4_orderTurns yX4_orderTurns, Cond.code yX4_orderTurns cX4_orderTurns 3 none, Cond.fieldLink RX4 56 "RopedHalls$Routes" "turnCount" "I", Cond.fieldLink RX4 24 "RopedHalls$Routes" "turns" "[I", Cond.methodLink RX5 187 yX4_stepsTo]
def wsX5_distance : List Cond := .code yX5_distance cX5_distance 3 (some .int) :: ((wsX5_distance_r1 ++ (wsX5_distance_r2 ++ wsX5_distance_r3)) ++ wsX50 ++ wsX40 ++ wsX10)
def wsX5_untilOut_r1 : List Cond := [Cond.fieldLink RX5 33 "RopedHalls" "forecast" "LRopedHalls$Forecast;", Cond.fieldLink RX5 12 "RopedHalls" "hall" "LRopedHalls$Hall;", Cond.methodLink RX5 190 yX0_startFrom, Cond.instanceMethod yX0_startFrom, Cond.selects RX0 yX0_startFrom yX0_startFrom, Cond.initialized RX0, Cond.code yX0_startFrom cX0_startFrom 2 none, Cond.fieldLink RX0 12 "RopedHalls$Forecast" "trial" "LRopedHalls$Hall;", Cond.fieldLink RX0 21 "RopedHalls$Forecast" "routes" "LRopedHalls$Routes;", Cond.methodLink RX0 32 yX1_copyFrom, Cond.instanceMethod yX1_copyFrom, Cond.selects RX1 yX1_copyFrom yX1_copyFrom, Cond.initialized RX1, Cond.code yX1_copyFrom cX1_copyFrom 3 none, Cond.fieldLink RX1 9 "RopedHalls$Hall" "room" "I", Cond.fieldLink RX1 38 "RopedHalls$Hall" "minutes" "I", Cond.fieldLink RX1 41 "RopedHalls$Hall" "cameIn" "I", Cond.fieldLink RX1 44 "RopedHalls$Hall" "waited" "I", Cond.fieldLink RX1 47 "RopedHalls$Hall" "jams" "I", Cond.fieldLink RX1 15 "RopedHalls$Hall" "people" "[I", Cond.fieldLink RX1 19 "RopedHalls$Hall" "guards" "[I", Cond.fieldLink RX1 22 "RopedHalls$Hall" "ropes" "[Z", Cond.fieldLink RX1 26 "RopedHalls$Hall" "doorCell" "[I", Cond.fieldLink RX1 29 "RopedHalls$Hall" "doorRate" "[I"]
def wsX5_untilOut_r2 : List Cond := [Cond.fieldLink RX1 32 "RopedHalls$Hall" "doorOpen" "[Z", Cond.fieldLink RX1 35 "RopedHalls$Hall" "doorOut" "[I", Cond.methodLink RX0 36 yX4_find, Cond.instanceMethod yX4_find, Cond.selects RX4 yX4_find yX4_find, Cond.initialized RX4, Cond.code yX4_find cX4_find 3 none, Cond.fieldLink RX4 18 "RopedHalls$Routes" "goals" "[I", Cond.fieldLink RX4 21 "RopedHalls$Routes" "nexts" "[I", Cond.methodLink RX4 27 yX4_measureFrom, Cond.instanceMethod yX4_measureFrom, Cond.selects RX4 yX4_measureFrom yX4_measureFrom, Cond.code yX4_measureFrom cX4_measureFrom 10 none, Cond.fieldLink RX4 9 "RopedHalls$Routes" "steps" "[I", Cond.fieldLink RX4 68 "RopedHalls$Hall" "doorCell" "[I", Cond.fieldLink RX4 15 "RopedHalls$Routes" "queue" "[I", Cond.static yX5_isCell, Cond.initialized RX5, Cond.code yX5_isCell cX5_isCell 1 (some .boolean), Cond.methodLink RX4 71 yX1_stepFrom, Cond.instanceMethod yX1_stepFrom, Cond.selects RX1 yX1_stepFrom yX1_stepFrom, Cond.code yX1_stepFrom cX1_stepFrom 4 (some .int), Cond.static yX5_edgeTowards]
def wsX5_untilOut_r3 : List Cond := [Cond.code yX5_edgeTowards cX5_edgeTowards 4 (some .int), Cond.methodLink RX5 228 Lib.Math.min.name, Cond.static Lib.Math.min.name, Cond.initialized "java/lang/Math", Cond.code Lib.Math.min.name Lib.Math.min.code 2 (some .int), Cond.methodLink RX5 239 yX5_beside, Cond.static yX5_beside, Cond.code yX5_beside cX5_beside 2 (some .int), Cond.static yX5_isEdge, Cond.code yX5_isEdge cX5_isEdge 1 (some .boolean), Cond.methodLink RX4 52 yX4_stepsTo, Cond.instanceMethod yX4_stepsTo, Cond.selects RX4 yX4_stepsTo yX4_stepsTo, Cond.code yX4_stepsTo cX4_stepsTo 3 (some .int), Cond.static yX5_isDoor, Cond.code yX5_isDoor cX5_isDoor 1 (some .boolean), Cond.methodLink RX4 31 yX4_chooseGoal, Cond.instanceMethod yX4_chooseGoal, Cond.selects RX4 yX4_chooseGoal yX4_chooseGoal, Cond.code yX4_chooseGoal cX4_chooseGoal 7 (some .int), Cond.fieldLink RX4 74 "RopedHalls$Hall" "guards" "[I", Cond.fieldLink RX4 77 "RopedHalls$Hall" "doorOpen" "[Z", Cond.methodLink RX4 35 yX4_chooseNext, Cond.instanceMethod yX4_chooseNext]
def wsX5_untilOut_r4 : List Cond := [Cond.selects RX4 yX4_chooseNext yX4_chooseNext, Cond.code yX4_chooseNext cX4_chooseNext 6 (some .int), Cond.methodLink RX4 81 yX4_stepsToGoal, Cond.instanceMethod yX4_stepsToGoal, Cond.selects RX4 yX4_stepsToGoal yX4_stepsToGoal, Cond.code yX4_stepsToGoal cX4_stepsToGoal 2 (some .int), Cond.methodLink RX4 48 yX4_goalOf, Cond.instanceMethod yX4_goalOf, Cond.selects RX4 yX4_goalOf yX4_goalOf, Cond.code yX4_goalOf cX4_goalOf 2 (some .int), Cond.methodLink RX4 38 yX4_orderTurns, Cond.instanceMethod yX4_orderTurns, Cond.selects RX4 yX4_orderTurns yX4_orderTurns, Cond.code yX4_orderTurns cX4_orderTurns 3 none, Cond.fieldLink RX4 56 "RopedHalls$Routes" "turnCount" "I", Cond.fieldLink RX4 24 "RopedHalls$Routes" "turns" "[I", Cond.methodLink RX5 193 yX0_runUntilOut, Cond.instanceMethod yX0_runUntilOut, Cond.selects RX0 yX0_runUntilOut yX0_runUntilOut, Cond.code yX0_runUntilOut cX0_runUntilOut 3 (some .int), Cond.fieldLink RX0 28 "RopedHalls$Forecast" "minute" "LRopedHalls$Minute;", Cond.methodLink RX0 47 yX1_peopleInside, Cond.instanceMethod yX1_peopleInside, Cond.selects RX1 yX1_peopleInside yX1_peopleInside]
def wsX5_untilOut_r5 : List Cond := [Cond.code yX1_peopleInside cX1_peopleInside 3 (some .int), Cond.methodLink RX0 51 yX4_stranded, Cond.instanceMethod yX4_stranded, Cond.selects RX4 yX4_stranded yX4_stranded, Cond.code yX4_stranded cX4_stranded 2 (some .int), Cond.methodLink RX4 65 yX4_peopleWithGoal, Cond.instanceMethod yX4_peopleWithGoal, Cond.selects RX4 yX4_peopleWithGoal yX4_peopleWithGoal, Cond.code yX4_peopleWithGoal cX4_peopleWithGoal 5 (some .int), Cond.fieldLink RX4 60 "RopedHalls$Hall" "people" "[I", Cond.methodLink RX0 55 yX2_run, Cond.instanceMethod yX2_run, Cond.selects RX2 yX2_run yX2_run, Cond.initialized RX2, Cond.code yX2_run cX2_run 6 (some .int), Cond.fieldLink RX2 15 "RopedHalls$Hall" "minutes" "I", Cond.fieldLink RX2 9 "RopedHalls$Minute" "arrived" "[I", Cond.methodLink RX2 21 yX2_letOut, Cond.static yX2_letOut, Cond.code yX2_letOut cX2_letOut 4 (some .int), Cond.fieldLink RX2 42 "RopedHalls$Hall" "doorCell" "[I", Cond.fieldLink RX2 45 "RopedHalls$Hall" "doorOpen" "[Z", Cond.fieldLink RX2 53 "RopedHalls$Hall" "doorRate" "[I", Cond.fieldLink RX2 56 "RopedHalls$Hall" "people" "[I"]
def wsX5_untilOut_r6 : List Cond := [Cond.methodLink RX2 59 Lib.Math.min.name, Cond.fieldLink RX2 65 "RopedHalls$Hall" "doorOut" "[I", Cond.methodLink RX2 25 yX4_turnsAMinute, Cond.instanceMethod yX4_turnsAMinute, Cond.selects RX4 yX4_turnsAMinute yX4_turnsAMinute, Cond.code yX4_turnsAMinute cX4_turnsAMinute 1 (some .int), Cond.methodLink RX2 31 yX4_cellAtTurn, Cond.instanceMethod yX4_cellAtTurn, Cond.selects RX4 yX4_cellAtTurn yX4_cellAtTurn, Cond.code yX4_cellAtTurn cX4_cellAtTurn 2 (some .int), Cond.methodLink RX2 35 yX4_nextOf, Cond.instanceMethod yX4_nextOf, Cond.selects RX4 yX4_nextOf yX4_nextOf, Cond.code yX4_nextOf cX4_nextOf 2 (some .int), Cond.methodLink RX2 38 yX2_move, Cond.instanceMethod yX2_move, Cond.selects RX2 yX2_move yX2_move, Cond.code yX2_move cX2_move 6 none, Cond.fieldLink RX2 71 "RopedHalls$Hall" "jams" "I", Cond.fieldLink RX2 74 "RopedHalls$Hall" "waited" "I", Cond.methodLink RX2 68 yX1_roomIn, Cond.instanceMethod yX1_roomIn, Cond.selects RX1 yX1_roomIn yX1_roomIn, Cond.code yX1_roomIn cX1_roomIn 2 (some .int)]
def wsX5_untilOut : List Cond := .code yX5_untilOut cX5_untilOut 1 (some .int) :: ((wsX5_untilOut_r1 ++ (wsX5_untilOut_r2 ++ (wsX5_untilOut_r3 ++ (wsX5_untilOut_r4 ++ (wsX5_untilOut_r5 ++ wsX5_untilOut_r6))))) ++ wsX50 ++ wsX00 ++ wsX10 ++ wsX40 ++ wsX20)
def wsX5_ifRope_r1 : List Cond := [Cond.fieldLink RX5 33 "RopedHalls" "forecast" "LRopedHalls$Forecast;", Cond.fieldLink RX5 12 "RopedHalls" "hall" "LRopedHalls$Hall;", Cond.methodLink RX5 66 yX5_isCell, Cond.static yX5_isCell, Cond.initialized RX5, Cond.code yX5_isCell cX5_isCell 1 (some .boolean), Cond.methodLink RX5 70 yX5_isSide, Cond.static yX5_isSide, Cond.code yX5_isSide cX5_isSide 1 (some .boolean), Cond.methodLink RX5 73 yX5_edgeAt, Cond.static yX5_edgeAt, Cond.code yX5_edgeAt cX5_edgeAt 2 (some .int), Cond.methodLink RX5 242 yX5_edgeTowards, Cond.static yX5_edgeTowards, Cond.code yX5_edgeTowards cX5_edgeTowards 4 (some .int), Cond.methodLink RX5 228 Lib.Math.min.name, Cond.static Lib.Math.min.name, Cond.initialized "java/lang/Math", Cond.code Lib.Math.min.name Lib.Math.min.code 2 (some .int), Cond.methodLink RX5 239 yX5_beside, Cond.static yX5_beside, Cond.code yX5_beside cX5_beside 2 (some .int), Cond.methodLink RX5 77 yX5_isEdge, Cond.static yX5_isEdge]
def wsX5_ifRope_r2 : List Cond := [Cond.code yX5_isEdge cX5_isEdge 1 (some .boolean), Cond.methodLink RX5 196 yX0_startWithRopeTurned, Cond.instanceMethod yX0_startWithRopeTurned, Cond.selects RX0 yX0_startWithRopeTurned yX0_startWithRopeTurned, Cond.initialized RX0, Cond.code yX0_startWithRopeTurned cX0_startWithRopeTurned 3 none, Cond.fieldLink RX0 12 "RopedHalls$Forecast" "trial" "LRopedHalls$Hall;", Cond.fieldLink RX0 43 "RopedHalls$Hall" "ropes" "[Z", Cond.fieldLink RX0 21 "RopedHalls$Forecast" "routes" "LRopedHalls$Routes;", Cond.methodLink RX0 32 yX1_copyFrom, Cond.instanceMethod yX1_copyFrom, Cond.selects RX1 yX1_copyFrom yX1_copyFrom, Cond.initialized RX1, Cond.code yX1_copyFrom cX1_copyFrom 3 none, Cond.fieldLink RX1 9 "RopedHalls$Hall" "room" "I", Cond.fieldLink RX1 38 "RopedHalls$Hall" "minutes" "I", Cond.fieldLink RX1 41 "RopedHalls$Hall" "cameIn" "I", Cond.fieldLink RX1 44 "RopedHalls$Hall" "waited" "I", Cond.fieldLink RX1 47 "RopedHalls$Hall" "jams" "I", Cond.fieldLink RX1 15 "RopedHalls$Hall" "people" "[I", Cond.fieldLink RX1 19 "RopedHalls$Hall" "guards" "[I", Cond.fieldLink RX1 22 "RopedHalls$Hall" "ropes" "[Z", Cond.fieldLink RX1 26 "RopedHalls$Hall" "doorCell" "[I", Cond.fieldLink RX1 29 "RopedHalls$Hall" "doorRate" "[I"]
def wsX5_ifRope_r3 : List Cond := [Cond.fieldLink RX1 32 "RopedHalls$Hall" "doorOpen" "[Z", Cond.fieldLink RX1 35 "RopedHalls$Hall" "doorOut" "[I", Cond.methodLink RX0 36 yX4_find, Cond.instanceMethod yX4_find, Cond.selects RX4 yX4_find yX4_find, Cond.initialized RX4, Cond.code yX4_find cX4_find 3 none, Cond.fieldLink RX4 18 "RopedHalls$Routes" "goals" "[I", Cond.fieldLink RX4 21 "RopedHalls$Routes" "nexts" "[I", Cond.methodLink RX4 27 yX4_measureFrom, Cond.instanceMethod yX4_measureFrom, Cond.selects RX4 yX4_measureFrom yX4_measureFrom, Cond.code yX4_measureFrom cX4_measureFrom 10 none, Cond.fieldLink RX4 9 "RopedHalls$Routes" "steps" "[I", Cond.fieldLink RX4 68 "RopedHalls$Hall" "doorCell" "[I", Cond.fieldLink RX4 15 "RopedHalls$Routes" "queue" "[I", Cond.methodLink RX4 71 yX1_stepFrom, Cond.instanceMethod yX1_stepFrom, Cond.selects RX1 yX1_stepFrom yX1_stepFrom, Cond.code yX1_stepFrom cX1_stepFrom 4 (some .int), Cond.methodLink RX4 52 yX4_stepsTo, Cond.instanceMethod yX4_stepsTo, Cond.selects RX4 yX4_stepsTo yX4_stepsTo, Cond.code yX4_stepsTo cX4_stepsTo 3 (some .int)]
def wsX5_ifRope_r4 : List Cond := [Cond.static yX5_isDoor, Cond.code yX5_isDoor cX5_isDoor 1 (some .boolean), Cond.methodLink RX4 31 yX4_chooseGoal, Cond.instanceMethod yX4_chooseGoal, Cond.selects RX4 yX4_chooseGoal yX4_chooseGoal, Cond.code yX4_chooseGoal cX4_chooseGoal 7 (some .int), Cond.fieldLink RX4 74 "RopedHalls$Hall" "guards" "[I", Cond.fieldLink RX4 77 "RopedHalls$Hall" "doorOpen" "[Z", Cond.methodLink RX4 35 yX4_chooseNext, Cond.instanceMethod yX4_chooseNext, Cond.selects RX4 yX4_chooseNext yX4_chooseNext, Cond.code yX4_chooseNext cX4_chooseNext 6 (some .int), Cond.methodLink RX4 81 yX4_stepsToGoal, Cond.instanceMethod yX4_stepsToGoal, Cond.selects RX4 yX4_stepsToGoal yX4_stepsToGoal, Cond.code yX4_stepsToGoal cX4_stepsToGoal 2 (some .int), Cond.methodLink RX4 48 yX4_goalOf, Cond.instanceMethod yX4_goalOf, Cond.selects RX4 yX4_goalOf yX4_goalOf, Cond.code yX4_goalOf cX4_goalOf 2 (some .int), Cond.methodLink RX4 38 yX4_orderTurns, Cond.instanceMethod yX4_orderTurns, Cond.selects RX4 yX4_orderTurns yX4_orderTurns, Cond.code yX4_orderTurns cX4_orderTurns 3 none]
def wsX5_ifRope_r5 : List Cond := [Cond.fieldLink RX4 56 "RopedHalls$Routes" "turnCount" "I", Cond.fieldLink RX4 24 "RopedHalls$Routes" "turns" "[I", Cond.methodLink RX5 200 yX0_stranded, Cond.instanceMethod yX0_stranded, Cond.selects RX0 yX0_stranded yX0_stranded, Cond.code yX0_stranded cX0_stranded 1 (some .int), Cond.methodLink RX0 51 yX4_stranded, Cond.instanceMethod yX4_stranded, Cond.selects RX4 yX4_stranded yX4_stranded, Cond.code yX4_stranded cX4_stranded 2 (some .int), Cond.methodLink RX4 65 yX4_peopleWithGoal, Cond.instanceMethod yX4_peopleWithGoal, Cond.selects RX4 yX4_peopleWithGoal yX4_peopleWithGoal, Cond.code yX4_peopleWithGoal cX4_peopleWithGoal 5 (some .int), Cond.fieldLink RX4 60 "RopedHalls$Hall" "people" "[I", Cond.methodLink RX5 193 yX0_runUntilOut, Cond.instanceMethod yX0_runUntilOut, Cond.selects RX0 yX0_runUntilOut yX0_runUntilOut, Cond.code yX0_runUntilOut cX0_runUntilOut 3 (some .int), Cond.fieldLink RX0 28 "RopedHalls$Forecast" "minute" "LRopedHalls$Minute;", Cond.methodLink RX0 47 yX1_peopleInside, Cond.instanceMethod yX1_peopleInside, Cond.selects RX1 yX1_peopleInside yX1_peopleInside, Cond.code yX1_peopleInside cX1_peopleInside 3 (some .int)]
def wsX5_ifRope_r6 : List Cond := [Cond.methodLink RX0 55 yX2_run, Cond.instanceMethod yX2_run, Cond.selects RX2 yX2_run yX2_run, Cond.initialized RX2, Cond.code yX2_run cX2_run 6 (some .int), Cond.fieldLink RX2 15 "RopedHalls$Hall" "minutes" "I", Cond.fieldLink RX2 9 "RopedHalls$Minute" "arrived" "[I", Cond.methodLink RX2 21 yX2_letOut, Cond.static yX2_letOut, Cond.code yX2_letOut cX2_letOut 4 (some .int), Cond.fieldLink RX2 42 "RopedHalls$Hall" "doorCell" "[I", Cond.fieldLink RX2 45 "RopedHalls$Hall" "doorOpen" "[Z", Cond.fieldLink RX2 53 "RopedHalls$Hall" "doorRate" "[I", Cond.fieldLink RX2 56 "RopedHalls$Hall" "people" "[I", Cond.methodLink RX2 59 Lib.Math.min.name, Cond.fieldLink RX2 65 "RopedHalls$Hall" "doorOut" "[I", Cond.methodLink RX2 25 yX4_turnsAMinute, Cond.instanceMethod yX4_turnsAMinute, Cond.selects RX4 yX4_turnsAMinute yX4_turnsAMinute, Cond.code yX4_turnsAMinute cX4_turnsAMinute 1 (some .int), Cond.methodLink RX2 31 yX4_cellAtTurn, Cond.instanceMethod yX4_cellAtTurn, Cond.selects RX4 yX4_cellAtTurn yX4_cellAtTurn, Cond.code yX4_cellAtTurn cX4_cellAtTurn 2 (some .int)]
def wsX5_ifRope_r7 : List Cond := [Cond.methodLink RX2 35 yX4_nextOf, Cond.instanceMethod yX4_nextOf, Cond.selects RX4 yX4_nextOf yX4_nextOf, Cond.code yX4_nextOf cX4_nextOf 2 (some .int), Cond.methodLink RX2 38 yX2_move, Cond.instanceMethod yX2_move, Cond.selects RX2 yX2_move yX2_move, Cond.code yX2_move cX2_move 6 none, Cond.fieldLink RX2 71 "RopedHalls$Hall" "jams" "I", Cond.fieldLink RX2 74 "RopedHalls$Hall" "waited" "I", Cond.methodLink RX2 68 yX1_roomIn, Cond.instanceMethod yX1_roomIn, Cond.selects RX1 yX1_roomIn yX1_roomIn, Cond.code yX1_roomIn cX1_roomIn 2 (some .int), Cond.methodLink RX5 203 yX0_unevenness, Cond.instanceMethod yX0_unevenness, Cond.selects RX0 yX0_unevenness yX0_unevenness, Cond.code yX0_unevenness cX0_unevenness 1 (some .int), Cond.methodLink RX0 59 yX1_unevenness, Cond.instanceMethod yX1_unevenness, Cond.selects RX1 yX1_unevenness yX1_unevenness, Cond.code yX1_unevenness cX1_unevenness 4 (some .int), Cond.methodLink RX1 54 Lib.Math.max.name, Cond.static Lib.Math.max.name]
def wsX5_ifRope_r8 : List Cond := [Cond.code Lib.Math.max.name Lib.Math.max.code 2 (some .int), Cond.methodLink RX1 60 Lib.Math.min.name]
def wsX5_ifRope : List Cond := .code yX5_ifRope cX5_ifRope 6 (some .int) :: ((wsX5_ifRope_r1 ++ (wsX5_ifRope_r2 ++ (wsX5_ifRope_r3 ++ (wsX5_ifRope_r4 ++ (wsX5_ifRope_r5 ++ (wsX5_ifRope_r6 ++ (wsX5_ifRope_r7 ++ wsX5_ifRope_r8))))))) ++ wsX50 ++ wsX00 ++ wsX10 ++ wsX40 ++ wsX20)
def wsX5_canHang : List Cond := .code yX5_canHang cX5_canHang 2 (some .boolean) :: ([.fieldLink RX5 12 "RopedHalls" "hall" "LRopedHalls$Hall;", .fieldLink RX5 80 "RopedHalls$Hall" "ropes" "[Z", .methodLink RX5 77 yX5_isEdge, .static yX5_isEdge, .initialized RX5, .code yX5_isEdge cX5_isEdge 1 (some .boolean), .methodLink RX5 73 yX5_edgeAt, .static yX5_edgeAt, .code yX5_edgeAt cX5_edgeAt 2 (some .int), .methodLink RX5 242 yX5_edgeTowards, .static yX5_edgeTowards, .code yX5_edgeTowards cX5_edgeTowards 4 (some .int), .methodLink RX5 228 Lib.Math.min.name, .static Lib.Math.min.name, .initialized "java/lang/Math", .code Lib.Math.min.name Lib.Math.min.code 2 (some .int), .methodLink RX5 239 yX5_beside, .static yX5_beside, .code yX5_beside cX5_beside 2 (some .int)] ++ wsX50 ++ wsX10)
def wsX5_bestRope_r1 : List Cond := [Cond.fieldLink RX5 33 "RopedHalls" "forecast" "LRopedHalls$Forecast;", Cond.fieldLink RX5 12 "RopedHalls" "hall" "LRopedHalls$Hall;", Cond.methodLink RX5 175 yX5_strandedNow, Cond.instanceMethod yX5_strandedNow, Cond.selects RX5 yX5_strandedNow yX5_strandedNow, Cond.initialized RX5, Cond.code yX5_strandedNow cX5_strandedNow 1 (some .int), Cond.fieldLink RX5 19 "RopedHalls" "routes" "LRopedHalls$Routes;", Cond.methodLink RX5 111 yX4_find, Cond.instanceMethod yX4_find, Cond.selects RX4 yX4_find yX4_find, Cond.initialized RX4, Cond.code yX4_find cX4_find 3 none, Cond.fieldLink RX4 18 "RopedHalls$Routes" "goals" "[I", Cond.fieldLink RX4 21 "RopedHalls$Routes" "nexts" "[I", Cond.methodLink RX4 27 yX4_measureFrom, Cond.instanceMethod yX4_measureFrom, Cond.selects RX4 yX4_measureFrom yX4_measureFrom, Cond.code yX4_measureFrom cX4_measureFrom 10 none, Cond.fieldLink RX4 9 "RopedHalls$Routes" "steps" "[I", Cond.fieldLink RX4 68 "RopedHalls$Hall" "doorCell" "[I", Cond.fieldLink RX4 15 "RopedHalls$Routes" "queue" "[I", Cond.static yX5_isCell, Cond.code yX5_isCell cX5_isCell 1 (some .boolean)]
def wsX5_bestRope_r2 : List Cond := [Cond.methodLink RX4 71 yX1_stepFrom, Cond.instanceMethod yX1_stepFrom, Cond.selects RX1 yX1_stepFrom yX1_stepFrom, Cond.initialized RX1, Cond.code yX1_stepFrom cX1_stepFrom 4 (some .int), Cond.fieldLink RX1 22 "RopedHalls$Hall" "ropes" "[Z", Cond.static yX5_edgeTowards, Cond.code yX5_edgeTowards cX5_edgeTowards 4 (some .int), Cond.methodLink RX5 228 Lib.Math.min.name, Cond.static Lib.Math.min.name, Cond.initialized "java/lang/Math", Cond.code Lib.Math.min.name Lib.Math.min.code 2 (some .int), Cond.methodLink RX5 239 yX5_beside, Cond.static yX5_beside, Cond.code yX5_beside cX5_beside 2 (some .int), Cond.static yX5_isEdge, Cond.code yX5_isEdge cX5_isEdge 1 (some .boolean), Cond.methodLink RX4 52 yX4_stepsTo, Cond.instanceMethod yX4_stepsTo, Cond.selects RX4 yX4_stepsTo yX4_stepsTo, Cond.code yX4_stepsTo cX4_stepsTo 3 (some .int), Cond.static yX5_isDoor, Cond.code yX5_isDoor cX5_isDoor 1 (some .boolean), Cond.methodLink RX4 31 yX4_chooseGoal]
def wsX5_bestRope_r3 : List Cond := [Cond.instanceMethod yX4_chooseGoal, Cond.selects RX4 yX4_chooseGoal yX4_chooseGoal, Cond.code yX4_chooseGoal cX4_chooseGoal 7 (some .int), Cond.fieldLink RX4 74 "RopedHalls$Hall" "guards" "[I", Cond.fieldLink RX4 77 "RopedHalls$Hall" "doorOpen" "[Z", Cond.methodLink RX4 35 yX4_chooseNext, Cond.instanceMethod yX4_chooseNext, Cond.selects RX4 yX4_chooseNext yX4_chooseNext, Cond.code yX4_chooseNext cX4_chooseNext 6 (some .int), Cond.methodLink RX4 81 yX4_stepsToGoal, Cond.instanceMethod yX4_stepsToGoal, Cond.selects RX4 yX4_stepsToGoal yX4_stepsToGoal, Cond.code yX4_stepsToGoal cX4_stepsToGoal 2 (some .int), Cond.methodLink RX4 48 yX4_goalOf, Cond.instanceMethod yX4_goalOf, Cond.selects RX4 yX4_goalOf yX4_goalOf, Cond.code yX4_goalOf cX4_goalOf 2 (some .int), Cond.methodLink RX4 38 yX4_orderTurns, Cond.instanceMethod yX4_orderTurns, Cond.selects RX4 yX4_orderTurns yX4_orderTurns, Cond.code yX4_orderTurns cX4_orderTurns 3 none, Cond.fieldLink RX4 56 "RopedHalls$Routes" "turnCount" "I", Cond.fieldLink RX4 24 "RopedHalls$Routes" "turns" "[I", Cond.methodLink RX5 233 yX4_stranded]
def wsX5_bestRope_r4 : List Cond := [Cond.instanceMethod yX4_stranded, Cond.selects RX4 yX4_stranded yX4_stranded, Cond.code yX4_stranded cX4_stranded 2 (some .int), Cond.methodLink RX4 65 yX4_peopleWithGoal, Cond.instanceMethod yX4_peopleWithGoal, Cond.selects RX4 yX4_peopleWithGoal yX4_peopleWithGoal, Cond.code yX4_peopleWithGoal cX4_peopleWithGoal 5 (some .int), Cond.fieldLink RX4 60 "RopedHalls$Hall" "people" "[I", Cond.methodLink RX5 204 yX5_canHang, Cond.instanceMethod yX5_canHang, Cond.selects RX5 yX5_canHang yX5_canHang, Cond.code yX5_canHang cX5_canHang 2 (some .boolean), Cond.fieldLink RX5 80 "RopedHalls$Hall" "ropes" "[Z", Cond.methodLink RX5 77 yX5_isEdge, Cond.methodLink RX5 73 yX5_edgeAt, Cond.static yX5_edgeAt, Cond.code yX5_edgeAt cX5_edgeAt 2 (some .int), Cond.methodLink RX5 242 yX5_edgeTowards, Cond.methodLink RX5 196 yX0_startWithRopeTurned, Cond.instanceMethod yX0_startWithRopeTurned, Cond.selects RX0 yX0_startWithRopeTurned yX0_startWithRopeTurned, Cond.initialized RX0, Cond.code yX0_startWithRopeTurned cX0_startWithRopeTurned 3 none, Cond.fieldLink RX0 12 "RopedHalls$Forecast" "trial" "LRopedHalls$Hall;"]
def wsX5_bestRope_r5 : List Cond := [Cond.fieldLink RX0 43 "RopedHalls$Hall" "ropes" "[Z", Cond.fieldLink RX0 21 "RopedHalls$Forecast" "routes" "LRopedHalls$Routes;", Cond.methodLink RX0 32 yX1_copyFrom, Cond.instanceMethod yX1_copyFrom, Cond.selects RX1 yX1_copyFrom yX1_copyFrom, Cond.code yX1_copyFrom cX1_copyFrom 3 none, Cond.fieldLink RX1 9 "RopedHalls$Hall" "room" "I", Cond.fieldLink RX1 38 "RopedHalls$Hall" "minutes" "I", Cond.fieldLink RX1 41 "RopedHalls$Hall" "cameIn" "I", Cond.fieldLink RX1 44 "RopedHalls$Hall" "waited" "I", Cond.fieldLink RX1 47 "RopedHalls$Hall" "jams" "I", Cond.fieldLink RX1 15 "RopedHalls$Hall" "people" "[I", Cond.fieldLink RX1 19 "RopedHalls$Hall" "guards" "[I", Cond.fieldLink RX1 26 "RopedHalls$Hall" "doorCell" "[I", Cond.fieldLink RX1 29 "RopedHalls$Hall" "doorRate" "[I", Cond.fieldLink RX1 32 "RopedHalls$Hall" "doorOpen" "[Z", Cond.fieldLink RX1 35 "RopedHalls$Hall" "doorOut" "[I", Cond.methodLink RX0 36 yX4_find, Cond.methodLink RX5 200 yX0_stranded, Cond.instanceMethod yX0_stranded, Cond.selects RX0 yX0_stranded yX0_stranded, Cond.code yX0_stranded cX0_stranded 1 (some .int), Cond.methodLink RX0 51 yX4_stranded, Cond.methodLink RX5 193 yX0_runUntilOut]
def wsX5_bestRope_r6 : List Cond := [Cond.instanceMethod yX0_runUntilOut, Cond.selects RX0 yX0_runUntilOut yX0_runUntilOut, Cond.code yX0_runUntilOut cX0_runUntilOut 3 (some .int), Cond.fieldLink RX0 28 "RopedHalls$Forecast" "minute" "LRopedHalls$Minute;", Cond.methodLink RX0 47 yX1_peopleInside, Cond.instanceMethod yX1_peopleInside, Cond.selects RX1 yX1_peopleInside yX1_peopleInside, Cond.code yX1_peopleInside cX1_peopleInside 3 (some .int), Cond.methodLink RX0 55 yX2_run, Cond.instanceMethod yX2_run, Cond.selects RX2 yX2_run yX2_run, Cond.initialized RX2, Cond.code yX2_run cX2_run 6 (some .int), Cond.fieldLink RX2 15 "RopedHalls$Hall" "minutes" "I", Cond.fieldLink RX2 9 "RopedHalls$Minute" "arrived" "[I", Cond.methodLink RX2 21 yX2_letOut, Cond.static yX2_letOut, Cond.code yX2_letOut cX2_letOut 4 (some .int), Cond.fieldLink RX2 42 "RopedHalls$Hall" "doorCell" "[I", Cond.fieldLink RX2 45 "RopedHalls$Hall" "doorOpen" "[Z", Cond.fieldLink RX2 53 "RopedHalls$Hall" "doorRate" "[I", Cond.fieldLink RX2 56 "RopedHalls$Hall" "people" "[I", Cond.methodLink RX2 59 Lib.Math.min.name, Cond.fieldLink RX2 65 "RopedHalls$Hall" "doorOut" "[I"]
def wsX5_bestRope_r7 : List Cond := [Cond.methodLink RX2 25 yX4_turnsAMinute, Cond.instanceMethod yX4_turnsAMinute, Cond.selects RX4 yX4_turnsAMinute yX4_turnsAMinute, Cond.code yX4_turnsAMinute cX4_turnsAMinute 1 (some .int), Cond.methodLink RX2 31 yX4_cellAtTurn, Cond.instanceMethod yX4_cellAtTurn, Cond.selects RX4 yX4_cellAtTurn yX4_cellAtTurn, Cond.code yX4_cellAtTurn cX4_cellAtTurn 2 (some .int), Cond.methodLink RX2 35 yX4_nextOf, Cond.instanceMethod yX4_nextOf, Cond.selects RX4 yX4_nextOf yX4_nextOf, Cond.code yX4_nextOf cX4_nextOf 2 (some .int), Cond.methodLink RX2 38 yX2_move, Cond.instanceMethod yX2_move, Cond.selects RX2 yX2_move yX2_move, Cond.code yX2_move cX2_move 6 none, Cond.fieldLink RX2 71 "RopedHalls$Hall" "jams" "I", Cond.fieldLink RX2 74 "RopedHalls$Hall" "waited" "I", Cond.methodLink RX2 68 yX1_roomIn, Cond.instanceMethod yX1_roomIn, Cond.selects RX1 yX1_roomIn yX1_roomIn, Cond.code yX1_roomIn cX1_roomIn 2 (some .int), Cond.methodLink RX5 203 yX0_unevenness, Cond.instanceMethod yX0_unevenness]
def wsX5_bestRope_r8 : List Cond := [Cond.selects RX0 yX0_unevenness yX0_unevenness, Cond.code yX0_unevenness cX0_unevenness 1 (some .int), Cond.methodLink RX0 59 yX1_unevenness, Cond.instanceMethod yX1_unevenness, Cond.selects RX1 yX1_unevenness yX1_unevenness, Cond.code yX1_unevenness cX1_unevenness 4 (some .int), Cond.methodLink RX1 54 Lib.Math.max.name, Cond.static Lib.Math.max.name, Cond.code Lib.Math.max.name Lib.Math.max.code 2 (some .int), Cond.methodLink RX1 60 Lib.Math.min.name]
def wsX5_bestRope : List Cond := .code yX5_bestRope cX5_bestRope 9 (some .int) :: ((wsX5_bestRope_r1 ++ (wsX5_bestRope_r2 ++ (wsX5_bestRope_r3 ++ (wsX5_bestRope_r4 ++ (wsX5_bestRope_r5 ++ (wsX5_bestRope_r6 ++ (wsX5_bestRope_r7 ++ wsX5_bestRope_r8))))))) ++ wsX50 ++ wsX40 ++ wsX10 ++ wsX00 ++ wsX20)
def wsX5_waiting_r1 : List Cond := [Cond.fieldLink RX5 33 "RopedHalls" "forecast" "LRopedHalls$Forecast;", Cond.fieldLink RX5 12 "RopedHalls" "hall" "LRopedHalls$Hall;", Cond.fieldLink RX5 169 "RopedHalls$Hall" "waited" "I", Cond.methodLink RX5 190 yX0_startFrom, Cond.instanceMethod yX0_startFrom, Cond.selects RX0 yX0_startFrom yX0_startFrom, Cond.initialized RX0, Cond.code yX0_startFrom cX0_startFrom 2 none, Cond.fieldLink RX0 12 "RopedHalls$Forecast" "trial" "LRopedHalls$Hall;", Cond.fieldLink RX0 21 "RopedHalls$Forecast" "routes" "LRopedHalls$Routes;", Cond.methodLink RX0 32 yX1_copyFrom, Cond.instanceMethod yX1_copyFrom, Cond.selects RX1 yX1_copyFrom yX1_copyFrom, Cond.initialized RX1, Cond.code yX1_copyFrom cX1_copyFrom 3 none, Cond.fieldLink RX1 9 "RopedHalls$Hall" "room" "I", Cond.fieldLink RX1 38 "RopedHalls$Hall" "minutes" "I", Cond.fieldLink RX1 41 "RopedHalls$Hall" "cameIn" "I", Cond.fieldLink RX1 44 "RopedHalls$Hall" "waited" "I", Cond.fieldLink RX1 47 "RopedHalls$Hall" "jams" "I", Cond.fieldLink RX1 15 "RopedHalls$Hall" "people" "[I", Cond.fieldLink RX1 19 "RopedHalls$Hall" "guards" "[I", Cond.fieldLink RX1 22 "RopedHalls$Hall" "ropes" "[Z", Cond.fieldLink RX1 26 "RopedHalls$Hall" "doorCell" "[I"]
def wsX5_waiting_r2 : List Cond := [Cond.fieldLink RX1 29 "RopedHalls$Hall" "doorRate" "[I", Cond.fieldLink RX1 32 "RopedHalls$Hall" "doorOpen" "[Z", Cond.fieldLink RX1 35 "RopedHalls$Hall" "doorOut" "[I", Cond.methodLink RX0 36 yX4_find, Cond.instanceMethod yX4_find, Cond.selects RX4 yX4_find yX4_find, Cond.initialized RX4, Cond.code yX4_find cX4_find 3 none, Cond.fieldLink RX4 18 "RopedHalls$Routes" "goals" "[I", Cond.fieldLink RX4 21 "RopedHalls$Routes" "nexts" "[I", Cond.methodLink RX4 27 yX4_measureFrom, Cond.instanceMethod yX4_measureFrom, Cond.selects RX4 yX4_measureFrom yX4_measureFrom, Cond.code yX4_measureFrom cX4_measureFrom 10 none, Cond.fieldLink RX4 9 "RopedHalls$Routes" "steps" "[I", Cond.fieldLink RX4 68 "RopedHalls$Hall" "doorCell" "[I", Cond.fieldLink RX4 15 "RopedHalls$Routes" "queue" "[I", Cond.static yX5_isCell, Cond.initialized RX5, Cond.code yX5_isCell cX5_isCell 1 (some .boolean), Cond.methodLink RX4 71 yX1_stepFrom, Cond.instanceMethod yX1_stepFrom, Cond.selects RX1 yX1_stepFrom yX1_stepFrom, Cond.code yX1_stepFrom cX1_stepFrom 4 (some .int)]
def wsX5_waiting_r3 : List Cond := [Cond.static yX5_edgeTowards, Cond.code yX5_edgeTowards cX5_edgeTowards 4 (some .int), Cond.methodLink RX5 228 Lib.Math.min.name, Cond.static Lib.Math.min.name, Cond.initialized "java/lang/Math", Cond.code Lib.Math.min.name Lib.Math.min.code 2 (some .int), Cond.methodLink RX5 239 yX5_beside, Cond.static yX5_beside, Cond.code yX5_beside cX5_beside 2 (some .int), Cond.static yX5_isEdge, Cond.code yX5_isEdge cX5_isEdge 1 (some .boolean), Cond.methodLink RX4 52 yX4_stepsTo, Cond.instanceMethod yX4_stepsTo, Cond.selects RX4 yX4_stepsTo yX4_stepsTo, Cond.code yX4_stepsTo cX4_stepsTo 3 (some .int), Cond.static yX5_isDoor, Cond.code yX5_isDoor cX5_isDoor 1 (some .boolean), Cond.methodLink RX4 31 yX4_chooseGoal, Cond.instanceMethod yX4_chooseGoal, Cond.selects RX4 yX4_chooseGoal yX4_chooseGoal, Cond.code yX4_chooseGoal cX4_chooseGoal 7 (some .int), Cond.fieldLink RX4 74 "RopedHalls$Hall" "guards" "[I", Cond.fieldLink RX4 77 "RopedHalls$Hall" "doorOpen" "[Z", Cond.methodLink RX4 35 yX4_chooseNext]
def wsX5_waiting_r4 : List Cond := [Cond.instanceMethod yX4_chooseNext, Cond.selects RX4 yX4_chooseNext yX4_chooseNext, Cond.code yX4_chooseNext cX4_chooseNext 6 (some .int), Cond.methodLink RX4 81 yX4_stepsToGoal, Cond.instanceMethod yX4_stepsToGoal, Cond.selects RX4 yX4_stepsToGoal yX4_stepsToGoal, Cond.code yX4_stepsToGoal cX4_stepsToGoal 2 (some .int), Cond.methodLink RX4 48 yX4_goalOf, Cond.instanceMethod yX4_goalOf, Cond.selects RX4 yX4_goalOf yX4_goalOf, Cond.code yX4_goalOf cX4_goalOf 2 (some .int), Cond.methodLink RX4 38 yX4_orderTurns, Cond.instanceMethod yX4_orderTurns, Cond.selects RX4 yX4_orderTurns yX4_orderTurns, Cond.code yX4_orderTurns cX4_orderTurns 3 none, Cond.fieldLink RX4 56 "RopedHalls$Routes" "turnCount" "I", Cond.fieldLink RX4 24 "RopedHalls$Routes" "turns" "[I", Cond.methodLink RX5 193 yX0_runUntilOut, Cond.instanceMethod yX0_runUntilOut, Cond.selects RX0 yX0_runUntilOut yX0_runUntilOut, Cond.code yX0_runUntilOut cX0_runUntilOut 3 (some .int), Cond.fieldLink RX0 28 "RopedHalls$Forecast" "minute" "LRopedHalls$Minute;", Cond.methodLink RX0 47 yX1_peopleInside, Cond.instanceMethod yX1_peopleInside]
def wsX5_waiting_r5 : List Cond := [Cond.selects RX1 yX1_peopleInside yX1_peopleInside, Cond.code yX1_peopleInside cX1_peopleInside 3 (some .int), Cond.methodLink RX0 51 yX4_stranded, Cond.instanceMethod yX4_stranded, Cond.selects RX4 yX4_stranded yX4_stranded, Cond.code yX4_stranded cX4_stranded 2 (some .int), Cond.methodLink RX4 65 yX4_peopleWithGoal, Cond.instanceMethod yX4_peopleWithGoal, Cond.selects RX4 yX4_peopleWithGoal yX4_peopleWithGoal, Cond.code yX4_peopleWithGoal cX4_peopleWithGoal 5 (some .int), Cond.fieldLink RX4 60 "RopedHalls$Hall" "people" "[I", Cond.methodLink RX0 55 yX2_run, Cond.instanceMethod yX2_run, Cond.selects RX2 yX2_run yX2_run, Cond.initialized RX2, Cond.code yX2_run cX2_run 6 (some .int), Cond.fieldLink RX2 15 "RopedHalls$Hall" "minutes" "I", Cond.fieldLink RX2 9 "RopedHalls$Minute" "arrived" "[I", Cond.methodLink RX2 21 yX2_letOut, Cond.static yX2_letOut, Cond.code yX2_letOut cX2_letOut 4 (some .int), Cond.fieldLink RX2 42 "RopedHalls$Hall" "doorCell" "[I", Cond.fieldLink RX2 45 "RopedHalls$Hall" "doorOpen" "[Z", Cond.fieldLink RX2 53 "RopedHalls$Hall" "doorRate" "[I"]
def wsX5_waiting_r6 : List Cond := [Cond.fieldLink RX2 56 "RopedHalls$Hall" "people" "[I", Cond.methodLink RX2 59 Lib.Math.min.name, Cond.fieldLink RX2 65 "RopedHalls$Hall" "doorOut" "[I", Cond.methodLink RX2 25 yX4_turnsAMinute, Cond.instanceMethod yX4_turnsAMinute, Cond.selects RX4 yX4_turnsAMinute yX4_turnsAMinute, Cond.code yX4_turnsAMinute cX4_turnsAMinute 1 (some .int), Cond.methodLink RX2 31 yX4_cellAtTurn, Cond.instanceMethod yX4_cellAtTurn, Cond.selects RX4 yX4_cellAtTurn yX4_cellAtTurn, Cond.code yX4_cellAtTurn cX4_cellAtTurn 2 (some .int), Cond.methodLink RX2 35 yX4_nextOf, Cond.instanceMethod yX4_nextOf, Cond.selects RX4 yX4_nextOf yX4_nextOf, Cond.code yX4_nextOf cX4_nextOf 2 (some .int), Cond.methodLink RX2 38 yX2_move, Cond.instanceMethod yX2_move, Cond.selects RX2 yX2_move yX2_move, Cond.code yX2_move cX2_move 6 none, Cond.fieldLink RX2 71 "RopedHalls$Hall" "jams" "I", Cond.fieldLink RX2 74 "RopedHalls$Hall" "waited" "I", Cond.methodLink RX2 68 yX1_roomIn, Cond.instanceMethod yX1_roomIn, Cond.selects RX1 yX1_roomIn yX1_roomIn]
def wsX5_waiting_r7 : List Cond := [Cond.code yX1_roomIn cX1_roomIn 2 (some .int), Cond.methodLink RX5 207 yX0_waited, Cond.instanceMethod yX0_waited, Cond.selects RX0 yX0_waited yX0_waited, Cond.code yX0_waited cX0_waited 1 (some .int), Cond.fieldLink RX0 62 "RopedHalls$Hall" "waited" "I"]
def wsX5_waiting : List Cond := .code yX5_waiting cX5_waiting 1 (some .int) :: ((wsX5_waiting_r1 ++ (wsX5_waiting_r2 ++ (wsX5_waiting_r3 ++ (wsX5_waiting_r4 ++ (wsX5_waiting_r5 ++ (wsX5_waiting_r6 ++ wsX5_waiting_r7)))))) ++ wsX50 ++ wsX10 ++ wsX00 ++ wsX40 ++ wsX20)
def wsX5_charactersIn : List Cond := .code yX5_charactersIn cX5_charactersIn 6 (some .int) :: ([])
def wsX5_put : List Cond := .code yX5_put cX5_put 5 (some .int) :: ([.fieldLink RX5 40 "RopedHalls" "pad" "LRopedHalls$Pad;", .fieldLink RX5 134 "RopedHalls$Pad" "length" "I", .methodLink RX5 209 yX5_charactersIn, .static yX5_charactersIn, .initialized RX5, .code yX5_charactersIn cX5_charactersIn 6 (some .int), .methodLink RX5 213 yX3_append, .instanceMethod yX3_append, .selects RX3 yX3_append yX3_append, .initialized RX3, .code yX3_append cX3_append 2 none, .fieldLink RX3 15 "RopedHalls$Pad" "length" "I", .fieldLink RX3 9 "RopedHalls$Pad" "codes" "[I"] ++ wsX50 ++ wsX30)
def wsX5_wipe : List Cond := .code yX5_wipe cX5_wipe 2 (some .int) :: ([.fieldLink RX5 40 "RopedHalls" "pad" "LRopedHalls$Pad;", .fieldLink RX5 134 "RopedHalls$Pad" "length" "I"] ++ wsX50 ++ wsX30)
def wsX5_fault : List Cond := .code yX5_fault cX5_fault 1 (some .int) :: ([.fieldLink RX5 40 "RopedHalls" "pad" "LRopedHalls$Pad;", .methodLink RX5 125 yX3_firstFault, .instanceMethod yX3_firstFault, .selects RX3 yX3_firstFault yX3_firstFault, .initialized RX3, .code yX3_firstFault cX3_firstFault 3 (some .int), .fieldLink RX3 15 "RopedHalls$Pad" "length" "I", .methodLink RX3 19 yX3_codeAt, .instanceMethod yX3_codeAt, .selects RX3 yX3_codeAt yX3_codeAt, .code yX3_codeAt cX3_codeAt 2 (some .int), .fieldLink RX3 9 "RopedHalls$Pad" "codes" "[I", .methodLink RX3 23 yX3_placeBehind, .static yX3_placeBehind, .code yX3_placeBehind cX3_placeBehind 3 (some .int), .methodLink RX3 45 yX3_placeBehindFirstDigit, .static yX3_placeBehindFirstDigit, .code yX3_placeBehindFirstDigit cX3_placeBehindFirstDigit 1 (some .int)] ++ wsX50 ++ wsX30)
def wsX5_undo_r1 : List Cond := [Cond.fieldLink RX5 184 "RopedHalls" "changes" "I", Cond.fieldLink RX5 217 "RopedHalls" "newest" "I", Cond.fieldLink RX5 12 "RopedHalls" "hall" "LRopedHalls$Hall;", Cond.methodLink RX5 220 yX5_recorded, Cond.instanceMethod yX5_recorded, Cond.selects RX5 yX5_recorded yX5_recorded, Cond.initialized RX5, Cond.code yX5_recorded cX5_recorded 2 (some (.object "RopedHalls$Hall")), Cond.fieldLink RX5 44 "RopedHalls" "history" "[LRopedHalls$Hall;", Cond.methodLink RX5 224 yX5_copyHall, Cond.static yX5_copyHall, Cond.code yX5_copyHall cX5_copyHall 2 none, Cond.methodLink RX5 236 yX1_copyFrom, Cond.instanceMethod yX1_copyFrom, Cond.selects RX1 yX1_copyFrom yX1_copyFrom, Cond.initialized RX1, Cond.code yX1_copyFrom cX1_copyFrom 3 none, Cond.fieldLink RX1 9 "RopedHalls$Hall" "room" "I", Cond.fieldLink RX1 38 "RopedHalls$Hall" "minutes" "I", Cond.fieldLink RX1 41 "RopedHalls$Hall" "cameIn" "I", Cond.fieldLink RX1 44 "RopedHalls$Hall" "waited" "I", Cond.fieldLink RX1 47 "RopedHalls$Hall" "jams" "I", Cond.fieldLink RX1 15 "RopedHalls$Hall" "people" "[I", Cond.fieldLink RX1 19 "RopedHalls$Hall" "guards" "[I"]
def wsX5_undo_r2 : List Cond := [Cond.fieldLink RX1 22 "RopedHalls$Hall" "ropes" "[Z", Cond.fieldLink RX1 26 "RopedHalls$Hall" "doorCell" "[I", Cond.fieldLink RX1 29 "RopedHalls$Hall" "doorRate" "[I", Cond.fieldLink RX1 32 "RopedHalls$Hall" "doorOpen" "[Z", Cond.fieldLink RX1 35 "RopedHalls$Hall" "doorOut" "[I"]
def wsX5_undo : List Cond := .code yX5_undo cX5_undo 1 (some .int) :: ((wsX5_undo_r1 ++ wsX5_undo_r2) ++ wsX50 ++ wsX10)
def wsX5_save_r1 : List Cond := [Cond.fieldLink RX5 12 "RopedHalls" "hall" "LRopedHalls$Hall;", Cond.fieldLink RX5 48 "RopedHalls" "slots" "[LRopedHalls$Hall;", Cond.fieldLink RX5 51 "RopedHalls" "isSaved" "[Z", Cond.methodLink RX5 224 yX5_copyHall, Cond.static yX5_copyHall, Cond.initialized RX5, Cond.code yX5_copyHall cX5_copyHall 2 none, Cond.methodLink RX5 236 yX1_copyFrom, Cond.instanceMethod yX1_copyFrom, Cond.selects RX1 yX1_copyFrom yX1_copyFrom, Cond.initialized RX1, Cond.code yX1_copyFrom cX1_copyFrom 3 none, Cond.fieldLink RX1 9 "RopedHalls$Hall" "room" "I", Cond.fieldLink RX1 38 "RopedHalls$Hall" "minutes" "I", Cond.fieldLink RX1 41 "RopedHalls$Hall" "cameIn" "I", Cond.fieldLink RX1 44 "RopedHalls$Hall" "waited" "I", Cond.fieldLink RX1 47 "RopedHalls$Hall" "jams" "I", Cond.fieldLink RX1 15 "RopedHalls$Hall" "people" "[I", Cond.fieldLink RX1 19 "RopedHalls$Hall" "guards" "[I", Cond.fieldLink RX1 22 "RopedHalls$Hall" "ropes" "[Z", Cond.fieldLink RX1 26 "RopedHalls$Hall" "doorCell" "[I", Cond.fieldLink RX1 29 "RopedHalls$Hall" "doorRate" "[I", Cond.fieldLink RX1 32 "RopedHalls$Hall" "doorOpen" "[Z", Cond.fieldLink RX1 35 "RopedHalls$Hall" "doorOut" "[I"]
def wsX5_save_r2 : List Cond := [Cond.methodLink RX5 163 yX1_peopleInside, Cond.instanceMethod yX1_peopleInside, Cond.selects RX1 yX1_peopleInside yX1_peopleInside, Cond.code yX1_peopleInside cX1_peopleInside 3 (some .int)]
def wsX5_save : List Cond := .code yX5_save cX5_save 2 (some .int) :: ((wsX5_save_r1 ++ wsX5_save_r2) ++ wsX50 ++ wsX10)
def wsX5_restore_r1 : List Cond := [Cond.fieldLink RX5 51 "RopedHalls" "isSaved" "[Z", Cond.fieldLink RX5 48 "RopedHalls" "slots" "[LRopedHalls$Hall;", Cond.fieldLink RX5 12 "RopedHalls" "hall" "LRopedHalls$Hall;", Cond.methodLink RX5 59 yX5_remember, Cond.instanceMethod yX5_remember, Cond.selects RX5 yX5_remember yX5_remember, Cond.initialized RX5, Cond.code yX5_remember cX5_remember 1 none, Cond.fieldLink RX5 217 "RopedHalls" "newest" "I", Cond.fieldLink RX5 184 "RopedHalls" "changes" "I", Cond.methodLink RX5 228 Lib.Math.min.name, Cond.static Lib.Math.min.name, Cond.initialized "java/lang/Math", Cond.code Lib.Math.min.name Lib.Math.min.code 2 (some .int), Cond.methodLink RX5 220 yX5_recorded, Cond.instanceMethod yX5_recorded, Cond.selects RX5 yX5_recorded yX5_recorded, Cond.code yX5_recorded cX5_recorded 2 (some (.object "RopedHalls$Hall")), Cond.fieldLink RX5 44 "RopedHalls" "history" "[LRopedHalls$Hall;", Cond.methodLink RX5 224 yX5_copyHall, Cond.static yX5_copyHall, Cond.code yX5_copyHall cX5_copyHall 2 none, Cond.methodLink RX5 236 yX1_copyFrom, Cond.instanceMethod yX1_copyFrom]
def wsX5_restore_r2 : List Cond := [Cond.selects RX1 yX1_copyFrom yX1_copyFrom, Cond.initialized RX1, Cond.code yX1_copyFrom cX1_copyFrom 3 none, Cond.fieldLink RX1 9 "RopedHalls$Hall" "room" "I", Cond.fieldLink RX1 38 "RopedHalls$Hall" "minutes" "I", Cond.fieldLink RX1 41 "RopedHalls$Hall" "cameIn" "I", Cond.fieldLink RX1 44 "RopedHalls$Hall" "waited" "I", Cond.fieldLink RX1 47 "RopedHalls$Hall" "jams" "I", Cond.fieldLink RX1 15 "RopedHalls$Hall" "people" "[I", Cond.fieldLink RX1 19 "RopedHalls$Hall" "guards" "[I", Cond.fieldLink RX1 22 "RopedHalls$Hall" "ropes" "[Z", Cond.fieldLink RX1 26 "RopedHalls$Hall" "doorCell" "[I", Cond.fieldLink RX1 29 "RopedHalls$Hall" "doorRate" "[I", Cond.fieldLink RX1 32 "RopedHalls$Hall" "doorOpen" "[Z", Cond.fieldLink RX1 35 "RopedHalls$Hall" "doorOut" "[I", Cond.methodLink RX5 163 yX1_peopleInside, Cond.instanceMethod yX1_peopleInside, Cond.selects RX1 yX1_peopleInside yX1_peopleInside, Cond.code yX1_peopleInside cX1_peopleInside 3 (some .int)]
def wsX5_restore : List Cond := .code yX5_restore cX5_restore 2 (some .int) :: ((wsX5_restore_r1 ++ wsX5_restore_r2) ++ wsX50 ++ wsX10)
def wsX6_init : List Cond := .code yX6_init cX6_init 2 none :: ([.methodLink RX6 1 objectInit, .instanceMethod objectInit, .code objectInit ⟨#[0xb1]⟩ 1 none, .arrayClass .int, .fieldLink RX6 7 "RopedHallsModel" "s" "[I", .fieldLink RX6 13 "RopedHallsModel" "aside" "[I", .fieldLink RX6 16 "RopedHallsModel" "history" "[I", .fieldLink RX6 19 "RopedHallsModel" "slots" "[I", .arrayClass .boolean, .fieldLink RX6 22 "RopedHallsModel" "isSaved" "[Z", .fieldLink RX6 26 "RopedHallsModel" "pad" "[I", .fieldLink RX6 29 "RopedHallsModel" "far" "[I", .fieldLink RX6 32 "RopedHallsModel" "goals" "[I", .fieldLink RX6 35 "RopedHallsModel" "steps" "[I", .fieldLink RX6 38 "RopedHallsModel" "nexts" "[I", .fieldLink RX6 41 "RopedHallsModel" "fresh" "[I", .fieldLink RX6 44 "RopedHallsModel" "tried" "[I"] ++ wsX60)
def wsX6_in : List Cond := .code yX6_in cX6_in 3 (some .boolean) :: ([])
def wsX6_isCell : List Cond := .code yX6_isCell cX6_isCell 1 (some .boolean) :: ([.methodLink RX6 47 yX6_in, .static yX6_in, .initialized RX6, .code yX6_in cX6_in 3 (some .boolean)])
def wsX6_isDoor : List Cond := .code yX6_isDoor cX6_isDoor 1 (some .boolean) :: ([.methodLink RX6 47 yX6_in, .static yX6_in, .initialized RX6, .code yX6_in cX6_in 3 (some .boolean)])
def wsX6_record : List Cond := .code yX6_record cX6_record 2 none :: ([.fieldLink RX6 51 "RopedHallsModel" "kept" "I", .fieldLink RX6 16 "RopedHallsModel" "history" "[I", .fieldLink RX6 7 "RopedHallsModel" "s" "[I"] ++ wsX60)
def wsX6_putAside : List Cond := .code yX6_putAside cX6_putAside 2 none :: ([.fieldLink RX6 13 "RopedHallsModel" "aside" "[I", .fieldLink RX6 7 "RopedHallsModel" "s" "[I"] ++ wsX60)
def wsX6_putBack : List Cond := .code yX6_putBack cX6_putBack 2 none :: ([.fieldLink RX6 7 "RopedHallsModel" "s" "[I", .fieldLink RX6 13 "RopedHallsModel" "aside" "[I"] ++ wsX60)
def wsX6_beside : List Cond := .code yX6_beside cX6_beside 2 (some .int) :: ([])
def wsX6_ropeAt : List Cond := .code yX6_ropeAt cX6_ropeAt 2 (some .int) :: ([])
def wsX6_isFree : List Cond := .code yX6_isFree cX6_isFree 3 (some .boolean) :: ([.fieldLink RX6 7 "RopedHallsModel" "s" "[I", .methodLink RX6 55 yX6_beside, .static yX6_beside, .initialized RX6, .code yX6_beside cX6_beside 2 (some .int), .methodLink RX6 59 yX6_ropeAt, .static yX6_ropeAt, .code yX6_ropeAt cX6_ropeAt 2 (some .int)] ++ wsX60)
def wsX6_hasRope : List Cond := .code yX6_hasRope cX6_hasRope 3 (some .boolean) :: ([.fieldLink RX6 7 "RopedHallsModel" "s" "[I", .methodLink RX6 55 yX6_beside, .static yX6_beside, .initialized RX6, .code yX6_beside cX6_beside 2 (some .int), .methodLink RX6 59 yX6_ropeAt, .static yX6_ropeAt, .code yX6_ropeAt cX6_ropeAt 2 (some .int)] ++ wsX60)
def wsX6_layFar : List Cond := .code yX6_layFar cX6_layFar 6 none :: ([.fieldLink RX6 29 "RopedHallsModel" "far" "[I", .fieldLink RX6 7 "RopedHallsModel" "s" "[I", .methodLink RX6 62 yX6_isFree, .instanceMethod yX6_isFree, .selects RX6 yX6_isFree yX6_isFree, .initialized RX6, .code yX6_isFree cX6_isFree 3 (some .boolean), .methodLink RX6 55 yX6_beside, .static yX6_beside, .code yX6_beside cX6_beside 2 (some .int), .methodLink RX6 59 yX6_ropeAt, .static yX6_ropeAt, .code yX6_ropeAt cX6_ropeAt 2 (some .int)] ++ wsX60)
def wsX6_leads : List Cond := .code yX6_leads cX6_leads 3 (some .boolean) :: ([.fieldLink RX6 7 "RopedHallsModel" "s" "[I", .fieldLink RX6 29 "RopedHallsModel" "far" "[I"] ++ wsX60)
def wsX6_goalOf : List Cond := .code yX6_goalOf cX6_goalOf 5 (some .int) :: ([.fieldLink RX6 7 "RopedHallsModel" "s" "[I", .fieldLink RX6 29 "RopedHallsModel" "far" "[I", .methodLink RX6 66 yX6_leads, .instanceMethod yX6_leads, .selects RX6 yX6_leads yX6_leads, .initialized RX6, .code yX6_leads cX6_leads 3 (some .boolean)] ++ wsX60)
def wsX6_nextOf : List Cond := .code yX6_nextOf cX6_nextOf 5 (some .int) :: ([.fieldLink RX6 32 "RopedHallsModel" "goals" "[I", .fieldLink RX6 35 "RopedHallsModel" "steps" "[I", .fieldLink RX6 29 "RopedHallsModel" "far" "[I", .methodLink RX6 62 yX6_isFree, .instanceMethod yX6_isFree, .selects RX6 yX6_isFree yX6_isFree, .initialized RX6, .code yX6_isFree cX6_isFree 3 (some .boolean), .fieldLink RX6 7 "RopedHallsModel" "s" "[I", .methodLink RX6 55 yX6_beside, .static yX6_beside, .code yX6_beside cX6_beside 2 (some .int), .methodLink RX6 59 yX6_ropeAt, .static yX6_ropeAt, .code yX6_ropeAt cX6_ropeAt 2 (some .int)] ++ wsX60)
def wsX6_layWays_r1 : List Cond := [Cond.fieldLink RX6 32 "RopedHallsModel" "goals" "[I", Cond.fieldLink RX6 35 "RopedHallsModel" "steps" "[I", Cond.fieldLink RX6 29 "RopedHallsModel" "far" "[I", Cond.fieldLink RX6 38 "RopedHallsModel" "nexts" "[I", Cond.methodLink RX6 69 yX6_layFar, Cond.instanceMethod yX6_layFar, Cond.selects RX6 yX6_layFar yX6_layFar, Cond.initialized RX6, Cond.code yX6_layFar cX6_layFar 6 none, Cond.fieldLink RX6 7 "RopedHallsModel" "s" "[I", Cond.methodLink RX6 62 yX6_isFree, Cond.instanceMethod yX6_isFree, Cond.selects RX6 yX6_isFree yX6_isFree, Cond.code yX6_isFree cX6_isFree 3 (some .boolean), Cond.methodLink RX6 55 yX6_beside, Cond.static yX6_beside, Cond.code yX6_beside cX6_beside 2 (some .int), Cond.methodLink RX6 59 yX6_ropeAt, Cond.static yX6_ropeAt, Cond.code yX6_ropeAt cX6_ropeAt 2 (some .int), Cond.methodLink RX6 73 yX6_goalOf, Cond.instanceMethod yX6_goalOf, Cond.selects RX6 yX6_goalOf yX6_goalOf, Cond.code yX6_goalOf cX6_goalOf 5 (some .int)]
def wsX6_layWays_r2 : List Cond := [Cond.methodLink RX6 66 yX6_leads, Cond.instanceMethod yX6_leads, Cond.selects RX6 yX6_leads yX6_leads, Cond.code yX6_leads cX6_leads 3 (some .boolean), Cond.methodLink RX6 77 yX6_nextOf, Cond.instanceMethod yX6_nextOf, Cond.selects RX6 yX6_nextOf yX6_nextOf, Cond.code yX6_nextOf cX6_nextOf 5 (some .int)]
def wsX6_layWays : List Cond := .code yX6_layWays cX6_layWays 2 none :: ((wsX6_layWays_r1 ++ wsX6_layWays_r2) ++ wsX60)
def wsX6_letsOut : List Cond := .code yX6_letsOut cX6_letsOut 4 none :: ([.fieldLink RX6 7 "RopedHallsModel" "s" "[I"] ++ wsX60)
def wsX6_goes : List Cond := .code yX6_goes cX6_goes 6 none :: ([.fieldLink RX6 38 "RopedHallsModel" "nexts" "[I", .fieldLink RX6 7 "RopedHallsModel" "s" "[I", .fieldLink RX6 41 "RopedHallsModel" "fresh" "[I"] ++ wsX60)
def wsX6_minute : List Cond := .code yX6_minute cX6_minute 3 none :: ([.fieldLink RX6 7 "RopedHallsModel" "s" "[I", .fieldLink RX6 41 "RopedHallsModel" "fresh" "[I", .fieldLink RX6 35 "RopedHallsModel" "steps" "[I", .methodLink RX6 80 yX6_letsOut, .instanceMethod yX6_letsOut, .selects RX6 yX6_letsOut yX6_letsOut, .initialized RX6, .code yX6_letsOut cX6_letsOut 4 none, .methodLink RX6 83 yX6_goes, .instanceMethod yX6_goes, .selects RX6 yX6_goes yX6_goes, .code yX6_goes cX6_goes 6 none, .fieldLink RX6 38 "RopedHallsModel" "nexts" "[I"] ++ wsX60)
def wsX6_people : List Cond := .code yX6_people cX6_people 3 (some .int) :: ([.fieldLink RX6 7 "RopedHallsModel" "s" "[I"] ++ wsX60)
def wsX6_out : List Cond := .code yX6_out cX6_out 1 (some .int) :: ([.fieldLink RX6 7 "RopedHallsModel" "s" "[I"] ++ wsX60)
def wsX6_shutIn : List Cond := .code yX6_shutIn cX6_shutIn 3 (some .int) :: ([.fieldLink RX6 32 "RopedHallsModel" "goals" "[I", .fieldLink RX6 7 "RopedHallsModel" "s" "[I"] ++ wsX60)
def wsX6_emptied_r1 : List Cond := [Cond.methodLink RX6 86 yX6_people, Cond.instanceMethod yX6_people, Cond.selects RX6 yX6_people yX6_people, Cond.initialized RX6, Cond.code yX6_people cX6_people 3 (some .int), Cond.fieldLink RX6 7 "RopedHallsModel" "s" "[I", Cond.methodLink RX6 90 yX6_shutIn, Cond.instanceMethod yX6_shutIn, Cond.selects RX6 yX6_shutIn yX6_shutIn, Cond.code yX6_shutIn cX6_shutIn 3 (some .int), Cond.fieldLink RX6 32 "RopedHallsModel" "goals" "[I", Cond.methodLink RX6 93 yX6_minute, Cond.instanceMethod yX6_minute, Cond.selects RX6 yX6_minute yX6_minute, Cond.code yX6_minute cX6_minute 3 none, Cond.fieldLink RX6 41 "RopedHallsModel" "fresh" "[I", Cond.fieldLink RX6 35 "RopedHallsModel" "steps" "[I", Cond.methodLink RX6 80 yX6_letsOut, Cond.instanceMethod yX6_letsOut, Cond.selects RX6 yX6_letsOut yX6_letsOut, Cond.code yX6_letsOut cX6_letsOut 4 none, Cond.methodLink RX6 83 yX6_goes, Cond.instanceMethod yX6_goes, Cond.selects RX6 yX6_goes yX6_goes]
def wsX6_emptied_r2 : List Cond := [Cond.code yX6_goes cX6_goes 6 none, Cond.fieldLink RX6 38 "RopedHallsModel" "nexts" "[I"]
def wsX6_emptied : List Cond := .code yX6_emptied cX6_emptied 2 (some .int) :: ((wsX6_emptied_r1 ++ wsX6_emptied_r2) ++ wsX60)
def wsX6_lays : List Cond := .code yX6_lays cX6_lays 4 (some .int) :: ([.fieldLink RX6 7 "RopedHallsModel" "s" "[I", .methodLink RX6 96 yX6_record, .instanceMethod yX6_record, .selects RX6 yX6_record yX6_record, .initialized RX6, .code yX6_record cX6_record 2 none, .fieldLink RX6 51 "RopedHallsModel" "kept" "I", .fieldLink RX6 16 "RopedHallsModel" "history" "[I"] ++ wsX60)
def wsX6_setRoom : List Cond := .code yX6_setRoom cX6_setRoom 3 (some .int) :: ([.fieldLink RX6 7 "RopedHallsModel" "s" "[I", .methodLink RX6 47 yX6_in, .static yX6_in, .initialized RX6, .code yX6_in cX6_in 3 (some .boolean), .methodLink RX6 99 yX6_lays, .instanceMethod yX6_lays, .selects RX6 yX6_lays yX6_lays, .code yX6_lays cX6_lays 4 (some .int), .methodLink RX6 96 yX6_record, .instanceMethod yX6_record, .selects RX6 yX6_record yX6_record, .code yX6_record cX6_record 2 none, .fieldLink RX6 51 "RopedHallsModel" "kept" "I", .fieldLink RX6 16 "RopedHallsModel" "history" "[I"] ++ wsX60)
def wsX6_ropes : List Cond := .code yX6_ropes cX6_ropes 3 (some .int) :: ([.fieldLink RX6 7 "RopedHallsModel" "s" "[I"] ++ wsX60)
def wsX6_isEdge : List Cond := .code yX6_isEdge cX6_isEdge 2 (some .boolean) :: ([.methodLink RX6 55 yX6_beside, .static yX6_beside, .initialized RX6, .code yX6_beside cX6_beside 2 (some .int)])
def wsX6_rope_r1 : List Cond := [Cond.fieldLink RX6 7 "RopedHallsModel" "s" "[I", Cond.methodLink RX6 102 yX6_isCell, Cond.static yX6_isCell, Cond.initialized RX6, Cond.code yX6_isCell cX6_isCell 1 (some .boolean), Cond.methodLink RX6 47 yX6_in, Cond.static yX6_in, Cond.code yX6_in cX6_in 3 (some .boolean), Cond.methodLink RX6 106 yX6_isEdge, Cond.static yX6_isEdge, Cond.code yX6_isEdge cX6_isEdge 2 (some .boolean), Cond.methodLink RX6 55 yX6_beside, Cond.static yX6_beside, Cond.code yX6_beside cX6_beside 2 (some .int), Cond.methodLink RX6 59 yX6_ropeAt, Cond.static yX6_ropeAt, Cond.code yX6_ropeAt cX6_ropeAt 2 (some .int), Cond.methodLink RX6 109 yX6_ropes, Cond.instanceMethod yX6_ropes, Cond.selects RX6 yX6_ropes yX6_ropes, Cond.code yX6_ropes cX6_ropes 3 (some .int), Cond.methodLink RX6 99 yX6_lays, Cond.instanceMethod yX6_lays, Cond.selects RX6 yX6_lays yX6_lays]
def wsX6_rope_r2 : List Cond := [Cond.code yX6_lays cX6_lays 4 (some .int), Cond.methodLink RX6 96 yX6_record, Cond.instanceMethod yX6_record, Cond.selects RX6 yX6_record yX6_record, Cond.code yX6_record cX6_record 2 none, Cond.fieldLink RX6 51 "RopedHallsModel" "kept" "I", Cond.fieldLink RX6 16 "RopedHallsModel" "history" "[I"]
def wsX6_rope : List Cond := .code yX6_rope cX6_rope 5 (some .int) :: ((wsX6_rope_r1 ++ wsX6_rope_r2) ++ wsX60)
def wsX6_door : List Cond := .code yX6_door cX6_door 5 (some .int) :: ([.fieldLink RX6 7 "RopedHallsModel" "s" "[I", .methodLink RX6 112 yX6_isDoor, .static yX6_isDoor, .initialized RX6, .code yX6_isDoor cX6_isDoor 1 (some .boolean), .methodLink RX6 47 yX6_in, .static yX6_in, .code yX6_in cX6_in 3 (some .boolean), .methodLink RX6 102 yX6_isCell, .static yX6_isCell, .code yX6_isCell cX6_isCell 1 (some .boolean), .methodLink RX6 99 yX6_lays, .instanceMethod yX6_lays, .selects RX6 yX6_lays yX6_lays, .code yX6_lays cX6_lays 4 (some .int), .methodLink RX6 96 yX6_record, .instanceMethod yX6_record, .selects RX6 yX6_record yX6_record, .code yX6_record cX6_record 2 none, .fieldLink RX6 51 "RopedHallsModel" "kept" "I", .fieldLink RX6 16 "RopedHallsModel" "history" "[I"] ++ wsX60)
def wsX6_openSet : List Cond := .code yX6_openSet cX6_openSet 1 (some .int) :: ([.fieldLink RX6 7 "RopedHallsModel" "s" "[I"] ++ wsX60)
def wsX6_openDoors : List Cond := .code yX6_openDoors cX6_openDoors 1 (some .int) :: ([.fieldLink RX6 7 "RopedHallsModel" "s" "[I"] ++ wsX60)
def wsX6_open : List Cond := .code yX6_open cX6_open 4 (some .int) :: ([.fieldLink RX6 7 "RopedHallsModel" "s" "[I", .methodLink RX6 112 yX6_isDoor, .static yX6_isDoor, .initialized RX6, .code yX6_isDoor cX6_isDoor 1 (some .boolean), .methodLink RX6 47 yX6_in, .static yX6_in, .code yX6_in cX6_in 3 (some .boolean), .methodLink RX6 99 yX6_lays, .instanceMethod yX6_lays, .selects RX6 yX6_lays yX6_lays, .code yX6_lays cX6_lays 4 (some .int), .methodLink RX6 96 yX6_record, .instanceMethod yX6_record, .selects RX6 yX6_record yX6_record, .code yX6_record cX6_record 2 none, .fieldLink RX6 51 "RopedHallsModel" "kept" "I", .fieldLink RX6 16 "RopedHallsModel" "history" "[I", .methodLink RX6 115 yX6_openDoors, .instanceMethod yX6_openDoors, .selects RX6 yX6_openDoors yX6_openDoors, .code yX6_openDoors cX6_openDoors 1 (some .int)] ++ wsX60)
def wsX6_guard_r1 : List Cond := [Cond.fieldLink RX6 32 "RopedHallsModel" "goals" "[I", Cond.methodLink RX6 102 yX6_isCell, Cond.static yX6_isCell, Cond.initialized RX6, Cond.code yX6_isCell cX6_isCell 1 (some .boolean), Cond.methodLink RX6 47 yX6_in, Cond.static yX6_in, Cond.code yX6_in cX6_in 3 (some .boolean), Cond.methodLink RX6 99 yX6_lays, Cond.instanceMethod yX6_lays, Cond.selects RX6 yX6_lays yX6_lays, Cond.code yX6_lays cX6_lays 4 (some .int), Cond.fieldLink RX6 7 "RopedHallsModel" "s" "[I", Cond.methodLink RX6 96 yX6_record, Cond.instanceMethod yX6_record, Cond.selects RX6 yX6_record yX6_record, Cond.code yX6_record cX6_record 2 none, Cond.fieldLink RX6 51 "RopedHallsModel" "kept" "I", Cond.fieldLink RX6 16 "RopedHallsModel" "history" "[I", Cond.methodLink RX6 118 yX6_layWays, Cond.instanceMethod yX6_layWays, Cond.selects RX6 yX6_layWays yX6_layWays, Cond.code yX6_layWays cX6_layWays 2 none, Cond.fieldLink RX6 35 "RopedHallsModel" "steps" "[I"]
def wsX6_guard_r2 : List Cond := [Cond.fieldLink RX6 29 "RopedHallsModel" "far" "[I", Cond.fieldLink RX6 38 "RopedHallsModel" "nexts" "[I", Cond.methodLink RX6 69 yX6_layFar, Cond.instanceMethod yX6_layFar, Cond.selects RX6 yX6_layFar yX6_layFar, Cond.code yX6_layFar cX6_layFar 6 none, Cond.methodLink RX6 62 yX6_isFree, Cond.instanceMethod yX6_isFree, Cond.selects RX6 yX6_isFree yX6_isFree, Cond.code yX6_isFree cX6_isFree 3 (some .boolean), Cond.methodLink RX6 55 yX6_beside, Cond.static yX6_beside, Cond.code yX6_beside cX6_beside 2 (some .int), Cond.methodLink RX6 59 yX6_ropeAt, Cond.static yX6_ropeAt, Cond.code yX6_ropeAt cX6_ropeAt 2 (some .int), Cond.methodLink RX6 73 yX6_goalOf, Cond.instanceMethod yX6_goalOf, Cond.selects RX6 yX6_goalOf yX6_goalOf, Cond.code yX6_goalOf cX6_goalOf 5 (some .int), Cond.methodLink RX6 66 yX6_leads, Cond.instanceMethod yX6_leads, Cond.selects RX6 yX6_leads yX6_leads, Cond.code yX6_leads cX6_leads 3 (some .boolean)]
def wsX6_guard_r3 : List Cond := [Cond.methodLink RX6 77 yX6_nextOf, Cond.instanceMethod yX6_nextOf, Cond.selects RX6 yX6_nextOf yX6_nextOf, Cond.code yX6_nextOf cX6_nextOf 5 (some .int)]
def wsX6_guard : List Cond := .code yX6_guard cX6_guard 4 (some .int) :: ((wsX6_guard_r1 ++ (wsX6_guard_r2 ++ wsX6_guard_r3)) ++ wsX60)
def wsX6_enter : List Cond := .code yX6_enter cX6_enter 3 (some .int) :: ([.fieldLink RX6 7 "RopedHallsModel" "s" "[I", .methodLink RX6 102 yX6_isCell, .static yX6_isCell, .initialized RX6, .code yX6_isCell cX6_isCell 1 (some .boolean), .methodLink RX6 47 yX6_in, .static yX6_in, .code yX6_in cX6_in 3 (some .boolean), .methodLink RX6 96 yX6_record, .instanceMethod yX6_record, .selects RX6 yX6_record yX6_record, .code yX6_record cX6_record 2 none, .fieldLink RX6 51 "RopedHallsModel" "kept" "I", .fieldLink RX6 16 "RopedHallsModel" "history" "[I"] ++ wsX60)
def wsX6_pass_r1 : List Cond := [Cond.fieldLink RX6 7 "RopedHallsModel" "s" "[I", Cond.methodLink RX6 47 yX6_in, Cond.static yX6_in, Cond.initialized RX6, Cond.code yX6_in cX6_in 3 (some .boolean), Cond.methodLink RX6 96 yX6_record, Cond.instanceMethod yX6_record, Cond.selects RX6 yX6_record yX6_record, Cond.code yX6_record cX6_record 2 none, Cond.fieldLink RX6 51 "RopedHallsModel" "kept" "I", Cond.fieldLink RX6 16 "RopedHallsModel" "history" "[I", Cond.methodLink RX6 118 yX6_layWays, Cond.instanceMethod yX6_layWays, Cond.selects RX6 yX6_layWays yX6_layWays, Cond.code yX6_layWays cX6_layWays 2 none, Cond.fieldLink RX6 32 "RopedHallsModel" "goals" "[I", Cond.fieldLink RX6 35 "RopedHallsModel" "steps" "[I", Cond.fieldLink RX6 29 "RopedHallsModel" "far" "[I", Cond.fieldLink RX6 38 "RopedHallsModel" "nexts" "[I", Cond.methodLink RX6 69 yX6_layFar, Cond.instanceMethod yX6_layFar, Cond.selects RX6 yX6_layFar yX6_layFar, Cond.code yX6_layFar cX6_layFar 6 none, Cond.methodLink RX6 62 yX6_isFree]
def wsX6_pass_r2 : List Cond := [Cond.instanceMethod yX6_isFree, Cond.selects RX6 yX6_isFree yX6_isFree, Cond.code yX6_isFree cX6_isFree 3 (some .boolean), Cond.methodLink RX6 55 yX6_beside, Cond.static yX6_beside, Cond.code yX6_beside cX6_beside 2 (some .int), Cond.methodLink RX6 59 yX6_ropeAt, Cond.static yX6_ropeAt, Cond.code yX6_ropeAt cX6_ropeAt 2 (some .int), Cond.methodLink RX6 73 yX6_goalOf, Cond.instanceMethod yX6_goalOf, Cond.selects RX6 yX6_goalOf yX6_goalOf, Cond.code yX6_goalOf cX6_goalOf 5 (some .int), Cond.methodLink RX6 66 yX6_leads, Cond.instanceMethod yX6_leads, Cond.selects RX6 yX6_leads yX6_leads, Cond.code yX6_leads cX6_leads 3 (some .boolean), Cond.methodLink RX6 77 yX6_nextOf, Cond.instanceMethod yX6_nextOf, Cond.selects RX6 yX6_nextOf yX6_nextOf, Cond.code yX6_nextOf cX6_nextOf 5 (some .int), Cond.methodLink RX6 121 yX6_out, Cond.instanceMethod yX6_out, Cond.selects RX6 yX6_out yX6_out]
def wsX6_pass_r3 : List Cond := [Cond.code yX6_out cX6_out 1 (some .int), Cond.methodLink RX6 93 yX6_minute, Cond.instanceMethod yX6_minute, Cond.selects RX6 yX6_minute yX6_minute, Cond.code yX6_minute cX6_minute 3 none, Cond.fieldLink RX6 41 "RopedHallsModel" "fresh" "[I", Cond.methodLink RX6 80 yX6_letsOut, Cond.instanceMethod yX6_letsOut, Cond.selects RX6 yX6_letsOut yX6_letsOut, Cond.code yX6_letsOut cX6_letsOut 4 none, Cond.methodLink RX6 83 yX6_goes, Cond.instanceMethod yX6_goes, Cond.selects RX6 yX6_goes yX6_goes, Cond.code yX6_goes cX6_goes 6 none]
def wsX6_pass : List Cond := .code yX6_pass cX6_pass 4 (some .int) :: ((wsX6_pass_r1 ++ (wsX6_pass_r2 ++ wsX6_pass_r3)) ++ wsX60)
def wsX6_ropesOf : List Cond := .code yX6_ropesOf cX6_ropesOf 4 (some .int) :: ([.methodLink RX6 124 yX6_hasRope, .instanceMethod yX6_hasRope, .selects RX6 yX6_hasRope yX6_hasRope, .initialized RX6, .code yX6_hasRope cX6_hasRope 3 (some .boolean), .fieldLink RX6 7 "RopedHallsModel" "s" "[I", .methodLink RX6 55 yX6_beside, .static yX6_beside, .code yX6_beside cX6_beside 2 (some .int), .methodLink RX6 59 yX6_ropeAt, .static yX6_ropeAt, .code yX6_ropeAt cX6_ropeAt 2 (some .int)] ++ wsX60)
def wsX6_cell_r1 : List Cond := [Cond.fieldLink RX6 7 "RopedHallsModel" "s" "[I", Cond.fieldLink RX6 32 "RopedHallsModel" "goals" "[I", Cond.fieldLink RX6 35 "RopedHallsModel" "steps" "[I", Cond.fieldLink RX6 38 "RopedHallsModel" "nexts" "[I", Cond.methodLink RX6 102 yX6_isCell, Cond.static yX6_isCell, Cond.initialized RX6, Cond.code yX6_isCell cX6_isCell 1 (some .boolean), Cond.methodLink RX6 47 yX6_in, Cond.static yX6_in, Cond.code yX6_in cX6_in 3 (some .boolean), Cond.methodLink RX6 118 yX6_layWays, Cond.instanceMethod yX6_layWays, Cond.selects RX6 yX6_layWays yX6_layWays, Cond.code yX6_layWays cX6_layWays 2 none, Cond.fieldLink RX6 29 "RopedHallsModel" "far" "[I", Cond.methodLink RX6 69 yX6_layFar, Cond.instanceMethod yX6_layFar, Cond.selects RX6 yX6_layFar yX6_layFar, Cond.code yX6_layFar cX6_layFar 6 none, Cond.methodLink RX6 62 yX6_isFree, Cond.instanceMethod yX6_isFree, Cond.selects RX6 yX6_isFree yX6_isFree, Cond.code yX6_isFree cX6_isFree 3 (some .boolean)]
def wsX6_cell_r2 : List Cond := [Cond.methodLink RX6 55 yX6_beside, Cond.static yX6_beside, Cond.code yX6_beside cX6_beside 2 (some .int), Cond.methodLink RX6 59 yX6_ropeAt, Cond.static yX6_ropeAt, Cond.code yX6_ropeAt cX6_ropeAt 2 (some .int), Cond.methodLink RX6 73 yX6_goalOf, Cond.instanceMethod yX6_goalOf, Cond.selects RX6 yX6_goalOf yX6_goalOf, Cond.code yX6_goalOf cX6_goalOf 5 (some .int), Cond.methodLink RX6 66 yX6_leads, Cond.instanceMethod yX6_leads, Cond.selects RX6 yX6_leads yX6_leads, Cond.code yX6_leads cX6_leads 3 (some .boolean), Cond.methodLink RX6 77 yX6_nextOf, Cond.instanceMethod yX6_nextOf, Cond.selects RX6 yX6_nextOf yX6_nextOf, Cond.code yX6_nextOf cX6_nextOf 5 (some .int), Cond.methodLink RX6 127 yX6_ropesOf, Cond.instanceMethod yX6_ropesOf, Cond.selects RX6 yX6_ropesOf yX6_ropesOf, Cond.code yX6_ropesOf cX6_ropesOf 4 (some .int), Cond.methodLink RX6 124 yX6_hasRope, Cond.instanceMethod yX6_hasRope]
def wsX6_cell_r3 : List Cond := [Cond.selects RX6 yX6_hasRope yX6_hasRope, Cond.code yX6_hasRope cX6_hasRope 3 (some .boolean)]
def wsX6_cell : List Cond := .code yX6_cell cX6_cell 3 (some .int) :: ((wsX6_cell_r1 ++ (wsX6_cell_r2 ++ wsX6_cell_r3)) ++ wsX60)
def wsX6_goalOfMany_r1 : List Cond := [Cond.fieldLink RX6 32 "RopedHallsModel" "goals" "[I", Cond.fieldLink RX6 7 "RopedHallsModel" "s" "[I", Cond.methodLink RX6 118 yX6_layWays, Cond.instanceMethod yX6_layWays, Cond.selects RX6 yX6_layWays yX6_layWays, Cond.initialized RX6, Cond.code yX6_layWays cX6_layWays 2 none, Cond.fieldLink RX6 35 "RopedHallsModel" "steps" "[I", Cond.fieldLink RX6 29 "RopedHallsModel" "far" "[I", Cond.fieldLink RX6 38 "RopedHallsModel" "nexts" "[I", Cond.methodLink RX6 69 yX6_layFar, Cond.instanceMethod yX6_layFar, Cond.selects RX6 yX6_layFar yX6_layFar, Cond.code yX6_layFar cX6_layFar 6 none, Cond.methodLink RX6 62 yX6_isFree, Cond.instanceMethod yX6_isFree, Cond.selects RX6 yX6_isFree yX6_isFree, Cond.code yX6_isFree cX6_isFree 3 (some .boolean), Cond.methodLink RX6 55 yX6_beside, Cond.static yX6_beside, Cond.code yX6_beside cX6_beside 2 (some .int), Cond.methodLink RX6 59 yX6_ropeAt, Cond.static yX6_ropeAt, Cond.code yX6_ropeAt cX6_ropeAt 2 (some .int)]
def wsX6_goalOfMany_r2 : List Cond := [Cond.methodLink RX6 73 yX6_goalOf, Cond.instanceMethod yX6_goalOf, Cond.selects RX6 yX6_goalOf yX6_goalOf, Cond.code yX6_goalOf cX6_goalOf 5 (some .int), Cond.methodLink RX6 66 yX6_leads, Cond.instanceMethod yX6_leads, Cond.selects RX6 yX6_leads yX6_leads, Cond.code yX6_leads cX6_leads 3 (some .boolean), Cond.methodLink RX6 77 yX6_nextOf, Cond.instanceMethod yX6_nextOf, Cond.selects RX6 yX6_nextOf yX6_nextOf, Cond.code yX6_nextOf cX6_nextOf 5 (some .int)]
def wsX6_goalOfMany : List Cond := .code yX6_goalOfMany cX6_goalOfMany 5 (some .int) :: ((wsX6_goalOfMany_r1 ++ wsX6_goalOfMany_r2) ++ wsX60)
def wsX6_doorOf_r1 : List Cond := [Cond.fieldLink RX6 7 "RopedHallsModel" "s" "[I", Cond.methodLink RX6 112 yX6_isDoor, Cond.static yX6_isDoor, Cond.initialized RX6, Cond.code yX6_isDoor cX6_isDoor 1 (some .boolean), Cond.methodLink RX6 47 yX6_in, Cond.static yX6_in, Cond.code yX6_in cX6_in 3 (some .boolean), Cond.methodLink RX6 130 yX6_goalOfMany, Cond.instanceMethod yX6_goalOfMany, Cond.selects RX6 yX6_goalOfMany yX6_goalOfMany, Cond.code yX6_goalOfMany cX6_goalOfMany 5 (some .int), Cond.fieldLink RX6 32 "RopedHallsModel" "goals" "[I", Cond.methodLink RX6 118 yX6_layWays, Cond.instanceMethod yX6_layWays, Cond.selects RX6 yX6_layWays yX6_layWays, Cond.code yX6_layWays cX6_layWays 2 none, Cond.fieldLink RX6 35 "RopedHallsModel" "steps" "[I", Cond.fieldLink RX6 29 "RopedHallsModel" "far" "[I", Cond.fieldLink RX6 38 "RopedHallsModel" "nexts" "[I", Cond.methodLink RX6 69 yX6_layFar, Cond.instanceMethod yX6_layFar, Cond.selects RX6 yX6_layFar yX6_layFar, Cond.code yX6_layFar cX6_layFar 6 none]
def wsX6_doorOf_r2 : List Cond := [Cond.methodLink RX6 62 yX6_isFree, Cond.instanceMethod yX6_isFree, Cond.selects RX6 yX6_isFree yX6_isFree, Cond.code yX6_isFree cX6_isFree 3 (some .boolean), Cond.methodLink RX6 55 yX6_beside, Cond.static yX6_beside, Cond.code yX6_beside cX6_beside 2 (some .int), Cond.methodLink RX6 59 yX6_ropeAt, Cond.static yX6_ropeAt, Cond.code yX6_ropeAt cX6_ropeAt 2 (some .int), Cond.methodLink RX6 73 yX6_goalOf, Cond.instanceMethod yX6_goalOf, Cond.selects RX6 yX6_goalOf yX6_goalOf, Cond.code yX6_goalOf cX6_goalOf 5 (some .int), Cond.methodLink RX6 66 yX6_leads, Cond.instanceMethod yX6_leads, Cond.selects RX6 yX6_leads yX6_leads, Cond.code yX6_leads cX6_leads 3 (some .boolean), Cond.methodLink RX6 77 yX6_nextOf, Cond.instanceMethod yX6_nextOf, Cond.selects RX6 yX6_nextOf yX6_nextOf, Cond.code yX6_nextOf cX6_nextOf 5 (some .int)]
def wsX6_doorOf : List Cond := .code yX6_doorOf cX6_doorOf 3 (some .int) :: ((wsX6_doorOf_r1 ++ wsX6_doorOf_r2) ++ wsX60)
def wsX6_uneven : List Cond := .code yX6_uneven cX6_uneven 4 (some .int) :: ([.fieldLink RX6 7 "RopedHallsModel" "s" "[I"] ++ wsX60)
def wsX6_guards : List Cond := .code yX6_guards cX6_guards 3 (some .int) :: ([.fieldLink RX6 7 "RopedHallsModel" "s" "[I"] ++ wsX60)
def wsX6_count_r1 : List Cond := [Cond.fieldLink RX6 7 "RopedHallsModel" "s" "[I", Cond.fieldLink RX6 143 "RopedHallsModel" "length" "I", Cond.fieldLink RX6 51 "RopedHallsModel" "kept" "I", Cond.methodLink RX6 86 yX6_people, Cond.instanceMethod yX6_people, Cond.selects RX6 yX6_people yX6_people, Cond.initialized RX6, Cond.code yX6_people cX6_people 3 (some .int), Cond.methodLink RX6 121 yX6_out, Cond.instanceMethod yX6_out, Cond.selects RX6 yX6_out yX6_out, Cond.code yX6_out cX6_out 1 (some .int), Cond.methodLink RX6 109 yX6_ropes, Cond.instanceMethod yX6_ropes, Cond.selects RX6 yX6_ropes yX6_ropes, Cond.code yX6_ropes cX6_ropes 3 (some .int), Cond.methodLink RX6 134 yX6_openSet, Cond.instanceMethod yX6_openSet, Cond.selects RX6 yX6_openSet yX6_openSet, Cond.code yX6_openSet cX6_openSet 1 (some .int), Cond.methodLink RX6 118 yX6_layWays, Cond.instanceMethod yX6_layWays, Cond.selects RX6 yX6_layWays yX6_layWays, Cond.code yX6_layWays cX6_layWays 2 none]
def wsX6_count_r2 : List Cond := [Cond.fieldLink RX6 32 "RopedHallsModel" "goals" "[I", Cond.fieldLink RX6 35 "RopedHallsModel" "steps" "[I", Cond.fieldLink RX6 29 "RopedHallsModel" "far" "[I", Cond.fieldLink RX6 38 "RopedHallsModel" "nexts" "[I", Cond.methodLink RX6 69 yX6_layFar, Cond.instanceMethod yX6_layFar, Cond.selects RX6 yX6_layFar yX6_layFar, Cond.code yX6_layFar cX6_layFar 6 none, Cond.methodLink RX6 62 yX6_isFree, Cond.instanceMethod yX6_isFree, Cond.selects RX6 yX6_isFree yX6_isFree, Cond.code yX6_isFree cX6_isFree 3 (some .boolean), Cond.methodLink RX6 55 yX6_beside, Cond.static yX6_beside, Cond.code yX6_beside cX6_beside 2 (some .int), Cond.methodLink RX6 59 yX6_ropeAt, Cond.static yX6_ropeAt, Cond.code yX6_ropeAt cX6_ropeAt 2 (some .int), Cond.methodLink RX6 73 yX6_goalOf, Cond.instanceMethod yX6_goalOf, Cond.selects RX6 yX6_goalOf yX6_goalOf, Cond.code yX6_goalOf cX6_goalOf 5 (some .int), Cond.methodLink RX6 66 yX6_leads, Cond.instanceMethod yX6_leads]
def wsX6_count_r3 : List Cond := [Cond.selects RX6 yX6_leads yX6_leads, Cond.code yX6_leads cX6_leads 3 (some .boolean), Cond.methodLink RX6 77 yX6_nextOf, Cond.instanceMethod yX6_nextOf, Cond.selects RX6 yX6_nextOf yX6_nextOf, Cond.code yX6_nextOf cX6_nextOf 5 (some .int), Cond.methodLink RX6 90 yX6_shutIn, Cond.instanceMethod yX6_shutIn, Cond.selects RX6 yX6_shutIn yX6_shutIn, Cond.code yX6_shutIn cX6_shutIn 3 (some .int), Cond.methodLink RX6 137 yX6_uneven, Cond.instanceMethod yX6_uneven, Cond.selects RX6 yX6_uneven yX6_uneven, Cond.code yX6_uneven cX6_uneven 4 (some .int), Cond.methodLink RX6 140 yX6_guards, Cond.instanceMethod yX6_guards, Cond.selects RX6 yX6_guards yX6_guards, Cond.code yX6_guards cX6_guards 3 (some .int)]
def wsX6_count : List Cond := .code yX6_count cX6_count 2 (some .int) :: ((wsX6_count_r1 ++ (wsX6_count_r2 ++ wsX6_count_r3)) ++ wsX60)
def wsX6_distance_r1 : List Cond := [Cond.fieldLink RX6 29 "RopedHallsModel" "far" "[I", Cond.methodLink RX6 102 yX6_isCell, Cond.static yX6_isCell, Cond.initialized RX6, Cond.code yX6_isCell cX6_isCell 1 (some .boolean), Cond.methodLink RX6 47 yX6_in, Cond.static yX6_in, Cond.code yX6_in cX6_in 3 (some .boolean), Cond.methodLink RX6 112 yX6_isDoor, Cond.static yX6_isDoor, Cond.code yX6_isDoor cX6_isDoor 1 (some .boolean), Cond.methodLink RX6 69 yX6_layFar, Cond.instanceMethod yX6_layFar, Cond.selects RX6 yX6_layFar yX6_layFar, Cond.code yX6_layFar cX6_layFar 6 none, Cond.fieldLink RX6 7 "RopedHallsModel" "s" "[I", Cond.methodLink RX6 62 yX6_isFree, Cond.instanceMethod yX6_isFree, Cond.selects RX6 yX6_isFree yX6_isFree, Cond.code yX6_isFree cX6_isFree 3 (some .boolean), Cond.methodLink RX6 55 yX6_beside, Cond.static yX6_beside, Cond.code yX6_beside cX6_beside 2 (some .int), Cond.methodLink RX6 59 yX6_ropeAt]
def wsX6_distance_r2 : List Cond := [Cond.static yX6_ropeAt, Cond.code yX6_ropeAt cX6_ropeAt 2 (some .int)]
def wsX6_distance : List Cond := .code yX6_distance cX6_distance 3 (some .int) :: ((wsX6_distance_r1 ++ wsX6_distance_r2) ++ wsX60)
def wsX6_untilOut_r1 : List Cond := [Cond.methodLink RX6 146 yX6_putAside, Cond.instanceMethod yX6_putAside, Cond.selects RX6 yX6_putAside yX6_putAside, Cond.initialized RX6, Cond.code yX6_putAside cX6_putAside 2 none, Cond.fieldLink RX6 13 "RopedHallsModel" "aside" "[I", Cond.fieldLink RX6 7 "RopedHallsModel" "s" "[I", Cond.methodLink RX6 118 yX6_layWays, Cond.instanceMethod yX6_layWays, Cond.selects RX6 yX6_layWays yX6_layWays, Cond.code yX6_layWays cX6_layWays 2 none, Cond.fieldLink RX6 32 "RopedHallsModel" "goals" "[I", Cond.fieldLink RX6 35 "RopedHallsModel" "steps" "[I", Cond.fieldLink RX6 29 "RopedHallsModel" "far" "[I", Cond.fieldLink RX6 38 "RopedHallsModel" "nexts" "[I", Cond.methodLink RX6 69 yX6_layFar, Cond.instanceMethod yX6_layFar, Cond.selects RX6 yX6_layFar yX6_layFar, Cond.code yX6_layFar cX6_layFar 6 none, Cond.methodLink RX6 62 yX6_isFree, Cond.instanceMethod yX6_isFree, Cond.selects RX6 yX6_isFree yX6_isFree, Cond.code yX6_isFree cX6_isFree 3 (some .boolean), Cond.methodLink RX6 55 yX6_beside]
def wsX6_untilOut_r2 : List Cond := [Cond.static yX6_beside, Cond.code yX6_beside cX6_beside 2 (some .int), Cond.methodLink RX6 59 yX6_ropeAt, Cond.static yX6_ropeAt, Cond.code yX6_ropeAt cX6_ropeAt 2 (some .int), Cond.methodLink RX6 73 yX6_goalOf, Cond.instanceMethod yX6_goalOf, Cond.selects RX6 yX6_goalOf yX6_goalOf, Cond.code yX6_goalOf cX6_goalOf 5 (some .int), Cond.methodLink RX6 66 yX6_leads, Cond.instanceMethod yX6_leads, Cond.selects RX6 yX6_leads yX6_leads, Cond.code yX6_leads cX6_leads 3 (some .boolean), Cond.methodLink RX6 77 yX6_nextOf, Cond.instanceMethod yX6_nextOf, Cond.selects RX6 yX6_nextOf yX6_nextOf, Cond.code yX6_nextOf cX6_nextOf 5 (some .int), Cond.methodLink RX6 149 yX6_emptied, Cond.instanceMethod yX6_emptied, Cond.selects RX6 yX6_emptied yX6_emptied, Cond.code yX6_emptied cX6_emptied 2 (some .int), Cond.methodLink RX6 86 yX6_people, Cond.instanceMethod yX6_people, Cond.selects RX6 yX6_people yX6_people]
def wsX6_untilOut_r3 : List Cond := [Cond.code yX6_people cX6_people 3 (some .int), Cond.methodLink RX6 90 yX6_shutIn, Cond.instanceMethod yX6_shutIn, Cond.selects RX6 yX6_shutIn yX6_shutIn, Cond.code yX6_shutIn cX6_shutIn 3 (some .int), Cond.methodLink RX6 93 yX6_minute, Cond.instanceMethod yX6_minute, Cond.selects RX6 yX6_minute yX6_minute, Cond.code yX6_minute cX6_minute 3 none, Cond.fieldLink RX6 41 "RopedHallsModel" "fresh" "[I", Cond.methodLink RX6 80 yX6_letsOut, Cond.instanceMethod yX6_letsOut, Cond.selects RX6 yX6_letsOut yX6_letsOut, Cond.code yX6_letsOut cX6_letsOut 4 none, Cond.methodLink RX6 83 yX6_goes, Cond.instanceMethod yX6_goes, Cond.selects RX6 yX6_goes yX6_goes, Cond.code yX6_goes cX6_goes 6 none, Cond.methodLink RX6 152 yX6_putBack, Cond.instanceMethod yX6_putBack, Cond.selects RX6 yX6_putBack yX6_putBack, Cond.code yX6_putBack cX6_putBack 2 none]
def wsX6_untilOut : List Cond := .code yX6_untilOut cX6_untilOut 2 (some .int) :: ((wsX6_untilOut_r1 ++ (wsX6_untilOut_r2 ++ wsX6_untilOut_r3)) ++ wsX60)
def wsX6_tries_r1 : List Cond := [Cond.fieldLink RX6 7 "RopedHallsModel" "s" "[I", Cond.fieldLink RX6 44 "RopedHallsModel" "tried" "[I", Cond.methodLink RX6 146 yX6_putAside, Cond.instanceMethod yX6_putAside, Cond.selects RX6 yX6_putAside yX6_putAside, Cond.initialized RX6, Cond.code yX6_putAside cX6_putAside 2 none, Cond.fieldLink RX6 13 "RopedHallsModel" "aside" "[I", Cond.methodLink RX6 59 yX6_ropeAt, Cond.static yX6_ropeAt, Cond.code yX6_ropeAt cX6_ropeAt 2 (some .int), Cond.methodLink RX6 118 yX6_layWays, Cond.instanceMethod yX6_layWays, Cond.selects RX6 yX6_layWays yX6_layWays, Cond.code yX6_layWays cX6_layWays 2 none, Cond.fieldLink RX6 32 "RopedHallsModel" "goals" "[I", Cond.fieldLink RX6 35 "RopedHallsModel" "steps" "[I", Cond.fieldLink RX6 29 "RopedHallsModel" "far" "[I", Cond.fieldLink RX6 38 "RopedHallsModel" "nexts" "[I", Cond.methodLink RX6 69 yX6_layFar, Cond.instanceMethod yX6_layFar, Cond.selects RX6 yX6_layFar yX6_layFar, Cond.code yX6_layFar cX6_layFar 6 none, Cond.methodLink RX6 62 yX6_isFree]
def wsX6_tries_r2 : List Cond := [Cond.instanceMethod yX6_isFree, Cond.selects RX6 yX6_isFree yX6_isFree, Cond.code yX6_isFree cX6_isFree 3 (some .boolean), Cond.methodLink RX6 55 yX6_beside, Cond.static yX6_beside, Cond.code yX6_beside cX6_beside 2 (some .int), Cond.methodLink RX6 73 yX6_goalOf, Cond.instanceMethod yX6_goalOf, Cond.selects RX6 yX6_goalOf yX6_goalOf, Cond.code yX6_goalOf cX6_goalOf 5 (some .int), Cond.methodLink RX6 66 yX6_leads, Cond.instanceMethod yX6_leads, Cond.selects RX6 yX6_leads yX6_leads, Cond.code yX6_leads cX6_leads 3 (some .boolean), Cond.methodLink RX6 77 yX6_nextOf, Cond.instanceMethod yX6_nextOf, Cond.selects RX6 yX6_nextOf yX6_nextOf, Cond.code yX6_nextOf cX6_nextOf 5 (some .int), Cond.methodLink RX6 90 yX6_shutIn, Cond.instanceMethod yX6_shutIn, Cond.selects RX6 yX6_shutIn yX6_shutIn, Cond.code yX6_shutIn cX6_shutIn 3 (some .int), Cond.methodLink RX6 149 yX6_emptied, Cond.instanceMethod yX6_emptied]
def wsX6_tries_r3 : List Cond := [Cond.selects RX6 yX6_emptied yX6_emptied, Cond.code yX6_emptied cX6_emptied 2 (some .int), Cond.methodLink RX6 86 yX6_people, Cond.instanceMethod yX6_people, Cond.selects RX6 yX6_people yX6_people, Cond.code yX6_people cX6_people 3 (some .int), Cond.methodLink RX6 93 yX6_minute, Cond.instanceMethod yX6_minute, Cond.selects RX6 yX6_minute yX6_minute, Cond.code yX6_minute cX6_minute 3 none, Cond.fieldLink RX6 41 "RopedHallsModel" "fresh" "[I", Cond.methodLink RX6 80 yX6_letsOut, Cond.instanceMethod yX6_letsOut, Cond.selects RX6 yX6_letsOut yX6_letsOut, Cond.code yX6_letsOut cX6_letsOut 4 none, Cond.methodLink RX6 83 yX6_goes, Cond.instanceMethod yX6_goes, Cond.selects RX6 yX6_goes yX6_goes, Cond.code yX6_goes cX6_goes 6 none, Cond.methodLink RX6 137 yX6_uneven, Cond.instanceMethod yX6_uneven, Cond.selects RX6 yX6_uneven yX6_uneven, Cond.code yX6_uneven cX6_uneven 4 (some .int), Cond.methodLink RX6 152 yX6_putBack]
def wsX6_tries_r4 : List Cond := [Cond.instanceMethod yX6_putBack, Cond.selects RX6 yX6_putBack yX6_putBack, Cond.code yX6_putBack cX6_putBack 2 none]
def wsX6_tries : List Cond := .code yX6_tries cX6_tries 3 none :: ((wsX6_tries_r1 ++ (wsX6_tries_r2 ++ (wsX6_tries_r3 ++ wsX6_tries_r4))) ++ wsX60)
def wsX6_ifRope_r1 : List Cond := [Cond.fieldLink RX6 44 "RopedHallsModel" "tried" "[I", Cond.methodLink RX6 102 yX6_isCell, Cond.static yX6_isCell, Cond.initialized RX6, Cond.code yX6_isCell cX6_isCell 1 (some .boolean), Cond.methodLink RX6 47 yX6_in, Cond.static yX6_in, Cond.code yX6_in cX6_in 3 (some .boolean), Cond.methodLink RX6 106 yX6_isEdge, Cond.static yX6_isEdge, Cond.code yX6_isEdge cX6_isEdge 2 (some .boolean), Cond.methodLink RX6 55 yX6_beside, Cond.static yX6_beside, Cond.code yX6_beside cX6_beside 2 (some .int), Cond.methodLink RX6 155 yX6_tries, Cond.instanceMethod yX6_tries, Cond.selects RX6 yX6_tries yX6_tries, Cond.code yX6_tries cX6_tries 3 none, Cond.fieldLink RX6 7 "RopedHallsModel" "s" "[I", Cond.methodLink RX6 146 yX6_putAside, Cond.instanceMethod yX6_putAside, Cond.selects RX6 yX6_putAside yX6_putAside, Cond.code yX6_putAside cX6_putAside 2 none, Cond.fieldLink RX6 13 "RopedHallsModel" "aside" "[I"]
def wsX6_ifRope_r2 : List Cond := [Cond.methodLink RX6 59 yX6_ropeAt, Cond.static yX6_ropeAt, Cond.code yX6_ropeAt cX6_ropeAt 2 (some .int), Cond.methodLink RX6 118 yX6_layWays, Cond.instanceMethod yX6_layWays, Cond.selects RX6 yX6_layWays yX6_layWays, Cond.code yX6_layWays cX6_layWays 2 none, Cond.fieldLink RX6 32 "RopedHallsModel" "goals" "[I", Cond.fieldLink RX6 35 "RopedHallsModel" "steps" "[I", Cond.fieldLink RX6 29 "RopedHallsModel" "far" "[I", Cond.fieldLink RX6 38 "RopedHallsModel" "nexts" "[I", Cond.methodLink RX6 69 yX6_layFar, Cond.instanceMethod yX6_layFar, Cond.selects RX6 yX6_layFar yX6_layFar, Cond.code yX6_layFar cX6_layFar 6 none, Cond.methodLink RX6 62 yX6_isFree, Cond.instanceMethod yX6_isFree, Cond.selects RX6 yX6_isFree yX6_isFree, Cond.code yX6_isFree cX6_isFree 3 (some .boolean), Cond.methodLink RX6 73 yX6_goalOf, Cond.instanceMethod yX6_goalOf, Cond.selects RX6 yX6_goalOf yX6_goalOf, Cond.code yX6_goalOf cX6_goalOf 5 (some .int), Cond.methodLink RX6 66 yX6_leads]
def wsX6_ifRope_r3 : List Cond := [Cond.instanceMethod yX6_leads, Cond.selects RX6 yX6_leads yX6_leads, Cond.code yX6_leads cX6_leads 3 (some .boolean), Cond.methodLink RX6 77 yX6_nextOf, Cond.instanceMethod yX6_nextOf, Cond.selects RX6 yX6_nextOf yX6_nextOf, Cond.code yX6_nextOf cX6_nextOf 5 (some .int), Cond.methodLink RX6 90 yX6_shutIn, Cond.instanceMethod yX6_shutIn, Cond.selects RX6 yX6_shutIn yX6_shutIn, Cond.code yX6_shutIn cX6_shutIn 3 (some .int), Cond.methodLink RX6 149 yX6_emptied, Cond.instanceMethod yX6_emptied, Cond.selects RX6 yX6_emptied yX6_emptied, Cond.code yX6_emptied cX6_emptied 2 (some .int), Cond.methodLink RX6 86 yX6_people, Cond.instanceMethod yX6_people, Cond.selects RX6 yX6_people yX6_people, Cond.code yX6_people cX6_people 3 (some .int), Cond.methodLink RX6 93 yX6_minute, Cond.instanceMethod yX6_minute, Cond.selects RX6 yX6_minute yX6_minute, Cond.code yX6_minute cX6_minute 3 none, Cond.fieldLink RX6 41 "RopedHallsModel" "fresh" "[I"]
def wsX6_ifRope_r4 : List Cond := [Cond.methodLink RX6 80 yX6_letsOut, Cond.instanceMethod yX6_letsOut, Cond.selects RX6 yX6_letsOut yX6_letsOut, Cond.code yX6_letsOut cX6_letsOut 4 none, Cond.methodLink RX6 83 yX6_goes, Cond.instanceMethod yX6_goes, Cond.selects RX6 yX6_goes yX6_goes, Cond.code yX6_goes cX6_goes 6 none, Cond.methodLink RX6 137 yX6_uneven, Cond.instanceMethod yX6_uneven, Cond.selects RX6 yX6_uneven yX6_uneven, Cond.code yX6_uneven cX6_uneven 4 (some .int), Cond.methodLink RX6 152 yX6_putBack, Cond.instanceMethod yX6_putBack, Cond.selects RX6 yX6_putBack yX6_putBack, Cond.code yX6_putBack cX6_putBack 2 none]
def wsX6_ifRope : List Cond := .code yX6_ifRope cX6_ifRope 4 (some .int) :: ((wsX6_ifRope_r1 ++ (wsX6_ifRope_r2 ++ (wsX6_ifRope_r3 ++ wsX6_ifRope_r4))) ++ wsX60)
def wsX6_bestRope_r1 : List Cond := [Cond.fieldLink RX6 7 "RopedHallsModel" "s" "[I", Cond.fieldLink RX6 44 "RopedHallsModel" "tried" "[I", Cond.methodLink RX6 47 yX6_in, Cond.static yX6_in, Cond.initialized RX6, Cond.code yX6_in cX6_in 3 (some .boolean), Cond.methodLink RX6 118 yX6_layWays, Cond.instanceMethod yX6_layWays, Cond.selects RX6 yX6_layWays yX6_layWays, Cond.code yX6_layWays cX6_layWays 2 none, Cond.fieldLink RX6 32 "RopedHallsModel" "goals" "[I", Cond.fieldLink RX6 35 "RopedHallsModel" "steps" "[I", Cond.fieldLink RX6 29 "RopedHallsModel" "far" "[I", Cond.fieldLink RX6 38 "RopedHallsModel" "nexts" "[I", Cond.methodLink RX6 69 yX6_layFar, Cond.instanceMethod yX6_layFar, Cond.selects RX6 yX6_layFar yX6_layFar, Cond.code yX6_layFar cX6_layFar 6 none, Cond.methodLink RX6 62 yX6_isFree, Cond.instanceMethod yX6_isFree, Cond.selects RX6 yX6_isFree yX6_isFree, Cond.code yX6_isFree cX6_isFree 3 (some .boolean), Cond.methodLink RX6 55 yX6_beside, Cond.static yX6_beside]
def wsX6_bestRope_r2 : List Cond := [Cond.code yX6_beside cX6_beside 2 (some .int), Cond.methodLink RX6 59 yX6_ropeAt, Cond.static yX6_ropeAt, Cond.code yX6_ropeAt cX6_ropeAt 2 (some .int), Cond.methodLink RX6 73 yX6_goalOf, Cond.instanceMethod yX6_goalOf, Cond.selects RX6 yX6_goalOf yX6_goalOf, Cond.code yX6_goalOf cX6_goalOf 5 (some .int), Cond.methodLink RX6 66 yX6_leads, Cond.instanceMethod yX6_leads, Cond.selects RX6 yX6_leads yX6_leads, Cond.code yX6_leads cX6_leads 3 (some .boolean), Cond.methodLink RX6 77 yX6_nextOf, Cond.instanceMethod yX6_nextOf, Cond.selects RX6 yX6_nextOf yX6_nextOf, Cond.code yX6_nextOf cX6_nextOf 5 (some .int), Cond.methodLink RX6 90 yX6_shutIn, Cond.instanceMethod yX6_shutIn, Cond.selects RX6 yX6_shutIn yX6_shutIn, Cond.code yX6_shutIn cX6_shutIn 3 (some .int), Cond.methodLink RX6 106 yX6_isEdge, Cond.static yX6_isEdge, Cond.code yX6_isEdge cX6_isEdge 2 (some .boolean), Cond.methodLink RX6 155 yX6_tries]
def wsX6_bestRope_r3 : List Cond := [Cond.instanceMethod yX6_tries, Cond.selects RX6 yX6_tries yX6_tries, Cond.code yX6_tries cX6_tries 3 none, Cond.methodLink RX6 146 yX6_putAside, Cond.instanceMethod yX6_putAside, Cond.selects RX6 yX6_putAside yX6_putAside, Cond.code yX6_putAside cX6_putAside 2 none, Cond.fieldLink RX6 13 "RopedHallsModel" "aside" "[I", Cond.methodLink RX6 149 yX6_emptied, Cond.instanceMethod yX6_emptied, Cond.selects RX6 yX6_emptied yX6_emptied, Cond.code yX6_emptied cX6_emptied 2 (some .int), Cond.methodLink RX6 86 yX6_people, Cond.instanceMethod yX6_people, Cond.selects RX6 yX6_people yX6_people, Cond.code yX6_people cX6_people 3 (some .int), Cond.methodLink RX6 93 yX6_minute, Cond.instanceMethod yX6_minute, Cond.selects RX6 yX6_minute yX6_minute, Cond.code yX6_minute cX6_minute 3 none, Cond.fieldLink RX6 41 "RopedHallsModel" "fresh" "[I", Cond.methodLink RX6 80 yX6_letsOut, Cond.instanceMethod yX6_letsOut, Cond.selects RX6 yX6_letsOut yX6_letsOut]
def wsX6_bestRope_r4 : List Cond := [Cond.code yX6_letsOut cX6_letsOut 4 none, Cond.methodLink RX6 83 yX6_goes, Cond.instanceMethod yX6_goes, Cond.selects RX6 yX6_goes yX6_goes, Cond.code yX6_goes cX6_goes 6 none, Cond.methodLink RX6 137 yX6_uneven, Cond.instanceMethod yX6_uneven, Cond.selects RX6 yX6_uneven yX6_uneven, Cond.code yX6_uneven cX6_uneven 4 (some .int), Cond.methodLink RX6 152 yX6_putBack, Cond.instanceMethod yX6_putBack, Cond.selects RX6 yX6_putBack yX6_putBack, Cond.code yX6_putBack cX6_putBack 2 none]
def wsX6_bestRope : List Cond := .code yX6_bestRope cX6_bestRope 9 (some .int) :: ((wsX6_bestRope_r1 ++ (wsX6_bestRope_r2 ++ (wsX6_bestRope_r3 ++ wsX6_bestRope_r4))) ++ wsX60)
def wsX6_waiting_r1 : List Cond := [Cond.fieldLink RX6 7 "RopedHallsModel" "s" "[I", Cond.methodLink RX6 146 yX6_putAside, Cond.instanceMethod yX6_putAside, Cond.selects RX6 yX6_putAside yX6_putAside, Cond.initialized RX6, Cond.code yX6_putAside cX6_putAside 2 none, Cond.fieldLink RX6 13 "RopedHallsModel" "aside" "[I", Cond.methodLink RX6 118 yX6_layWays, Cond.instanceMethod yX6_layWays, Cond.selects RX6 yX6_layWays yX6_layWays, Cond.code yX6_layWays cX6_layWays 2 none, Cond.fieldLink RX6 32 "RopedHallsModel" "goals" "[I", Cond.fieldLink RX6 35 "RopedHallsModel" "steps" "[I", Cond.fieldLink RX6 29 "RopedHallsModel" "far" "[I", Cond.fieldLink RX6 38 "RopedHallsModel" "nexts" "[I", Cond.methodLink RX6 69 yX6_layFar, Cond.instanceMethod yX6_layFar, Cond.selects RX6 yX6_layFar yX6_layFar, Cond.code yX6_layFar cX6_layFar 6 none, Cond.methodLink RX6 62 yX6_isFree, Cond.instanceMethod yX6_isFree, Cond.selects RX6 yX6_isFree yX6_isFree, Cond.code yX6_isFree cX6_isFree 3 (some .boolean), Cond.methodLink RX6 55 yX6_beside]
def wsX6_waiting_r2 : List Cond := [Cond.static yX6_beside, Cond.code yX6_beside cX6_beside 2 (some .int), Cond.methodLink RX6 59 yX6_ropeAt, Cond.static yX6_ropeAt, Cond.code yX6_ropeAt cX6_ropeAt 2 (some .int), Cond.methodLink RX6 73 yX6_goalOf, Cond.instanceMethod yX6_goalOf, Cond.selects RX6 yX6_goalOf yX6_goalOf, Cond.code yX6_goalOf cX6_goalOf 5 (some .int), Cond.methodLink RX6 66 yX6_leads, Cond.instanceMethod yX6_leads, Cond.selects RX6 yX6_leads yX6_leads, Cond.code yX6_leads cX6_leads 3 (some .boolean), Cond.methodLink RX6 77 yX6_nextOf, Cond.instanceMethod yX6_nextOf, Cond.selects RX6 yX6_nextOf yX6_nextOf, Cond.code yX6_nextOf cX6_nextOf 5 (some .int), Cond.methodLink RX6 149 yX6_emptied, Cond.instanceMethod yX6_emptied, Cond.selects RX6 yX6_emptied yX6_emptied, Cond.code yX6_emptied cX6_emptied 2 (some .int), Cond.methodLink RX6 86 yX6_people, Cond.instanceMethod yX6_people, Cond.selects RX6 yX6_people yX6_people]
def wsX6_waiting_r3 : List Cond := [Cond.code yX6_people cX6_people 3 (some .int), Cond.methodLink RX6 90 yX6_shutIn, Cond.instanceMethod yX6_shutIn, Cond.selects RX6 yX6_shutIn yX6_shutIn, Cond.code yX6_shutIn cX6_shutIn 3 (some .int), Cond.methodLink RX6 93 yX6_minute, Cond.instanceMethod yX6_minute, Cond.selects RX6 yX6_minute yX6_minute, Cond.code yX6_minute cX6_minute 3 none, Cond.fieldLink RX6 41 "RopedHallsModel" "fresh" "[I", Cond.methodLink RX6 80 yX6_letsOut, Cond.instanceMethod yX6_letsOut, Cond.selects RX6 yX6_letsOut yX6_letsOut, Cond.code yX6_letsOut cX6_letsOut 4 none, Cond.methodLink RX6 83 yX6_goes, Cond.instanceMethod yX6_goes, Cond.selects RX6 yX6_goes yX6_goes, Cond.code yX6_goes cX6_goes 6 none, Cond.methodLink RX6 152 yX6_putBack, Cond.instanceMethod yX6_putBack, Cond.selects RX6 yX6_putBack yX6_putBack, Cond.code yX6_putBack cX6_putBack 2 none]
def wsX6_waiting : List Cond := .code yX6_waiting cX6_waiting 4 (some .int) :: ((wsX6_waiting_r1 ++ (wsX6_waiting_r2 ++ wsX6_waiting_r3)) ++ wsX60)
def wsX6_put : List Cond := .code yX6_put cX6_put 8 (some .int) :: ([.constantLong RX6 159 (255), .fieldLink RX6 143 "RopedHallsModel" "length" "I", .fieldLink RX6 26 "RopedHallsModel" "pad" "[I", .methodLink RX6 47 yX6_in, .static yX6_in, .initialized RX6, .code yX6_in cX6_in 3 (some .boolean)] ++ wsX60)
def wsX6_wipe : List Cond := .code yX6_wipe cX6_wipe 2 (some .int) :: ([.fieldLink RX6 143 "RopedHallsModel" "length" "I"] ++ wsX60)
def wsX6_isNext : List Cond := .code yX6_isNext cX6_isNext 3 (some .boolean) :: ([.fieldLink RX6 161 "RopedHallsModel" "isWrong" "Z", .fieldLink RX6 165 "RopedHallsModel" "position" "I", .fieldLink RX6 143 "RopedHallsModel" "length" "I", .fieldLink RX6 26 "RopedHallsModel" "pad" "[I", .methodLink RX6 47 yX6_in, .static yX6_in, .initialized RX6, .code yX6_in cX6_in 3 (some .boolean)] ++ wsX60)
def wsX6_takes : List Cond := .code yX6_takes cX6_takes 4 (some .int) :: ([.fieldLink RX6 165 "RopedHallsModel" "position" "I", .fieldLink RX6 143 "RopedHallsModel" "length" "I", .fieldLink RX6 26 "RopedHallsModel" "pad" "[I", .fieldLink RX6 161 "RopedHallsModel" "isWrong" "Z", .methodLink RX6 47 yX6_in, .static yX6_in, .initialized RX6, .code yX6_in cX6_in 3 (some .boolean)] ++ wsX60)
def wsX6_takesMany : List Cond := .code yX6_takesMany cX6_takesMany 3 (some .int) :: ([.methodLink RX6 168 yX6_takes, .instanceMethod yX6_takes, .selects RX6 yX6_takes yX6_takes, .initialized RX6, .code yX6_takes cX6_takes 4 (some .int), .fieldLink RX6 165 "RopedHallsModel" "position" "I", .fieldLink RX6 143 "RopedHallsModel" "length" "I", .fieldLink RX6 26 "RopedHallsModel" "pad" "[I", .fieldLink RX6 161 "RopedHallsModel" "isWrong" "Z", .methodLink RX6 47 yX6_in, .static yX6_in, .code yX6_in cX6_in 3 (some .boolean), .methodLink RX6 171 yX6_isNext, .instanceMethod yX6_isNext, .selects RX6 yX6_isNext yX6_isNext, .code yX6_isNext cX6_isNext 3 (some .boolean)] ++ wsX60)
def wsX6_reads : List Cond := .code yX6_reads cX6_reads 10 (some .int) :: ([.fieldLink RX6 165 "RopedHallsModel" "position" "I", .fieldLink RX6 161 "RopedHallsModel" "isWrong" "Z", .fieldLink RX6 7 "RopedHallsModel" "s" "[I", .fieldLink RX6 143 "RopedHallsModel" "length" "I", .methodLink RX6 168 yX6_takes, .instanceMethod yX6_takes, .selects RX6 yX6_takes yX6_takes, .initialized RX6, .code yX6_takes cX6_takes 4 (some .int), .fieldLink RX6 26 "RopedHallsModel" "pad" "[I", .methodLink RX6 47 yX6_in, .static yX6_in, .code yX6_in cX6_in 3 (some .boolean), .methodLink RX6 174 yX6_takesMany, .instanceMethod yX6_takesMany, .selects RX6 yX6_takesMany yX6_takesMany, .code yX6_takesMany cX6_takesMany 3 (some .int), .methodLink RX6 171 yX6_isNext, .instanceMethod yX6_isNext, .selects RX6 yX6_isNext yX6_isNext, .code yX6_isNext cX6_isNext 3 (some .boolean)] ++ wsX60)
def wsX6_fault_r1 : List Cond := [Cond.fieldLink RX6 161 "RopedHallsModel" "isWrong" "Z", Cond.fieldLink RX6 165 "RopedHallsModel" "position" "I", Cond.methodLink RX6 177 yX6_reads, Cond.instanceMethod yX6_reads, Cond.selects RX6 yX6_reads yX6_reads, Cond.initialized RX6, Cond.code yX6_reads cX6_reads 10 (some .int), Cond.fieldLink RX6 7 "RopedHallsModel" "s" "[I", Cond.fieldLink RX6 143 "RopedHallsModel" "length" "I", Cond.methodLink RX6 168 yX6_takes, Cond.instanceMethod yX6_takes, Cond.selects RX6 yX6_takes yX6_takes, Cond.code yX6_takes cX6_takes 4 (some .int), Cond.fieldLink RX6 26 "RopedHallsModel" "pad" "[I", Cond.methodLink RX6 47 yX6_in, Cond.static yX6_in, Cond.code yX6_in cX6_in 3 (some .boolean), Cond.methodLink RX6 174 yX6_takesMany, Cond.instanceMethod yX6_takesMany, Cond.selects RX6 yX6_takesMany yX6_takesMany, Cond.code yX6_takesMany cX6_takesMany 3 (some .int), Cond.methodLink RX6 171 yX6_isNext, Cond.instanceMethod yX6_isNext, Cond.selects RX6 yX6_isNext yX6_isNext]
def wsX6_fault_r2 : List Cond := [Cond.code yX6_isNext cX6_isNext 3 (some .boolean)]
def wsX6_fault : List Cond := .code yX6_fault cX6_fault 2 (some .int) :: ((wsX6_fault_r1 ++ wsX6_fault_r2) ++ wsX60)
def wsX6_read_r1 : List Cond := [Cond.fieldLink RX6 161 "RopedHallsModel" "isWrong" "Z", Cond.fieldLink RX6 143 "RopedHallsModel" "length" "I", Cond.methodLink RX6 177 yX6_reads, Cond.instanceMethod yX6_reads, Cond.selects RX6 yX6_reads yX6_reads, Cond.initialized RX6, Cond.code yX6_reads cX6_reads 10 (some .int), Cond.fieldLink RX6 165 "RopedHallsModel" "position" "I", Cond.fieldLink RX6 7 "RopedHallsModel" "s" "[I", Cond.methodLink RX6 168 yX6_takes, Cond.instanceMethod yX6_takes, Cond.selects RX6 yX6_takes yX6_takes, Cond.code yX6_takes cX6_takes 4 (some .int), Cond.fieldLink RX6 26 "RopedHallsModel" "pad" "[I", Cond.methodLink RX6 47 yX6_in, Cond.static yX6_in, Cond.code yX6_in cX6_in 3 (some .boolean), Cond.methodLink RX6 174 yX6_takesMany, Cond.instanceMethod yX6_takesMany, Cond.selects RX6 yX6_takesMany yX6_takesMany, Cond.code yX6_takesMany cX6_takesMany 3 (some .int), Cond.methodLink RX6 171 yX6_isNext, Cond.instanceMethod yX6_isNext, Cond.selects RX6 yX6_isNext yX6_isNext]
def wsX6_read_r2 : List Cond := [Cond.code yX6_isNext cX6_isNext 3 (some .boolean), Cond.methodLink RX6 96 yX6_record, Cond.instanceMethod yX6_record, Cond.selects RX6 yX6_record yX6_record, Cond.code yX6_record cX6_record 2 none, Cond.fieldLink RX6 51 "RopedHallsModel" "kept" "I", Cond.fieldLink RX6 16 "RopedHallsModel" "history" "[I"]
def wsX6_read : List Cond := .code yX6_read cX6_read 3 (some .int) :: ((wsX6_read_r1 ++ wsX6_read_r2) ++ wsX60)
def wsX6_undo : List Cond := .code yX6_undo cX6_undo 2 (some .int) :: ([.fieldLink RX6 51 "RopedHallsModel" "kept" "I", .fieldLink RX6 7 "RopedHallsModel" "s" "[I", .fieldLink RX6 16 "RopedHallsModel" "history" "[I"] ++ wsX60)
def wsX6_save : List Cond := .code yX6_save cX6_save 3 (some .int) :: ([.fieldLink RX6 19 "RopedHallsModel" "slots" "[I", .fieldLink RX6 7 "RopedHallsModel" "s" "[I", .fieldLink RX6 22 "RopedHallsModel" "isSaved" "[Z", .methodLink RX6 47 yX6_in, .static yX6_in, .initialized RX6, .code yX6_in cX6_in 3 (some .boolean), .methodLink RX6 86 yX6_people, .instanceMethod yX6_people, .selects RX6 yX6_people yX6_people, .code yX6_people cX6_people 3 (some .int)] ++ wsX60)
def wsX6_restore : List Cond := .code yX6_restore cX6_restore 3 (some .int) :: ([.fieldLink RX6 22 "RopedHallsModel" "isSaved" "[Z", .fieldLink RX6 7 "RopedHallsModel" "s" "[I", .fieldLink RX6 19 "RopedHallsModel" "slots" "[I", .methodLink RX6 47 yX6_in, .static yX6_in, .initialized RX6, .code yX6_in cX6_in 3 (some .boolean), .methodLink RX6 96 yX6_record, .instanceMethod yX6_record, .selects RX6 yX6_record yX6_record, .code yX6_record cX6_record 2 none, .fieldLink RX6 51 "RopedHallsModel" "kept" "I", .fieldLink RX6 16 "RopedHallsModel" "history" "[I", .methodLink RX6 86 yX6_people, .instanceMethod yX6_people, .selects RX6 yX6_people yX6_people, .code yX6_people cX6_people 3 (some .int)] ++ wsX60)
def wsJ9_max_7cf53 : List Cond := .code yJ9_max_7cf53 cJ9_max_7cf53 2 (some .int) :: ([])
def wsJ9_min_7cf53 : List Cond := .code yJ9_min_7cf53 cJ9_min_7cf53 2 (some .int) :: ([])
def wsL_law_r1 : List Cond := [Cond.classLink RL 7 RX5, Cond.instantiable RX5 10, Cond.initialized RX5, Cond.classLink RL 10 RX6, Cond.instantiable RX6 16, Cond.initialized RX6, Cond.constantLong RL 83 (4294967295), Cond.methodLink RL 9 yX5_init, Cond.instanceMethod yX5_init, Cond.code yX5_init cX5_init 2 none, Cond.methodLink RX5 3 objectInit, Cond.instanceMethod objectInit, Cond.code objectInit ⟨#[0xb1]⟩ 1 none, Cond.classLink RX5 9 RX1, Cond.instantiable RX1 12, Cond.initialized RX1, Cond.fieldLink RX5 12 "RopedHalls" "hall" "LRopedHalls$Hall;", Cond.classLink RX5 16 RX4, Cond.instantiable RX4 6, Cond.initialized RX4, Cond.fieldLink RX5 19 "RopedHalls" "routes" "LRopedHalls$Routes;", Cond.classLink RX5 23 RX2, Cond.instantiable RX2 1, Cond.initialized RX2]
def wsL_law_r2 : List Cond := [Cond.fieldLink RX5 26 "RopedHalls" "minute" "LRopedHalls$Minute;", Cond.classLink RX5 30 RX0, Cond.instantiable RX0 3, Cond.initialized RX0, Cond.fieldLink RX5 33 "RopedHalls" "forecast" "LRopedHalls$Forecast;", Cond.classLink RX5 37 RX3, Cond.instantiable RX3 2, Cond.initialized RX3, Cond.fieldLink RX5 40 "RopedHalls" "pad" "LRopedHalls$Pad;", Cond.fieldLink RX5 44 "RopedHalls" "history" "[LRopedHalls$Hall;", Cond.fieldLink RX5 48 "RopedHalls" "slots" "[LRopedHalls$Hall;", Cond.arrayClass .boolean, Cond.fieldLink RX5 51 "RopedHalls" "isSaved" "[Z", Cond.methodLink RX5 11 yX1_init, Cond.instanceMethod yX1_init, Cond.code yX1_init cX1_init 2 none, Cond.methodLink RX1 3 objectInit, Cond.fieldLink RX1 9 "RopedHalls$Hall" "room" "I", Cond.arrayClass .int, Cond.fieldLink RX1 15 "RopedHalls$Hall" "people" "[I", Cond.fieldLink RX1 19 "RopedHalls$Hall" "guards" "[I", Cond.fieldLink RX1 22 "RopedHalls$Hall" "ropes" "[Z", Cond.fieldLink RX1 26 "RopedHalls$Hall" "doorCell" "[I", Cond.fieldLink RX1 29 "RopedHalls$Hall" "doorRate" "[I"]
def wsL_law_r3 : List Cond := [Cond.fieldLink RX1 32 "RopedHalls$Hall" "doorOpen" "[Z", Cond.fieldLink RX1 35 "RopedHalls$Hall" "doorOut" "[I", Cond.instanceMethod yX4_init, Cond.code yX4_init cX4_init 1 none, Cond.methodLink RX4 3 objectInit, Cond.fieldLink RX4 9 "RopedHalls$Routes" "steps" "[I", Cond.fieldLink RX4 15 "RopedHalls$Routes" "queue" "[I", Cond.fieldLink RX4 18 "RopedHalls$Routes" "goals" "[I", Cond.fieldLink RX4 21 "RopedHalls$Routes" "nexts" "[I", Cond.fieldLink RX4 24 "RopedHalls$Routes" "turns" "[I", Cond.instanceMethod yX2_init, Cond.code yX2_init cX2_init 1 none, Cond.methodLink RX2 3 objectInit, Cond.fieldLink RX2 9 "RopedHalls$Minute" "arrived" "[I", Cond.instanceMethod yX0_init, Cond.code yX0_init cX0_init 1 none, Cond.methodLink RX0 3 objectInit, Cond.classLink RX0 9 RX1, Cond.fieldLink RX0 12 "RopedHalls$Forecast" "trial" "LRopedHalls$Hall;", Cond.classLink RX0 18 RX4, Cond.fieldLink RX0 21 "RopedHalls$Forecast" "routes" "LRopedHalls$Routes;", Cond.classLink RX0 25 RX2, Cond.fieldLink RX0 28 "RopedHalls$Forecast" "minute" "LRopedHalls$Minute;", Cond.methodLink RX0 11 yX1_init]
def wsL_law_r4 : List Cond := [Cond.instanceMethod yX3_init, Cond.code yX3_init cX3_init 1 none, Cond.methodLink RX3 3 objectInit, Cond.fieldLink RX3 9 "RopedHalls$Pad" "codes" "[I", Cond.methodLink RL 12 yX6_init, Cond.instanceMethod yX6_init, Cond.code yX6_init cX6_init 2 none, Cond.methodLink RX6 1 objectInit, Cond.fieldLink RX6 7 "RopedHallsModel" "s" "[I", Cond.fieldLink RX6 13 "RopedHallsModel" "aside" "[I", Cond.fieldLink RX6 16 "RopedHallsModel" "history" "[I", Cond.fieldLink RX6 19 "RopedHallsModel" "slots" "[I", Cond.fieldLink RX6 22 "RopedHallsModel" "isSaved" "[Z", Cond.fieldLink RX6 26 "RopedHallsModel" "pad" "[I", Cond.fieldLink RX6 29 "RopedHallsModel" "far" "[I", Cond.fieldLink RX6 32 "RopedHallsModel" "goals" "[I", Cond.fieldLink RX6 35 "RopedHallsModel" "steps" "[I", Cond.fieldLink RX6 38 "RopedHallsModel" "nexts" "[I", Cond.fieldLink RX6 41 "RopedHallsModel" "fresh" "[I", Cond.fieldLink RX6 44 "RopedHallsModel" "tried" "[I", Cond.methodLink RL 13 yX5_setRoom, Cond.instanceMethod yX5_setRoom, Cond.selects RX5 yX5_setRoom yX5_setRoom, Cond.code yX5_setRoom cX5_setRoom 3 (some .int)]
def wsL_law_r5 : List Cond := [Cond.fieldLink RX5 62 "RopedHalls$Hall" "room" "I", Cond.methodLink RX5 55 yX1_fullestCell, Cond.instanceMethod yX1_fullestCell, Cond.selects RX1 yX1_fullestCell yX1_fullestCell, Cond.code yX1_fullestCell cX1_fullestCell 3 (some .int), Cond.methodLink RX1 54 Lib.Math.max.name, Cond.static Lib.Math.max.name, Cond.initialized "java/lang/Math", Cond.code Lib.Math.max.name Lib.Math.max.code 2 (some .int), Cond.methodLink RX5 59 yX5_remember, Cond.instanceMethod yX5_remember, Cond.selects RX5 yX5_remember yX5_remember, Cond.code yX5_remember cX5_remember 1 none, Cond.fieldLink RX5 217 "RopedHalls" "newest" "I", Cond.fieldLink RX5 184 "RopedHalls" "changes" "I", Cond.methodLink RX5 228 Lib.Math.min.name, Cond.static Lib.Math.min.name, Cond.code Lib.Math.min.name Lib.Math.min.code 2 (some .int), Cond.methodLink RX5 220 yX5_recorded, Cond.instanceMethod yX5_recorded, Cond.selects RX5 yX5_recorded yX5_recorded, Cond.code yX5_recorded cX5_recorded 2 (some (.object "RopedHalls$Hall")), Cond.methodLink RX5 224 yX5_copyHall, Cond.static yX5_copyHall]
def wsL_law_r6 : List Cond := [Cond.code yX5_copyHall cX5_copyHall 2 none, Cond.methodLink RX5 236 yX1_copyFrom, Cond.instanceMethod yX1_copyFrom, Cond.selects RX1 yX1_copyFrom yX1_copyFrom, Cond.code yX1_copyFrom cX1_copyFrom 3 none, Cond.fieldLink RX1 38 "RopedHalls$Hall" "minutes" "I", Cond.fieldLink RX1 41 "RopedHalls$Hall" "cameIn" "I", Cond.fieldLink RX1 44 "RopedHalls$Hall" "waited" "I", Cond.fieldLink RX1 47 "RopedHalls$Hall" "jams" "I", Cond.methodLink RL 17 yX6_setRoom, Cond.instanceMethod yX6_setRoom, Cond.selects RX6 yX6_setRoom yX6_setRoom, Cond.code yX6_setRoom cX6_setRoom 3 (some .int), Cond.methodLink RX6 47 yX6_in, Cond.static yX6_in, Cond.code yX6_in cX6_in 3 (some .boolean), Cond.methodLink RX6 99 yX6_lays, Cond.instanceMethod yX6_lays, Cond.selects RX6 yX6_lays yX6_lays, Cond.code yX6_lays cX6_lays 4 (some .int), Cond.methodLink RX6 96 yX6_record, Cond.instanceMethod yX6_record, Cond.selects RX6 yX6_record yX6_record, Cond.code yX6_record cX6_record 2 none]
def wsL_law_r7 : List Cond := [Cond.fieldLink RX6 51 "RopedHallsModel" "kept" "I", Cond.methodLink RL 18 yX5_rope, Cond.instanceMethod yX5_rope, Cond.selects RX5 yX5_rope yX5_rope, Cond.code yX5_rope cX5_rope 5 (some .int), Cond.fieldLink RX5 80 "RopedHalls$Hall" "ropes" "[Z", Cond.methodLink RX5 66 yX5_isCell, Cond.static yX5_isCell, Cond.code yX5_isCell cX5_isCell 1 (some .boolean), Cond.methodLink RX5 70 yX5_isSide, Cond.static yX5_isSide, Cond.code yX5_isSide cX5_isSide 1 (some .boolean), Cond.methodLink RX5 73 yX5_edgeAt, Cond.static yX5_edgeAt, Cond.code yX5_edgeAt cX5_edgeAt 2 (some .int), Cond.methodLink RX5 242 yX5_edgeTowards, Cond.static yX5_edgeTowards, Cond.code yX5_edgeTowards cX5_edgeTowards 4 (some .int), Cond.methodLink RX5 239 yX5_beside, Cond.static yX5_beside, Cond.code yX5_beside cX5_beside 2 (some .int), Cond.methodLink RX5 77 yX5_isEdge, Cond.static yX5_isEdge, Cond.code yX5_isEdge cX5_isEdge 1 (some .boolean)]
def wsL_law_r8 : List Cond := [Cond.methodLink RX5 83 yX1_ropeCount, Cond.instanceMethod yX1_ropeCount, Cond.selects RX1 yX1_ropeCount yX1_ropeCount, Cond.code yX1_ropeCount cX1_ropeCount 3 (some .int), Cond.methodLink RL 22 yX6_rope, Cond.instanceMethod yX6_rope, Cond.selects RX6 yX6_rope yX6_rope, Cond.code yX6_rope cX6_rope 5 (some .int), Cond.methodLink RX6 102 yX6_isCell, Cond.static yX6_isCell, Cond.code yX6_isCell cX6_isCell 1 (some .boolean), Cond.methodLink RX6 106 yX6_isEdge, Cond.static yX6_isEdge, Cond.code yX6_isEdge cX6_isEdge 2 (some .boolean), Cond.methodLink RX6 55 yX6_beside, Cond.static yX6_beside, Cond.code yX6_beside cX6_beside 2 (some .int), Cond.methodLink RX6 59 yX6_ropeAt, Cond.static yX6_ropeAt, Cond.code yX6_ropeAt cX6_ropeAt 2 (some .int), Cond.methodLink RX6 109 yX6_ropes, Cond.instanceMethod yX6_ropes, Cond.selects RX6 yX6_ropes yX6_ropes, Cond.code yX6_ropes cX6_ropes 3 (some .int)]
def wsL_law_r9 : List Cond := [Cond.methodLink RL 23 yX5_door, Cond.instanceMethod yX5_door, Cond.selects RX5 yX5_door yX5_door, Cond.code yX5_door cX5_door 5 (some .int), Cond.fieldLink RX5 89 "RopedHalls$Hall" "doorCell" "[I", Cond.fieldLink RX5 93 "RopedHalls$Hall" "doorRate" "[I", Cond.methodLink RX5 86 yX5_isDoor, Cond.static yX5_isDoor, Cond.code yX5_isDoor cX5_isDoor 1 (some .boolean), Cond.methodLink RL 27 yX6_door, Cond.instanceMethod yX6_door, Cond.selects RX6 yX6_door yX6_door, Cond.code yX6_door cX6_door 5 (some .int), Cond.methodLink RX6 112 yX6_isDoor, Cond.static yX6_isDoor, Cond.code yX6_isDoor cX6_isDoor 1 (some .boolean), Cond.methodLink RL 28 yX5_open, Cond.instanceMethod yX5_open, Cond.selects RX5 yX5_open yX5_open, Cond.code yX5_open cX5_open 3 (some .int), Cond.fieldLink RX5 96 "RopedHalls$Hall" "doorOpen" "[Z", Cond.methodLink RX5 99 yX1_openDoors, Cond.instanceMethod yX1_openDoors, Cond.selects RX1 yX1_openDoors yX1_openDoors]
def wsL_law_r10 : List Cond := [Cond.code yX1_openDoors cX1_openDoors 3 (some .int), Cond.methodLink RX5 102 yJ6_bitCount_0f7a4, Cond.static yJ6_bitCount_0f7a4, Cond.initialized RJ6, Cond.code yJ6_bitCount_0f7a4 cJ6_bitCount_0f7a4 1 (some .int), Cond.constant RJ6 265 (1431655765), Cond.constant RJ6 266 (858993459), Cond.constant RJ6 267 (252645135), Cond.methodLink RL 32 yX6_open, Cond.instanceMethod yX6_open, Cond.selects RX6 yX6_open yX6_open, Cond.code yX6_open cX6_open 4 (some .int), Cond.methodLink RX6 115 yX6_openDoors, Cond.instanceMethod yX6_openDoors, Cond.selects RX6 yX6_openDoors yX6_openDoors, Cond.code yX6_openDoors cX6_openDoors 1 (some .int), Cond.methodLink RL 33 yX5_guard, Cond.instanceMethod yX5_guard, Cond.selects RX5 yX5_guard yX5_guard, Cond.code yX5_guard cX5_guard 3 (some .int), Cond.fieldLink RX5 108 "RopedHalls$Hall" "guards" "[I", Cond.methodLink RX5 111 yX4_find, Cond.instanceMethod yX4_find, Cond.selects RX4 yX4_find yX4_find]
def wsL_law_r11 : List Cond := [Cond.code yX4_find cX4_find 3 none, Cond.methodLink RX4 27 yX4_measureFrom, Cond.instanceMethod yX4_measureFrom, Cond.selects RX4 yX4_measureFrom yX4_measureFrom, Cond.code yX4_measureFrom cX4_measureFrom 10 none, Cond.fieldLink RX4 68 "RopedHalls$Hall" "doorCell" "[I", Cond.methodLink RX4 71 yX1_stepFrom, Cond.instanceMethod yX1_stepFrom, Cond.selects RX1 yX1_stepFrom yX1_stepFrom, Cond.code yX1_stepFrom cX1_stepFrom 4 (some .int), Cond.methodLink RX4 52 yX4_stepsTo, Cond.instanceMethod yX4_stepsTo, Cond.selects RX4 yX4_stepsTo yX4_stepsTo, Cond.code yX4_stepsTo cX4_stepsTo 3 (some .int), Cond.methodLink RX4 31 yX4_chooseGoal, Cond.instanceMethod yX4_chooseGoal, Cond.selects RX4 yX4_chooseGoal yX4_chooseGoal, Cond.code yX4_chooseGoal cX4_chooseGoal 7 (some .int), Cond.fieldLink RX4 74 "RopedHalls$Hall" "guards" "[I", Cond.fieldLink RX4 77 "RopedHalls$Hall" "doorOpen" "[Z", Cond.methodLink RX4 35 yX4_chooseNext, Cond.instanceMethod yX4_chooseNext, Cond.selects RX4 yX4_chooseNext yX4_chooseNext, Cond.code yX4_chooseNext cX4_chooseNext 6 (some .int)]
def wsL_law_r12 : List Cond := [Cond.methodLink RX4 81 yX4_stepsToGoal, Cond.instanceMethod yX4_stepsToGoal, Cond.selects RX4 yX4_stepsToGoal yX4_stepsToGoal, Cond.code yX4_stepsToGoal cX4_stepsToGoal 2 (some .int), Cond.methodLink RX4 48 yX4_goalOf, Cond.instanceMethod yX4_goalOf, Cond.selects RX4 yX4_goalOf yX4_goalOf, Cond.code yX4_goalOf cX4_goalOf 2 (some .int), Cond.methodLink RX4 38 yX4_orderTurns, Cond.instanceMethod yX4_orderTurns, Cond.selects RX4 yX4_orderTurns yX4_orderTurns, Cond.code yX4_orderTurns cX4_orderTurns 3 none, Cond.fieldLink RX4 56 "RopedHalls$Routes" "turnCount" "I", Cond.methodLink RX5 115 yX4_goalOf, Cond.methodLink RL 37 yX6_guard, Cond.instanceMethod yX6_guard, Cond.selects RX6 yX6_guard yX6_guard, Cond.code yX6_guard cX6_guard 4 (some .int), Cond.methodLink RX6 118 yX6_layWays, Cond.instanceMethod yX6_layWays, Cond.selects RX6 yX6_layWays yX6_layWays, Cond.code yX6_layWays cX6_layWays 2 none, Cond.methodLink RX6 69 yX6_layFar, Cond.instanceMethod yX6_layFar]
def wsL_law_r13 : List Cond := [Cond.selects RX6 yX6_layFar yX6_layFar, Cond.code yX6_layFar cX6_layFar 6 none, Cond.methodLink RX6 62 yX6_isFree, Cond.instanceMethod yX6_isFree, Cond.selects RX6 yX6_isFree yX6_isFree, Cond.code yX6_isFree cX6_isFree 3 (some .boolean), Cond.methodLink RX6 73 yX6_goalOf, Cond.instanceMethod yX6_goalOf, Cond.selects RX6 yX6_goalOf yX6_goalOf, Cond.code yX6_goalOf cX6_goalOf 5 (some .int), Cond.methodLink RX6 66 yX6_leads, Cond.instanceMethod yX6_leads, Cond.selects RX6 yX6_leads yX6_leads, Cond.code yX6_leads cX6_leads 3 (some .boolean), Cond.methodLink RX6 77 yX6_nextOf, Cond.instanceMethod yX6_nextOf, Cond.selects RX6 yX6_nextOf yX6_nextOf, Cond.code yX6_nextOf cX6_nextOf 5 (some .int), Cond.methodLink RL 38 yX5_enter, Cond.instanceMethod yX5_enter, Cond.selects RX5 yX5_enter yX5_enter, Cond.code yX5_enter cX5_enter 3 (some .int), Cond.fieldLink RX5 118 "RopedHalls$Hall" "people" "[I", Cond.methodLink RX5 121 yX1_letIn]
def wsL_law_r14 : List Cond := [Cond.instanceMethod yX1_letIn, Cond.selects RX1 yX1_letIn yX1_letIn, Cond.code yX1_letIn cX1_letIn 3 none, Cond.methodLink RL 41 yX6_enter, Cond.instanceMethod yX6_enter, Cond.selects RX6 yX6_enter yX6_enter, Cond.code yX6_enter cX6_enter 3 (some .int), Cond.methodLink RL 42 yX5_read, Cond.instanceMethod yX5_read, Cond.selects RX5 yX5_read yX5_read, Cond.code yX5_read cX5_read 2 (some .int), Cond.fieldLink RX5 128 "RopedHalls$Hall" "cameIn" "I", Cond.fieldLink RX5 134 "RopedHalls$Pad" "length" "I", Cond.methodLink RX5 125 yX3_firstFault, Cond.instanceMethod yX3_firstFault, Cond.selects RX3 yX3_firstFault yX3_firstFault, Cond.code yX3_firstFault cX3_firstFault 3 (some .int), Cond.fieldLink RX3 15 "RopedHalls$Pad" "length" "I", Cond.methodLink RX3 19 yX3_codeAt, Cond.instanceMethod yX3_codeAt, Cond.selects RX3 yX3_codeAt yX3_codeAt, Cond.code yX3_codeAt cX3_codeAt 2 (some .int), Cond.methodLink RX3 23 yX3_placeBehind, Cond.static yX3_placeBehind]
def wsL_law_r15 : List Cond := [Cond.code yX3_placeBehind cX3_placeBehind 3 (some .int), Cond.methodLink RX3 45 yX3_placeBehindFirstDigit, Cond.static yX3_placeBehindFirstDigit, Cond.code yX3_placeBehindFirstDigit cX3_placeBehindFirstDigit 1 (some .int), Cond.methodLink RX5 131 yX3_letCrowdsIn, Cond.instanceMethod yX3_letCrowdsIn, Cond.selects RX3 yX3_letCrowdsIn yX3_letCrowdsIn, Cond.code yX3_letCrowdsIn cX3_letCrowdsIn 4 none, Cond.methodLink RX3 27 yX3_letCrowdIn, Cond.instanceMethod yX3_letCrowdIn, Cond.selects RX3 yX3_letCrowdIn yX3_letCrowdIn, Cond.code yX3_letCrowdIn cX3_letCrowdIn 6 none, Cond.methodLink RX3 36 Lib.Math.min.name, Cond.methodLink RX3 31 yX1_roomIn, Cond.instanceMethod yX1_roomIn, Cond.selects RX1 yX1_roomIn yX1_roomIn, Cond.code yX1_roomIn cX1_roomIn 2 (some .int), Cond.methodLink RX3 41 yX1_letIn, Cond.methodLink RL 46 yX6_read, Cond.instanceMethod yX6_read, Cond.selects RX6 yX6_read yX6_read, Cond.code yX6_read cX6_read 3 (some .int), Cond.fieldLink RX6 161 "RopedHallsModel" "isWrong" "Z", Cond.fieldLink RX6 143 "RopedHallsModel" "length" "I"]
def wsL_law_r16 : List Cond := [Cond.methodLink RX6 177 yX6_reads, Cond.instanceMethod yX6_reads, Cond.selects RX6 yX6_reads yX6_reads, Cond.code yX6_reads cX6_reads 10 (some .int), Cond.fieldLink RX6 165 "RopedHallsModel" "position" "I", Cond.methodLink RX6 168 yX6_takes, Cond.instanceMethod yX6_takes, Cond.selects RX6 yX6_takes yX6_takes, Cond.code yX6_takes cX6_takes 4 (some .int), Cond.methodLink RX6 174 yX6_takesMany, Cond.instanceMethod yX6_takesMany, Cond.selects RX6 yX6_takesMany yX6_takesMany, Cond.code yX6_takesMany cX6_takesMany 3 (some .int), Cond.methodLink RX6 171 yX6_isNext, Cond.instanceMethod yX6_isNext, Cond.selects RX6 yX6_isNext yX6_isNext, Cond.code yX6_isNext cX6_isNext 3 (some .boolean), Cond.methodLink RL 47 yX5_pass, Cond.instanceMethod yX5_pass, Cond.selects RX5 yX5_pass yX5_pass, Cond.code yX5_pass cX5_pass 4 (some .int), Cond.fieldLink RX5 137 "RopedHalls$Hall" "minutes" "I", Cond.methodLink RX5 140 yX2_run, Cond.instanceMethod yX2_run]
def wsL_law_r17 : List Cond := [Cond.selects RX2 yX2_run yX2_run, Cond.code yX2_run cX2_run 6 (some .int), Cond.fieldLink RX2 15 "RopedHalls$Hall" "minutes" "I", Cond.methodLink RX2 21 yX2_letOut, Cond.static yX2_letOut, Cond.code yX2_letOut cX2_letOut 4 (some .int), Cond.fieldLink RX2 42 "RopedHalls$Hall" "doorCell" "[I", Cond.fieldLink RX2 45 "RopedHalls$Hall" "doorOpen" "[Z", Cond.fieldLink RX2 53 "RopedHalls$Hall" "doorRate" "[I", Cond.fieldLink RX2 56 "RopedHalls$Hall" "people" "[I", Cond.methodLink RX2 59 Lib.Math.min.name, Cond.fieldLink RX2 65 "RopedHalls$Hall" "doorOut" "[I", Cond.methodLink RX2 25 yX4_turnsAMinute, Cond.instanceMethod yX4_turnsAMinute, Cond.selects RX4 yX4_turnsAMinute yX4_turnsAMinute, Cond.code yX4_turnsAMinute cX4_turnsAMinute 1 (some .int), Cond.methodLink RX2 31 yX4_cellAtTurn, Cond.instanceMethod yX4_cellAtTurn, Cond.selects RX4 yX4_cellAtTurn yX4_cellAtTurn, Cond.code yX4_cellAtTurn cX4_cellAtTurn 2 (some .int), Cond.methodLink RX2 35 yX4_nextOf, Cond.instanceMethod yX4_nextOf, Cond.selects RX4 yX4_nextOf yX4_nextOf, Cond.code yX4_nextOf cX4_nextOf 2 (some .int)]
def wsL_law_r18 : List Cond := [Cond.methodLink RX2 38 yX2_move, Cond.instanceMethod yX2_move, Cond.selects RX2 yX2_move yX2_move, Cond.code yX2_move cX2_move 6 none, Cond.fieldLink RX2 71 "RopedHalls$Hall" "jams" "I", Cond.fieldLink RX2 74 "RopedHalls$Hall" "waited" "I", Cond.methodLink RX2 68 yX1_roomIn, Cond.methodLink RL 50 yX6_pass, Cond.instanceMethod yX6_pass, Cond.selects RX6 yX6_pass yX6_pass, Cond.code yX6_pass cX6_pass 4 (some .int), Cond.methodLink RX6 121 yX6_out, Cond.instanceMethod yX6_out, Cond.selects RX6 yX6_out yX6_out, Cond.code yX6_out cX6_out 1 (some .int), Cond.methodLink RX6 93 yX6_minute, Cond.instanceMethod yX6_minute, Cond.selects RX6 yX6_minute yX6_minute, Cond.code yX6_minute cX6_minute 3 none, Cond.methodLink RX6 80 yX6_letsOut, Cond.instanceMethod yX6_letsOut, Cond.selects RX6 yX6_letsOut yX6_letsOut, Cond.code yX6_letsOut cX6_letsOut 4 none, Cond.methodLink RX6 83 yX6_goes]
def wsL_law_r19 : List Cond := [Cond.instanceMethod yX6_goes, Cond.selects RX6 yX6_goes yX6_goes, Cond.code yX6_goes cX6_goes 6 none, Cond.methodLink RL 51 yX5_cell, Cond.instanceMethod yX5_cell, Cond.selects RX5 yX5_cell yX5_cell, Cond.code yX5_cell cX5_cell 3 (some .int), Cond.methodLink RX5 144 yX4_stepsToGoal, Cond.methodLink RX5 147 yX4_nextOf, Cond.methodLink RX5 150 yX1_ropesAround, Cond.instanceMethod yX1_ropesAround, Cond.selects RX1 yX1_ropesAround yX1_ropesAround, Cond.code yX1_ropesAround cX1_ropesAround 5 (some .int), Cond.methodLink RL 54 yX6_cell, Cond.instanceMethod yX6_cell, Cond.selects RX6 yX6_cell yX6_cell, Cond.code yX6_cell cX6_cell 3 (some .int), Cond.methodLink RX6 127 yX6_ropesOf, Cond.instanceMethod yX6_ropesOf, Cond.selects RX6 yX6_ropesOf yX6_ropesOf, Cond.code yX6_ropesOf cX6_ropesOf 4 (some .int), Cond.methodLink RX6 124 yX6_hasRope, Cond.instanceMethod yX6_hasRope, Cond.selects RX6 yX6_hasRope yX6_hasRope]
def wsL_law_r20 : List Cond := [Cond.code yX6_hasRope cX6_hasRope 3 (some .boolean), Cond.methodLink RL 55 yX5_doorOf, Cond.instanceMethod yX5_doorOf, Cond.selects RX5 yX5_doorOf yX5_doorOf, Cond.code yX5_doorOf cX5_doorOf 3 (some .int), Cond.fieldLink RX5 153 "RopedHalls$Hall" "doorOut" "[I", Cond.methodLink RX5 156 yX4_cellsWithGoal, Cond.instanceMethod yX4_cellsWithGoal, Cond.selects RX4 yX4_cellsWithGoal yX4_cellsWithGoal, Cond.code yX4_cellsWithGoal cX4_cellsWithGoal 4 (some .int), Cond.methodLink RX5 159 yX4_peopleWithGoal, Cond.instanceMethod yX4_peopleWithGoal, Cond.selects RX4 yX4_peopleWithGoal yX4_peopleWithGoal, Cond.code yX4_peopleWithGoal cX4_peopleWithGoal 5 (some .int), Cond.fieldLink RX4 60 "RopedHalls$Hall" "people" "[I", Cond.methodLink RL 58 yX6_doorOf, Cond.instanceMethod yX6_doorOf, Cond.selects RX6 yX6_doorOf yX6_doorOf, Cond.code yX6_doorOf cX6_doorOf 3 (some .int), Cond.methodLink RX6 130 yX6_goalOfMany, Cond.instanceMethod yX6_goalOfMany, Cond.selects RX6 yX6_goalOfMany yX6_goalOfMany, Cond.code yX6_goalOfMany cX6_goalOfMany 5 (some .int), Cond.methodLink RL 59 yX5_count]
def wsL_law_r21 : List Cond := [Cond.instanceMethod yX5_count, Cond.selects RX5 yX5_count yX5_count, Cond.code yX5_count cX5_count 2 (some .int), Cond.fieldLink RX5 169 "RopedHalls$Hall" "waited" "I", Cond.fieldLink RX5 172 "RopedHalls$Hall" "jams" "I", Cond.methodLink RX5 163 yX1_peopleInside, Cond.instanceMethod yX1_peopleInside, Cond.selects RX1 yX1_peopleInside yX1_peopleInside, Cond.code yX1_peopleInside cX1_peopleInside 3 (some .int), Cond.methodLink RX5 166 yX1_peopleOut, Cond.instanceMethod yX1_peopleOut, Cond.selects RX1 yX1_peopleOut yX1_peopleOut, Cond.code yX1_peopleOut cX1_peopleOut 3 (some .int), Cond.methodLink RX5 175 yX5_strandedNow, Cond.instanceMethod yX5_strandedNow, Cond.selects RX5 yX5_strandedNow yX5_strandedNow, Cond.code yX5_strandedNow cX5_strandedNow 1 (some .int), Cond.methodLink RX5 233 yX4_stranded, Cond.instanceMethod yX4_stranded, Cond.selects RX4 yX4_stranded yX4_stranded, Cond.code yX4_stranded cX4_stranded 2 (some .int), Cond.methodLink RX4 65 yX4_peopleWithGoal, Cond.methodLink RX5 178 yX1_unevenness, Cond.instanceMethod yX1_unevenness]
def wsL_law_r22 : List Cond := [Cond.selects RX1 yX1_unevenness yX1_unevenness, Cond.code yX1_unevenness cX1_unevenness 4 (some .int), Cond.methodLink RX1 60 Lib.Math.min.name, Cond.methodLink RX5 181 yX1_guardCount, Cond.instanceMethod yX1_guardCount, Cond.selects RX1 yX1_guardCount yX1_guardCount, Cond.code yX1_guardCount cX1_guardCount 3 (some .int), Cond.methodLink RL 62 yX6_count, Cond.instanceMethod yX6_count, Cond.selects RX6 yX6_count yX6_count, Cond.code yX6_count cX6_count 2 (some .int), Cond.methodLink RX6 86 yX6_people, Cond.instanceMethod yX6_people, Cond.selects RX6 yX6_people yX6_people, Cond.code yX6_people cX6_people 3 (some .int), Cond.methodLink RX6 134 yX6_openSet, Cond.instanceMethod yX6_openSet, Cond.selects RX6 yX6_openSet yX6_openSet, Cond.code yX6_openSet cX6_openSet 1 (some .int), Cond.methodLink RX6 90 yX6_shutIn, Cond.instanceMethod yX6_shutIn, Cond.selects RX6 yX6_shutIn yX6_shutIn, Cond.code yX6_shutIn cX6_shutIn 3 (some .int), Cond.methodLink RX6 137 yX6_uneven]
def wsL_law_r23 : List Cond := [Cond.instanceMethod yX6_uneven, Cond.selects RX6 yX6_uneven yX6_uneven, Cond.code yX6_uneven cX6_uneven 4 (some .int), Cond.methodLink RX6 140 yX6_guards, Cond.instanceMethod yX6_guards, Cond.selects RX6 yX6_guards yX6_guards, Cond.code yX6_guards cX6_guards 3 (some .int), Cond.methodLink RL 63 yX5_distance, Cond.instanceMethod yX5_distance, Cond.selects RX5 yX5_distance yX5_distance, Cond.code yX5_distance cX5_distance 3 (some .int), Cond.methodLink RX5 187 yX4_stepsTo, Cond.methodLink RL 66 yX6_distance, Cond.instanceMethod yX6_distance, Cond.selects RX6 yX6_distance yX6_distance, Cond.code yX6_distance cX6_distance 3 (some .int), Cond.methodLink RL 67 yX5_untilOut, Cond.instanceMethod yX5_untilOut, Cond.selects RX5 yX5_untilOut yX5_untilOut, Cond.code yX5_untilOut cX5_untilOut 1 (some .int), Cond.methodLink RX5 190 yX0_startFrom, Cond.instanceMethod yX0_startFrom, Cond.selects RX0 yX0_startFrom yX0_startFrom, Cond.code yX0_startFrom cX0_startFrom 2 none]
def wsL_law_r24 : List Cond := [Cond.methodLink RX0 32 yX1_copyFrom, Cond.methodLink RX0 36 yX4_find, Cond.methodLink RX5 193 yX0_runUntilOut, Cond.instanceMethod yX0_runUntilOut, Cond.selects RX0 yX0_runUntilOut yX0_runUntilOut, Cond.code yX0_runUntilOut cX0_runUntilOut 3 (some .int), Cond.methodLink RX0 47 yX1_peopleInside, Cond.methodLink RX0 51 yX4_stranded, Cond.methodLink RX0 55 yX2_run, Cond.methodLink RL 70 yX6_untilOut, Cond.instanceMethod yX6_untilOut, Cond.selects RX6 yX6_untilOut yX6_untilOut, Cond.code yX6_untilOut cX6_untilOut 2 (some .int), Cond.methodLink RX6 146 yX6_putAside, Cond.instanceMethod yX6_putAside, Cond.selects RX6 yX6_putAside yX6_putAside, Cond.code yX6_putAside cX6_putAside 2 none, Cond.methodLink RX6 149 yX6_emptied, Cond.instanceMethod yX6_emptied, Cond.selects RX6 yX6_emptied yX6_emptied, Cond.code yX6_emptied cX6_emptied 2 (some .int), Cond.methodLink RX6 152 yX6_putBack, Cond.instanceMethod yX6_putBack, Cond.selects RX6 yX6_putBack yX6_putBack]
def wsL_law_r25 : List Cond := [Cond.code yX6_putBack cX6_putBack 2 none, Cond.methodLink RL 71 yX5_ifRope, Cond.instanceMethod yX5_ifRope, Cond.selects RX5 yX5_ifRope yX5_ifRope, Cond.code yX5_ifRope cX5_ifRope 6 (some .int), Cond.methodLink RX5 196 yX0_startWithRopeTurned, Cond.instanceMethod yX0_startWithRopeTurned, Cond.selects RX0 yX0_startWithRopeTurned yX0_startWithRopeTurned, Cond.code yX0_startWithRopeTurned cX0_startWithRopeTurned 3 none, Cond.fieldLink RX0 43 "RopedHalls$Hall" "ropes" "[Z", Cond.methodLink RX5 200 yX0_stranded, Cond.instanceMethod yX0_stranded, Cond.selects RX0 yX0_stranded yX0_stranded, Cond.code yX0_stranded cX0_stranded 1 (some .int), Cond.methodLink RX5 203 yX0_unevenness, Cond.instanceMethod yX0_unevenness, Cond.selects RX0 yX0_unevenness yX0_unevenness, Cond.code yX0_unevenness cX0_unevenness 1 (some .int), Cond.methodLink RX0 59 yX1_unevenness, Cond.methodLink RL 74 yX6_ifRope, Cond.instanceMethod yX6_ifRope, Cond.selects RX6 yX6_ifRope yX6_ifRope, Cond.code yX6_ifRope cX6_ifRope 4 (some .int), Cond.methodLink RX6 155 yX6_tries]
def wsL_law_r26 : List Cond := [Cond.instanceMethod yX6_tries, Cond.selects RX6 yX6_tries yX6_tries, Cond.code yX6_tries cX6_tries 3 none, Cond.methodLink RL 75 yX5_bestRope, Cond.instanceMethod yX5_bestRope, Cond.selects RX5 yX5_bestRope yX5_bestRope, Cond.code yX5_bestRope cX5_bestRope 9 (some .int), Cond.methodLink RX5 204 yX5_canHang, Cond.instanceMethod yX5_canHang, Cond.selects RX5 yX5_canHang yX5_canHang, Cond.code yX5_canHang cX5_canHang 2 (some .boolean), Cond.methodLink RL 78 yX6_bestRope, Cond.instanceMethod yX6_bestRope, Cond.selects RX6 yX6_bestRope yX6_bestRope, Cond.code yX6_bestRope cX6_bestRope 9 (some .int), Cond.methodLink RL 79 yX5_waiting, Cond.instanceMethod yX5_waiting, Cond.selects RX5 yX5_waiting yX5_waiting, Cond.code yX5_waiting cX5_waiting 1 (some .int), Cond.methodLink RX5 207 yX0_waited, Cond.instanceMethod yX0_waited, Cond.selects RX0 yX0_waited yX0_waited, Cond.code yX0_waited cX0_waited 1 (some .int), Cond.fieldLink RX0 62 "RopedHalls$Hall" "waited" "I"]
def wsL_law_r27 : List Cond := [Cond.methodLink RL 82 yX6_waiting, Cond.instanceMethod yX6_waiting, Cond.selects RX6 yX6_waiting yX6_waiting, Cond.code yX6_waiting cX6_waiting 4 (some .int), Cond.methodLink RL 85 yX5_put, Cond.instanceMethod yX5_put, Cond.selects RX5 yX5_put yX5_put, Cond.code yX5_put cX5_put 5 (some .int), Cond.methodLink RX5 209 yX5_charactersIn, Cond.static yX5_charactersIn, Cond.code yX5_charactersIn cX5_charactersIn 6 (some .int), Cond.methodLink RX5 213 yX3_append, Cond.instanceMethod yX3_append, Cond.selects RX3 yX3_append yX3_append, Cond.code yX3_append cX3_append 2 none, Cond.methodLink RL 89 yX6_put, Cond.instanceMethod yX6_put, Cond.selects RX6 yX6_put yX6_put, Cond.code yX6_put cX6_put 8 (some .int), Cond.constantLong RX6 159 (255), Cond.methodLink RL 90 yX5_wipe, Cond.instanceMethod yX5_wipe, Cond.selects RX5 yX5_wipe yX5_wipe, Cond.code yX5_wipe cX5_wipe 2 (some .int)]
def wsL_law_r28 : List Cond := [Cond.methodLink RL 93 yX6_wipe, Cond.instanceMethod yX6_wipe, Cond.selects RX6 yX6_wipe yX6_wipe, Cond.code yX6_wipe cX6_wipe 2 (some .int), Cond.methodLink RL 94 yX5_fault, Cond.instanceMethod yX5_fault, Cond.selects RX5 yX5_fault yX5_fault, Cond.code yX5_fault cX5_fault 1 (some .int), Cond.methodLink RL 97 yX6_fault, Cond.instanceMethod yX6_fault, Cond.selects RX6 yX6_fault yX6_fault, Cond.code yX6_fault cX6_fault 2 (some .int), Cond.methodLink RL 98 yX5_undo, Cond.instanceMethod yX5_undo, Cond.selects RX5 yX5_undo yX5_undo, Cond.code yX5_undo cX5_undo 1 (some .int), Cond.methodLink RL 101 yX6_undo, Cond.instanceMethod yX6_undo, Cond.selects RX6 yX6_undo yX6_undo, Cond.code yX6_undo cX6_undo 2 (some .int), Cond.methodLink RL 102 yX5_save, Cond.instanceMethod yX5_save, Cond.selects RX5 yX5_save yX5_save, Cond.code yX5_save cX5_save 2 (some .int)]
def wsL_law_r29 : List Cond := [Cond.methodLink RL 105 yX6_save, Cond.instanceMethod yX6_save, Cond.selects RX6 yX6_save yX6_save, Cond.code yX6_save cX6_save 3 (some .int), Cond.methodLink RL 106 yX5_restore, Cond.instanceMethod yX5_restore, Cond.selects RX5 yX5_restore yX5_restore, Cond.code yX5_restore cX5_restore 2 (some .int), Cond.methodLink RL 109 yX6_restore, Cond.instanceMethod yX6_restore, Cond.selects RX6 yX6_restore yX6_restore, Cond.code yX6_restore cX6_restore 3 (some .int)]
def wsL_law : List Cond := (wsL_law_r1 ++ (wsL_law_r2 ++ (wsL_law_r3 ++ (wsL_law_r4 ++ (wsL_law_r5 ++ (wsL_law_r6 ++ (wsL_law_r7 ++ (wsL_law_r8 ++ (wsL_law_r9 ++ (wsL_law_r10 ++ (wsL_law_r11 ++ (wsL_law_r12 ++ (wsL_law_r13 ++ (wsL_law_r14 ++ (wsL_law_r15 ++ (wsL_law_r16 ++ (wsL_law_r17 ++ (wsL_law_r18 ++ (wsL_law_r19 ++ (wsL_law_r20 ++ (wsL_law_r21 ++ (wsL_law_r22 ++ (wsL_law_r23 ++ (wsL_law_r24 ++ (wsL_law_r25 ++ (wsL_law_r26 ++ (wsL_law_r27 ++ (wsL_law_r28 ++ wsL_law_r29)))))))))))))))))))))))))))) ++ wsX50 ++ wsX60 ++ wsX10 ++ wsX40 ++ wsX20 ++ wsX00 ++ wsX30 ++ ([] : List Cond)
set_option maxRecDepth 20000 in
abbrev vwCl : List vw_C := [(RX0, TX0, 3), (RX1, TX1, 12), (RX2, TX2, 1), (RX3, TX3, 2), (RX4, TX4, 6), (RX5, TX5, 10), (RX6, TX6, 16)]
end
section
/-! THE ENGINE: a world of cells by ids (class, instance, sub-cell), rows of numbers, one symbolic step of the machine as a proposition that computes. -/
abbrev je_C : Type := Nat × Nat × Nat
abbrev je_V : Type := Int32 ⊕ Int64 ⊕ Option je_C
abbrev jI (x : Int32) : je_V := Sum.inl x
abbrev jL (x : Int64) : je_V := Sum.inr (Sum.inl x)
abbrev jR (q : je_C) : je_V := Sum.inr (Sum.inr (some q))
abbrev jN : je_V := Sum.inr (Sum.inr none)
abbrev je_G : Type := Nat → Nat → Nat → Nat → Int32
def je_set (G : je_G) (c n r : Nat) (f : Nat → Int32) : je_G := fun c' n' r' => if (r' = r ∧ c' = c) ∧ n' = n then f else G c' n' r'
def je_e (ad : je_C → Nat) (v : je_V) : Value := match v with
  | .inl x => .int x
  | .inr (.inl x) => .long x
  | .inr (.inr (some q)) => .ref (ad q)
  | .inr (.inr none) => .null
def je_cat (v : je_V) : Nat := match v with
  | .inr (.inl _) => 2
  | _ => 1
def je_sm : List je_V → Nat
  | [] => 0
  | v :: t => je_cat v + je_sm t
/-- how many instances -/
def je_cnt (c : Nat) : Nat := match c with
  | 0 => 1
  | 1 => 10
  | 2 => 2
  | 3 => 1
  | 4 => 2
  | 5 => 1
  | 6 => 1
  | _ => 0
/-- the fields of an object, in the order of the slots: a number (row, place), or a cell -/
def je_F (c n : Nat) : List ((Nat × Nat) ⊕ je_C) := match c with
  | 0 => [.inr (1, 9, 0), .inr (4, 1, 0), .inr (2, 1, 0)]
  | 1 => [.inl (0, 0), .inl (0, 1), .inl (0, 2), .inl (0, 3), .inl (0, 4), .inr (1, n, 6), .inr (1, n, 7), .inr (1, n, 8), .inr (1, n, 9), .inr (1, n, 10), .inr (1, n, 11), .inr (1, n, 12)]
  | 2 => [.inr (2, n, 1)]
  | 3 => [.inl (0, 0), .inr (3, n, 2)]
  | 4 => [.inr (4, n, 1), .inr (4, n, 2), .inr (4, n, 3), .inr (4, n, 4), .inr (4, n, 5), .inl (5, 0)]
  | 5 => [.inr (1, 0, 0), .inr (4, 0, 0), .inr (2, 0, 0), .inr (0, 0, 0), .inr (3, 0, 0), .inr (5, 0, 6), .inr (5, 0, 7), .inr (5, 0, 8), .inl (8, 0), .inl (9, 0)]
  | 6 => [.inr (6, 0, 1), .inr (6, 0, 2), .inr (6, 0, 3), .inl (3, 0), .inr (6, 0, 5), .inr (6, 0, 6), .inr (6, 0, 7), .inl (7, 0), .inr (6, 0, 9), .inr (6, 0, 10), .inr (6, 0, 11), .inr (6, 0, 12), .inr (6, 0, 13), .inr (6, 0, 14), .inl (14, 0), .inl (15, 0)]
  | _ => []
/-- the array of numbers of a field: kind (0 int, 1 boolean), length, row, first place -/
def je_Ar (c j : Nat) : Option (Nat × Nat × Nat × Nat) := match c with
  | 1 => match j with
    | 5 => some (0, 35, 0, 21)
    | 6 => some (0, 35, 0, 56)
    | 7 => some (1, 70, 0, 91)
    | 8 => some (0, 4, 0, 5)
    | 9 => some (0, 4, 0, 9)
    | 10 => some (1, 4, 0, 13)
    | 11 => some (0, 4, 0, 17)
    | _ => none
  | 2 => match j with
    | 0 => some (0, 35, 0, 0)
    | _ => none
  | 3 => match j with
    | 1 => some (0, 60, 1, 0)
    | _ => none
  | 4 => match j with
    | 0 => some (0, 140, 0, 0)
    | 1 => some (0, 35, 1, 0)
    | 2 => some (0, 35, 2, 0)
    | 3 => some (0, 35, 3, 0)
    | 4 => some (0, 35, 4, 0)
    | _ => none
  | 5 => match j with
    | 7 => some (1, 2, 7, 0)
    | _ => none
  | 6 => match j with
    | 0 => some (0, 161, 0, 0)
    | 1 => some (0, 161, 1, 0)
    | 2 => some (0, 966, 2, 0)
    | 4 => some (0, 322, 4, 0)
    | 5 => some (1, 2, 5, 0)
    | 6 => some (0, 60, 6, 0)
    | 8 => some (0, 140, 8, 0)
    | 9 => some (0, 35, 9, 0)
    | 10 => some (0, 35, 10, 0)
    | 11 => some (0, 35, 11, 0)
    | 12 => some (0, 35, 12, 0)
    | 13 => some (0, 3, 13, 0)
    | _ => none
  | _ => none
/-- the array of halls of a field: length, first instance -/
def je_Ra (c j : Nat) : Option (Nat × Nat) := match c with
  | 5 => match j with
    | 5 => some (6, 1)
    | 6 => some (2, 7)
    | _ => none
  | _ => none
def je_kd (c k : Nat) : Bool := match k with
  | 0 => Nat.blt c 7
  | j + 1 => (je_Ar c j).isSome || (je_Ra c j).isSome
def je_ok (q : je_C) : Prop := q.2.1 < je_cnt q.1 ∧ je_kd q.1 q.2.2 = true
def je_fv (ad : je_C → Nat) (G : je_G) (c n : Nat) (f : (Nat × Nat) ⊕ je_C) : Value := match f with
  | .inl q => .int (G c n q.1 q.2)
  | .inr q => .ref (ad q)
def je_arr (G : je_G) (c n len r b : Nat) : Nat → Int32 := fun i => if i < len then G c n r (b + i) else 0
def je_E (ad : je_C → Nat) (cA : Nat → ClassId) (G : je_G) (c n k : Nat) : va_E := match k with
  | 0 => .inr (c, (je_F c n).map (je_fv ad G c n))
  | j + 1 => match je_Ar c j with
    | some (t, len, r, b) => .inl (cA t, len, .inl (je_arr G c n len r b))
    | none => match je_Ra c j with
      | some (len, b) => .inl (cA 2, len, .inr (.inr (.inr (.inr (fun i => some (ad (1, b + i, 0)))))))
      | none => .inl (cA 0, 0, .inl (fun _ => 0))
def je_W (D : va_G) (ad : je_C → Nat) (cA : Nat → ClassId) (G : je_G) (H : Heap) : Prop := ∀ q : je_C, je_ok q → va_at D vwCl (ad q, je_E ad cA G q.1 q.2.1 q.2.2) H
def je_inj (ad : je_C → Nat) : Prop := ∀ q q' : je_C, je_ok q → je_ok q' → ad q = ad q' → q = q'
def je_A (ad : je_C → Nat) : Nat → Prop := fun a => ∃ q : je_C, je_ok q ∧ a = ad q
def je_T (cA : Nat → ClassId) : List (ClassId × FieldType) := [(cA 0, .int), (cA 1, .boolean), (cA 2, .object "RopedHalls$Hall")]
-- ===== locals =====
def je_get : List (Option je_V) → Nat → Option je_V
  | [], _ => none
  | v :: _, 0 => v
  | _ :: t, n + 1 => je_get t n
def je_put : List (Option je_V) → Nat → Option je_V → (List (Option je_V) → Prop) → Prop
  | [], _, _, _ => False
  | _ :: t, 0, v, F => F (v :: t)
  | w :: t, n + 1, v, F => je_put t n v (fun t' => F (w :: t'))
def je_nl (L : List (Option je_V)) (a : Nat) : Bool := match a with
  | 0 => true
  | b + 1 => match je_get L b with
    | some (.inr (.inl _)) => false
    | _ => true
def je_eL (ad : je_C → Nat) : Nat → List (Option je_V) → List (Nat × Value)
  | _, [] => []
  | i, none :: t => je_eL ad (i + 1) t
  | i, some v :: t => (i, je_e ad v) :: je_eL ad (i + 1) t
-- ===== one step =====
abbrev je_K : Type := je_G → Nat → List (Option je_V) → List je_V → Prop
/-- instruction, next place, two numbers (a jump's target; class and field; a local's place), a switch's targets, a constant -/
abbrev je_I : Type := Instr × Nat × Nat × Nat × List (Nat × Int32) × Int32
def je_i1 (S : List je_V) (F : Int32 → List je_V → Prop) : Prop := match S with
  | .inl x :: S' => F x S'
  | _ => False
def je_l1 (S : List je_V) (F : Int64 → List je_V → Prop) : Prop := match S with
  | .inr (.inl x) :: S' => F x S'
  | _ => False
def je_r1 (S : List je_V) (F : Option je_C → List je_V → Prop) : Prop := match S with
  | .inr (.inr x) :: S' => F x S'
  | _ => False
/-- a value of one word -/
def je_v1 (S : List je_V) (F : je_V → List je_V → Prop) : Prop := match S with
  | .inl x :: S' => F (.inl x) S'
  | .inr (.inr x) :: S' => F (.inr (.inr x)) S'
  | _ => False
def je_i2 (S : List je_V) (F : Int32 → Int32 → List je_V → Prop) : Prop := je_i1 S (fun y S1 => je_i1 S1 (fun x S2 => F y x S2))
def je_l2 (S : List je_V) (F : Int64 → Int64 → List je_V → Prop) : Prop := je_l1 S (fun y S1 => je_l1 S1 (fun x S2 => F y x S2))
/-- a cell, not null -/
def je_c1 (S : List je_V) (F : Nat → Nat → Nat → List je_V → Prop) : Prop := je_r1 S (fun r S1 => match r with
  | some q => F q.1 q.2.1 q.2.2 S1
  | none => False)
def je_gi (o : Option je_V) (F : Int32 → Prop) : Prop := match o with
  | some (.inl x) => F x
  | _ => False
def je_gl (o : Option je_V) (F : Int64 → Prop) : Prop := match o with
  | some (.inr (.inl x)) => F x
  | _ => False
def je_gr (o : Option je_V) (F : Option je_C → Prop) : Prop := match o with
  | some (.inr (.inr x)) => F x
  | _ => False
def je_bb (b : Bool) (P : Prop) : Prop := match b with
  | true => P
  | false => False
def je_nth {α : Type} : List α → Nat → Option α
  | [], _ => none
  | v :: _, 0 => some v
  | _ :: t, n + 1 => je_nth t n
def je_cond (op : ClassFile.Cond) (x y : Int32) (A B : Prop) : Prop := match op with
  | .eq => (x = y → A) ∧ (¬ x = y → B)
  | .ne => (¬ x = y → A) ∧ (x = y → B)
  | .lt => (x < y → A) ∧ (¬ x < y → B)
  | .ge => (y ≤ x → A) ∧ (¬ y ≤ x → B)
  | .gt => (y < x → A) ∧ (¬ y < x → B)
  | .le => (x ≤ y → A) ∧ (¬ x ≤ y → B)
def je_sw (x : Int32) : List (Nat × Int32) → (Nat → Prop) → Prop → Prop
  | [], _, B => B
  | (t, v) :: ts, A, B => (x = v → A t) ∧ (¬ x = v → je_sw x ts A B)
def je_isZ (c j : Nat) : Bool := match c with
  | 6 => Nat.beq j 15
  | _ => false
def je_zz (b : Bool) (x : Int32) (P : Prop) : Prop := match b with
  | true => (x = 0 ∨ x = 1) ∧ P
  | false => P
def je_ald (t : Nat) (S : List je_V) (F : Int32 → je_G → Nat → Nat → Nat → Nat → Nat → List je_V → Prop) (G : je_G) : Prop :=
  je_i1 S (fun i S1 => je_c1 S1 (fun c n k S2 => match k with
    | 0 => False
    | j + 1 => match je_Ar c j with
      | some (t', len, r, b) => je_bb (Nat.beq t t') (vp_in i len ∧ F i G c n len r b S2)
      | none => False))
def je_step (t : je_I) (rt : Nat) (K : je_K) (Rt : je_G → Option je_V → Prop) (G : je_G) (L : List (Option je_V)) (S : List je_V) : Prop :=
  match t with
  | (i, nx, a, b, tg, v) => match i with
    | .iconst _ => K G nx L (jI v :: S)
    | .bipush _ => K G nx L (jI v :: S)
    | .sipush _ => K G nx L (jI v :: S)
    | .ldc_w _ => K G nx L (jI v :: S)
    | .lconst _ => K G nx L (jL (Int64.ofNat a) :: S)
    | .ldc2_w _ => K G nx L (jL (Int64.ofNat a) :: S)
    | .aconst_null => K G nx L (jN :: S)
    | .iload_n _ => je_gi (je_get L a) (fun x => K G nx L (jI x :: S))
    | .iload _ => je_gi (je_get L a) (fun x => K G nx L (jI x :: S))
    | .lload_n _ => je_gl (je_get L a) (fun x => K G nx L (jL x :: S))
    | .aload_n _ => je_gr (je_get L a) (fun x => K G nx L (.inr (.inr x) :: S))
    | .istore_n _ => je_bb (je_nl L a) (je_i1 S (fun x S1 => je_put L a (some (jI x)) (fun L1 => K G nx L1 S1)))
    | .istore _ => je_bb (je_nl L a) (je_i1 S (fun x S1 => je_put L a (some (jI x)) (fun L1 => K G nx L1 S1)))
    | .lstore_n _ => je_bb (je_nl L a) (je_l1 S (fun x S1 => je_put L a (some (jL x)) (fun L1 => je_put L1 (a + 1) none (fun L2 => K G nx L2 S1))))
    | .iinc _ _ => je_bb (je_nl L a) (je_gi (je_get L a) (fun x => je_put L a (some (jI (x + v))) (fun L1 => K G nx L1 S)))
    | .iadd => je_i2 S (fun y x S1 => K G nx L (jI (x + y) :: S1))
    | .isub => je_i2 S (fun y x S1 => K G nx L (jI (x - y) :: S1))
    | .imul => je_i2 S (fun y x S1 => K G nx L (jI (x * y) :: S1))
    | .idiv => je_i2 S (fun y x S1 => ¬ y = 0 ∧ K G nx L (jI (x / y) :: S1))
    | .irem => je_i2 S (fun y x S1 => ¬ y = 0 ∧ K G nx L (jI (x - x / y * y) :: S1))
    | .iand => je_i2 S (fun y x S1 => K G nx L (jI (x &&& y) :: S1))
    | .ior => je_i2 S (fun y x S1 => K G nx L (jI (x ||| y) :: S1))
    | .ixor => je_i2 S (fun y x S1 => K G nx L (jI (x ^^^ y) :: S1))
    | .ishl => je_i2 S (fun y x S1 => K G nx L (jI (x <<< (y &&& 31)) :: S1))
    | .iushr => je_i2 S (fun y x S1 => K G nx L (jI (x.toUInt32 >>> (y.toUInt32 &&& Int32.toUInt32 31)).toInt32 :: S1))
    | .lushr => je_i1 S (fun y S1 => je_l1 S1 (fun x S2 => K G nx L (jL (x.toUInt64 >>> (y.toInt64.toUInt64 &&& Int64.toUInt64 63)).toInt64 :: S2)))
    | .lshl => je_i1 S (fun y S1 => je_l1 S1 (fun x S2 => K G nx L (jL (x <<< (y.toInt64 &&& 63)) :: S2)))
    | .land => je_l2 S (fun y x S1 => K G nx L (jL (x &&& y) :: S1))
    | .lor => je_l2 S (fun y x S1 => K G nx L (jL (x ||| y) :: S1))
    | .lcmp => je_l2 S (fun y x S1 => K G nx L (jI (lg_cmp x y) :: S1))
    | .i2l => je_i1 S (fun x S1 => K G nx L (jL x.toInt64 :: S1))
    | .l2i => je_l1 S (fun x S1 => K G nx L (jI x.toInt32 :: S1))
    | .dup => je_v1 S (fun x S1 => K G nx L (x :: x :: S1))
    | .dup2 => je_v1 S (fun x S1 => je_v1 S1 (fun y S2 => K G nx L (x :: y :: x :: y :: S2)))
    | .pop => je_v1 S (fun _ S1 => K G nx L S1)
    | .ifCond op _ => je_i1 S (fun x S1 => je_cond op x 0 (K G a L S1) (K G nx L S1))
    | .if_icmp op _ => je_i2 S (fun y x S1 => je_cond op x y (K G a L S1) (K G nx L S1))
    | .goto _ => K G a L S
    | .ifnull _ => je_r1 S (fun r S1 => match r with
      | none => K G a L S1
      | some _ => K G nx L S1)
    | .tableswitch _ _ _ _ => je_i1 S (fun x S1 => je_sw x tg (fun t => K G t L S1) (K G a L S1))
    | .getfield _ => je_c1 S (fun c n k S1 => je_bb (Nat.beq c a && Nat.beq k 0) (match je_nth (je_F a n) b with
      | some (.inl q) => K G nx L (jI (G a n q.1 q.2) :: S1)
      | some (.inr q) => K G nx L (jR q :: S1)
      | none => False))
    | .putfield _ => je_i1 S (fun x S1 => je_c1 S1 (fun c n k S2 => je_bb (Nat.beq c a && Nat.beq k 0) (match je_nth (je_F a n) b with
      | some (.inl q) => je_zz (je_isZ a b) x (K (je_set G a n q.1 (upd (G a n q.1) q.2 x)) nx L S2)
      | _ => False)))
    | .iaload => je_ald 0 S (fun i G c n _ r b S2 => K G nx L (jI (G c n r (b + i.toNatClampNeg)) :: S2)) G
    | .baload => je_ald 1 S (fun i G c n _ r b S2 => K G nx L (jI (G c n r (b + i.toNatClampNeg)) :: S2)) G
    | .iastore => je_i1 S (fun x S0 => je_ald 0 S0 (fun i G c n _ r b S2 => K (je_set G c n r (upd (G c n r) (b + i.toNatClampNeg) x)) nx L S2) G)
    | .bastore => je_i1 S (fun x S0 => je_ald 1 S0 (fun i G c n _ r b S2 => (x = 0 ∨ x = 1) ∧ K (je_set G c n r (upd (G c n r) (b + i.toNatClampNeg) x)) nx L S2) G)
    | .aaload => je_i1 S (fun i S1 => je_c1 S1 (fun c _ k S2 => match k with
      | 0 => False
      | j + 1 => match je_Ra c j with
        | some q => vp_in i q.1 ∧ K G nx L (jR (1, q.2 + i.toNatClampNeg, 0) :: S2)
        | none => False))
    | .invokestatic _ => match b with
      | 1 => je_i2 S (fun y x S1 => je_bb (Nat.ble (je_sm S1) 8) (K G nx L (jI (if x < y then y else x) :: S1)))
      | 2 => je_i2 S (fun y x S1 => je_bb (Nat.ble (je_sm S1) 8) (K G nx L (jI (if y < x then y else x) :: S1)))
      | _ => False
    | .ireturn => je_i1 S (fun x S1 => match S1 with
      | [] => je_zz (Nat.beq rt 2) x (je_bb (Nat.blt 0 rt && Nat.blt rt 3) (Rt G (some (jI x))))
      | _ => False)
    | .areturn => je_r1 S (fun x S1 => match S1 with
      | [] => je_bb (Nat.beq rt 3) (Rt G (some (.inr (.inr x))))
      | _ => False)
    | .return_ => match S with
      | [] => je_bb (Nat.beq rt 0) (Rt G none)
      | _ => False
    | _ => False
def je_look : List (Nat × je_I) → Nat → Option je_I
  | [], _ => none
  | q :: t, pc => match Nat.beq q.1 pc with
    | true => some q.2
    | false => je_look t pc
/-- n steps; where the table says nothing (a call) the walk stands -/
def je_run (tbl : List (Nat × je_I)) (rt : Nat) (J : je_K) (Rt : je_G → Option je_V → Prop) : Nat → je_K
  | 0, G, pc, L, S => J G pc L S
  | n + 1, G, pc, L, S => match je_look tbl pc with
    | none => J G pc L S
    | some t => je_step t rt (je_run tbl rt J Rt n) Rt G L S
end
section
/-! THE WORLD: cells lie apart; what a store changes -/
theorem je_Ar_lt {c j : Nat} {x : Nat × Nat × Nat × Nat} (h : je_Ar c j = some x) : c < 7 ∧ j < 16 := by
  unfold je_Ar at h
  split at h <;> (first | (cases h; done) | (split at h <;> first | (cases h; done) | exact ⟨by decide, by decide⟩))
def je_inA (c j r i : Nat) : Prop := ∃ t len b, je_Ar c j = some (t, len, r, b) ∧ b ≤ i ∧ i < b + len
def je_chA (c j j' : Nat) : Bool := (je_Ar c j).all fun x => (je_Ar c j').all fun y => decide (j' = j ∨ x.2.2.1 ≠ y.2.2.1 ∨ x.2.2.2 + x.2.1 ≤ y.2.2.2 ∨ y.2.2.2 + y.2.1 ≤ x.2.2.2)
theorem je_chA_all : ∀ c : Fin 7, ∀ j j' : Fin 16, je_chA c.val j.val j'.val = true := by decide +kernel
theorem je_apA {c j j' t len r b i : Nat} (h : je_Ar c j = some (t, len, r, b)) (hi : i < len) (h2 : je_inA c j' r (b + i)) : j' = j := by
  obtain ⟨hc, hj⟩ := je_Ar_lt h
  obtain ⟨t', len', b', hx, e1, e2⟩ := h2
  have hk := je_chA_all ⟨c, hc⟩ ⟨j, hj⟩ ⟨j', (je_Ar_lt hx).2⟩
  simp only [je_chA, h, hx, Option.all_some, decide_eq_true_eq] at hk
  rcases hk with hk | hk | hk | hk
  · exact hk
  · exact absurd rfl hk
  · omega
  · omega
/-- the places of an object's own numbers -/
def je_pF (c : Nat) : List (Option (Nat × Nat)) := match c with
  | 1 => [some (0, 0), some (0, 1), some (0, 2), some (0, 3), some (0, 4)]
  | 3 => [some (0, 0)]
  | 4 => [none, none, none, none, none, some (5, 0)]
  | 5 => [none, none, none, none, none, none, none, none, some (8, 0), some (9, 0)]
  | 6 => [none, none, none, some (3, 0), none, none, none, some (7, 0), none, none, none, none, none, none, some (14, 0), some (15, 0)]
  | _ => []
theorem je_pF_of {c n k : Nat} {q : Nat × Nat} (h : je_nth (je_F c n) k = some (.inl q)) : c < 7 ∧ k < 16 ∧ je_nth (je_pF c) k = some (some q) := by
  unfold je_F at h
  split at h <;>
    (rcases k with _ | _ | _ | _ | _ | _ | _ | _ | _ | _ | _ | _ | _ | _ | _ | _ | k <;>
      first
        | (simp [je_nth] at h; done)
        | (simp only [je_nth, Option.some.injEq, Sum.inl.injEq] at h; subst h; exact ⟨by decide, by decide, rfl⟩))
def je_chF (c k k' : Nat) : Bool := (je_nth (je_pF c) k).all fun x => (je_nth (je_pF c) k').all fun y => x.all fun x => y.all fun y => decide (k = k' ∨ x ≠ y)
theorem je_chF_all : ∀ c : Fin 7, ∀ k k' : Fin 16, je_chF c.val k.val k'.val = true := by decide +kernel
theorem je_apF {c n k k' : Nat} {q : Nat × Nat} (h : je_nth (je_F c n) k = some (.inl q)) (h2 : je_nth (je_F c n) k' = some (.inl q)) : k = k' := by
  obtain ⟨hc, hk, e⟩ := je_pF_of h
  obtain ⟨-, hk', e'⟩ := je_pF_of h2
  have hx := je_chF_all ⟨c, hc⟩ ⟨k, hk⟩ ⟨k', hk'⟩
  simp only [je_chF, e, e', Option.all_some, decide_eq_true_eq] at hx
  rcases hx with hx | hx
  · exact hx
  · exact absurd rfl hx
def je_chX (c k j : Nat) : Bool := (je_nth (je_pF c) k).all fun x => x.all fun x => (je_Ar c j).all fun y => decide (x.1 ≠ y.2.2.1 ∨ x.2 < y.2.2.2 ∨ y.2.2.2 + y.2.1 ≤ x.2)
theorem je_chX_all : ∀ c : Fin 7, ∀ k j : Fin 16, je_chX c.val k.val j.val = true := by decide +kernel
theorem je_apX {c n k j : Nat} {q : Nat × Nat} (h : je_nth (je_F c n) k = some (.inl q)) : ¬ je_inA c j q.1 q.2 := by
  intro ⟨t, len, b, hx, e1, e2⟩
  obtain ⟨hc, hk, e⟩ := je_pF_of h
  have hy := je_chX_all ⟨c, hc⟩ ⟨k, hk⟩ ⟨j, (je_Ar_lt hx).2⟩
  simp only [je_chX, e, hx, Option.all_some, decide_eq_true_eq] at hy
  rcases hy with hy | hy | hy
  · exact absurd rfl hy
  · omega
  · omega
theorem je_set_ne {G : je_G} {c n r c' n' r' : Nat} {f : Nat → Int32} (h : ¬ (c' = c ∧ n' = n ∧ r' = r)) : je_set G c n r f c' n' r' = G c' n' r' := by
  unfold je_set
  rw [if_neg]
  intro ⟨⟨h1, h2⟩, h3⟩
  exact h ⟨h2, h3, h1⟩
theorem je_set_eq {G : je_G} {c n r : Nat} {f : Nat → Int32} : je_set G c n r f c n r = f := by
  unfold je_set
  rw [if_pos ⟨⟨rfl, rfl⟩, rfl⟩]
/-- a store at one place -/
abbrev je_up (G : je_G) (c n r i : Nat) (x : Int32) : je_G := je_set G c n r (upd (G c n r) i x)
theorem je_up_ne {G : je_G} {c n r i c' n' r' i' : Nat} {x : Int32} (h : ¬ (c' = c ∧ n' = n ∧ r' = r ∧ i' = i)) : je_up G c n r i x c' n' r' i' = G c' n' r' i' := by
  by_cases h1 : c' = c ∧ n' = n ∧ r' = r
  · obtain ⟨rfl, rfl, rfl⟩ := h1
    show je_set _ _ _ _ _ _ _ _ _ = _
    rw [je_set_eq]
    unfold upd
    rw [if_neg (fun e => h ⟨rfl, rfl, rfl, e⟩)]
  · show je_set _ _ _ _ _ _ _ _ _ = _
    rw [je_set_ne h1]
theorem je_up_eq {G : je_G} {c n r i : Nat} {x : Int32} : je_up G c n r i x c n r i = x := by
  show je_set _ _ _ _ _ _ _ _ _ = _
  rw [je_set_eq]
  unfold upd
  rw [if_pos rfl]
/-- a cell's content rests on its own places alone -/
theorem je_E_ext {ad : je_C → Nat} {cA : Nat → ClassId} {G G' : je_G} {c n k : Nat} (hF : ∀ j q, k = 0 → je_nth (je_F c n) j = some (.inl q) → G c n q.1 q.2 = G' c n q.1 q.2) (hA : ∀ j r i, k = j + 1 → je_inA c j r i → G c n r i = G' c n r i) : je_E ad cA G c n k = je_E ad cA G' c n k := by
  cases k with
  | zero =>
    show (Sum.inr (c, (je_F c n).map (je_fv ad G c n)) : va_E) = Sum.inr (c, (je_F c n).map (je_fv ad G' c n))
    congr 2
    have key : ∀ (l : List ((Nat × Nat) ⊕ je_C)), (∀ j q, je_nth l j = some (.inl q) → G c n q.1 q.2 = G' c n q.1 q.2) → l.map (je_fv ad G c n) = l.map (je_fv ad G' c n) := by
      intro l
      induction l with
      | nil => intro _; rfl
      | cons a t ih =>
        intro h
        rw [List.map_cons, List.map_cons, ih (fun j q hq => h (j + 1) q hq)]
        congr 1
        cases a with
        | inl q =>
          show Value.int _ = Value.int _
          rw [h 0 q rfl]
        | inr q => rfl
    exact key _ (fun j q hq => hF j q rfl hq)
  | succ j =>
    simp only [je_E]
    cases hx : je_Ar c j with
    | none => rfl
    | some x =>
      obtain ⟨t, len, r, b⟩ := x
      have e : je_arr G c n len r b = je_arr G' c n len r b := by
        funext i
        unfold je_arr
        by_cases hi : i < len
        · rw [if_pos hi, if_pos hi]
          exact hA j r (b + i) rfl ⟨t, len, b, hx, by omega, by omega⟩
        · rw [if_neg hi, if_neg hi]
      simp only [e]
theorem je_W_ext {D : va_G} {ad : je_C → Nat} {cA : Nat → ClassId} {G G' : je_G} {H : Heap} (h : je_W D ad cA G H) (hF : ∀ c n j q, n < je_cnt c → je_nth (je_F c n) j = some (.inl q) → G c n q.1 q.2 = G' c n q.1 q.2) (hA : ∀ c n j r i, n < je_cnt c → je_inA c j r i → G c n r i = G' c n r i) : je_W D ad cA G' H := by
  intro q hq
  rw [← je_E_ext (G := G) (fun j p _ hp => hF _ _ j p hq.1 hp) (fun j r i _ hi => hA _ _ j r i hq.1 hi)]
  exact h q hq
/-- the world behind a store into one cell -/
theorem je_W_set {D : va_G} {ad : je_C → Nat} {cA : Nat → ClassId} {G G' : je_G} {H H1 : Heap} (hJ : je_inj ad) (h : je_W D ad cA G H) {q : je_C} (hq : je_ok q) (h1 : va_at D vwCl (ad q, je_E ad cA G' q.1 q.2.1 q.2.2) H1) (oq : ∀ a, a ≠ ad q → H1[a]? = H[a]?)
    (hE : ∀ q' : je_C, je_ok q' → q' ≠ q → je_E ad cA G q'.1 q'.2.1 q'.2.2 = je_E ad cA G' q'.1 q'.2.1 q'.2.2) : je_W D ad cA G' H1 := by
  intro q' hq'
  by_cases e : q' = q
  · subst e
    exact h1
  · rw [← hE q' hq' e]
    exact (h q' hq').kept (oq (ad q') (fun e2 => e (hJ q' q hq' hq e2)))
theorem je_upA_E {ad : je_C → Nat} {cA : Nat → ClassId} {G : je_G} {c n j t len r b i : Nat} {x : Int32} (h : je_Ar c j = some (t, len, r, b)) (hi : i < len) (q' : je_C) (hne : q' ≠ (c, n, j + 1)) : je_E ad cA G q'.1 q'.2.1 q'.2.2 = je_E ad cA (je_up G c n r (b + i) x) q'.1 q'.2.1 q'.2.2 := by
  obtain ⟨c', n', k'⟩ := q'
  refine je_E_ext (fun j' p hk hp => ?_) (fun j' r' i' hk hp => ?_)
  · refine (je_up_ne ?_).symm
    intro ⟨e1, e2, e3, e4⟩
    dsimp only at e1 e2 hp
    subst e1
    exact je_apX hp ⟨t, len, b, by rw [e3]; exact h, by omega, by omega⟩
  · refine (je_up_ne ?_).symm
    intro ⟨e1, e2, e3, e4⟩
    dsimp only at e1 e2 hp hk
    subst e1; subst e2; subst e3; subst e4
    have := je_apA h hi hp
    subst this
    exact hne (by rw [hk])
theorem je_upF_E {ad : je_C → Nat} {cA : Nat → ClassId} {G : je_G} {c n k : Nat} {q : Nat × Nat} {x : Int32} (h : je_nth (je_F c n) k = some (.inl q)) (q' : je_C) (hne : q' ≠ (c, n, 0)) : je_E ad cA G q'.1 q'.2.1 q'.2.2 = je_E ad cA (je_up G c n q.1 q.2 x) q'.1 q'.2.1 q'.2.2 := by
  obtain ⟨c', n', k'⟩ := q'
  refine je_E_ext (fun j' p hk hp => ?_) (fun j' r' i' hk hp => ?_)
  · refine (je_up_ne ?_).symm
    intro ⟨e1, e2, e3, e4⟩
    dsimp only at e1 e2 hp hk
    exact hne (by rw [e1, e2, hk])
  · refine (je_up_ne ?_).symm
    intro ⟨e1, e2, e3, e4⟩
    dsimp only at e1 e2 hp hk
    subst e1; subst e2; subst e3; subst e4
    exact je_apX h hp
theorem je_upF_fs {ad : je_C → Nat} {G : je_G} {c n k : Nat} {q : Nat × Nat} {x : Int32} (h : je_nth (je_F c n) k = some (.inl q)) : (je_F c n).map (je_fv ad (je_up G c n q.1 q.2 x) c n) = ((je_F c n).map (je_fv ad G c n)).set k (.int x) := by
  have key : ∀ (l : List ((Nat × Nat) ⊕ je_C)) (k : Nat), je_nth l k = some (.inl q) → (∀ j, je_nth l j = some (.inl q) → j = k) → l.map (je_fv ad (je_up G c n q.1 q.2 x) c n) = (l.map (je_fv ad G c n)).set k (.int x) := by
    intro l
    induction l with
    | nil => intro k h; cases h
    | cons a t ih =>
      intro k h hu
      cases k with
      | zero =>
        cases h
        rw [List.map_cons, List.map_cons, List.set_cons_zero]
        have e1 : je_fv ad (je_up G c n q.1 q.2 x) c n (.inl q) = .int x := by
          show Value.int _ = _
          rw [je_up_eq]
        rw [e1]
        congr 1
        refine List.map_congr_left (fun b hb => ?_)
        cases b with
        | inr z => rfl
        | inl z =>
          show Value.int _ = Value.int _
          rw [je_up_ne]
          intro ⟨_, _, e3, e4⟩
          have hz : z = q := Prod.ext e3 e4
          subst hz
          have : ∀ (t : List ((Nat × Nat) ⊕ je_C)), Sum.inl z ∈ t → ∃ j, je_nth t j = some (.inl z) := by
            intro t
            induction t with
            | nil => intro h; cases h
            | cons w t ih2 =>
              intro h
              rcases List.mem_cons.mp h with h | h
              · exact ⟨0, by rw [← h]; rfl⟩
              · obtain ⟨j, hj⟩ := ih2 h
                exact ⟨j + 1, hj⟩
          obtain ⟨j, hj⟩ := this t hb
          have := hu (j + 1) hj
          omega
      | succ k =>
        rw [List.map_cons, List.map_cons, List.set_cons_succ, ih k h (fun j hj => by have := hu (j + 1) hj; omega)]
        congr 1
        cases a with
        | inr z => rfl
        | inl z =>
          show Value.int _ = Value.int _
          rw [je_up_ne]
          intro ⟨_, _, e3, e4⟩
          have hz : z = q := Prod.ext e3 e4
          subst hz
          have := hu 0 rfl
          omega
  exact key _ k h (fun j hj => je_apF hj h)
theorem je_nth_map {α β : Type} (f : α → β) : ∀ (l : List α) (k : Nat) {v : α}, je_nth l k = some v → (l.map f)[k]? = some (f v)
  | [], k, v, h => by cases h
  | a :: t, 0, v, h => by cases h; rfl
  | a :: t, k + 1, v, h => by
    rw [List.map_cons, List.getElem?_cons_succ]
    exact je_nth_map f t k h
theorem je_P1 {D : va_G} {cl : List vw_C} {q : Nat × va_E} {H : Heap} (h : va_at D cl q H) : va_P D cl [q] H := by
  intro k q' hk
  cases k with
  | zero => cases hk; exact h
  | succ k => simp at hk
-- ===== locals =====
theorem je_get_mem {ad : je_C → Nat} {v : je_V} : ∀ (L : List (Option je_V)) (a i : Nat), je_get L a = some v → (i + a, je_e ad v) ∈ je_eL ad i L
  | [], a, i, h => by cases h
  | w :: t, 0, i, h => by
    cases (show w = some v from h)
    exact List.mem_cons_self
  | w :: t, a + 1, i, h => by
    have := je_get_mem (ad := ad) t a (i + 1) h
    rw [show i + (a + 1) = i + 1 + a by omega]
    cases w with
    | none => exact this
    | some w => exact List.mem_cons_of_mem _ this
theorem je_mem_get {ad : je_C → Nat} {q : Nat × Value} : ∀ (L : List (Option je_V)) (i : Nat), q ∈ je_eL ad i L → ∃ a v, je_get L a = some v ∧ q = (i + a, je_e ad v)
  | [], i, h => by cases h
  | none :: t, i, h => by
    obtain ⟨a, v, h1, h2⟩ := je_mem_get t (i + 1) h
    exact ⟨a + 1, v, h1, by rw [h2, show i + (a + 1) = i + 1 + a by omega]⟩
  | some w :: t, i, h => by
    rcases List.mem_cons.mp h with h | h
    · exact ⟨0, w, rfl, h⟩
    · obtain ⟨a, v, h1, h2⟩ := je_mem_get t (i + 1) h
      exact ⟨a + 1, v, h1, by rw [h2, show i + (a + 1) = i + 1 + a by omega]⟩
theorem je_get_in {v : je_V} : ∀ (L : List (Option je_V)) (a : Nat), je_get L a = some v → some v ∈ L
  | [], a, h => by cases h
  | w :: t, 0, h => by
    cases (show w = some v from h)
    exact List.mem_cons_self
  | w :: t, a + 1, h => List.mem_cons_of_mem _ (je_get_in t a h)
theorem je_in_get {v : je_V} : ∀ (L : List (Option je_V)), some v ∈ L → ∃ a, je_get L a = some v
  | [], h => by cases h
  | w :: t, h => by
    rcases List.mem_cons.mp h with h | h
    · exact ⟨0, h.symm⟩
    · obtain ⟨a, ha⟩ := je_in_get t h
      exact ⟨a + 1, ha⟩
theorem je_put_inv {v : Option je_V} : ∀ (L : List (Option je_V)) (a : Nat) (F : List (Option je_V) → Prop), je_put L a v F → ∃ L', F L' ∧ a < L.length ∧ L'.length = L.length ∧ ∀ j, je_get L' j = if j = a then v else je_get L j
  | [], a, F, h => by cases h
  | w :: t, 0, F, h => by
    refine ⟨v :: t, h, by simp, by simp, fun j => ?_⟩
    cases j with
    | zero => rfl
    | succ j => rw [if_neg (by omega)]; rfl
  | w :: t, a + 1, F, h => by
    obtain ⟨t', h1, h2, h3, h4⟩ := je_put_inv t a _ h
    refine ⟨w :: t', h1, by simp; exact h2, by simp [h3], fun j => ?_⟩
    cases j with
    | zero => rw [if_neg (by omega)]; rfl
    | succ j =>
      show je_get t' j = _
      rw [h4 j]
      by_cases hj : j = a
      · rw [if_pos hj, if_pos (by omega)]
      · rw [if_neg hj, if_neg (by omega)]; rfl
theorem je_nl_ok {L : List (Option je_V)} {a j : Nat} {v : je_V} (h : je_nl L a = true) (hj : j + 1 = a) (hg : je_get L j = some v) (ad : je_C → Nat) : ((je_e ad v).category == 2) = false := by
  subst hj
  unfold je_nl at h
  simp only [hg] at h
  rcases v with x | x | x
  · rfl
  · cases h
  · cases x <;> rfl
theorem lv_mono {ls : Array Slot} {n : Nat} {l l' : List (Nat × Value)} (h : lv_has ls n l) (hs : ∀ q ∈ l', q ∈ l) : lv_has ls n l' := ⟨h.1, h.2.1, fun q hq => h.2.2 q (hs q hq)⟩
theorem je_st1 {ad : je_C → Nat} {L L' : List (Option je_V)} {a : Nat} {v : je_V} (hn : je_nl L a = true) (hg : ∀ j, je_get L' j = if j = a then some v else je_get L j) : ∀ q ∈ je_eL ad 0 L', q ∈ (a, je_e ad v) :: (je_eL ad 0 L).filter (fun q => !(q.1 == a) && !(q.1 + 1 == a && q.2.category == 2)) := by
  intro q hq
  obtain ⟨j, w, h1, h2⟩ := je_mem_get L' 0 hq
  rw [hg j] at h1
  subst h2
  rw [Nat.zero_add]
  by_cases hj : j = a
  · rw [if_pos hj] at h1
    cases h1
    rw [hj]
    exact List.mem_cons_self
  · rw [if_neg hj] at h1
    refine List.mem_cons_of_mem _ (List.mem_filter.mpr ⟨by have := je_get_mem (ad := ad) L j 0 h1; rwa [Nat.zero_add] at this, ?_⟩)
    have e1 : (j == a) = false := by simp [hj]
    by_cases hj2 : j + 1 = a
    · have e2 := je_nl_ok hn hj2 h1 ad
      simp only [e1, e2, Bool.and_false, Bool.not_false, Bool.and_true]
    · have e2 : (j + 1 == a) = false := by simp [hj2]
      simp only [e1, e2, Bool.false_and, Bool.not_false, Bool.and_true]
theorem je_st2 {ad : je_C → Nat} {L L1 L2 : List (Option je_V)} {a : Nat} {v : je_V} (hn : je_nl L a = true) (hg : ∀ j, je_get L1 j = if j = a then some v else je_get L j) (hg2 : ∀ j, je_get L2 j = if j = a + 1 then none else je_get L1 j) : ∀ q ∈ je_eL ad 0 L2, q ∈ (a, je_e ad v) :: (je_eL ad 0 L).filter (fun q => !(q.1 == a) && (!(q.1 == a + 1) && !(q.1 + 1 == a && q.2.category == 2))) := by
  intro q hq
  obtain ⟨j, w, h1, h2⟩ := je_mem_get L2 0 hq
  rw [hg2 j] at h1
  subst h2
  rw [Nat.zero_add]
  by_cases hj3 : j = a + 1
  · rw [if_pos hj3] at h1
    cases h1
  rw [if_neg hj3, hg j] at h1
  by_cases hj : j = a
  · rw [if_pos hj] at h1
    cases h1
    rw [hj]
    exact List.mem_cons_self
  · rw [if_neg hj] at h1
    refine List.mem_cons_of_mem _ (List.mem_filter.mpr ⟨by have := je_get_mem (ad := ad) L j 0 h1; rwa [Nat.zero_add] at this, ?_⟩)
    have e1 : (j == a) = false := by simp [hj]
    have e3 : (j == a + 1) = false := by simp [hj3]
    by_cases hj2 : j + 1 = a
    · have e2 := je_nl_ok hn hj2 h1 ad
      simp only [e1, e2, e3, Bool.and_false, Bool.not_false, Bool.and_true]
    · have e2 : (j + 1 == a) = false := by simp [hj2]
      simp only [e1, e2, e3, Bool.false_and, Bool.not_false, Bool.and_true]
end
section
/-! ONE STEP IS SOUND: the propositional step gives the machine's -/
theorem je_i1_inv {S : List je_V} {F : Int32 → List je_V → Prop} (h : je_i1 S F) : ∃ x S', S = jI x :: S' ∧ F x S' := by
  unfold je_i1 at h
  split at h
  · exact ⟨_, _, rfl, h⟩
  · exact h.elim
theorem je_l1_inv {S : List je_V} {F : Int64 → List je_V → Prop} (h : je_l1 S F) : ∃ x S', S = jL x :: S' ∧ F x S' := by
  unfold je_l1 at h
  split at h
  · exact ⟨_, _, rfl, h⟩
  · exact h.elim
theorem je_r1_inv {S : List je_V} {F : Option je_C → List je_V → Prop} (h : je_r1 S F) : ∃ x S', S = .inr (.inr x) :: S' ∧ F x S' := by
  unfold je_r1 at h
  split at h
  · exact ⟨_, _, rfl, h⟩
  · exact h.elim
theorem je_v1_inv {S : List je_V} {F : je_V → List je_V → Prop} (h : je_v1 S F) : ∃ v S', S = v :: S' ∧ F v S' ∧ ∀ ad : je_C → Nat, (je_e ad v).category = 1 := by
  unfold je_v1 at h
  split at h
  · exact ⟨_, _, rfl, h, fun ad => rfl⟩
  · rename_i x S'
    exact ⟨_, _, rfl, h, fun ad => by cases x <;> rfl⟩
  · exact h.elim
theorem je_i2_inv {S : List je_V} {F : Int32 → Int32 → List je_V → Prop} (h : je_i2 S F) : ∃ y x S', S = jI y :: jI x :: S' ∧ F y x S' := by
  obtain ⟨y, S1, e, h⟩ := je_i1_inv h
  obtain ⟨x, S2, e2, h⟩ := je_i1_inv h
  subst e; subst e2
  exact ⟨y, x, S2, rfl, h⟩
theorem je_l2_inv {S : List je_V} {F : Int64 → Int64 → List je_V → Prop} (h : je_l2 S F) : ∃ y x S', S = jL y :: jL x :: S' ∧ F y x S' := by
  obtain ⟨y, S1, e, h⟩ := je_l1_inv h
  obtain ⟨x, S2, e2, h⟩ := je_l1_inv h
  subst e; subst e2
  exact ⟨y, x, S2, rfl, h⟩
theorem je_c1_inv {S : List je_V} {F : Nat → Nat → Nat → List je_V → Prop} (h : je_c1 S F) : ∃ c n k S', S = jR (c, n, k) :: S' ∧ F c n k S' := by
  obtain ⟨x, S1, e, h⟩ := je_r1_inv h
  cases x with
  | none => exact h.elim
  | some q => exact ⟨q.1, q.2.1, q.2.2, S1, e, h⟩
theorem je_gi_inv {o : Option je_V} {F : Int32 → Prop} (h : je_gi o F) : ∃ x, o = some (jI x) ∧ F x := by
  unfold je_gi at h
  split at h
  · exact ⟨_, rfl, h⟩
  · exact h.elim
theorem je_gl_inv {o : Option je_V} {F : Int64 → Prop} (h : je_gl o F) : ∃ x, o = some (jL x) ∧ F x := by
  unfold je_gl at h
  split at h
  · exact ⟨_, rfl, h⟩
  · exact h.elim
theorem je_gr_inv {o : Option je_V} {F : Option je_C → Prop} (h : je_gr o F) : ∃ x, o = some (.inr (.inr x)) ∧ F x := by
  unfold je_gr at h
  split at h
  · exact ⟨_, rfl, h⟩
  · exact h.elim
theorem je_bb_inv {b : Bool} {P : Prop} (h : je_bb b P) : b = true ∧ P := by
  cases b with
  | true => exact ⟨rfl, h⟩
  | false => exact h.elim
theorem je_zz_inv {b : Bool} {x : Int32} {P : Prop} (h : je_zz b x P) : (b = true → x = 0 ∨ x = 1) ∧ P := by
  cases b with
  | true => exact ⟨fun _ => h.1, h.2⟩
  | false => exact ⟨fun h => (by cases h), h⟩
theorem je_ald_inv {t : Nat} {S : List je_V} {F : Int32 → je_G → Nat → Nat → Nat → Nat → Nat → List je_V → Prop} {G : je_G} (h : je_ald t S F G) : ∃ i c n j len r b S', S = jI i :: jR (c, n, j + 1) :: S' ∧ je_Ar c j = some (t, len, r, b) ∧ vp_in i len ∧ F i G c n len r b S' := by
  obtain ⟨i, S1, e, h⟩ := je_i1_inv h
  obtain ⟨c, n, k, S2, e2, h⟩ := je_c1_inv h
  cases k with
  | zero => exact h.elim
  | succ j =>
    try dsimp only at h
    cases hx : je_Ar c j with
    | none => rw [hx] at h; exact h.elim
    | some x =>
      obtain ⟨t', len, r, b⟩ := x
      rw [hx] at h
      have h5 : je_bb (Nat.beq t t') (vp_in i len ∧ F i G c n len r b S2) := h
      obtain ⟨hb, h6⟩ := je_bb_inv h5
      have ht : t = t' := Nat.eq_of_beq_eq_true hb
      subst ht; subst e; subst e2
      exact ⟨i, c, n, j, len, r, b, S2, rfl, hx, h6.1, h6.2⟩
/-- what the instruction of a row is, and what it links -/
def je_okI (own : String) (cc : ByteArray) (Ts : List Jvm.Cond) (pc : Nat) (t : je_I) : Prop :=
  match t with
  | (i, nx, a, b, tg, v) => decode cc pc = .ok (i, nx - pc) ∧ match i with
    | .iconst n => nx = pc + 1 ∧ Int32.ofInt n = v
    | .bipush n => nx = pc + 2 ∧ (Int8.ofInt n).toInt32 = v
    | .sipush n => nx = pc + 3 ∧ (Int16.ofInt n).toInt32 = v
    | .ldc_w k => nx = pc + 3 ∧ Jvm.Cond.constant own k v ∈ Ts
    | .lconst n => nx = pc + 1 ∧ (n : Nat) = a
    | .ldc2_w k => nx = pc + 3 ∧ Jvm.Cond.constantLong own k (Int64.ofNat a) ∈ Ts
    | .iload_n k => nx = pc + 1 ∧ (k : Nat) = a
    | .iload k => nx = pc + 2 ∧ k = a
    | .lload_n k => nx = pc + 1 ∧ (k : Nat) = a
    | .aload_n k => nx = pc + 1 ∧ (k : Nat) = a
    | .istore_n k => nx = pc + 1 ∧ (k : Nat) = a
    | .istore k => nx = pc + 2 ∧ k = a
    | .lstore_n k => nx = pc + 1 ∧ (k : Nat) = a
    | .iinc k n => nx = pc + 3 ∧ k = a ∧ Int32.ofInt n = v
    | .ifCond _ off => nx = pc + 3 ∧ (pc : Int) + off = (a : Int)
    | .if_icmp _ off => nx = pc + 3 ∧ (pc : Int) + off = (a : Int)
    | .goto off => (nx = pc + 3) ∧ (pc : Int) + off = (a : Int)
    | .ifnull off => nx = pc + 3 ∧ (pc : Int) + off = (a : Int)
    | .tableswitch d lo hi offs => pc < nx ∧ (pc : Int) + d = (a : Int) ∧ (tg.length : Int) = hi - lo + 1 ∧ -1000 < lo ∧ hi < 1000 ∧ ∀ j : Fin tg.length, (tg[j.val]).2 = Int32.ofInt (lo + (j.val : Int)) ∧ ∃ off : Int, offs[j.val]? = some off ∧ (pc : Int) + off = ((tg[j.val]).1 : Int)
    | .getfield k => nx = pc + 3 ∧ match vwCl[a]? with
      | some r => b < r.2.2 ∧ Jvm.Cond.fieldLink own k (r.2.1 b).1 (r.2.1 b).2.1 (r.2.1 b).2.2.1 ∈ Ts ∧ ∀ w ∈ u_ws r.1 r.2.1 r.2.2, w ∈ Ts
      | none => False
    | .putfield k => nx = pc + 3 ∧ match vwCl[a]? with
      | some r => b < r.2.2 ∧ Jvm.Cond.fieldLink own k (r.2.1 b).1 (r.2.1 b).2.1 (r.2.1 b).2.2.1 ∈ Ts ∧ (∀ w ∈ u_ws r.1 r.2.1 r.2.2, w ∈ Ts) ∧ (r.2.1 b).2.2.2 = false ∧ parseFieldDescriptor (r.2.1 b).2.2.1 = some (match je_isZ a b with | true => .boolean | false => .int)
      | none => False
    | .invokestatic k => nx = pc + 3 ∧ Jvm.Cond.initialized "java/lang/Math" ∈ Ts ∧ match b with
      | 1 => Jvm.Cond.methodLink own k Lib.Math.max.name ∈ Ts ∧ Jvm.Cond.static Lib.Math.max.name ∈ Ts ∧ Jvm.Cond.code Lib.Math.max.name Lib.Math.max.code 2 (some .int) ∈ Ts
      | 2 => Jvm.Cond.methodLink own k Lib.Math.min.name ∈ Ts ∧ Jvm.Cond.static Lib.Math.min.name ∈ Ts ∧ Jvm.Cond.code Lib.Math.min.name Lib.Math.min.code 2 (some .int) ∈ Ts
      | _ => False
    | _ => nx = pc + 1
def je_oks (S : List je_V) : Prop := ∀ q, jR q ∈ S → je_ok q
def je_okL (L : List (Option je_V)) : Prop := ∀ q, some (jR q) ∈ L → je_ok q
theorem je_oks_tl {v : je_V} {S : List je_V} (h : je_oks (v :: S)) : je_oks S := fun q hq => h q (List.mem_cons_of_mem _ hq)
theorem je_oks_hd {q : je_C} {S : List je_V} (h : je_oks (jR q :: S)) : je_ok q := h q List.mem_cons_self
theorem je_oks_i {x : Int32} {S : List je_V} (h : je_oks S) : je_oks (jI x :: S) := fun q hq => by
  rcases List.mem_cons.mp hq with h1 | h1
  · cases h1
  · exact h q h1
theorem je_oks_l {x : Int64} {S : List je_V} (h : je_oks S) : je_oks (jL x :: S) := fun q hq => by
  rcases List.mem_cons.mp hq with h1 | h1
  · cases h1
  · exact h q h1
theorem je_oks_r {p : je_C} {S : List je_V} (hp : je_ok p) (h : je_oks S) : je_oks (jR p :: S) := fun q hq => by
  rcases List.mem_cons.mp hq with h1 | h1
  · cases h1; exact hp
  · exact h q h1
theorem je_oks_n {S : List je_V} (h : je_oks S) : je_oks (jN :: S) := fun q hq => by
  rcases List.mem_cons.mp hq with h1 | h1
  · cases h1
  · exact h q h1
theorem je_okL_put {L L' : List (Option je_V)} {a : Nat} {v : Option je_V} (h : je_okL L) (hv : ∀ q, v = some (jR q) → je_ok q) (hg : ∀ j, je_get L' j = if j = a then v else je_get L j) : je_okL L' := by
  intro q hq
  obtain ⟨j, hj⟩ := je_in_get L' hq
  rw [hg j] at hj
  by_cases e : j = a
  · rw [if_pos e] at hj
    exact hv q hj
  · rw [if_neg e] at hj
    exact h q (je_get_in L j hj)
/-- the judgement: from here the machine comes to Q, whatever the heap is that holds the world, whatever the slots are that hold the locals -/
def je_J (p : Program) (l : Launch) (e : Env) (R : Room) (s : State) (m : MethodId) (args : Array Value) (below : List Frame) (meth : Method) (c : Code) (cells slots : Nat) (Q : State → Prop) (D : va_G) (ad : je_C → Nat) (cA : Nat → ClassId) (nL : Nat) (H0 : Heap) : je_K := fun G pc L S =>
  L.length ≤ nL → je_okL L → je_oks S → ∀ (H : Heap) (locs : List Loc) (ls : Array Slot), je_W D ad cA G H → va_S (je_A ad) H0 H locs → lv_has ls nL (je_eL ad 0 L) → W p l e R s m args below meth c H locs cells slots Q (F0 m pc ls (S.map (je_e ad)))
theorem je_cat_e (ad : je_C → Nat) (v : je_V) : (je_e ad v).category = je_cat v := by
  rcases v with x | x | x
  · rfl
  · rfl
  · cases x <;> rfl
theorem je_sm_e (ad : je_C → Nat) : ∀ S : List je_V, ((S.map (je_e ad)).map fun v => v.category).sum = je_sm S
  | [] => rfl
  | v :: t => by
    rw [List.map_cons, List.map_cons, List.sum_cons, je_sm_e ad t, je_cat_e]
    rfl
theorem je_look_mem : ∀ (tbl : List (Nat × je_I)) (pc : Nat) {t : je_I}, je_look tbl pc = some t → (pc, t) ∈ tbl
  | [], pc, t, h => by cases h
  | q :: tbl, pc, t, h => by
    unfold je_look at h
    split at h
    · rename_i hb
      have := Nat.eq_of_beq_eq_true hb
      cases h
      subst this
      exact List.mem_cons_self
    · exact List.mem_cons_of_mem _ (je_look_mem tbl pc h)
theorem je_tys {r : vw_C} {a : Nat} (h : vwCl[a]? = some r) : (∃ ty : Nat → FieldType, ∀ k, k < r.2.2 → parseFieldDescriptor (r.2.1 k).2.2.1 = some (ty k)) ∧ (∀ x, x < r.2.2 → ∀ y, y < r.2.2 → x ≠ y → (r.2.1 x).2.1 ≠ (r.2.1 y).2.1) := by
  match a, h with
  | 0, h => cases h; exact ⟨⟨tyX0, tyX0_ok⟩, nmX0⟩
  | 1, h => cases h; exact ⟨⟨tyX1, tyX1_ok⟩, nmX1⟩
  | 2, h => cases h; exact ⟨⟨tyX2, tyX2_ok⟩, nmX2⟩
  | 3, h => cases h; exact ⟨⟨tyX3, tyX3_ok⟩, nmX3⟩
  | 4, h => cases h; exact ⟨⟨tyX4, tyX4_ok⟩, nmX4⟩
  | 5, h => cases h; exact ⟨⟨tyX5, tyX5_ok⟩, nmX5⟩
  | 6, h => cases h; exact ⟨⟨tyX6, tyX6_ok⟩, nmX6⟩
  | a + 7, h => simp [vwCl] at h
theorem je_F_ok {c n j : Nat} {q : je_C} (hn : n < je_cnt c) (h : je_nth (je_F c n) j = some (.inr q)) : je_ok q := by
  unfold je_F at h
  split at h <;>
    (rcases j with _ | _ | _ | _ | _ | _ | _ | _ | _ | _ | _ | _ | _ | _ | _ | _ | j <;>
      first
        | (simp [je_nth] at h; done)
        | (simp only [je_nth, Option.some.injEq, Sum.inr.injEq] at h; subst h; first | exact ⟨hn, rfl⟩ | exact ⟨by decide, rfl⟩))
theorem je_Ra_ok {c j i : Nat} {q : Nat × Nat} (h : je_Ra c j = some q) (hi : i < q.1) : je_ok (1, q.2 + i, 0) := by
  unfold je_Ra at h
  split at h
  · split at h
    · cases h
      exact ⟨by show 1 + i < 10; dsimp only at hi; omega, rfl⟩
    · cases h
      exact ⟨by show 7 + i < 10; dsimp only at hi; omega, rfl⟩
    · cases h
  · cases h
theorem je_Ra_E {ad : je_C → Nat} {cA : Nat → ClassId} {G : je_G} {c n j : Nat} {q : Nat × Nat} (h : je_Ra c j = some q) : je_E ad cA G c n (j + 1) = .inl (cA 2, q.1, .inr (.inr (.inr (.inr (fun i => some (ad (1, q.2 + i, 0))))))) := by
  unfold je_Ra at h
  split at h
  · split at h
    · cases h; rfl
    · cases h; rfl
    · cases h
  · cases h
theorem je_Ar_E {ad : je_C → Nat} {cA : Nat → ClassId} {G : je_G} {c n j t len r b : Nat} (h : je_Ar c j = some (t, len, r, b)) : je_E ad cA G c n (j + 1) = .inl (cA t, len, .inl (je_arr G c n len r b)) := by
  simp only [je_E, h]
end
section
/-! ONE STEP IS SOUND, instruction by instruction (laid by wip/whole/gen/gen_sound.py) -/
section JE
variable {p : Program} {l : Launch} {e : Env} {R : Room} {s : State} {m : MethodId} {args : Array Value} {below : List Frame} {meth : Method} {c : Code} {cells slots : Nat} {Q : State → Prop} {D : va_G} {ad : je_C → Nat} {cA : Nat → ClassId} {nL : Nat} {H0 : Heap} {cc : ByteArray} {own : String} {Ts : List Jvm.Cond}
theorem je_s_get (hx : p.tables.exec = Jvm.exec) (hb : c.code = cc) (hown : s.vm.findClass own = some m.cls) (hts : ∀ w ∈ Ts, w.before args s = true) (hK : va_K D vwCl (je_T cA) s) {pc a b k : Nat} {r : vw_C} (hr : vwCl[a]? = some r) (hbr : b < r.2.2) (hlink : Jvm.Cond.fieldLink own k (r.2.1 b).1 (r.2.1 b).2.1 (r.2.1 b).2.2.1 ∈ Ts) (hin : ∀ w ∈ u_ws r.1 r.2.1 r.2.2, w ∈ Ts) (hd : decode cc pc = .ok (.getfield k, 3)) {n : Nat} (hok : je_ok (a, n, 0)) {f : (Nat × Nat) ⊕ je_C} (hf : je_nth (je_F a n) b = some f)
    {G : je_G} {H : Heap} {locs : List Loc} {ls : Array Slot} {rest : List Value} (hW : je_W D ad cA G H) (kk : W p l e R s m args below meth c H locs cells slots Q (F0 m (pc + 3) ls (je_fv ad G a n f :: rest))) : W p l e R s m args below meth c H locs cells slots Q (F0 m pc ls (.ref (ad (a, n, 0)) :: rest)) := by
  obtain ⟨C, T, N⟩ := r
  exact va_get (own := own) (ref := (T b).1) (C := C) (T := T) (N := N) (ci := a) hx hb hts hin hown hK (je_P1 (hW _ hok)) 0 (fs := (je_F a n).map (je_fv ad G a n)) rfl hr b hbr (hts _ hlink) (fun _ h => h) (je_nth_map _ _ _ hf) hd kk
theorem je_s_put (hx : p.tables.exec = Jvm.exec) (hb : c.code = cc) (hown : s.vm.findClass own = some m.cls) (hts : ∀ w ∈ Ts, w.before args s = true) (hK : va_K D vwCl (je_T cA) s) (hJ : je_inj ad) {pc a b k : Nat} {r : vw_C} (hr : vwCl[a]? = some r) (hbr : b < r.2.2) (hlink : Jvm.Cond.fieldLink own k (r.2.1 b).1 (r.2.1 b).2.1 (r.2.1 b).2.2.1 ∈ Ts) (hin : ∀ w ∈ u_ws r.1 r.2.1 r.2.2, w ∈ Ts) (hfin : (r.2.1 b).2.2.2 = false) {ty : FieldType} (hty : parseFieldDescriptor (r.2.1 b).2.2.1 = some ty) {x : Int32} (hn : narrow ty (.int x) = .int x) (hfit : fits ty (.int x) = true) (hd : decode cc pc = .ok (.putfield k, 3)) {n : Nat} (hok : je_ok (a, n, 0)) {q : Nat × Nat} (hf : je_nth (je_F a n) b = some (.inl q))
    {G : je_G} {H : Heap} {locs : List Loc} {ls : Array Slot} {rest : List Value} (hW : je_W D ad cA G H) (hS : va_S (je_A ad) H0 H locs) (kk : ∀ (H1 : Heap) (locs1 : List Loc), je_W D ad cA (je_up G a n q.1 q.2 x) H1 → va_S (je_A ad) H0 H1 locs1 → W p l e R s m args below meth c H1 locs1 cells slots Q (F0 m (pc + 3) ls rest)) : W p l e R s m args below meth c H locs cells slots Q (F0 m pc ls (.int x :: .ref (ad (a, n, 0)) :: rest)) := by
  obtain ⟨C, T, N⟩ := r
  obtain ⟨⟨ty0, hty0⟩, hnm⟩ := je_tys hr
  have hap := va_apart (own := own) hts hin ty0 hty0 hnm hK hr
  have hcell := hW _ hok
  obtain ⟨r, h1, cell, q1, q2, q3, q4⟩ := hcell
  have hr' : r = (C, T, N) := Option.some.inj (h1.symm.trans hr)
  subst hr'
  obtain ⟨hSl, hfc, kC, hkC, hkind⟩ := hK.1 a _ hr
  obtain ⟨cf, kf, fi, f, hi, hsl⟩ := hSl b hbr
  have hlay := hts _ (hin _ (u_in_lay hbr))
  unfold u_lay at hlay
  rw [if_neg (by rw [hfin]; decide)] at hlay
  have hst := (u_facts hfc hkC (u_lays hts hin hbr) hi).1
  have h6 := u_store hfc hkC hkind hlay hi hty hn hfit
  refine W.putK hx hb (f := f) ⟨hown, hts _ hlink, ⟨_, _, _, hi⟩, hst⟩ (by rw [q2]; exact h6) q1 q3 (by rw [hsl]; exact k2_hasslot (q4 b hbr)) rfl rfl hd fun H' e1 e2 e3 => ?_
  rw [hsl] at e1 ⊢
  have hlen : b < ((je_F a n).map (je_fv ad G a n)).length := (List.getElem?_eq_some_iff.mp (je_nth_map (je_fv ad G a n) _ _ hf)).1
  refine kk H' _ (je_W_set hJ hW hok ?_ e3 (fun q' _ hne => je_upF_E hf q' hne)) (hS.put e2 e3 ⟨_, hok, rfl⟩)
  show va_at D vwCl (ad (a, n, 0), .inr (a, (je_F a n).map (je_fv ad (je_up G a n q.1 q.2 x) a n))) H'
  rw [je_upF_fs hf]
  exact ⟨_, hr, t_OB.to (V := updV (vp_V ((je_F a n).map (je_fv ad G a n))) b (.int x)) ⟨_, e1, q2, q3, t_set q4 hap hbr (.int x)⟩ (fun j _ => vp_updV_set hlen (.int x) j)⟩
theorem je_arr_set {G : je_G} {c n r b len i : Nat} {x : Int32} (hi : i < len) : updV (fun j => .int (je_arr G c n len r b j)) i (.int x) = fun j => .int (je_arr (je_up G c n r (b + i) x) c n len r b j) := by
  funext j
  unfold updV
  by_cases hj : j = i
  · subst hj
    unfold je_arr
    rw [if_pos rfl, if_pos hi, je_up_eq]
  · rw [if_neg hj]
    show Value.int (je_arr G c n len r b j) = Value.int (je_arr _ c n len r b j)
    unfold je_arr
    by_cases hl : j < len
    · rw [if_pos hl, if_pos hl, je_up_ne (by omega)]
    · rw [if_neg hl, if_neg hl]
theorem je_arr_at {G : je_G} {c n r b len : Nat} {i : Int32} (h : vp_in i len) : je_arr G c n len r b i.toNatClampNeg = G c n r (b + i.toNatClampNeg) := by
  unfold je_arr
  rw [if_pos (Nat.not_le.mp fun q => h (Or.inr q))]
theorem je_s_iald (hx : p.tables.exec = Jvm.exec) (hb : c.code = cc) (hK : va_K D vwCl (je_T cA) s) {pc c' n j len r b : Nat} (hA : je_Ar c' j = some (0, len, r, b)) {i : Int32} (hi : vp_in i len) (hd : decode cc pc = .ok (.iaload, 1)) (hok : je_ok (c', n, j + 1))
    {G : je_G} {H : Heap} {locs : List Loc} {ls : Array Slot} {rest : List Value} (hW : je_W D ad cA G H) (kk : W p l e R s m args below meth c H locs cells slots Q (F0 m (pc + 1) ls (.int (G c' n r (b + i.toNatClampNeg)) :: rest))) : W p l e R s m args below meth c H locs cells slots Q (F0 m pc ls (.int i :: .ref (ad (c', n, j + 1)) :: rest)) := by
  have h1 := hW _ hok
  dsimp only at h1
  rw [je_Ar_E hA] at h1
  refine va_iald (D := D) (cl := vwCl) (tys := je_T cA) (f := je_arr G c' n len r b) (n := len) (cA := cA 0) hx hb hK (je_P1 h1) 0 0 rfl rfl hi hd ?_
  rw [je_arr_at hi]
  exact kk
theorem je_s_zald (hx : p.tables.exec = Jvm.exec) (hb : c.code = cc) (hK : va_K D vwCl (je_T cA) s) {pc c' n j len r b : Nat} (hA : je_Ar c' j = some (1, len, r, b)) {i : Int32} (hi : vp_in i len) (hd : decode cc pc = .ok (.baload, 1)) (hok : je_ok (c', n, j + 1))
    {G : je_G} {H : Heap} {locs : List Loc} {ls : Array Slot} {rest : List Value} (hW : je_W D ad cA G H) (kk : W p l e R s m args below meth c H locs cells slots Q (F0 m (pc + 1) ls (.int (G c' n r (b + i.toNatClampNeg)) :: rest))) : W p l e R s m args below meth c H locs cells slots Q (F0 m pc ls (.int i :: .ref (ad (c', n, j + 1)) :: rest)) := by
  have h1 := hW _ hok
  dsimp only at h1
  rw [je_Ar_E hA] at h1
  refine va_zald (D := D) (cl := vwCl) (tys := je_T cA) (f := je_arr G c' n len r b) (n := len) (cA := cA 1) hx hb hK (je_P1 h1) 0 1 rfl rfl hi hd ?_
  rw [je_arr_at hi]
  exact kk
theorem je_s_aald (hx : p.tables.exec = Jvm.exec) (hb : c.code = cc) (hK : va_K D vwCl (je_T cA) s) {pc c' n j : Nat} {q : Nat × Nat} (hA : je_Ra c' j = some q) {i : Int32} (hi : vp_in i q.1) (hd : decode cc pc = .ok (.aaload, 1)) (hok : je_ok (c', n, j + 1))
    {G : je_G} {H : Heap} {locs : List Loc} {ls : Array Slot} {rest : List Value} (hW : je_W D ad cA G H) (kk : W p l e R s m args below meth c H locs cells slots Q (F0 m (pc + 1) ls (.ref (ad (1, q.2 + i.toNatClampNeg, 0)) :: rest))) : W p l e R s m args below meth c H locs cells slots Q (F0 m pc ls (.int i :: .ref (ad (c', n, j + 1)) :: rest)) := by
  have h1 := hW _ hok
  dsimp only at h1
  rw [je_Ra_E hA] at h1
  exact va_aldq (D := D) (cl := vwCl) (tys := je_T cA) (n := q.1) (cA := cA 2) (C := "RopedHalls$Hall") (f := fun i => some (ad (1, q.2 + i, 0))) hx hb hK (je_P1 h1) 0 2 rfl rfl hi hd kk
theorem je_s_iast (hx : p.tables.exec = Jvm.exec) (hb : c.code = cc) (hK : va_K D vwCl (je_T cA) s) (hJ : je_inj ad) {pc c' n j len r b : Nat} (hA : je_Ar c' j = some (0, len, r, b)) {i x : Int32} (hi : vp_in i len) (hd : decode cc pc = .ok (.iastore, 1)) (hok : je_ok (c', n, j + 1))
    {G : je_G} {H : Heap} {locs : List Loc} {ls : Array Slot} {rest : List Value} (hW : je_W D ad cA G H) (hS : va_S (je_A ad) H0 H locs) (kk : ∀ (H1 : Heap) (locs1 : List Loc), je_W D ad cA (je_up G c' n r (b + i.toNatClampNeg) x) H1 → va_S (je_A ad) H0 H1 locs1 → W p l e R s m args below meth c H1 locs1 cells slots Q (F0 m (pc + 1) ls rest)) : W p l e R s m args below meth c H locs cells slots Q (F0 m pc ls (.int x :: .int i :: .ref (ad (c', n, j + 1)) :: rest)) := by
  have hlt : i.toNatClampNeg < len := Nat.not_le.mp fun q => hi (Or.inr q)
  have h1 := hW _ hok
  dsimp only at h1
  rw [je_Ar_E hA] at h1
  refine W.iast hx hb h1 ((hK.2 0 _ rfl).1 len (fun q => .int (je_arr G c' n len r b q))) (fun q => by cases q) (by show ¬ (i < 0 ∨ (arrV _ _ _).slots.size ≤ _); rw [arrV_size]; exact hi) rfl rfl hd fun H1 e1 z oq => ?_
  refine kk H1 _ (je_W_set hJ hW hok ?_ oq (fun q' _ hne => je_upA_E hA hlt q' hne)) (hS.put z oq ⟨_, hok, rfl⟩)
  dsimp only
  rw [je_Ar_E hA]
  show H1[ad (c', n, j + 1)]? = some (vp_cell _ _)
  rw [e1, vp_cell_i, vp_cell_i, arrV_store, je_arr_set hlt]
theorem je_s_zast (hx : p.tables.exec = Jvm.exec) (hb : c.code = cc) (hK : va_K D vwCl (je_T cA) s) (hJ : je_inj ad) {pc c' n j len r b : Nat} (hA : je_Ar c' j = some (1, len, r, b)) {i x : Int32} (hi : vp_in i len) (h01 : x = 0 ∨ x = 1) (hd : decode cc pc = .ok (.bastore, 1)) (hok : je_ok (c', n, j + 1))
    {G : je_G} {H : Heap} {locs : List Loc} {ls : Array Slot} {rest : List Value} (hW : je_W D ad cA G H) (hS : va_S (je_A ad) H0 H locs) (kk : ∀ (H1 : Heap) (locs1 : List Loc), je_W D ad cA (je_up G c' n r (b + i.toNatClampNeg) x) H1 → va_S (je_A ad) H0 H1 locs1 → W p l e R s m args below meth c H1 locs1 cells slots Q (F0 m (pc + 1) ls rest)) : W p l e R s m args below meth c H locs cells slots Q (F0 m pc ls (.int x :: .int i :: .ref (ad (c', n, j + 1)) :: rest)) := by
  have hlt : i.toNatClampNeg < len := Nat.not_le.mp fun q => hi (Or.inr q)
  have h1 := hW _ hok
  dsimp only at h1
  rw [je_Ar_E hA] at h1
  have hn : narrow .boolean (.int x) = .int x := by rcases h01 with rfl | rfl <;> rfl
  refine W.zast hx hb h1 ((hK.2 1 _ rfl).1 len (fun q => .int (je_arr G c' n len r b q))) (fun q => by cases q) (by show ¬ (i < 0 ∨ (arrV _ _ _).slots.size ≤ _); rw [arrV_size]; exact hi) rfl rfl hd fun H1 e1 z oq => ?_
  refine kk H1 _ (je_W_set hJ hW hok ?_ oq (fun q' _ hne => je_upA_E hA hlt q' hne)) (hS.put z oq ⟨_, hok, rfl⟩)
  dsimp only
  rw [je_Ar_E hA]
  show H1[ad (c', n, j + 1)]? = some (vp_cell _ _)
  rw [e1, hn, vp_cell_i, vp_cell_i, arrV_store, je_arr_set hlt]

theorem va_tsInt {lo hi : Int} {k : Nat} (h1 : -1000 < lo) (h2 : hi < 1000) (h3 : lo + (k : Int) ≤ hi) : (Int32.ofInt (lo + (k : Int))).toInt = lo + (k : Int) := by
  rw [Int32.toInt_ofInt]
  exact Int.bmod_eq_of_le (by simp [Int32.size]; omega) (by simp [Int32.size]; omega)
theorem je_cond_ok {A B : Prop} {op : ClassFile.Cond} {x y : Int32} (h : je_cond op x y A B) : je_cond op x y A B := h
set_option maxHeartbeats 4000000 in
theorem je_sound (hx : p.tables.exec = Jvm.exec) (hb : c.code = cc) (hown : s.vm.findClass own = some m.cls) (hml : c.maxLocals = nL) (hts : ∀ w ∈ Ts, w.before args s = true) (hK : va_K D vwCl (je_T cA) s) (hJ : je_inj ad) (hroom : 1 ≤ R.frames ∧ 21 ≤ R.locals ∧ cells ≤ R.cells ∧ slots ≤ R.slots) {rt : Nat} {Rt : je_G → Option je_V → Prop}
    (hRi : ∀ G pc x H locs ls, decode cc pc = .ok (.ireturn, 1) → (rt = 1 ∨ (rt = 2 ∧ (x = 0 ∨ x = 1))) → Rt G (some (jI x)) → je_W D ad cA G H → va_S (je_A ad) H0 H locs → W p l e R s m args below meth c H locs cells slots Q (F0 m pc ls [.int x]))
    (hRa : ∀ G pc (r : Option je_C) H locs ls, decode cc pc = .ok (.areturn, 1) → rt = 3 → Rt G (some (.inr (.inr r))) → (∀ q, r = some q → je_ok q) → je_W D ad cA G H → va_S (je_A ad) H0 H locs → W p l e R s m args below meth c H locs cells slots Q (F0 m pc ls [je_e ad (.inr (.inr r))]))
    (hRv : ∀ G pc H locs ls, decode cc pc = .ok (.return_, 1) → rt = 0 → Rt G none → je_W D ad cA G H → va_S (je_A ad) H0 H locs → W p l e R s m args below meth c H locs cells slots Q (F0 m pc ls []))
    {pc : Nat} {t : je_I} {G : je_G} {L : List (Option je_V)} {S : List je_V} (hok : je_okI own cc Ts pc t) {K : je_K} (hKJ : ∀ G pc L S, K G pc L S → je_J p l e R s m args below meth c cells slots Q D ad cA nL H0 G pc L S) (h : je_step t rt K Rt G L S) : je_J p l e R s m args below meth c cells slots Q D ad cA nL H0 G pc L S := by
  obtain ⟨i, nx, a, b, tg, v⟩ := t
  intro h0 hL hS H locs ls hW hV hl
  have hls : c.maxLocals = ls.size := hml.trans hl.1.symm
  cases i with
  | iconst n =>
    obtain ⟨hd, e1, e2⟩ := hok
    subst e1
    rw [Nat.add_sub_cancel_left] at hd
    exact lv_iconst hx hb hd e2 (hKJ _ _ _ _ h h0 hL (je_oks_i hS) H locs ls hW hV hl)
  | bipush n =>
    obtain ⟨hd, e1, e2⟩ := hok
    subst e1
    rw [Nat.add_sub_cancel_left] at hd
    exact lv_bipush hx hb hd e2 (hKJ _ _ _ _ h h0 hL (je_oks_i hS) H locs ls hW hV hl)
  | sipush n =>
    obtain ⟨hd, e1, e2⟩ := hok
    subst e1
    rw [Nat.add_sub_cancel_left] at hd
    exact lv_sipush hx hb hd e2 (hKJ _ _ _ _ h h0 hL (je_oks_i hS) H locs ls hW hV hl)
  | ldc_w k =>
    obtain ⟨hd, e1, e2⟩ := hok
    subst e1
    rw [Nat.add_sub_cancel_left] at hd
    exact lv_ldcw hx hb hown (hts _ e2) hd (hKJ _ _ _ _ h h0 hL (je_oks_i hS) H locs ls hW hV hl)
  | lconst n =>
    obtain ⟨hd, e1, e2⟩ := hok
    subst e1
    rw [Nat.add_sub_cancel_left] at hd
    subst e2
    exact lv_lconst hx hb hd rfl (hKJ _ _ _ _ h h0 hL (je_oks_l hS) H locs ls hW hV hl)
  | ldc2_w k =>
    obtain ⟨hd, e1, e2⟩ := hok
    subst e1
    rw [Nat.add_sub_cancel_left] at hd
    exact lv_ldc2 hx hb hown (hts _ e2) hd (hKJ _ _ _ _ h h0 hL (je_oks_l hS) H locs ls hW hV hl)
  | aconst_null =>
    obtain ⟨hd, e1⟩ := hok
    subst e1
    rw [Nat.add_sub_cancel_left] at hd
    exact lv_null hx hb hd (hKJ _ _ _ _ h h0 hL (je_oks_n hS) H locs ls hW hV hl)
  | iload_n k =>
    obtain ⟨hd, e1, e3⟩ := hok
    subst e1
    rw [Nat.add_sub_cancel_left] at hd
    obtain ⟨x, e2, hh⟩ := je_gi_inv h
    clear h
    have h := hh
    clear hh
    have hg := hl.2.2 _ (je_get_mem (ad := ad) L a 0 e2)
    rw [Nat.zero_add] at hg
    exact lv_iload_n hx hb hd e3 hg (hKJ _ _ _ _ h h0 hL (je_oks_i hS) H locs ls hW hV hl)
  | iload k =>
    obtain ⟨hd, e1, e3⟩ := hok
    subst e1
    rw [Nat.add_sub_cancel_left] at hd
    obtain ⟨x, e2, hh⟩ := je_gi_inv h
    clear h
    have h := hh
    clear hh
    have hg := hl.2.2 _ (je_get_mem (ad := ad) L a 0 e2)
    rw [Nat.zero_add] at hg
    subst e3
    exact lv_iload hx hb hd hg (hKJ _ _ _ _ h h0 hL (je_oks_i hS) H locs ls hW hV hl)
  | lload_n k =>
    obtain ⟨hd, e1, e3⟩ := hok
    subst e1
    rw [Nat.add_sub_cancel_left] at hd
    obtain ⟨x, e2, hh⟩ := je_gl_inv h
    clear h
    have h := hh
    clear hh
    have hg := hl.2.2 _ (je_get_mem (ad := ad) L a 0 e2)
    rw [Nat.zero_add] at hg
    exact lv_lload_n hx hb hd e3 hg (hKJ _ _ _ _ h h0 hL (je_oks_l hS) H locs ls hW hV hl)
  | aload_n k =>
    obtain ⟨hd, e1, e3⟩ := hok
    subst e1
    rw [Nat.add_sub_cancel_left] at hd
    obtain ⟨x, e2, hh⟩ := je_gr_inv h
    clear h
    have h := hh
    clear hh
    have hg := hl.2.2 _ (je_get_mem (ad := ad) L a 0 e2)
    rw [Nat.zero_add] at hg
    cases x with
    | none => exact lv_aload_nN hx hb hd e3 hg (hKJ _ _ _ _ h h0 hL (je_oks_n hS) H locs ls hW hV hl)
    | some q => exact lv_aload_n hx hb hd e3 hg (hKJ _ _ _ _ h h0 hL (je_oks_r (hL q (je_get_in L a e2)) hS) H locs ls hW hV hl)
  | istore_n k =>
    obtain ⟨hd, e1, e3⟩ := hok
    subst e1
    rw [Nat.add_sub_cancel_left] at hd
    obtain ⟨hnl, hh⟩ := je_bb_inv h
    clear h
    have h := hh
    clear hh
    obtain ⟨x, S1, e2, hh⟩ := je_i1_inv h
    clear h
    have h := hh
    clear hh
    subst e2
    obtain ⟨L1, hh, hlt, hlen, hg⟩ := je_put_inv L a _ h
    clear h
    have h := hh
    clear hh
    refine lv_istore_n hx hb hd e3 hl (Nat.lt_of_lt_of_le hlt h0) rfl (fun ls1 hl1 => ?_)
    exact hKJ _ _ _ _ h (by rw [hlen]; exact h0) (je_okL_put hL (fun q hq => by cases hq) hg) (je_oks_tl hS) H locs ls1 hW hV (lv_mono hl1 (je_st1 (v := jI x) hnl hg))
  | istore k =>
    obtain ⟨hd, e1, e3⟩ := hok
    subst e1
    rw [Nat.add_sub_cancel_left] at hd
    obtain ⟨hnl, hh⟩ := je_bb_inv h
    clear h
    have h := hh
    clear hh
    obtain ⟨x, S1, e2, hh⟩ := je_i1_inv h
    clear h
    have h := hh
    clear hh
    subst e2
    obtain ⟨L1, hh, hlt, hlen, hg⟩ := je_put_inv L a _ h
    clear h
    have h := hh
    clear hh
    subst e3
    refine lv_istore hx hb hd hl (Nat.lt_of_lt_of_le hlt h0) rfl (fun ls1 hl1 => ?_)
    exact hKJ _ _ _ _ h (by rw [hlen]; exact h0) (je_okL_put hL (fun q hq => by cases hq) hg) (je_oks_tl hS) H locs ls1 hW hV (lv_mono hl1 (je_st1 (v := jI x) hnl hg))
  | lstore_n k =>
    obtain ⟨hd, e1, e3⟩ := hok
    subst e1
    rw [Nat.add_sub_cancel_left] at hd
    obtain ⟨hnl, hh⟩ := je_bb_inv h
    clear h
    have h := hh
    clear hh
    obtain ⟨x, S1, e2, hh⟩ := je_l1_inv h
    clear h
    have h := hh
    clear hh
    subst e2
    obtain ⟨L1, hh, hlt, hlen, hg⟩ := je_put_inv L a _ h
    clear h
    have h := hh
    clear hh
    obtain ⟨L2, hh, hlt2, hlen2, hg2⟩ := je_put_inv L1 (a + 1) _ h
    clear h
    have h := hh
    clear hh
    refine lv_lstore_n hx hb hd e3 hl (Nat.lt_of_lt_of_le (by rw [hlen] at hlt2; exact hlt2) h0) rfl (fun ls1 hl1 => ?_)
    exact hKJ _ _ _ _ h (by rw [hlen2, hlen]; exact h0) (je_okL_put (je_okL_put hL (fun q hq => by cases hq) hg) (fun q hq => by cases hq) hg2) (je_oks_tl hS) H locs ls1 hW hV (lv_mono hl1 (je_st2 (v := jL x) hnl hg hg2))
  | iinc k n =>
    obtain ⟨hd, e1, e3, e4⟩ := hok
    subst e1
    rw [Nat.add_sub_cancel_left] at hd
    obtain ⟨hnl, hh⟩ := je_bb_inv h
    clear h
    have h := hh
    clear hh
    obtain ⟨x, e2, hh⟩ := je_gi_inv h
    clear h
    have h := hh
    clear hh
    obtain ⟨L1, hh, hlt, hlen, hg⟩ := je_put_inv L a _ h
    clear h
    have h := hh
    clear hh
    subst e3
    have hm := je_get_mem (ad := ad) L _ 0 e2
    rw [Nat.zero_add] at hm
    obtain ⟨z, hz⟩ := List.getElem?_of_mem hm
    refine lv_iinc hx hb hd hl (k := z) hz (by rw [e4]) (Nat.lt_of_lt_of_le hlt h0) rfl (fun ls1 hl1 => ?_)
    exact hKJ _ _ _ _ h (by rw [hlen]; exact h0) (je_okL_put hL (fun q hq => by cases hq) hg) hS H locs ls1 hW hV (lv_mono hl1 (je_st1 (v := jI (x + v)) hnl hg))
  | iadd =>
    obtain ⟨hd, e1⟩ := hok
    subst e1
    rw [Nat.add_sub_cancel_left] at hd
    obtain ⟨y, x, S1, e2, hh⟩ := je_i2_inv h
    clear h
    have h := hh
    clear hh
    subst e2
    exact lv_iadd hx hb hd (hKJ _ _ _ _ h h0 hL (je_oks_i (je_oks_tl (je_oks_tl hS))) H locs ls hW hV hl)
  | isub =>
    obtain ⟨hd, e1⟩ := hok
    subst e1
    rw [Nat.add_sub_cancel_left] at hd
    obtain ⟨y, x, S1, e2, hh⟩ := je_i2_inv h
    clear h
    have h := hh
    clear hh
    subst e2
    exact lv_isub hx hb hd (hKJ _ _ _ _ h h0 hL (je_oks_i (je_oks_tl (je_oks_tl hS))) H locs ls hW hV hl)
  | imul =>
    obtain ⟨hd, e1⟩ := hok
    subst e1
    rw [Nat.add_sub_cancel_left] at hd
    obtain ⟨y, x, S1, e2, hh⟩ := je_i2_inv h
    clear h
    have h := hh
    clear hh
    subst e2
    exact lv_imul hx hb hd (hKJ _ _ _ _ h h0 hL (je_oks_i (je_oks_tl (je_oks_tl hS))) H locs ls hW hV hl)
  | iand =>
    obtain ⟨hd, e1⟩ := hok
    subst e1
    rw [Nat.add_sub_cancel_left] at hd
    obtain ⟨y, x, S1, e2, hh⟩ := je_i2_inv h
    clear h
    have h := hh
    clear hh
    subst e2
    exact lv_iand hx hb hd (hKJ _ _ _ _ h h0 hL (je_oks_i (je_oks_tl (je_oks_tl hS))) H locs ls hW hV hl)
  | ior =>
    obtain ⟨hd, e1⟩ := hok
    subst e1
    rw [Nat.add_sub_cancel_left] at hd
    obtain ⟨y, x, S1, e2, hh⟩ := je_i2_inv h
    clear h
    have h := hh
    clear hh
    subst e2
    exact lv_ior hx hb hd (hKJ _ _ _ _ h h0 hL (je_oks_i (je_oks_tl (je_oks_tl hS))) H locs ls hW hV hl)
  | ixor =>
    obtain ⟨hd, e1⟩ := hok
    subst e1
    rw [Nat.add_sub_cancel_left] at hd
    obtain ⟨y, x, S1, e2, hh⟩ := je_i2_inv h
    clear h
    have h := hh
    clear hh
    subst e2
    exact lv_ixor hx hb hd (hKJ _ _ _ _ h h0 hL (je_oks_i (je_oks_tl (je_oks_tl hS))) H locs ls hW hV hl)
  | ishl =>
    obtain ⟨hd, e1⟩ := hok
    subst e1
    rw [Nat.add_sub_cancel_left] at hd
    obtain ⟨y, x, S1, e2, hh⟩ := je_i2_inv h
    clear h
    have h := hh
    clear hh
    subst e2
    exact lv_ishl hx hb hd (hKJ _ _ _ _ h h0 hL (je_oks_i (je_oks_tl (je_oks_tl hS))) H locs ls hW hV hl)
  | iushr =>
    obtain ⟨hd, e1⟩ := hok
    subst e1
    rw [Nat.add_sub_cancel_left] at hd
    obtain ⟨y, x, S1, e2, hh⟩ := je_i2_inv h
    clear h
    have h := hh
    clear hh
    subst e2
    exact lv_iushr hx hb hd rfl (hKJ _ _ _ _ h h0 hL (je_oks_i (je_oks_tl (je_oks_tl hS))) H locs ls hW hV hl)
  | idiv =>
    obtain ⟨hd, e1⟩ := hok
    subst e1
    rw [Nat.add_sub_cancel_left] at hd
    obtain ⟨y, x, S1, e2, hne, hh⟩ := je_i2_inv h
    clear h
    have h := hh
    clear hh
    subst e2
    exact lv_idiv hx hb hd hne (hKJ _ _ _ _ h h0 hL (je_oks_i (je_oks_tl (je_oks_tl hS))) H locs ls hW hV hl)
  | irem =>
    obtain ⟨hd, e1⟩ := hok
    subst e1
    rw [Nat.add_sub_cancel_left] at hd
    obtain ⟨y, x, S1, e2, hne, hh⟩ := je_i2_inv h
    clear h
    have h := hh
    clear hh
    subst e2
    exact lv_irem hx hb hd hne (hKJ _ _ _ _ h h0 hL (je_oks_i (je_oks_tl (je_oks_tl hS))) H locs ls hW hV hl)
  | land =>
    obtain ⟨hd, e1⟩ := hok
    subst e1
    rw [Nat.add_sub_cancel_left] at hd
    obtain ⟨y, x, S1, e2, hh⟩ := je_l2_inv h
    clear h
    have h := hh
    clear hh
    subst e2
    exact lv_land hx hb hd (hKJ _ _ _ _ h h0 hL (je_oks_l (je_oks_tl (je_oks_tl hS))) H locs ls hW hV hl)
  | lor =>
    obtain ⟨hd, e1⟩ := hok
    subst e1
    rw [Nat.add_sub_cancel_left] at hd
    obtain ⟨y, x, S1, e2, hh⟩ := je_l2_inv h
    clear h
    have h := hh
    clear hh
    subst e2
    exact lv_lor hx hb hd (hKJ _ _ _ _ h h0 hL (je_oks_l (je_oks_tl (je_oks_tl hS))) H locs ls hW hV hl)
  | lcmp =>
    obtain ⟨hd, e1⟩ := hok
    subst e1
    rw [Nat.add_sub_cancel_left] at hd
    obtain ⟨y, x, S1, e2, hh⟩ := je_l2_inv h
    clear h
    have h := hh
    clear hh
    subst e2
    exact W.lcmp hx hb hd (hKJ _ _ _ _ h h0 hL (je_oks_i (je_oks_tl (je_oks_tl hS))) H locs ls hW hV hl)
  | lushr =>
    obtain ⟨hd, e1⟩ := hok
    subst e1
    rw [Nat.add_sub_cancel_left] at hd
    obtain ⟨y, S1, e2, hh⟩ := je_i1_inv h
    clear h
    have h := hh
    clear hh
    obtain ⟨x, S2, e3, hh⟩ := je_l1_inv h
    clear h
    have h := hh
    clear hh
    subst e2
    subst e3
    exact lv_lushr hx hb hd rfl (hKJ _ _ _ _ h h0 hL (je_oks_l (je_oks_tl (je_oks_tl hS))) H locs ls hW hV hl)
  | lshl =>
    obtain ⟨hd, e1⟩ := hok
    subst e1
    rw [Nat.add_sub_cancel_left] at hd
    obtain ⟨y, S1, e2, hh⟩ := je_i1_inv h
    clear h
    have h := hh
    clear hh
    obtain ⟨x, S2, e3, hh⟩ := je_l1_inv h
    clear h
    have h := hh
    clear hh
    subst e2
    subst e3
    exact lv_lshl hx hb hd rfl (hKJ _ _ _ _ h h0 hL (je_oks_l (je_oks_tl (je_oks_tl hS))) H locs ls hW hV hl)
  | i2l =>
    obtain ⟨hd, e1⟩ := hok
    subst e1
    rw [Nat.add_sub_cancel_left] at hd
    obtain ⟨x, S1, e2, hh⟩ := je_i1_inv h
    clear h
    have h := hh
    clear hh
    subst e2
    exact lv_i2l hx hb hd rfl (hKJ _ _ _ _ h h0 hL (je_oks_l (je_oks_tl hS)) H locs ls hW hV hl)
  | l2i =>
    obtain ⟨hd, e1⟩ := hok
    subst e1
    rw [Nat.add_sub_cancel_left] at hd
    obtain ⟨x, S1, e2, hh⟩ := je_l1_inv h
    clear h
    have h := hh
    clear hh
    subst e2
    exact lv_l2i hx hb hd rfl (hKJ _ _ _ _ h h0 hL (je_oks_i (je_oks_tl hS)) H locs ls hW hV hl)
  | dup =>
    obtain ⟨hd, e1⟩ := hok
    subst e1
    rw [Nat.add_sub_cancel_left] at hd
    dsimp only [je_step] at h
    obtain ⟨x, S1, e2, hh, hc⟩ := je_v1_inv h
    clear h
    have h := hh
    clear hh
    subst e2
    refine lv_dup hx hb hd (hc ad) (hKJ _ _ _ _ h h0 hL (fun q hq => ?_) H locs ls hW hV hl)
    rcases List.mem_cons.mp hq with h1 | h1
    · exact hS q (List.mem_cons.mpr (Or.inl h1))
    · exact hS q h1
  | dup2 =>
    obtain ⟨hd, e1⟩ := hok
    subst e1
    rw [Nat.add_sub_cancel_left] at hd
    dsimp only [je_step] at h
    obtain ⟨x, S1, e2, hh, hc⟩ := je_v1_inv h
    clear h
    have h := hh
    clear hh
    obtain ⟨y, S2, e3, hh, hc2⟩ := je_v1_inv h
    clear h
    have h := hh
    clear hh
    subst e2
    subst e3
    refine lv_dup2_11 hx hb hd (hc ad) (hc2 ad) (hKJ _ _ _ _ h h0 hL (fun q hq => ?_) H locs ls hW hV hl)
    rcases List.mem_cons.mp hq with h1 | h1
    · exact hS q (List.mem_cons.mpr (Or.inl h1))
    rcases List.mem_cons.mp h1 with h1 | h1
    · exact hS q (List.mem_cons.mpr (Or.inr (List.mem_cons.mpr (Or.inl h1))))
    · exact hS q h1
  | pop =>
    obtain ⟨hd, e1⟩ := hok
    subst e1
    rw [Nat.add_sub_cancel_left] at hd
    dsimp only [je_step] at h
    obtain ⟨x, S1, e2, hh, hc⟩ := je_v1_inv h
    clear h
    have h := hh
    clear hh
    subst e2
    exact lv_pop hx hb hd (hc ad) (hKJ _ _ _ _ h h0 hL (je_oks_tl hS) H locs ls hW hV hl)
  | ifCond op off =>
    obtain ⟨hd, e1, e3⟩ := hok
    subst e1
    rw [Nat.add_sub_cancel_left] at hd
    obtain ⟨x, S1, e2, hh⟩ := je_i1_inv h
    clear h
    have h := hh
    clear hh
    subst e2
    cases op with
    | eq => exact lv_if_eq hx hb hd e3 (fun q => hKJ _ _ _ _ (h.1 q) h0 hL (je_oks_tl hS) H locs ls hW hV hl) (fun q => hKJ _ _ _ _ (h.2 q) h0 hL (je_oks_tl hS) H locs ls hW hV hl)
    | ne => exact lv_if_ne hx hb hd e3 (fun q => hKJ _ _ _ _ (h.1 q) h0 hL (je_oks_tl hS) H locs ls hW hV hl) (fun q => hKJ _ _ _ _ (h.2 q) h0 hL (je_oks_tl hS) H locs ls hW hV hl)
    | lt => exact lv_if_lt hx hb hd e3 (fun q => hKJ _ _ _ _ (h.1 q) h0 hL (je_oks_tl hS) H locs ls hW hV hl) (fun q => hKJ _ _ _ _ (h.2 q) h0 hL (je_oks_tl hS) H locs ls hW hV hl)
    | ge => exact lv_if_ge hx hb hd e3 (fun q => hKJ _ _ _ _ (h.1 q) h0 hL (je_oks_tl hS) H locs ls hW hV hl) (fun q => hKJ _ _ _ _ (h.2 q) h0 hL (je_oks_tl hS) H locs ls hW hV hl)
    | gt => exact lv_if_gt hx hb hd e3 (fun q => hKJ _ _ _ _ (h.1 q) h0 hL (je_oks_tl hS) H locs ls hW hV hl) (fun q => hKJ _ _ _ _ (h.2 q) h0 hL (je_oks_tl hS) H locs ls hW hV hl)
    | le => exact lv_if_le hx hb hd e3 (fun q => hKJ _ _ _ _ (h.1 q) h0 hL (je_oks_tl hS) H locs ls hW hV hl) (fun q => hKJ _ _ _ _ (h.2 q) h0 hL (je_oks_tl hS) H locs ls hW hV hl)
  | if_icmp op off =>
    obtain ⟨hd, e1, e3⟩ := hok
    subst e1
    rw [Nat.add_sub_cancel_left] at hd
    obtain ⟨y, x, S1, e2, hh⟩ := je_i2_inv h
    clear h
    have h := hh
    clear hh
    subst e2
    cases op with
    | eq => exact lv_icmp_eq hx hb hd e3 (fun q => hKJ _ _ _ _ (h.1 q) h0 hL (je_oks_tl (je_oks_tl hS)) H locs ls hW hV hl) (fun q => hKJ _ _ _ _ (h.2 q) h0 hL (je_oks_tl (je_oks_tl hS)) H locs ls hW hV hl)
    | ne => exact lv_icmp_ne hx hb hd e3 (fun q => hKJ _ _ _ _ (h.1 q) h0 hL (je_oks_tl (je_oks_tl hS)) H locs ls hW hV hl) (fun q => hKJ _ _ _ _ (h.2 q) h0 hL (je_oks_tl (je_oks_tl hS)) H locs ls hW hV hl)
    | lt => exact lv_icmp_lt hx hb hd e3 (fun q => hKJ _ _ _ _ (h.1 q) h0 hL (je_oks_tl (je_oks_tl hS)) H locs ls hW hV hl) (fun q => hKJ _ _ _ _ (h.2 q) h0 hL (je_oks_tl (je_oks_tl hS)) H locs ls hW hV hl)
    | ge => exact lv_icmp_ge hx hb hd e3 (fun q => hKJ _ _ _ _ (h.1 q) h0 hL (je_oks_tl (je_oks_tl hS)) H locs ls hW hV hl) (fun q => hKJ _ _ _ _ (h.2 q) h0 hL (je_oks_tl (je_oks_tl hS)) H locs ls hW hV hl)
    | gt => exact lv_icmp_gt hx hb hd e3 (fun q => hKJ _ _ _ _ (h.1 q) h0 hL (je_oks_tl (je_oks_tl hS)) H locs ls hW hV hl) (fun q => hKJ _ _ _ _ (h.2 q) h0 hL (je_oks_tl (je_oks_tl hS)) H locs ls hW hV hl)
    | le => exact lv_icmp_le hx hb hd e3 (fun q => hKJ _ _ _ _ (h.1 q) h0 hL (je_oks_tl (je_oks_tl hS)) H locs ls hW hV hl) (fun q => hKJ _ _ _ _ (h.2 q) h0 hL (je_oks_tl (je_oks_tl hS)) H locs ls hW hV hl)
  | goto off =>
    obtain ⟨hd, e1, e3⟩ := hok
    subst e1
    rw [Nat.add_sub_cancel_left] at hd
    exact lv_goto hx hb hd e3 (hKJ _ _ _ _ h h0 hL hS H locs ls hW hV hl)
  | ifnull off =>
    obtain ⟨hd, e1, e3⟩ := hok
    subst e1
    rw [Nat.add_sub_cancel_left] at hd
    obtain ⟨x, S1, e2, hh⟩ := je_r1_inv h
    clear h
    have h := hh
    clear hh
    subst e2
    cases x with
    | none => exact lv_ifnullN hx hb hd e3 (hKJ _ _ _ _ h h0 hL (je_oks_tl hS) H locs ls hW hV hl)
    | some q => exact lv_ifnull hx hb hd (hKJ _ _ _ _ h h0 hL (je_oks_tl hS) H locs ls hW hV hl)
  | tableswitch d lo hi offs =>
    obtain ⟨hd, e1, e3, e4, elo, ehi, e5⟩ := hok
    obtain ⟨x, S1, e2, hh⟩ := je_i1_inv h
    clear h
    have h := hh
    clear hh
    subst e2
    have key : ∀ (ts : List (Nat × Int32)) (k : Nat), tg = tg.take k ++ ts → (tg.take k).length = k → je_sw x ts (fun t => K G t L S1) (K G a L S1) → (∀ j : Nat, j < k → x ≠ Int32.ofInt (lo + (j : Int))) → W p l e R s m args below meth c H locs cells slots Q (F0 m pc ls ((jI x :: S1).map (je_e ad))) := by
      intro ts
      induction ts with
      | nil =>
        intro k ek elk h hne
        have hk : k = tg.length := by rw [← elk]; rw [List.append_nil] at ek; rw [← ek]
        refine lv_tableOut hx hb hd ?_ e3 (hKJ _ _ _ _ h h0 hL (je_oks_tl hS) H locs ls hW hV hl)
        by_cases q1 : x.toInt < lo
        · exact Or.inl q1
        by_cases q2 : hi < x.toInt
        · exact Or.inr q2
        exact absurd (by rw [show lo + (((x.toInt - lo).toNat : Nat) : Int) = x.toInt by omega, Int32.ofInt_toInt]) (hne (x.toInt - lo).toNat (by omega))
      | cons z ts ih =>
        intro k ek elk h hne
        obtain ⟨t, v⟩ := z
        have hkl : k < tg.length := by
          have := congrArg List.length ek
          rw [List.length_append, elk, List.length_cons] at this
          omega
        have hz : tg[k]? = some (t, v) := by
          rw [ek, List.getElem?_append_right (by rw [elk]; exact Nat.le_refl _), elk, Nat.sub_self]
          rfl
        have hz2 : tg[k] = (t, v) := by
          have := List.getElem?_eq_getElem hkl
          rw [hz] at this
          exact (Option.some.inj this).symm
        obtain ⟨f1, off, f2, f3⟩ := e5 ⟨k, hkl⟩
        dsimp only at f1 f2 f3
        rw [hz2] at f1 f3
        dsimp only at f1 f3
        by_cases hv : x = v
        · have hxi : x.toInt = lo + (k : Int) := by
            rw [hv, f1]
            exact va_tsInt elo ehi (by omega)
          exact lv_tableIn hx hb hd (by omega) (by omega) (off := off) (by rw [hxi, show (lo + (k : Int) - lo).toNat = k by omega]; exact f2) f3 (hKJ _ _ _ _ (h.1 hv) h0 hL (je_oks_tl hS) H locs ls hW hV hl)
        · refine ih (k + 1) ?_ ?_ (h.2 hv) ?_
          · rw [List.take_add_one, hz, Option.toList_some, List.append_assoc]
            exact ek
          · rw [List.length_take]; omega
          · intro j hj
            by_cases e9 : j = k
            · subst e9; rw [← f1]; exact hv
            · exact hne j (by omega)
    exact key tg 0 (by simp) (by simp) h (fun j hj => absurd hj (Nat.not_lt_zero j))
  | getfield k =>
    obtain ⟨hd, e1, e3⟩ := hok
    subst e1
    rw [Nat.add_sub_cancel_left] at hd
    dsimp only [je_step] at h
    obtain ⟨c1, n1, k1, S1, e2, hh⟩ := je_c1_inv h
    clear h
    have h := hh
    clear hh
    try dsimp only at h
    obtain ⟨hbb, hh⟩ := je_bb_inv h
    clear h
    have h := hh
    clear hh
    rw [Bool.and_eq_true] at hbb
    have ec := Nat.eq_of_beq_eq_true hbb.1
    have ek := Nat.eq_of_beq_eq_true hbb.2
    subst ec; subst ek; subst e2
    cases hr : vwCl[c1]? with
    | none => rw [hr] at e3; exact e3.elim
    | some r =>
      rw [hr] at e3
      dsimp only at e3
      cases hf : je_nth (je_F c1 n1) b with
      | none => rw [hf] at h; exact h.elim
      | some f =>
        rw [hf] at h
        refine je_s_get hx hb hown hts hK hr e3.1 e3.2.1 e3.2.2 hd (je_oks_hd hS) hf hW ?_
        cases f with
        | inl q => exact hKJ _ _ _ _ h h0 hL (je_oks_i (je_oks_tl hS)) H locs ls hW hV hl
        | inr q => exact hKJ _ _ _ _ h h0 hL (je_oks_r (je_F_ok (je_oks_hd hS).1 hf) (je_oks_tl hS)) H locs ls hW hV hl
  | putfield k =>
    obtain ⟨hd, e1, e3⟩ := hok
    subst e1
    rw [Nat.add_sub_cancel_left] at hd
    obtain ⟨x, S0, e4, hh⟩ := je_i1_inv h
    clear h
    have h := hh
    clear hh
    obtain ⟨c1, n1, k1, S1, e2, hh⟩ := je_c1_inv h
    clear h
    have h := hh
    clear hh
    try dsimp only at h
    obtain ⟨hbb, hh⟩ := je_bb_inv h
    clear h
    have h := hh
    clear hh
    rw [Bool.and_eq_true] at hbb
    have ec := Nat.eq_of_beq_eq_true hbb.1
    have ek := Nat.eq_of_beq_eq_true hbb.2
    subst ec; subst ek; subst e4; subst e2
    cases hr : vwCl[c1]? with
    | none => rw [hr] at e3; exact e3.elim
    | some r =>
      rw [hr] at e3
      dsimp only at e3
      cases hf : je_nth (je_F c1 n1) b with
      | none => rw [hf] at h; exact h.elim
      | some f =>
        rw [hf] at h
        cases f with
        | inr q => exact h.elim
        | inl q =>
          obtain ⟨hz, hh⟩ := je_zz_inv h
          clear h
          have h := hh
          clear hh
          have hnf : narrow (match je_isZ c1 b with | true => FieldType.boolean | false => FieldType.int) (.int x) = .int x ∧ fits (match je_isZ c1 b with | true => FieldType.boolean | false => FieldType.int) (.int x) = true := by
            cases hzb : je_isZ c1 b with
            | true => rcases hz hzb with rfl | rfl <;> exact ⟨rfl, rfl⟩
            | false => exact ⟨rfl, rfl⟩
          exact je_s_put hx hb hown hts hK hJ hr e3.1 e3.2.1 e3.2.2.1 e3.2.2.2.1 e3.2.2.2.2 hnf.1 hnf.2 hd (je_oks_hd (je_oks_tl hS)) hf hW hV (fun H1 locs1 hW1 hV1 => hKJ _ _ _ _ h h0 hL (je_oks_tl (je_oks_tl hS)) H1 locs1 ls hW1 hV1 hl)
  | iaload =>
    obtain ⟨hd, e1⟩ := hok
    subst e1
    rw [Nat.add_sub_cancel_left] at hd
    dsimp only [je_step] at h
    obtain ⟨i, c1, n1, j, len, r, b1, S1, e2, hA, hi, hh⟩ := je_ald_inv h
    clear h
    have h := hh
    clear hh
    subst e2
    exact je_s_iald hx hb hK hA hi hd (je_oks_hd (je_oks_tl hS)) hW (hKJ _ _ _ _ h h0 hL (je_oks_i (je_oks_tl (je_oks_tl hS))) H locs ls hW hV hl)
  | baload =>
    obtain ⟨hd, e1⟩ := hok
    subst e1
    rw [Nat.add_sub_cancel_left] at hd
    dsimp only [je_step] at h
    obtain ⟨i, c1, n1, j, len, r, b1, S1, e2, hA, hi, hh⟩ := je_ald_inv h
    clear h
    have h := hh
    clear hh
    subst e2
    exact je_s_zald hx hb hK hA hi hd (je_oks_hd (je_oks_tl hS)) hW (hKJ _ _ _ _ h h0 hL (je_oks_i (je_oks_tl (je_oks_tl hS))) H locs ls hW hV hl)
  | iastore =>
    obtain ⟨hd, e1⟩ := hok
    subst e1
    rw [Nat.add_sub_cancel_left] at hd
    obtain ⟨x, S0, e4, hh⟩ := je_i1_inv h
    clear h
    have h := hh
    clear hh
    obtain ⟨i, c1, n1, j, len, r, b1, S1, e2, hA, hi, hh⟩ := je_ald_inv h
    clear h
    have h := hh
    clear hh
    subst e4; subst e2
    exact je_s_iast hx hb hK hJ hA hi hd (je_oks_hd (je_oks_tl (je_oks_tl hS))) hW hV (fun H1 locs1 hW1 hV1 => hKJ _ _ _ _ h h0 hL (je_oks_tl (je_oks_tl (je_oks_tl hS))) H1 locs1 ls hW1 hV1 hl)
  | bastore =>
    obtain ⟨hd, e1⟩ := hok
    subst e1
    rw [Nat.add_sub_cancel_left] at hd
    obtain ⟨x, S0, e4, hh⟩ := je_i1_inv h
    clear h
    have h := hh
    clear hh
    obtain ⟨i, c1, n1, j, len, r, b1, S1, e2, hA, hi, h01, hh⟩ := je_ald_inv h
    clear h
    have h := hh
    clear hh
    subst e4; subst e2
    exact je_s_zast hx hb hK hJ hA hi h01 hd (je_oks_hd (je_oks_tl (je_oks_tl hS))) hW hV (fun H1 locs1 hW1 hV1 => hKJ _ _ _ _ h h0 hL (je_oks_tl (je_oks_tl (je_oks_tl hS))) H1 locs1 ls hW1 hV1 hl)
  | aaload =>
    obtain ⟨hd, e1⟩ := hok
    subst e1
    rw [Nat.add_sub_cancel_left] at hd
    obtain ⟨i, S0, e4, hh⟩ := je_i1_inv h
    clear h
    have h := hh
    clear hh
    obtain ⟨c1, n1, k1, S1, e2, hh⟩ := je_c1_inv h
    clear h
    have h := hh
    clear hh
    try dsimp only at h
    cases k1 with
    | zero => exact h.elim
    | succ j =>
      dsimp only at h
      cases hA : je_Ra c1 j with
      | none => rw [hA] at h; exact h.elim
      | some q =>
        rw [hA] at h
        subst e4; subst e2
        obtain ⟨hi, h⟩ := h
        exact je_s_aald hx hb hK hA hi hd (je_oks_hd (je_oks_tl hS)) hW (hKJ _ _ _ _ h h0 hL (je_oks_r (je_Ra_ok hA (Nat.not_le.mp fun q => hi (Or.inr q))) (je_oks_tl (je_oks_tl hS))) H locs ls hW hV hl)
  | invokestatic k =>
    obtain ⟨hd, e1, e3⟩ := hok
    subst e1
    rw [Nat.add_sub_cancel_left] at hd
    match b, e3, h with
    | 0, e3, h3 => exact h3.elim
    | 1, e3, h3 =>
      obtain ⟨y, x, S1, e2, h4⟩ := je_i2_inv h3
      obtain ⟨hsm, h5⟩ := je_bb_inv h4
      subst e2
      exact va_mmax hx hb hls hown (hts _ e3.2.1) (hts _ e3.2.2.1) (hts _ e3.1) (hts _ e3.2.2.2) hroom.1 (by have := je_sm_e ad S1; have h8 := Nat.le_of_ble_eq_true hsm; omega) hroom.2.2.1 hroom.2.2.2 hd (hKJ _ _ _ _ h5 h0 hL (je_oks_i (je_oks_tl (je_oks_tl hS))) H locs ls hW hV hl)
    | 2, e3, h3 =>
      obtain ⟨y, x, S1, e2, h4⟩ := je_i2_inv h3
      obtain ⟨hsm, h5⟩ := je_bb_inv h4
      subst e2
      exact va_mmin hx hb hls hown (hts _ e3.2.1) (hts _ e3.2.2.1) (hts _ e3.1) (hts _ e3.2.2.2) hroom.1 (by have := je_sm_e ad S1; have h8 := Nat.le_of_ble_eq_true hsm; omega) hroom.2.2.1 hroom.2.2.2 hd (hKJ _ _ _ _ h5 h0 hL (je_oks_i (je_oks_tl (je_oks_tl hS))) H locs ls hW hV hl)
    | b + 3, e3, h3 => exact h3.elim
  | ireturn =>
    obtain ⟨hd, e1⟩ := hok
    subst e1
    rw [Nat.add_sub_cancel_left] at hd
    obtain ⟨x, S1, e2, hh⟩ := je_i1_inv h
    clear h
    have h := hh
    clear hh
    cases S1 with
    | cons z S2 => exact h.elim
    | nil =>
      dsimp only at h
      obtain ⟨hz, hh⟩ := je_zz_inv h
      clear h
      have h := hh
      clear hh
      obtain ⟨hrt, hh⟩ := je_bb_inv h
      clear h
      have h := hh
      clear hh
      subst e2
      rw [Bool.and_eq_true] at hrt
      have h1 : 0 < rt := Nat.le_of_ble_eq_true hrt.1
      have h2 : rt < 3 := Nat.le_of_ble_eq_true hrt.2
      refine hRi G pc x H locs ls hd ?_ h hW hV
      rcases (show rt = 1 ∨ rt = 2 by omega) with e | e
      · exact Or.inl e
      · exact Or.inr ⟨e, hz (by rw [e]; rfl)⟩
  | areturn =>
    obtain ⟨hd, e1⟩ := hok
    subst e1
    rw [Nat.add_sub_cancel_left] at hd
    obtain ⟨x, S1, e2, hh⟩ := je_r1_inv h
    clear h
    have h := hh
    clear hh
    cases S1 with
    | cons z S2 => exact h.elim
    | nil =>
      dsimp only at h
      obtain ⟨hrt, hh⟩ := je_bb_inv h
      clear h
      have h := hh
      clear hh
      subst e2
      exact hRa G pc x H locs ls hd (Nat.eq_of_beq_eq_true hrt) h (fun q hq => by subst hq; exact je_oks_hd hS) hW hV
  | return_ =>
    obtain ⟨hd, e1⟩ := hok
    subst e1
    rw [Nat.add_sub_cancel_left] at hd
    cases S with
    | cons z S2 => exact h.elim
    | nil =>
      obtain ⟨hrt, hh⟩ := je_bb_inv h
      clear h
      have h := hh
      clear hh
      exact hRv G pc H locs ls hd (Nat.eq_of_beq_eq_true hrt) h hW hV
  | _ => exact h.elim
end JE
end
section
/-! CONTRACTS over the world, and the rules that a method's walk goes by -/
def je_nest : List Jvm.Cond := [.methodLinkNest RX0 39 yX5_isEdge RX5, .methodLinkNest RX1 50 yX5_isCell RX5, .methodLinkNest RX1 63 yX5_edgeTowards RX5, .methodLinkNest RX1 66 yX5_isEdge RX5, .methodLinkNest RX1 69 yX5_beside RX5, .methodLinkNest RX2 49 yX5_isCell RX5, .methodLinkNest RX4 41 yX5_isDoor RX5, .methodLinkNest RX4 45 yX5_isCell RX5]
def je_Pc (D : va_G) (ad : je_C → Nat) (cA : Nat → ClassId) (As : List je_V) (G : je_G) : Array Value → State → Prop := fun v U => v = (As.map (je_e ad)).toArray ∧ je_W D ad cA G U.heap ∧ va_K D vwCl (je_T cA) U ∧ ∀ w ∈ je_nest, va_Nw w U
def je_Qc (D : va_G) (ad : je_C → Nat) (cA : Nat → ClassId) (Post : Option je_V → je_G → Prop) : Array Value → State → Outcome → State → Prop := fun _ st oc t => (∃ (r : Option je_V) (G' : je_G), oc = .returned (r.map (je_e ad)) ∧ Post r G' ∧ (∀ q, r = some (jR q) → je_ok q) ∧ je_W D ad cA G' t.heap) ∧ va_F (je_A ad) st t
/-- a method's contract over the world: arguments and rows before; answer and rows behind -/
def je_M (l : Launch) (y : MethodName) (ws : List Jvm.Cond) (rm : Room) (Pre : List je_V → je_G → Prop) (Post : List je_V → je_G → Option je_V → je_G → Prop) : Prop := ∀ (D : va_G) (ad : je_C → Nat) (cA : Nat → ClassId), je_inj ad → ∀ (As : List je_V) (G : je_G), je_oks As → Pre As G → Met l y ws rm (je_Pc D ad cA As G) (je_Qc D ad cA (Post As G)) 0 0 (je_A ad)
/-- a call of a method of an object: what the words say of it -/
def je_LkV (own : String) (cc : ByteArray) (Ts : List Jvm.Cond) (rm : Room) (pc : Nat) (y : MethodName) (ws : List Jvm.Cond) (rm' : Room) (ci n : Nat) : Prop := ∃ (idx : Nat) (C : String) (bytes : ByteArray) (maxL : Nat) (ret : Option FieldType) (ws' : List Jvm.Cond) (T : u_T) (N : Nat), decode cc pc = .ok (.invokevirtual idx, 3) ∧ GoodIn Ts (wsV own idx C y ws) ∧ ws = .code y bytes maxL ret :: ws' ∧ (y.cls = C ∧ y.cls ≠ "java/lang/invoke/MethodHandle" ∧ y.cls ≠ "java/lang/invoke/VarHandle" ∧ (parseMethodDescriptor y.desc).map (fun d => d.parameters.length) = some n) ∧ (rm'.cells = 0 ∧ rm'.slots = 0) ∧ (rm'.frames + 1 ≤ rm.frames ∧ 8 + (maxL + 11) + rm'.locals ≤ rm.locals) ∧ vwCl[ci]? = some (C, T, N)
/-- a call of a static method: of any class whose it is openly, or of a nest mate -/
def je_LkS (own : String) (cc : ByteArray) (Ts : List Jvm.Cond) (rm : Room) (pc : Nat) (y : MethodName) (ws : List Jvm.Cond) (rm' : Room) (n : Nat) : Prop := ∃ (idx : Nat) (bytes : ByteArray) (maxL : Nat) (ret : Option FieldType) (ws' : List Jvm.Cond), decode cc pc = .ok (.invokestatic idx, 3) ∧ (GoodIn Ts (va_wsS own idx y ws) ∨ (∃ host : String, GoodIn Ts ws ∧ Jvm.Cond.static y ∈ Ts ∧ Jvm.Cond.initialized y.cls ∈ Ts ∧ Jvm.Cond.methodLinkNest own idx y host ∈ je_nest)) ∧ ws = .code y bytes maxL ret :: ws' ∧ (y.cls ≠ "java/lang/invoke/MethodHandle" ∧ y.cls ≠ "java/lang/invoke/VarHandle" ∧ (parseMethodDescriptor y.desc).map (fun d => d.parameters.length) = some n) ∧ (rm'.cells = 0 ∧ rm'.slots = 0) ∧ (rm'.frames + 1 ≤ rm.frames ∧ 8 + (maxL + 11) + rm'.locals ≤ rm.locals)
theorem je_nest_on {w : Jvm.Cond} (h : w ∈ je_nest) : ∃ a i x hst, w = .methodLinkNest a i x hst := by
  simp only [je_nest, List.mem_cons, List.not_mem_nil, or_false] at h
  rcases h with h | h | h | h | h | h | h | h <;> exact ⟨_, _, _, _, h⟩
theorem je_nest_warm {s U : State} (hW : s.WarmedH U.vm) (h : ∀ w ∈ je_nest, va_Nw w s) : ∀ w ∈ je_nest, va_Nw w U := by
  intro w hw
  obtain ⟨a, i, x, hst, rfl⟩ := je_nest_on hw
  exact va_Nw.warmM hW (h _ hw)
theorem je_nest_same {s U : State} (e : s.vm = U.vm) (h : ∀ w ∈ je_nest, va_Nw w s) : ∀ w ∈ je_nest, va_Nw w U := by
  intro w hw
  obtain ⟨a, i, x, hst, rfl⟩ := je_nest_on hw
  exact va_Nw.same rfl e (h _ hw)
theorem je_blind {D : va_G} {ad : je_C → Nat} {cA : Nat → ClassId} {As : List je_V} {G : je_G} : FrameBlind (je_Pc D ad cA As G) := by
  intro a U g mk q
  obtain ⟨h1, h2, h3, h4⟩ := q
  exact ⟨h1, h2, va_K.moved (u := U) (U := U.calling g mk a) (Vm.Alike.refl U.vm) h3, je_nest_same (s := U) (U := U.calling g mk a) rfl h4⟩
section JR
variable {p : Program} {l : Launch} {e : Env} {R : Room} {s : State} {m : MethodId} {args : Array Value} {below : List Frame} {meth : Method} {c : Code} {cells slots : Nat} {Q : State → Prop} {D : va_G} {ad : je_C → Nat} {cA : Nat → ClassId} {nL : Nat} {H0 : Heap} {cc : ByteArray} {own : String} {Ts : List Jvm.Cond}
theorem je_after {H : Heap} {locs : List Loc} {pc : Nat} {ls : Array Slot} {st0 rest : List Value} {Post : Option je_V → je_G → Prop} {a : Array Value} (hr : va_Run p l e R s m args below meth c H locs cells slots 0 0 (F0 m pc ls st0) rest (je_Qc D ad cA Post a) (je_A ad)) (hS : va_S (je_A ad) H0 H locs)
    (kk : ∀ (r : Option je_V) (G' : je_G) (H1 : Heap) (locs1 : List Loc), Post r G' → (∀ q, r = some (jR q) → je_ok q) → je_W D ad cA G' H1 → va_S (je_A ad) H0 H1 locs1 → W p l e R s m args below meth c H1 locs1 cells slots Q (F0 m (pc + 3) ls ((r.map (je_e ad)).toList ++ rest))) : W p l e R s m args below meth c H locs cells slots Q (F0 m pc ls st0) := by
  intro T hT X
  obtain ⟨v, st₀, t, T', L, h0, X', hL, e1, e2, ⟨⟨r, G', hv, hp, hok, hw⟩, hz, hk⟩, st⟩ := hr T hT X
  cases hv
  rw [h0] at hz hk
  obtain ⟨t2, a1, b1⟩ := kk r G' T'.heap (locs ++ L) hp hok (by rw [e1]; exact hw)
    ⟨Nat.le_trans hS.1 (by rw [e1]; exact hz), fun q h1 h2 => by rw [e1, hk q (Nat.lt_of_lt_of_le h1 hS.1) h2]; exact hS.2.1 q h1 h2, fun q hq => by
      rcases List.mem_append.mp hq with h | h
      · exact hS.2.2 q h
      · exact hL q h⟩ T' rfl X'
  exact ⟨t2, st t2 a1, b1⟩
theorem je_rest {ad : je_C → Nat} {pc : Nat} {m : MethodId} {ls : Array Slot} {st : List Value} {S : List je_V} (h : Nat.ble (je_sm S) 8 = true) : 2 * (F0 m pc ls st).monitorRoom + ((S.map (je_e ad)).map fun v => v.category).sum ≤ 8 := by
  have h1 := je_sm_e ad S
  have h2 := Nat.le_of_ble_eq_true h
  show 2 * 0 + _ ≤ 8
  omega
theorem je_callV (hx : p.tables.exec = Jvm.exec) (hb : c.code = cc) (hown : s.vm.findClass own = some m.cls) (hml : c.maxLocals = nL) (hts : ∀ w ∈ Ts, w.before args s = true) (hK : va_K D vwCl (je_T cA) s) (hJ : je_inj ad) (hN : ∀ w ∈ je_nest, va_Nw w s) (hroom : cells ≤ R.cells ∧ slots ≤ R.slots) {pc : Nat} {y : MethodName} {ws : List Jvm.Cond} {rm' : Room} {ci n : Nat} (hk : je_LkV own cc Ts R pc y ws rm' ci n) {Pre : List je_V → je_G → Prop} {Post : List je_V → je_G → Option je_V → je_G → Prop} (hM : je_M l y ws rm' Pre Post)
    {G : je_G} {L : List (Option je_V)} {S : List je_V} {As : List je_V} {i : Nat} (hn : As.length = n) (hP : Pre (jR (ci, i, 0) :: As) G) (hsm : Nat.ble (je_sm S) 8 = true) (kk : ∀ r G', Post (jR (ci, i, 0) :: As) G r G' → je_J p l e R s m args below meth c cells slots Q D ad cA nL H0 G' (pc + 3) L (r.toList ++ S)) : je_J p l e R s m args below meth c cells slots Q D ad cA nL H0 G pc L (As.reverse ++ jR (ci, i, 0) :: S) := by
  obtain ⟨idx, C, bytes, maxL, ret, ws', T, N, hd, hG, hw, hd2, hc0, hR, hcl⟩ := hk
  intro h0 hL hS H locs ls hW hV hl
  have hokA : je_oks (jR (ci, i, 0) :: As) := fun q hq => hS q (by
    rcases List.mem_cons.mp hq with h | h
    · exact List.mem_append_right _ (List.mem_cons.mpr (Or.inl h))
    · exact List.mem_append_left _ (List.mem_reverse.mpr h))
  have hcell := hW _ (hokA (ci, i, 0) List.mem_cons_self)
  refine je_after (va_runV (As := As.map (je_e ad)) (rest := S.map (je_e ad)) ⟨hx, hb, hml, hown, hts⟩ (hM D ad cA hJ (jR (ci, i, 0) :: As) G hokA hP) (cwV n hts hG hw hc0.1 hc0.2 hd2 hR)
    ⟨je_blind, va_recv hK (je_P1 hcell) (ci := ci) (q0 := 0) hcl rfl, fun U hU hWm => ⟨rfl, by rw [hU]; exact hW, va_K.moved hWm.alike hK, je_nest_warm hWm hN⟩⟩ rfl (by rw [List.length_map]; exact hn) hl.1 (by show List.map _ _ = _; rw [List.map_append, List.map_reverse]; rfl) (je_rest hsm) hd hroom) hV (fun r G' H1 locs1 hp hok hW1 hV1 => ?_)
  have := kk r G' hp h0 hL (fun q hq => by
    rcases List.mem_append.mp hq with h | h
    · exact hok q (by cases r with | none => cases h | some v => cases List.mem_singleton.mp h; rfl)
    · exact hS q (List.mem_append_right _ (List.mem_cons_of_mem _ h))) H1 locs1 ls hW1 hV1 hl
  rw [List.map_append] at this
  cases r <;> exact this
theorem je_callS (hx : p.tables.exec = Jvm.exec) (hb : c.code = cc) (hown : s.vm.findClass own = some m.cls) (hml : c.maxLocals = nL) (hts : ∀ w ∈ Ts, w.before args s = true) (hK : va_K D vwCl (je_T cA) s) (hJ : je_inj ad) (hN : ∀ w ∈ je_nest, va_Nw w s) (hroom : cells ≤ R.cells ∧ slots ≤ R.slots) {pc : Nat} {y : MethodName} {ws : List Jvm.Cond} {rm' : Room} {n : Nat} (hk : je_LkS own cc Ts R pc y ws rm' n) {Pre : List je_V → je_G → Prop} {Post : List je_V → je_G → Option je_V → je_G → Prop} (hM : je_M l y ws rm' Pre Post)
    {G : je_G} {L : List (Option je_V)} {S : List je_V} {As : List je_V} (hn : As.length = n) (hP : Pre As G) (hsm : Nat.ble (je_sm S) 8 = true) (kk : ∀ r G', Post As G r G' → je_J p l e R s m args below meth c cells slots Q D ad cA nL H0 G' (pc + 3) L (r.toList ++ S)) : je_J p l e R s m args below meth c cells slots Q D ad cA nL H0 G pc L (As.reverse ++ S) := by
  obtain ⟨idx, bytes, maxL, ret, ws', hd, hG, hw, hd2, hc0, hR⟩ := hk
  intro h0 hL hS H locs ls hW hV hl
  have hokA : je_oks As := fun q hq => hS q (List.mem_append_left _ (List.mem_reverse.mpr hq))
  have hend : ∀ (r : Option je_V) (G' : je_G) (H1 : Heap) (locs1 : List Loc), Post As G r G' → (∀ q, r = some (jR q) → je_ok q) → je_W D ad cA G' H1 → va_S (je_A ad) H0 H1 locs1 → W p l e R s m args below meth c H1 locs1 cells slots Q (F0 m (pc + 3) ls ((r.map (je_e ad)).toList ++ S.map (je_e ad))) := by
    intro r G' H1 locs1 hp hok hW1 hV1
    have := kk r G' hp h0 hL (fun q hq => by
      rcases List.mem_append.mp hq with h | h
      · exact hok q (by cases r with | none => cases h | some v => cases List.mem_singleton.mp h; rfl)
      · exact hS q (List.mem_append_right _ h)) H1 locs1 ls hW1 hV1 hl
    rw [List.map_append] at this
    cases r <;> exact this
  have hpre : PreS s H (je_Pc D ad cA As G) (As.map (je_e ad)) := ⟨je_blind, fun U hU hWm => ⟨rfl, by rw [hU]; exact hW, va_K.moved hWm.alike hK, je_nest_warm hWm hN⟩⟩
  rcases hG with hG | ⟨host, hG, hst, hini, hnw⟩
  · exact je_after (va_runS (As := As.map (je_e ad)) (rest := S.map (je_e ad)) ⟨hx, hb, hml, hown, hts⟩ (hM D ad cA hJ As G hokA hP) (va_cwS n hts hG hw hc0.1 hc0.2 hd2 hR) hpre rfl (by rw [List.length_map]; exact hn) hl.1 (by show List.map _ _ = _; rw [List.map_append, List.map_reverse]) (je_rest hsm) hd hroom) hV hend
  · exact je_after (va_runSN (As := As.map (je_e ad)) (rest := S.map (je_e ad)) ⟨hx, hb, hml, hown, hts⟩ (hM D ad cA hJ As G hokA hP) ⟨va_cnB n hts hG hw hc0.1 hc0.2 (hN _ hnw) (hts _ hini) hd2 hR, hts _ hst, trivial⟩ hpre rfl (by rw [List.length_map]; exact hn) hl.1 (by show List.map _ _ = _; rw [List.map_append, List.map_reverse]) (je_rest hsm) hd hroom) hV hend
end JR
-- ===== the rules, as a method's walk sees them =====
def je_okT (own : String) (cc : ByteArray) (Ts : List Jvm.Cond) : List (Nat × je_I) → Prop
  | [] => True
  | q :: t => je_okI own cc Ts q.1 q.2 ∧ je_okT own cc Ts t
theorem je_okT_mem {own : String} {cc : ByteArray} {Ts : List Jvm.Cond} : ∀ (tbl : List (Nat × je_I)), je_okT own cc Ts tbl → ∀ q ∈ tbl, je_okI own cc Ts q.1 q.2
  | [], _, q, h => by cases h
  | z :: t, ok, q, h => by
    rcases List.mem_cons.mp h with h | h
    · rw [h]; exact ok.1
    · exact je_okT_mem t ok.2 q h
/-- fewer locals known -/
def je_le : List (Option je_V) → List (Option je_V) → Prop
  | [], [] => True
  | none :: t, _ :: t' => je_le t t'
  | some v :: t, w :: t' => w = some v ∧ je_le t t'
  | _, _ => False
theorem je_le_len : ∀ (L' L : List (Option je_V)), je_le L' L → L'.length = L.length
  | [], [], _ => rfl
  | none :: t, w :: t', h => by simp [je_le_len t t' h]
  | some v :: t, w :: t', h => by simp [je_le_len t t' h.2]
  | [], w :: t', h => h.elim
  | none :: t, [], h => h.elim
  | some v :: t, [], h => h.elim
theorem je_le_get : ∀ (L' L : List (Option je_V)), je_le L' L → ∀ a v, je_get L' a = some v → je_get L a = some v
  | [], [], _, a, v, h => h
  | none :: t, w :: t', hl, a, v, h => by
    cases a with
    | zero => cases h
    | succ a => exact je_le_get t t' hl a v h
  | some z :: t, w :: t', hl, a, v, h => by
    cases a with
    | zero => rw [hl.1]; exact h
    | succ a => exact je_le_get t t' hl.2 a v h
  | [], w :: t', hl, a, v, h => hl.elim
  | none :: t, [], hl, a, v, h => hl.elim
  | some z :: t, [], hl, a, v, h => hl.elim
/-- the rows agree wherever the world holds something -/
def je_eqv (G G' : je_G) : Prop := (∀ c n j q, n < je_cnt c → je_nth (je_F c n) j = some (.inl q) → G c n q.1 q.2 = G' c n q.1 q.2) ∧ ∀ c n j r i, n < je_cnt c → je_inA c j r i → G c n r i = G' c n r i
/-- what a walk may use: n steps of the table; calls; worlds that agree; fewer locals -/
def je_R (l : Launch) (own : String) (cc : ByteArray) (Ts : List Jvm.Cond) (rm : Room) (tbl : List (Nat × je_I)) (rt : Nat) (Rt : je_G → Option je_V → Prop) (J : je_K) : Prop :=
  (∀ n G pc L S, je_run tbl rt J Rt n G pc L S → J G pc L S) ∧
  (∀ {pc : Nat} {y : MethodName} {ws : List Jvm.Cond} {rm' : Room} {ci n : Nat}, je_LkV own cc Ts rm pc y ws rm' ci n → ∀ {Pre : List je_V → je_G → Prop} {Post : List je_V → je_G → Option je_V → je_G → Prop}, je_M l y ws rm' Pre Post → ∀ {G : je_G} {L : List (Option je_V)} {S : List je_V} {As : List je_V} {i : Nat}, As.length = n → Pre (jR (ci, i, 0) :: As) G → Nat.ble (je_sm S) 8 = true → (∀ r G', Post (jR (ci, i, 0) :: As) G r G' → J G' (pc + 3) L (r.toList ++ S)) → J G pc L (As.reverse ++ jR (ci, i, 0) :: S)) ∧
  (∀ {pc : Nat} {y : MethodName} {ws : List Jvm.Cond} {rm' : Room} {n : Nat}, je_LkS own cc Ts rm pc y ws rm' n → ∀ {Pre : List je_V → je_G → Prop} {Post : List je_V → je_G → Option je_V → je_G → Prop}, je_M l y ws rm' Pre Post → ∀ {G : je_G} {L : List (Option je_V)} {S : List je_V} {As : List je_V}, As.length = n → Pre As G → Nat.ble (je_sm S) 8 = true → (∀ r G', Post As G r G' → J G' (pc + 3) L (r.toList ++ S)) → J G pc L (As.reverse ++ S)) ∧
  (∀ {G G' : je_G} {pc : Nat} {L : List (Option je_V)} {S : List je_V}, je_eqv G G' → J G' pc L S → J G pc L S) ∧
  (∀ {G : je_G} {pc : Nat} {L L' : List (Option je_V)} {S : List je_V}, je_le L' L → J G pc L' S → J G pc L S)
theorem je_run_ok {own : String} {cc : ByteArray} {Ts : List Jvm.Cond} {tbl : List (Nat × je_I)} {rt : Nat} {Rt : je_G → Option je_V → Prop} {J : je_K} (hT : je_okT own cc Ts tbl) (hs : ∀ (K : je_K), (∀ G pc L S, K G pc L S → J G pc L S) → ∀ {pc t G L S}, je_okI own cc Ts pc t → je_step t rt K Rt G L S → J G pc L S) : ∀ n G pc L S, je_run tbl rt J Rt n G pc L S → J G pc L S
  | 0, G, pc, L, S, h => h
  | n + 1, G, pc, L, S, h => by
    unfold je_run at h
    cases hl : je_look tbl pc with
    | none => rw [hl] at h; exact h
    | some t =>
      rw [hl] at h
      exact hs _ (fun G pc L S => je_run_ok hT hs n G pc L S) (je_okT_mem tbl hT (pc, t) (je_look_mem tbl pc hl)) h
/-- the arguments in the locals -/
def je_L0 : List je_V → List (Option je_V)
  | [] => []
  | .inr (.inl x) :: t => some (.inr (.inl x)) :: none :: je_L0 t
  | .inl x :: t => some (.inl x) :: je_L0 t
  | .inr (.inr x) :: t => some (.inr (.inr x)) :: je_L0 t
def je_fill : Nat → List (Option je_V) → List (Option je_V)
  | 0, _ => []
  | n + 1, [] => none :: je_fill n []
  | n + 1, v :: t => v :: je_fill n t
theorem je_fill_len : ∀ (n : Nat) (L : List (Option je_V)), (je_fill n L).length = n
  | 0, _ => rfl
  | n + 1, [] => by show (none :: je_fill n []).length = _; rw [List.length_cons, je_fill_len n]
  | n + 1, v :: t => by show (v :: je_fill n t).length = _; rw [List.length_cons, je_fill_len n]
theorem je_fill_get : ∀ (n : Nat) (L : List (Option je_V)) (a : Nat) (v : je_V), je_get (je_fill n L) a = some v → je_get L a = some v
  | 0, L, a, v, h => by cases h
  | n + 1, [], a, v, h => by
    cases a with
    | zero => cases h
    | succ a => exact (by have := je_fill_get n [] a v h; cases this)
  | n + 1, w :: t, a, v, h => by
    cases a with
    | zero => exact h
    | succ a => exact je_fill_get n t a v h
theorem je_L0_args (ad : je_C → Nat) : ∀ (As : List je_V) (i : Nat), ∀ q ∈ je_eL ad i (je_L0 As), q ∈ lv_args i (As.map (je_e ad))
  | [], i, q, h => by cases h
  | .inr (.inl x) :: t, i, q, h => by
    rcases List.mem_cons.mp h with h | h
    · rw [h]; exact List.mem_cons_self
    · exact List.mem_cons_of_mem _ (je_L0_args ad t (i + 2) q h)
  | .inl x :: t, i, q, h => by
    rcases List.mem_cons.mp h with h | h
    · rw [h]; exact List.mem_cons_self
    · exact List.mem_cons_of_mem _ (je_L0_args ad t (i + 1) q h)
  | .inr (.inr x) :: t, i, q, h => by
    rcases List.mem_cons.mp h with h | h
    · rw [h]; exact List.mem_cons_self
    · refine List.mem_cons_of_mem _ ?_
      have h9 := je_L0_args ad t (i + 1) q h
      cases x <;> exact h9
theorem je_L0_in : ∀ (As : List je_V) (v : je_V), some v ∈ je_L0 As → v ∈ As
  | [], v, h => by cases h
  | .inr (.inl x) :: t, v, h => by
    rcases List.mem_cons.mp h with h | h
    · cases h; exact List.mem_cons_self
    · rcases List.mem_cons.mp h with h | h
      · cases h
      · exact List.mem_cons_of_mem _ (je_L0_in t v h)
  | .inl x :: t, v, h => by
    rcases List.mem_cons.mp h with h | h
    · cases h; exact List.mem_cons_self
    · exact List.mem_cons_of_mem _ (je_L0_in t v h)
  | .inr (.inr x) :: t, v, h => by
    rcases List.mem_cons.mp h with h | h
    · cases h; exact List.mem_cons_self
    · exact List.mem_cons_of_mem _ (je_L0_in t v h)
theorem je_sl_len (ad : je_C → Nat) (As : List je_V) : (lg_sl (As.map (je_e ad))).length = je_sm As := by
  induction As with
  | nil => rfl
  | cons v t ih =>
    have h1 : lg_sl ((v :: t).map (je_e ad)) = (if (je_e ad v).category = 2 then [Slot.val (je_e ad v), .second] else [.val (je_e ad v)]) ++ lg_sl (t.map (je_e ad)) := rfl
    rw [h1, List.length_append, ih, je_cat_e]
    rcases v with x | x | x <;> rfl
/-- what a return may answer -/
def je_ret (rt : Nat) (ret : Option FieldType) : Prop := (rt = 0 ∧ ret = none) ∨ (rt = 1 ∧ ret = some .int) ∨ (rt = 2 ∧ ret = some .boolean) ∨ (rt = 3 ∧ ∃ n, ret = some (.object n))
theorem je_met {l : Launch} {own : String} {y : MethodName} {ws ws' : List Jvm.Cond} {cc : ByteArray} {maxL : Nat} {ret : Option FieldType} {rm : Room} {Pre : List je_V → je_G → Prop} {Post : List je_V → je_G → Option je_V → je_G → Prop} (tbl : List (Nat × je_I)) (rt : Nat) (hT : je_okT own cc ws tbl) (hw : ws = .code y cc maxL ret :: ws') (hy : plainName y.cls = true) (hown : y.cls = own) (hrt : je_ret rt ret) (hroom : 1 ≤ rm.frames ∧ 21 ≤ rm.locals) (hlen : ∀ As G, Pre As G → je_sm As ≤ maxL)
    (body : ∀ (As : List je_V) (G : je_G) (J : je_K), Pre As G → je_oks As → je_R l own cc ws rm tbl rt (fun G' r => Post As G r G') J → J G 0 (je_fill maxL (je_L0 As)) []) : je_M l y ws rm Pre Post := by
  intro D ad cA hJ As G hoA hP
  refine Met.ofW (cc := cc) (maxL := maxL) (ret := ret) hy hw ?_
  intro p e s m args below meth c s₁ B hml hv
  obtain ⟨rfl, hW, hK, hN⟩ := hv
  have hx := B.exec
  have hb := B.bytes
  have hr := B.returns
  have hts := atoms_spec (ws := ws) B.pre
  have ho : s.vm.findClass own = some m.cls := by rw [← hown]; exact findClass_of_methodNamed B.named
  have hlocks := B.notSynchronized
  rw [lg_entry_eq]
  have hl := lv_entry (As.map (je_e ad)) (n := maxL) (by rw [je_sl_len]; exact hlen As G hP)
  generalize (lg_sl (As.map (je_e ad)) ++ List.replicate (maxL - (lg_sl (As.map (je_e ad))).length) Slot.unset).toArray = ls at hl ⊢
  have hroom' : 1 ≤ rm.frames ∧ 21 ≤ rm.locals ∧ 0 ≤ rm.cells ∧ 0 ≤ rm.slots := ⟨hroom.1, hroom.2, Nat.zero_le _, Nat.zero_le _⟩
  have hQ : ∀ (G' : je_G) (r : Option je_V) (H : Heap) (locs : List Loc), Post As G r G' → (∀ q, r = some (jR q) → je_ok q) → je_W D ad cA G' H → va_S (je_A ad) s.heap H locs → ∀ t : State, t.heap = H → s.WarmedH t.vm → je_Qc D ad cA (Post As G) (As.map (je_e ad)).toArray s (.returned (r.map (je_e ad))) t := fun G' r H locs hp hok hW' hS t ht hWm => ⟨⟨r, G', rfl, hp, hok, by rw [ht]; exact hW'⟩, hS.F ht⟩
  have hrules := body As G (je_J p l e rm s m (As.map (je_e ad)).toArray below meth c 0 0 (MQ below (je_Qc D ad cA (Post As G)) (As.map (je_e ad)).toArray s 0 0 (je_A ad)) D ad cA maxL s.heap) hP hoA ⟨?_, ?_, ?_, ?_, ?_⟩
  · refine hrules (by rw [je_fill_len]; exact Nat.le_refl _) (fun q hq => ?_) (fun q hq => by cases hq) s.heap [] ls hW va_S.rf (lv_mono hl (fun q hq => ?_))
    · obtain ⟨a, ha⟩ := je_in_get _ hq
      exact hoA q (je_L0_in As _ (je_get_in _ a (je_fill_get _ _ a _ ha)))
    · obtain ⟨a, v, h1, h2⟩ := je_mem_get _ 0 hq
      rw [h2]
      exact je_L0_args ad As 0 _ (je_get_mem _ a 0 (je_fill_get _ _ a v h1))
  · refine je_run_ok hT (fun K hKJ {pc t G' L S} hok h => je_sound (rt := rt) (Rt := fun G' r => Post As G r G') hx hb ho hml hts hK hJ hroom' ?_ ?_ ?_ hok hKJ h)
    · intro G' pc x H locs ls' hd hz hp hW' hS
      rcases hz with hz | ⟨hz, h01⟩
      · have hre : meth.sig.returnType = some .int := by
          rw [hr]
          rcases hrt with h | h | h | h
          · omega
          · exact h.2
          · omega
          · omega
        exact W.iret hx hb hre (hQ G' (some (jI x)) H locs hp (fun q hq => by cases hq) hW' hS) hS.2.2 hd hlocks
      · have hre : meth.sig.returnType = some .boolean := by
          rw [hr]
          rcases hrt with h | h | h | h
          · omega
          · omega
          · exact h.2
          · omega
        exact W.zret hx hb hre (by rcases h01 with rfl | rfl <;> rfl) (hQ G' (some (jI x)) H locs hp (fun q hq => by cases hq) hW' hS) hS.2.2 hd hlocks
    · intro G' pc r H locs ls' hd hz hp hok2 hW' hS
      obtain ⟨n, hre⟩ : ∃ n, meth.sig.returnType = some (.object n) := by
        rw [hr]
        rcases hrt with h | h | h | h
        · omega
        · omega
        · omega
        · exact h.2
      exact W.aret hx hb hre (Or.inl ⟨n, rfl⟩) (by cases r with | none => exact Or.inl rfl | some q => exact Or.inr ⟨_, rfl⟩) (hQ G' (some (.inr (.inr r))) H locs hp (fun q hq => hok2 q (by cases hq; rfl)) hW' hS) hS.2.2 hd hlocks
    · intro G' pc H locs ls' hd hz hp hW' hS
      have hre : meth.sig.returnType = none := by
        rw [hr]
        rcases hrt with h | h | h | h
        · exact h.2
        · omega
        · omega
        · omega
      exact W.vret hx hb hre (hQ G' none H locs hp (fun q hq => by cases hq) hW' hS) hS.2.2 hd hlocks
  · intro pc y' ws2 rm' ci n hk Pre' Post' hM G' L S As' i hn hP' hsm kk
    exact je_callV hx hb ho hml hts hK hJ hN ⟨Nat.zero_le _, Nat.zero_le _⟩ hk hM hn hP' hsm kk
  · intro pc y' ws2 rm' n hk Pre' Post' hM G' L S As' hn hP' hsm kk
    exact je_callS hx hb ho hml hts hK hJ hN ⟨Nat.zero_le _, Nat.zero_le _⟩ hk hM hn hP' hsm kk
  · intro G1 G2 pc L S he h h0 hL hS H locs ls' hW' hV hl'
    exact h h0 hL hS H locs ls' (je_W_ext hW' he.1 he.2) hV hl'
  · intro G1 pc L L' S he h h0 hL hS H locs ls' hW' hV hl'
    refine h (by rw [je_le_len _ _ he]; exact h0) (fun q hq => ?_) hS H locs ls' hW' hV (lv_mono hl' (fun q hq => ?_))
    · obtain ⟨a, ha⟩ := je_in_get _ hq
      exact hL q (je_get_in _ a (je_le_get _ _ he a _ ha))
    · obtain ⟨a, v, h1, h2⟩ := je_mem_get _ 0 hq
      rw [h2]
      exact je_get_mem _ a 0 (je_le_get _ _ he a v h1)
end
section
set_option maxRecDepth 20000 in
theorem ggX0_init_X1_init : GoodIn wsX0_init wsX1_init := goodIn_r _ [18, 19, 2, 3, 20, 21, 22, 23, 24, 25, 26, 27, 28, 29, 42, 43, 44, 45, 46, 47, 48, 49, 50, 51, 52, 53] (by decide +kernel) (by decide +kernel)
set_option maxRecDepth 20000 in
theorem gX0_init_X1_init : GoodIn wsX0_init (wsX1_init) := ggX0_init_X1_init
set_option maxRecDepth 20000 in
theorem ggX0_init_X4_init : GoodIn wsX0_init wsX4_init := goodIn_r _ [31, 32, 2, 3, 21, 33, 34, 35, 36, 37, 57, 58, 59, 60, 61, 62] (by decide +kernel) (by decide +kernel)
set_option maxRecDepth 20000 in
theorem gX0_init_X4_init_n20 : GoodIn wsX0_init (wsX4_init) := ggX0_init_X4_init
set_option maxRecDepth 20000 in
theorem ggX0_init_X2_init : GoodIn wsX0_init wsX2_init := goodIn_r _ [39, 40, 2, 3, 21, 41, 63] (by decide +kernel) (by decide +kernel)
set_option maxRecDepth 20000 in
theorem gX0_init_X2_init_n27 : GoodIn wsX0_init (wsX2_init) := ggX0_init_X2_init
theorem dX0_init_0 : decode cX0_init 0 = .ok (.aload_n 0, 1) := by decide +kernel
theorem dX0_init_1 : decode cX0_init 1 = .ok (.invokespecial 3, 3) := by decide +kernel
theorem dX0_init_4 : decode cX0_init 4 = .ok (.aload_n 0, 1) := by decide +kernel
theorem dX0_init_5 : decode cX0_init 5 = .ok (.new 9, 3) := by decide +kernel
theorem dX0_init_8 : decode cX0_init 8 = .ok (.dup, 1) := by decide +kernel
theorem dX0_init_9 : decode cX0_init 9 = .ok (.invokespecial 11, 3) := by decide +kernel
theorem dX0_init_12 : decode cX0_init 12 = .ok (.putfield 12, 3) := by decide +kernel
theorem dX0_init_15 : decode cX0_init 15 = .ok (.aload_n 0, 1) := by decide +kernel
theorem dX0_init_16 : decode cX0_init 16 = .ok (.new 18, 3) := by decide +kernel
theorem dX0_init_19 : decode cX0_init 19 = .ok (.dup, 1) := by decide +kernel
theorem dX0_init_20 : decode cX0_init 20 = .ok (.invokespecial 20, 3) := by decide +kernel
theorem dX0_init_23 : decode cX0_init 23 = .ok (.putfield 21, 3) := by decide +kernel
theorem dX0_init_26 : decode cX0_init 26 = .ok (.aload_n 0, 1) := by decide +kernel
theorem dX0_init_27 : decode cX0_init 27 = .ok (.new 25, 3) := by decide +kernel
theorem dX0_init_30 : decode cX0_init 30 = .ok (.dup, 1) := by decide +kernel
theorem dX0_init_31 : decode cX0_init 31 = .ok (.invokespecial 27, 3) := by decide +kernel
theorem dX0_init_34 : decode cX0_init 34 = .ok (.putfield 28, 3) := by decide +kernel
theorem dX0_init_37 : decode cX0_init 37 = .ok (.return_, 1) := by decide +kernel
set_option maxRecDepth 20000 in
theorem ggX0_startFrom_X1_copyFrom : GoodIn wsX0_startFrom wsX1_copyFrom := goodIn_r _ [7, 8, 9, 10, 11, 12, 13, 14, 15, 16, 17, 18, 19, 85, 86, 87, 88, 89, 90, 91, 92, 93, 94, 95, 96] (by decide +kernel) (by decide +kernel)
set_option maxRecDepth 20000 in
theorem gX0_startFrom_X1_copyFrom : GoodIn wsX0_startFrom (wsV RX0 32 RX1 yX1_copyFrom wsX1_copyFrom) := goodIn_app (goodIn_of _ (by decide +kernel)) ggX0_startFrom_X1_copyFrom
set_option maxRecDepth 20000 in
theorem ggX0_startFrom_X4_find : GoodIn wsX0_startFrom wsX4_find := goodIn_r _ [24, 25, 26, 27, 28, 29, 23, 30, 31, 32, 33, 34, 35, 36, 37, 38, 39, 6, 40, 15, 41, 42, 43, 44, 45, 46, 47, 48, 49, 50, 51, 52, 53, 54, 55, 56, 57, 58, 59, 60, 61, 62, 63, 64, 65, 66, 67, 68, 69, 70, 71, 72, 73, 74, 75, 76, 77, 78, 79, 80, 81, 97, 98, 99, 100, 101, 102, 85, 86, 87, 88, 89, 90, 91, 92, 93, 94, 95, 96] (by decide +kernel) (by decide +kernel)
set_option maxRecDepth 20000 in
theorem gX0_startFrom_X4_find : GoodIn wsX0_startFrom (wsV RX0 36 RX4 yX4_find wsX4_find) := goodIn_app (goodIn_of _ (by decide +kernel)) ggX0_startFrom_X4_find
theorem dX0_startFrom_0 : decode cX0_startFrom 0 = .ok (.aload_n 0, 1) := by decide +kernel
theorem dX0_startFrom_1 : decode cX0_startFrom 1 = .ok (.getfield 12, 3) := by decide +kernel
theorem dX0_startFrom_4 : decode cX0_startFrom 4 = .ok (.aload_n 1, 1) := by decide +kernel
theorem dX0_startFrom_5 : decode cX0_startFrom 5 = .ok (.invokevirtual 32, 3) := by decide +kernel
theorem dX0_startFrom_8 : decode cX0_startFrom 8 = .ok (.aload_n 0, 1) := by decide +kernel
theorem dX0_startFrom_9 : decode cX0_startFrom 9 = .ok (.getfield 21, 3) := by decide +kernel
theorem dX0_startFrom_12 : decode cX0_startFrom 12 = .ok (.aload_n 0, 1) := by decide +kernel
theorem dX0_startFrom_13 : decode cX0_startFrom 13 = .ok (.getfield 12, 3) := by decide +kernel
theorem dX0_startFrom_16 : decode cX0_startFrom 16 = .ok (.invokevirtual 36, 3) := by decide +kernel
theorem dX0_startFrom_19 : decode cX0_startFrom 19 = .ok (.return_, 1) := by decide +kernel
set_option maxRecDepth 20000 in
theorem ggX0_startWithRopeTurned_X1_copyFrom : GoodIn wsX0_startWithRopeTurned wsX1_copyFrom := goodIn_r _ [8, 9, 10, 11, 12, 13, 14, 15, 16, 17, 18, 19, 20, 86, 87, 88, 89, 90, 91, 92, 93, 94, 95, 96, 97] (by decide +kernel) (by decide +kernel)
set_option maxRecDepth 20000 in
theorem gX0_startWithRopeTurned_X1_copyFrom : GoodIn wsX0_startWithRopeTurned (wsV RX0 32 RX1 yX1_copyFrom wsX1_copyFrom) := goodIn_app (goodIn_of _ (by decide +kernel)) ggX0_startWithRopeTurned_X1_copyFrom
set_option maxRecDepth 20000 in
theorem ggX0_startWithRopeTurned_X5_isEdge : GoodIn wsX0_startWithRopeTurned wsX5_isEdge := goodIn_r _ [23] (by decide +kernel) (by decide +kernel)
set_option maxRecDepth 20000 in
theorem gX0_startWithRopeTurned_X5_isEdge_n39 : GoodIn wsX0_startWithRopeTurned (wsX5_isEdge) := ggX0_startWithRopeTurned_X5_isEdge
set_option maxRecDepth 20000 in
theorem ggX0_startWithRopeTurned_X4_find : GoodIn wsX0_startWithRopeTurned wsX4_find := goodIn_r _ [28, 29, 30, 31, 32, 33, 27, 34, 35, 36, 37, 38, 22, 39, 40, 41, 42, 7, 43, 16, 44, 45, 46, 47, 48, 49, 50, 51, 52, 21, 23, 53, 54, 55, 56, 57, 58, 59, 60, 61, 62, 63, 64, 65, 66, 67, 68, 69, 70, 71, 72, 73, 74, 75, 76, 77, 78, 79, 80, 81, 82, 98, 99, 100, 101, 102, 103, 86, 87, 88, 89, 90, 91, 92, 93, 94, 95, 96, 97] (by decide +kernel) (by decide +kernel)
set_option maxRecDepth 20000 in
theorem gX0_startWithRopeTurned_X4_find : GoodIn wsX0_startWithRopeTurned (wsV RX0 36 RX4 yX4_find wsX4_find) := goodIn_app (goodIn_of _ (by decide +kernel)) ggX0_startWithRopeTurned_X4_find
theorem dX0_startWithRopeTurned_0 : decode cX0_startWithRopeTurned 0 = .ok (.aload_n 0, 1) := by decide +kernel
theorem dX0_startWithRopeTurned_1 : decode cX0_startWithRopeTurned 1 = .ok (.getfield 12, 3) := by decide +kernel
theorem dX0_startWithRopeTurned_4 : decode cX0_startWithRopeTurned 4 = .ok (.aload_n 1, 1) := by decide +kernel
theorem dX0_startWithRopeTurned_5 : decode cX0_startWithRopeTurned 5 = .ok (.invokevirtual 32, 3) := by decide +kernel
theorem dX0_startWithRopeTurned_8 : decode cX0_startWithRopeTurned 8 = .ok (.iload_n 2, 1) := by decide +kernel
theorem dX0_startWithRopeTurned_9 : decode cX0_startWithRopeTurned 9 = .ok (.invokestatic 39, 3) := by decide +kernel
theorem dX0_startWithRopeTurned_12 : decode cX0_startWithRopeTurned 12 = .ok (.ifCond .eq 29, 3) := by decide +kernel
theorem dX0_startWithRopeTurned_15 : decode cX0_startWithRopeTurned 15 = .ok (.aload_n 0, 1) := by decide +kernel
theorem dX0_startWithRopeTurned_16 : decode cX0_startWithRopeTurned 16 = .ok (.getfield 12, 3) := by decide +kernel
theorem dX0_startWithRopeTurned_19 : decode cX0_startWithRopeTurned 19 = .ok (.getfield 43, 3) := by decide +kernel
theorem dX0_startWithRopeTurned_22 : decode cX0_startWithRopeTurned 22 = .ok (.iload_n 2, 1) := by decide +kernel
theorem dX0_startWithRopeTurned_23 : decode cX0_startWithRopeTurned 23 = .ok (.aload_n 0, 1) := by decide +kernel
theorem dX0_startWithRopeTurned_24 : decode cX0_startWithRopeTurned 24 = .ok (.getfield 12, 3) := by decide +kernel
theorem dX0_startWithRopeTurned_27 : decode cX0_startWithRopeTurned 27 = .ok (.getfield 43, 3) := by decide +kernel
theorem dX0_startWithRopeTurned_30 : decode cX0_startWithRopeTurned 30 = .ok (.iload_n 2, 1) := by decide +kernel
theorem dX0_startWithRopeTurned_31 : decode cX0_startWithRopeTurned 31 = .ok (.baload, 1) := by decide +kernel
theorem dX0_startWithRopeTurned_32 : decode cX0_startWithRopeTurned 32 = .ok (.ifCond .ne 7, 3) := by decide +kernel
theorem dX0_startWithRopeTurned_35 : decode cX0_startWithRopeTurned 35 = .ok (.iconst 1, 1) := by decide +kernel
theorem dX0_startWithRopeTurned_36 : decode cX0_startWithRopeTurned 36 = .ok (.goto 4, 3) := by decide +kernel
theorem dX0_startWithRopeTurned_39 : decode cX0_startWithRopeTurned 39 = .ok (.iconst 0, 1) := by decide +kernel
theorem dX0_startWithRopeTurned_40 : decode cX0_startWithRopeTurned 40 = .ok (.bastore, 1) := by decide +kernel
theorem dX0_startWithRopeTurned_41 : decode cX0_startWithRopeTurned 41 = .ok (.aload_n 0, 1) := by decide +kernel
theorem dX0_startWithRopeTurned_42 : decode cX0_startWithRopeTurned 42 = .ok (.getfield 21, 3) := by decide +kernel
theorem dX0_startWithRopeTurned_45 : decode cX0_startWithRopeTurned 45 = .ok (.aload_n 0, 1) := by decide +kernel
theorem dX0_startWithRopeTurned_46 : decode cX0_startWithRopeTurned 46 = .ok (.getfield 12, 3) := by decide +kernel
theorem dX0_startWithRopeTurned_49 : decode cX0_startWithRopeTurned 49 = .ok (.invokevirtual 36, 3) := by decide +kernel
theorem dX0_startWithRopeTurned_52 : decode cX0_startWithRopeTurned 52 = .ok (.return_, 1) := by decide +kernel
set_option maxRecDepth 20000 in
theorem ggX0_runUntilOut_X1_peopleInside : GoodIn wsX0_runUntilOut wsX1_peopleInside := goodIn_r _ [8, 9, 72, 73, 74, 75, 76, 77, 78, 79, 80, 81, 82, 83] (by decide +kernel) (by decide +kernel)
set_option maxRecDepth 20000 in
theorem gX0_runUntilOut_X1_peopleInside : GoodIn wsX0_runUntilOut (wsV RX0 47 RX1 yX1_peopleInside wsX1_peopleInside) := goodIn_app (goodIn_of _ (by decide +kernel)) ggX0_runUntilOut_X1_peopleInside
set_option maxRecDepth 20000 in
theorem ggX0_runUntilOut_X4_stranded : GoodIn wsX0_runUntilOut wsX4_stranded := goodIn_r _ [14, 15, 16, 17, 13, 18, 19, 20, 84, 85, 86, 87, 88, 89, 72, 73, 74, 75, 76, 77, 78, 79, 80, 81, 82, 83] (by decide +kernel) (by decide +kernel)
set_option maxRecDepth 20000 in
theorem gX0_runUntilOut_X4_stranded : GoodIn wsX0_runUntilOut (wsV RX0 51 RX4 yX4_stranded wsX4_stranded) := goodIn_app (goodIn_of _ (by decide +kernel)) ggX0_runUntilOut_X4_stranded
set_option maxRecDepth 20000 in
theorem ggX0_runUntilOut_X2_run : GoodIn wsX0_runUntilOut wsX2_run := goodIn_r _ [25, 26, 27, 28, 29, 24, 30, 31, 32, 33, 34, 35, 36, 37, 38, 39, 40, 41, 42, 43, 44, 45, 13, 46, 47, 48, 49, 50, 51, 52, 53, 54, 55, 56, 57, 58, 59, 60, 61, 62, 63, 64, 65, 66, 7, 67, 68, 9, 72, 73, 74, 75, 76, 77, 78, 79, 80, 81, 82, 83, 90, 84, 85, 86, 87, 88, 89] (by decide +kernel) (by decide +kernel)
set_option maxRecDepth 20000 in
theorem gX0_runUntilOut_X2_run : GoodIn wsX0_runUntilOut (wsV RX0 55 RX2 yX2_run wsX2_run) := goodIn_app (goodIn_of _ (by decide +kernel)) ggX0_runUntilOut_X2_run
theorem dX0_runUntilOut_0 : decode cX0_runUntilOut 0 = .ok (.aload_n 0, 1) := by decide +kernel
theorem dX0_runUntilOut_1 : decode cX0_runUntilOut 1 = .ok (.getfield 12, 3) := by decide +kernel
theorem dX0_runUntilOut_4 : decode cX0_runUntilOut 4 = .ok (.invokevirtual 47, 3) := by decide +kernel
theorem dX0_runUntilOut_7 : decode cX0_runUntilOut 7 = .ok (.aload_n 0, 1) := by decide +kernel
theorem dX0_runUntilOut_8 : decode cX0_runUntilOut 8 = .ok (.getfield 21, 3) := by decide +kernel
theorem dX0_runUntilOut_11 : decode cX0_runUntilOut 11 = .ok (.aload_n 0, 1) := by decide +kernel
theorem dX0_runUntilOut_12 : decode cX0_runUntilOut 12 = .ok (.getfield 12, 3) := by decide +kernel
theorem dX0_runUntilOut_15 : decode cX0_runUntilOut 15 = .ok (.invokevirtual 51, 3) := by decide +kernel
theorem dX0_runUntilOut_18 : decode cX0_runUntilOut 18 = .ok (.isub, 1) := by decide +kernel
theorem dX0_runUntilOut_19 : decode cX0_runUntilOut 19 = .ok (.istore_n 1, 1) := by decide +kernel
theorem dX0_runUntilOut_20 : decode cX0_runUntilOut 20 = .ok (.iconst 0, 1) := by decide +kernel
theorem dX0_runUntilOut_21 : decode cX0_runUntilOut 21 = .ok (.istore_n 2, 1) := by decide +kernel
theorem dX0_runUntilOut_22 : decode cX0_runUntilOut 22 = .ok (.iload_n 2, 1) := by decide +kernel
theorem dX0_runUntilOut_23 : decode cX0_runUntilOut 23 = .ok (.sipush 400, 3) := by decide +kernel
theorem dX0_runUntilOut_26 : decode cX0_runUntilOut 26 = .ok (.if_icmp .ge 33, 3) := by decide +kernel
theorem dX0_runUntilOut_29 : decode cX0_runUntilOut 29 = .ok (.iload_n 1, 1) := by decide +kernel
theorem dX0_runUntilOut_30 : decode cX0_runUntilOut 30 = .ok (.ifCond .ne 5, 3) := by decide +kernel
theorem dX0_runUntilOut_33 : decode cX0_runUntilOut 33 = .ok (.iload_n 2, 1) := by decide +kernel
theorem dX0_runUntilOut_34 : decode cX0_runUntilOut 34 = .ok (.ireturn, 1) := by decide +kernel
theorem dX0_runUntilOut_35 : decode cX0_runUntilOut 35 = .ok (.iload_n 1, 1) := by decide +kernel
theorem dX0_runUntilOut_36 : decode cX0_runUntilOut 36 = .ok (.aload_n 0, 1) := by decide +kernel
theorem dX0_runUntilOut_37 : decode cX0_runUntilOut 37 = .ok (.getfield 28, 3) := by decide +kernel
theorem dX0_runUntilOut_40 : decode cX0_runUntilOut 40 = .ok (.aload_n 0, 1) := by decide +kernel
theorem dX0_runUntilOut_41 : decode cX0_runUntilOut 41 = .ok (.getfield 12, 3) := by decide +kernel
theorem dX0_runUntilOut_44 : decode cX0_runUntilOut 44 = .ok (.aload_n 0, 1) := by decide +kernel
theorem dX0_runUntilOut_45 : decode cX0_runUntilOut 45 = .ok (.getfield 21, 3) := by decide +kernel
theorem dX0_runUntilOut_48 : decode cX0_runUntilOut 48 = .ok (.invokevirtual 55, 3) := by decide +kernel
theorem dX0_runUntilOut_51 : decode cX0_runUntilOut 51 = .ok (.isub, 1) := by decide +kernel
theorem dX0_runUntilOut_52 : decode cX0_runUntilOut 52 = .ok (.istore_n 1, 1) := by decide +kernel
theorem dX0_runUntilOut_53 : decode cX0_runUntilOut 53 = .ok (.iinc 2 1, 3) := by decide +kernel
theorem dX0_runUntilOut_56 : decode cX0_runUntilOut 56 = .ok (.goto (-34), 3) := by decide +kernel
theorem dX0_runUntilOut_59 : decode cX0_runUntilOut 59 = .ok (.iload_n 1, 1) := by decide +kernel
theorem dX0_runUntilOut_60 : decode cX0_runUntilOut 60 = .ok (.ifCond .ne 9, 3) := by decide +kernel
theorem dX0_runUntilOut_63 : decode cX0_runUntilOut 63 = .ok (.sipush 400, 3) := by decide +kernel
theorem dX0_runUntilOut_66 : decode cX0_runUntilOut 66 = .ok (.goto 5, 3) := by decide +kernel
theorem dX0_runUntilOut_69 : decode cX0_runUntilOut 69 = .ok (.bipush (-6), 2) := by decide +kernel
theorem dX0_runUntilOut_71 : decode cX0_runUntilOut 71 = .ok (.ireturn, 1) := by decide +kernel
set_option maxRecDepth 20000 in
theorem ggX0_stranded_X4_stranded : GoodIn wsX0_stranded wsX4_stranded := goodIn_r _ [7, 8, 9, 10, 6, 11, 12, 13, 17, 18, 19, 20, 21, 22, 23, 24, 25, 26, 27, 28, 29, 30, 31, 32, 33, 34] (by decide +kernel) (by decide +kernel)
set_option maxRecDepth 20000 in
theorem gX0_stranded_X4_stranded : GoodIn wsX0_stranded (wsV RX0 51 RX4 yX4_stranded wsX4_stranded) := goodIn_app (goodIn_of _ (by decide +kernel)) ggX0_stranded_X4_stranded
theorem dX0_stranded_0 : decode cX0_stranded 0 = .ok (.aload_n 0, 1) := by decide +kernel
theorem dX0_stranded_1 : decode cX0_stranded 1 = .ok (.getfield 21, 3) := by decide +kernel
theorem dX0_stranded_4 : decode cX0_stranded 4 = .ok (.aload_n 0, 1) := by decide +kernel
theorem dX0_stranded_5 : decode cX0_stranded 5 = .ok (.getfield 12, 3) := by decide +kernel
theorem dX0_stranded_8 : decode cX0_stranded 8 = .ok (.invokevirtual 51, 3) := by decide +kernel
theorem dX0_stranded_11 : decode cX0_stranded 11 = .ok (.ireturn, 1) := by decide +kernel
set_option maxRecDepth 20000 in
theorem ggX0_unevenness_X1_unevenness : GoodIn wsX0_unevenness wsX1_unevenness := goodIn_r _ [6, 7, 8, 9, 10, 11, 12, 13, 14, 15, 19, 20, 21, 22, 23, 24, 25, 26, 27, 28, 29, 30] (by decide +kernel) (by decide +kernel)
set_option maxRecDepth 20000 in
theorem gX0_unevenness_X1_unevenness : GoodIn wsX0_unevenness (wsV RX0 59 RX1 yX1_unevenness wsX1_unevenness) := goodIn_app (goodIn_of _ (by decide +kernel)) ggX0_unevenness_X1_unevenness
theorem dX0_unevenness_0 : decode cX0_unevenness 0 = .ok (.aload_n 0, 1) := by decide +kernel
theorem dX0_unevenness_1 : decode cX0_unevenness 1 = .ok (.getfield 12, 3) := by decide +kernel
theorem dX0_unevenness_4 : decode cX0_unevenness 4 = .ok (.invokevirtual 59, 3) := by decide +kernel
theorem dX0_unevenness_7 : decode cX0_unevenness 7 = .ok (.ireturn, 1) := by decide +kernel
theorem dX0_waited_0 : decode cX0_waited 0 = .ok (.aload_n 0, 1) := by decide +kernel
theorem dX0_waited_1 : decode cX0_waited 1 = .ok (.getfield 12, 3) := by decide +kernel
theorem dX0_waited_4 : decode cX0_waited 4 = .ok (.getfield 62, 3) := by decide +kernel
theorem dX0_waited_7 : decode cX0_waited 7 = .ok (.ireturn, 1) := by decide +kernel
theorem dX1_init_0 : decode cX1_init 0 = .ok (.aload_n 0, 1) := by decide +kernel
theorem dX1_init_1 : decode cX1_init 1 = .ok (.invokespecial 3, 3) := by decide +kernel
theorem dX1_init_4 : decode cX1_init 4 = .ok (.aload_n 0, 1) := by decide +kernel
theorem dX1_init_5 : decode cX1_init 5 = .ok (.bipush 6, 2) := by decide +kernel
theorem dX1_init_7 : decode cX1_init 7 = .ok (.putfield 9, 3) := by decide +kernel
theorem dX1_init_10 : decode cX1_init 10 = .ok (.aload_n 0, 1) := by decide +kernel
theorem dX1_init_11 : decode cX1_init 11 = .ok (.bipush 35, 2) := by decide +kernel
theorem dX1_init_13 : decode cX1_init 13 = .ok (.newarray .int, 2) := by decide +kernel
theorem dX1_init_15 : decode cX1_init 15 = .ok (.putfield 15, 3) := by decide +kernel
theorem dX1_init_18 : decode cX1_init 18 = .ok (.aload_n 0, 1) := by decide +kernel
theorem dX1_init_19 : decode cX1_init 19 = .ok (.bipush 35, 2) := by decide +kernel
theorem dX1_init_21 : decode cX1_init 21 = .ok (.newarray .int, 2) := by decide +kernel
theorem dX1_init_23 : decode cX1_init 23 = .ok (.putfield 19, 3) := by decide +kernel
theorem dX1_init_26 : decode cX1_init 26 = .ok (.aload_n 0, 1) := by decide +kernel
theorem dX1_init_27 : decode cX1_init 27 = .ok (.bipush 70, 2) := by decide +kernel
theorem dX1_init_29 : decode cX1_init 29 = .ok (.newarray .boolean, 2) := by decide +kernel
theorem dX1_init_31 : decode cX1_init 31 = .ok (.putfield 22, 3) := by decide +kernel
theorem dX1_init_34 : decode cX1_init 34 = .ok (.aload_n 0, 1) := by decide +kernel
theorem dX1_init_35 : decode cX1_init 35 = .ok (.iconst 4, 1) := by decide +kernel
theorem dX1_init_36 : decode cX1_init 36 = .ok (.newarray .int, 2) := by decide +kernel
theorem dX1_init_38 : decode cX1_init 38 = .ok (.dup, 1) := by decide +kernel
theorem dX1_init_39 : decode cX1_init 39 = .ok (.iconst 0, 1) := by decide +kernel
theorem dX1_init_40 : decode cX1_init 40 = .ok (.iconst 0, 1) := by decide +kernel
theorem dX1_init_41 : decode cX1_init 41 = .ok (.iastore, 1) := by decide +kernel
theorem dX1_init_42 : decode cX1_init 42 = .ok (.dup, 1) := by decide +kernel
theorem dX1_init_43 : decode cX1_init 43 = .ok (.iconst 1, 1) := by decide +kernel
theorem dX1_init_44 : decode cX1_init 44 = .ok (.bipush 6, 2) := by decide +kernel
theorem dX1_init_46 : decode cX1_init 46 = .ok (.iastore, 1) := by decide +kernel
theorem dX1_init_47 : decode cX1_init 47 = .ok (.dup, 1) := by decide +kernel
theorem dX1_init_48 : decode cX1_init 48 = .ok (.iconst 2, 1) := by decide +kernel
theorem dX1_init_49 : decode cX1_init 49 = .ok (.bipush 28, 2) := by decide +kernel
theorem dX1_init_51 : decode cX1_init 51 = .ok (.iastore, 1) := by decide +kernel
theorem dX1_init_52 : decode cX1_init 52 = .ok (.dup, 1) := by decide +kernel
theorem dX1_init_53 : decode cX1_init 53 = .ok (.iconst 3, 1) := by decide +kernel
theorem dX1_init_54 : decode cX1_init 54 = .ok (.bipush 34, 2) := by decide +kernel
theorem dX1_init_56 : decode cX1_init 56 = .ok (.iastore, 1) := by decide +kernel
theorem dX1_init_57 : decode cX1_init 57 = .ok (.putfield 26, 3) := by decide +kernel
theorem dX1_init_60 : decode cX1_init 60 = .ok (.aload_n 0, 1) := by decide +kernel
theorem dX1_init_61 : decode cX1_init 61 = .ok (.iconst 4, 1) := by decide +kernel
theorem dX1_init_62 : decode cX1_init 62 = .ok (.newarray .int, 2) := by decide +kernel
theorem dX1_init_64 : decode cX1_init 64 = .ok (.dup, 1) := by decide +kernel
theorem dX1_init_65 : decode cX1_init 65 = .ok (.iconst 0, 1) := by decide +kernel
theorem dX1_init_66 : decode cX1_init 66 = .ok (.iconst 1, 1) := by decide +kernel
theorem dX1_init_67 : decode cX1_init 67 = .ok (.iastore, 1) := by decide +kernel
theorem dX1_init_68 : decode cX1_init 68 = .ok (.dup, 1) := by decide +kernel
theorem dX1_init_69 : decode cX1_init 69 = .ok (.iconst 1, 1) := by decide +kernel
theorem dX1_init_70 : decode cX1_init 70 = .ok (.iconst 1, 1) := by decide +kernel
theorem dX1_init_71 : decode cX1_init 71 = .ok (.iastore, 1) := by decide +kernel
theorem dX1_init_72 : decode cX1_init 72 = .ok (.dup, 1) := by decide +kernel
theorem dX1_init_73 : decode cX1_init 73 = .ok (.iconst 2, 1) := by decide +kernel
theorem dX1_init_74 : decode cX1_init 74 = .ok (.iconst 1, 1) := by decide +kernel
theorem dX1_init_75 : decode cX1_init 75 = .ok (.iastore, 1) := by decide +kernel
theorem dX1_init_76 : decode cX1_init 76 = .ok (.dup, 1) := by decide +kernel
theorem dX1_init_77 : decode cX1_init 77 = .ok (.iconst 3, 1) := by decide +kernel
theorem dX1_init_78 : decode cX1_init 78 = .ok (.iconst 1, 1) := by decide +kernel
theorem dX1_init_79 : decode cX1_init 79 = .ok (.iastore, 1) := by decide +kernel
theorem dX1_init_80 : decode cX1_init 80 = .ok (.putfield 29, 3) := by decide +kernel
theorem dX1_init_83 : decode cX1_init 83 = .ok (.aload_n 0, 1) := by decide +kernel
theorem dX1_init_84 : decode cX1_init 84 = .ok (.iconst 4, 1) := by decide +kernel
theorem dX1_init_85 : decode cX1_init 85 = .ok (.newarray .boolean, 2) := by decide +kernel
theorem dX1_init_87 : decode cX1_init 87 = .ok (.dup, 1) := by decide +kernel
theorem dX1_init_88 : decode cX1_init 88 = .ok (.iconst 0, 1) := by decide +kernel
theorem dX1_init_89 : decode cX1_init 89 = .ok (.iconst 1, 1) := by decide +kernel
theorem dX1_init_90 : decode cX1_init 90 = .ok (.bastore, 1) := by decide +kernel
theorem dX1_init_91 : decode cX1_init 91 = .ok (.dup, 1) := by decide +kernel
theorem dX1_init_92 : decode cX1_init 92 = .ok (.iconst 1, 1) := by decide +kernel
theorem dX1_init_93 : decode cX1_init 93 = .ok (.iconst 0, 1) := by decide +kernel
theorem dX1_init_94 : decode cX1_init 94 = .ok (.bastore, 1) := by decide +kernel
theorem dX1_init_95 : decode cX1_init 95 = .ok (.dup, 1) := by decide +kernel
theorem dX1_init_96 : decode cX1_init 96 = .ok (.iconst 2, 1) := by decide +kernel
theorem dX1_init_97 : decode cX1_init 97 = .ok (.iconst 0, 1) := by decide +kernel
theorem dX1_init_98 : decode cX1_init 98 = .ok (.bastore, 1) := by decide +kernel
theorem dX1_init_99 : decode cX1_init 99 = .ok (.dup, 1) := by decide +kernel
theorem dX1_init_100 : decode cX1_init 100 = .ok (.iconst 3, 1) := by decide +kernel
theorem dX1_init_101 : decode cX1_init 101 = .ok (.iconst 1, 1) := by decide +kernel
theorem dX1_init_102 : decode cX1_init 102 = .ok (.bastore, 1) := by decide +kernel
theorem dX1_init_103 : decode cX1_init 103 = .ok (.putfield 32, 3) := by decide +kernel
theorem dX1_init_106 : decode cX1_init 106 = .ok (.aload_n 0, 1) := by decide +kernel
theorem dX1_init_107 : decode cX1_init 107 = .ok (.iconst 4, 1) := by decide +kernel
theorem dX1_init_108 : decode cX1_init 108 = .ok (.newarray .int, 2) := by decide +kernel
theorem dX1_init_110 : decode cX1_init 110 = .ok (.putfield 35, 3) := by decide +kernel
theorem dX1_init_113 : decode cX1_init 113 = .ok (.iconst 0, 1) := by decide +kernel
theorem dX1_init_114 : decode cX1_init 114 = .ok (.istore_n 1, 1) := by decide +kernel
theorem dX1_init_115 : decode cX1_init 115 = .ok (.iload_n 1, 1) := by decide +kernel
theorem dX1_init_116 : decode cX1_init 116 = .ok (.bipush 35, 2) := by decide +kernel
theorem dX1_init_118 : decode cX1_init 118 = .ok (.if_icmp .ge 16, 3) := by decide +kernel
theorem dX1_init_121 : decode cX1_init 121 = .ok (.aload_n 0, 1) := by decide +kernel
theorem dX1_init_122 : decode cX1_init 122 = .ok (.getfield 19, 3) := by decide +kernel
theorem dX1_init_125 : decode cX1_init 125 = .ok (.iload_n 1, 1) := by decide +kernel
theorem dX1_init_126 : decode cX1_init 126 = .ok (.iconst (-1), 1) := by decide +kernel
theorem dX1_init_127 : decode cX1_init 127 = .ok (.iastore, 1) := by decide +kernel
theorem dX1_init_128 : decode cX1_init 128 = .ok (.iinc 1 1, 3) := by decide +kernel
theorem dX1_init_131 : decode cX1_init 131 = .ok (.goto (-16), 3) := by decide +kernel
theorem dX1_init_134 : decode cX1_init 134 = .ok (.return_, 1) := by decide +kernel
theorem dX1_copyFrom_0 : decode cX1_copyFrom 0 = .ok (.aload_n 0, 1) := by decide +kernel
theorem dX1_copyFrom_1 : decode cX1_copyFrom 1 = .ok (.aload_n 1, 1) := by decide +kernel
theorem dX1_copyFrom_2 : decode cX1_copyFrom 2 = .ok (.getfield 9, 3) := by decide +kernel
theorem dX1_copyFrom_5 : decode cX1_copyFrom 5 = .ok (.putfield 9, 3) := by decide +kernel
theorem dX1_copyFrom_8 : decode cX1_copyFrom 8 = .ok (.aload_n 0, 1) := by decide +kernel
theorem dX1_copyFrom_9 : decode cX1_copyFrom 9 = .ok (.aload_n 1, 1) := by decide +kernel
theorem dX1_copyFrom_10 : decode cX1_copyFrom 10 = .ok (.getfield 38, 3) := by decide +kernel
theorem dX1_copyFrom_13 : decode cX1_copyFrom 13 = .ok (.putfield 38, 3) := by decide +kernel
theorem dX1_copyFrom_16 : decode cX1_copyFrom 16 = .ok (.aload_n 0, 1) := by decide +kernel
theorem dX1_copyFrom_17 : decode cX1_copyFrom 17 = .ok (.aload_n 1, 1) := by decide +kernel
theorem dX1_copyFrom_18 : decode cX1_copyFrom 18 = .ok (.getfield 41, 3) := by decide +kernel
theorem dX1_copyFrom_21 : decode cX1_copyFrom 21 = .ok (.putfield 41, 3) := by decide +kernel
theorem dX1_copyFrom_24 : decode cX1_copyFrom 24 = .ok (.aload_n 0, 1) := by decide +kernel
theorem dX1_copyFrom_25 : decode cX1_copyFrom 25 = .ok (.aload_n 1, 1) := by decide +kernel
theorem dX1_copyFrom_26 : decode cX1_copyFrom 26 = .ok (.getfield 44, 3) := by decide +kernel
theorem dX1_copyFrom_29 : decode cX1_copyFrom 29 = .ok (.putfield 44, 3) := by decide +kernel
theorem dX1_copyFrom_32 : decode cX1_copyFrom 32 = .ok (.aload_n 0, 1) := by decide +kernel
theorem dX1_copyFrom_33 : decode cX1_copyFrom 33 = .ok (.aload_n 1, 1) := by decide +kernel
theorem dX1_copyFrom_34 : decode cX1_copyFrom 34 = .ok (.getfield 47, 3) := by decide +kernel
theorem dX1_copyFrom_37 : decode cX1_copyFrom 37 = .ok (.putfield 47, 3) := by decide +kernel
theorem dX1_copyFrom_40 : decode cX1_copyFrom 40 = .ok (.iconst 0, 1) := by decide +kernel
theorem dX1_copyFrom_41 : decode cX1_copyFrom 41 = .ok (.istore_n 2, 1) := by decide +kernel
theorem dX1_copyFrom_42 : decode cX1_copyFrom 42 = .ok (.iload_n 2, 1) := by decide +kernel
theorem dX1_copyFrom_43 : decode cX1_copyFrom 43 = .ok (.bipush 35, 2) := by decide +kernel
theorem dX1_copyFrom_45 : decode cX1_copyFrom 45 = .ok (.if_icmp .ge 33, 3) := by decide +kernel
theorem dX1_copyFrom_48 : decode cX1_copyFrom 48 = .ok (.aload_n 0, 1) := by decide +kernel
theorem dX1_copyFrom_49 : decode cX1_copyFrom 49 = .ok (.getfield 15, 3) := by decide +kernel
theorem dX1_copyFrom_52 : decode cX1_copyFrom 52 = .ok (.iload_n 2, 1) := by decide +kernel
theorem dX1_copyFrom_53 : decode cX1_copyFrom 53 = .ok (.aload_n 1, 1) := by decide +kernel
theorem dX1_copyFrom_54 : decode cX1_copyFrom 54 = .ok (.getfield 15, 3) := by decide +kernel
theorem dX1_copyFrom_57 : decode cX1_copyFrom 57 = .ok (.iload_n 2, 1) := by decide +kernel
theorem dX1_copyFrom_58 : decode cX1_copyFrom 58 = .ok (.iaload, 1) := by decide +kernel
theorem dX1_copyFrom_59 : decode cX1_copyFrom 59 = .ok (.iastore, 1) := by decide +kernel
theorem dX1_copyFrom_60 : decode cX1_copyFrom 60 = .ok (.aload_n 0, 1) := by decide +kernel
theorem dX1_copyFrom_61 : decode cX1_copyFrom 61 = .ok (.getfield 19, 3) := by decide +kernel
theorem dX1_copyFrom_64 : decode cX1_copyFrom 64 = .ok (.iload_n 2, 1) := by decide +kernel
theorem dX1_copyFrom_65 : decode cX1_copyFrom 65 = .ok (.aload_n 1, 1) := by decide +kernel
theorem dX1_copyFrom_66 : decode cX1_copyFrom 66 = .ok (.getfield 19, 3) := by decide +kernel
theorem dX1_copyFrom_69 : decode cX1_copyFrom 69 = .ok (.iload_n 2, 1) := by decide +kernel
theorem dX1_copyFrom_70 : decode cX1_copyFrom 70 = .ok (.iaload, 1) := by decide +kernel
theorem dX1_copyFrom_71 : decode cX1_copyFrom 71 = .ok (.iastore, 1) := by decide +kernel
theorem dX1_copyFrom_72 : decode cX1_copyFrom 72 = .ok (.iinc 2 1, 3) := by decide +kernel
theorem dX1_copyFrom_75 : decode cX1_copyFrom 75 = .ok (.goto (-33), 3) := by decide +kernel
theorem dX1_copyFrom_78 : decode cX1_copyFrom 78 = .ok (.iconst 0, 1) := by decide +kernel
theorem dX1_copyFrom_79 : decode cX1_copyFrom 79 = .ok (.istore_n 2, 1) := by decide +kernel
theorem dX1_copyFrom_80 : decode cX1_copyFrom 80 = .ok (.iload_n 2, 1) := by decide +kernel
theorem dX1_copyFrom_81 : decode cX1_copyFrom 81 = .ok (.bipush 70, 2) := by decide +kernel
theorem dX1_copyFrom_83 : decode cX1_copyFrom 83 = .ok (.if_icmp .ge 21, 3) := by decide +kernel
theorem dX1_copyFrom_86 : decode cX1_copyFrom 86 = .ok (.aload_n 0, 1) := by decide +kernel
theorem dX1_copyFrom_87 : decode cX1_copyFrom 87 = .ok (.getfield 22, 3) := by decide +kernel
theorem dX1_copyFrom_90 : decode cX1_copyFrom 90 = .ok (.iload_n 2, 1) := by decide +kernel
theorem dX1_copyFrom_91 : decode cX1_copyFrom 91 = .ok (.aload_n 1, 1) := by decide +kernel
theorem dX1_copyFrom_92 : decode cX1_copyFrom 92 = .ok (.getfield 22, 3) := by decide +kernel
theorem dX1_copyFrom_95 : decode cX1_copyFrom 95 = .ok (.iload_n 2, 1) := by decide +kernel
theorem dX1_copyFrom_96 : decode cX1_copyFrom 96 = .ok (.baload, 1) := by decide +kernel
theorem dX1_copyFrom_97 : decode cX1_copyFrom 97 = .ok (.bastore, 1) := by decide +kernel
theorem dX1_copyFrom_98 : decode cX1_copyFrom 98 = .ok (.iinc 2 1, 3) := by decide +kernel
theorem dX1_copyFrom_101 : decode cX1_copyFrom 101 = .ok (.goto (-21), 3) := by decide +kernel
theorem dX1_copyFrom_104 : decode cX1_copyFrom 104 = .ok (.iconst 0, 1) := by decide +kernel
theorem dX1_copyFrom_105 : decode cX1_copyFrom 105 = .ok (.istore_n 2, 1) := by decide +kernel
theorem dX1_copyFrom_106 : decode cX1_copyFrom 106 = .ok (.iload_n 2, 1) := by decide +kernel
theorem dX1_copyFrom_107 : decode cX1_copyFrom 107 = .ok (.iconst 4, 1) := by decide +kernel
theorem dX1_copyFrom_108 : decode cX1_copyFrom 108 = .ok (.if_icmp .ge 57, 3) := by decide +kernel
theorem dX1_copyFrom_111 : decode cX1_copyFrom 111 = .ok (.aload_n 0, 1) := by decide +kernel
theorem dX1_copyFrom_112 : decode cX1_copyFrom 112 = .ok (.getfield 26, 3) := by decide +kernel
theorem dX1_copyFrom_115 : decode cX1_copyFrom 115 = .ok (.iload_n 2, 1) := by decide +kernel
theorem dX1_copyFrom_116 : decode cX1_copyFrom 116 = .ok (.aload_n 1, 1) := by decide +kernel
theorem dX1_copyFrom_117 : decode cX1_copyFrom 117 = .ok (.getfield 26, 3) := by decide +kernel
theorem dX1_copyFrom_120 : decode cX1_copyFrom 120 = .ok (.iload_n 2, 1) := by decide +kernel
theorem dX1_copyFrom_121 : decode cX1_copyFrom 121 = .ok (.iaload, 1) := by decide +kernel
theorem dX1_copyFrom_122 : decode cX1_copyFrom 122 = .ok (.iastore, 1) := by decide +kernel
theorem dX1_copyFrom_123 : decode cX1_copyFrom 123 = .ok (.aload_n 0, 1) := by decide +kernel
theorem dX1_copyFrom_124 : decode cX1_copyFrom 124 = .ok (.getfield 29, 3) := by decide +kernel
theorem dX1_copyFrom_127 : decode cX1_copyFrom 127 = .ok (.iload_n 2, 1) := by decide +kernel
theorem dX1_copyFrom_128 : decode cX1_copyFrom 128 = .ok (.aload_n 1, 1) := by decide +kernel
theorem dX1_copyFrom_129 : decode cX1_copyFrom 129 = .ok (.getfield 29, 3) := by decide +kernel
theorem dX1_copyFrom_132 : decode cX1_copyFrom 132 = .ok (.iload_n 2, 1) := by decide +kernel
theorem dX1_copyFrom_133 : decode cX1_copyFrom 133 = .ok (.iaload, 1) := by decide +kernel
theorem dX1_copyFrom_134 : decode cX1_copyFrom 134 = .ok (.iastore, 1) := by decide +kernel
theorem dX1_copyFrom_135 : decode cX1_copyFrom 135 = .ok (.aload_n 0, 1) := by decide +kernel
theorem dX1_copyFrom_136 : decode cX1_copyFrom 136 = .ok (.getfield 32, 3) := by decide +kernel
theorem dX1_copyFrom_139 : decode cX1_copyFrom 139 = .ok (.iload_n 2, 1) := by decide +kernel
theorem dX1_copyFrom_140 : decode cX1_copyFrom 140 = .ok (.aload_n 1, 1) := by decide +kernel
theorem dX1_copyFrom_141 : decode cX1_copyFrom 141 = .ok (.getfield 32, 3) := by decide +kernel
theorem dX1_copyFrom_144 : decode cX1_copyFrom 144 = .ok (.iload_n 2, 1) := by decide +kernel
theorem dX1_copyFrom_145 : decode cX1_copyFrom 145 = .ok (.baload, 1) := by decide +kernel
theorem dX1_copyFrom_146 : decode cX1_copyFrom 146 = .ok (.bastore, 1) := by decide +kernel
theorem dX1_copyFrom_147 : decode cX1_copyFrom 147 = .ok (.aload_n 0, 1) := by decide +kernel
theorem dX1_copyFrom_148 : decode cX1_copyFrom 148 = .ok (.getfield 35, 3) := by decide +kernel
theorem dX1_copyFrom_151 : decode cX1_copyFrom 151 = .ok (.iload_n 2, 1) := by decide +kernel
theorem dX1_copyFrom_152 : decode cX1_copyFrom 152 = .ok (.aload_n 1, 1) := by decide +kernel
theorem dX1_copyFrom_153 : decode cX1_copyFrom 153 = .ok (.getfield 35, 3) := by decide +kernel
theorem dX1_copyFrom_156 : decode cX1_copyFrom 156 = .ok (.iload_n 2, 1) := by decide +kernel
theorem dX1_copyFrom_157 : decode cX1_copyFrom 157 = .ok (.iaload, 1) := by decide +kernel
theorem dX1_copyFrom_158 : decode cX1_copyFrom 158 = .ok (.iastore, 1) := by decide +kernel
theorem dX1_copyFrom_159 : decode cX1_copyFrom 159 = .ok (.iinc 2 1, 3) := by decide +kernel
theorem dX1_copyFrom_162 : decode cX1_copyFrom 162 = .ok (.goto (-56), 3) := by decide +kernel
theorem dX1_copyFrom_165 : decode cX1_copyFrom 165 = .ok (.return_, 1) := by decide +kernel
set_option maxRecDepth 20000 in
theorem ggX1_letIn_X5_isCell : GoodIn wsX1_letIn wsX5_isCell := goodIn_r _ [5] (by decide +kernel) (by decide +kernel)
set_option maxRecDepth 20000 in
theorem gX1_letIn_X5_isCell_n50 : GoodIn wsX1_letIn (wsX5_isCell) := ggX1_letIn_X5_isCell
theorem dX1_letIn_0 : decode cX1_letIn 0 = .ok (.iload_n 1, 1) := by decide +kernel
theorem dX1_letIn_1 : decode cX1_letIn 1 = .ok (.invokestatic 50, 3) := by decide +kernel
theorem dX1_letIn_4 : decode cX1_letIn 4 = .ok (.ifCond .eq 23, 3) := by decide +kernel
theorem dX1_letIn_7 : decode cX1_letIn 7 = .ok (.aload_n 0, 1) := by decide +kernel
theorem dX1_letIn_8 : decode cX1_letIn 8 = .ok (.getfield 15, 3) := by decide +kernel
theorem dX1_letIn_11 : decode cX1_letIn 11 = .ok (.iload_n 1, 1) := by decide +kernel
theorem dX1_letIn_12 : decode cX1_letIn 12 = .ok (.dup2, 1) := by decide +kernel
theorem dX1_letIn_13 : decode cX1_letIn 13 = .ok (.iaload, 1) := by decide +kernel
theorem dX1_letIn_14 : decode cX1_letIn 14 = .ok (.iload_n 2, 1) := by decide +kernel
theorem dX1_letIn_15 : decode cX1_letIn 15 = .ok (.iadd, 1) := by decide +kernel
theorem dX1_letIn_16 : decode cX1_letIn 16 = .ok (.iastore, 1) := by decide +kernel
theorem dX1_letIn_17 : decode cX1_letIn 17 = .ok (.aload_n 0, 1) := by decide +kernel
theorem dX1_letIn_18 : decode cX1_letIn 18 = .ok (.dup, 1) := by decide +kernel
theorem dX1_letIn_19 : decode cX1_letIn 19 = .ok (.getfield 41, 3) := by decide +kernel
theorem dX1_letIn_22 : decode cX1_letIn 22 = .ok (.iload_n 2, 1) := by decide +kernel
theorem dX1_letIn_23 : decode cX1_letIn 23 = .ok (.iadd, 1) := by decide +kernel
theorem dX1_letIn_24 : decode cX1_letIn 24 = .ok (.putfield 41, 3) := by decide +kernel
theorem dX1_letIn_27 : decode cX1_letIn 27 = .ok (.return_, 1) := by decide +kernel
set_option maxRecDepth 20000 in
theorem ggX1_roomIn_X5_isCell : GoodIn wsX1_roomIn wsX5_isCell := goodIn_r _ [5] (by decide +kernel) (by decide +kernel)
set_option maxRecDepth 20000 in
theorem gX1_roomIn_X5_isCell_n50 : GoodIn wsX1_roomIn (wsX5_isCell) := ggX1_roomIn_X5_isCell
theorem dX1_roomIn_0 : decode cX1_roomIn 0 = .ok (.iload_n 1, 1) := by decide +kernel
theorem dX1_roomIn_1 : decode cX1_roomIn 1 = .ok (.invokestatic 50, 3) := by decide +kernel
theorem dX1_roomIn_4 : decode cX1_roomIn 4 = .ok (.ifCond .eq 17, 3) := by decide +kernel
theorem dX1_roomIn_7 : decode cX1_roomIn 7 = .ok (.aload_n 0, 1) := by decide +kernel
theorem dX1_roomIn_8 : decode cX1_roomIn 8 = .ok (.getfield 9, 3) := by decide +kernel
theorem dX1_roomIn_11 : decode cX1_roomIn 11 = .ok (.aload_n 0, 1) := by decide +kernel
theorem dX1_roomIn_12 : decode cX1_roomIn 12 = .ok (.getfield 15, 3) := by decide +kernel
theorem dX1_roomIn_15 : decode cX1_roomIn 15 = .ok (.iload_n 1, 1) := by decide +kernel
theorem dX1_roomIn_16 : decode cX1_roomIn 16 = .ok (.iaload, 1) := by decide +kernel
theorem dX1_roomIn_17 : decode cX1_roomIn 17 = .ok (.isub, 1) := by decide +kernel
theorem dX1_roomIn_18 : decode cX1_roomIn 18 = .ok (.goto 4, 3) := by decide +kernel
theorem dX1_roomIn_21 : decode cX1_roomIn 21 = .ok (.iconst 0, 1) := by decide +kernel
theorem dX1_roomIn_22 : decode cX1_roomIn 22 = .ok (.ireturn, 1) := by decide +kernel
theorem dX1_fullestCell_0 : decode cX1_fullestCell 0 = .ok (.iconst 0, 1) := by decide +kernel
theorem dX1_fullestCell_1 : decode cX1_fullestCell 1 = .ok (.istore_n 1, 1) := by decide +kernel
theorem dX1_fullestCell_2 : decode cX1_fullestCell 2 = .ok (.iconst 0, 1) := by decide +kernel
theorem dX1_fullestCell_3 : decode cX1_fullestCell 3 = .ok (.istore_n 2, 1) := by decide +kernel
theorem dX1_fullestCell_4 : decode cX1_fullestCell 4 = .ok (.iload_n 2, 1) := by decide +kernel
theorem dX1_fullestCell_5 : decode cX1_fullestCell 5 = .ok (.bipush 35, 2) := by decide +kernel
theorem dX1_fullestCell_7 : decode cX1_fullestCell 7 = .ok (.if_icmp .ge 20, 3) := by decide +kernel
theorem dX1_fullestCell_10 : decode cX1_fullestCell 10 = .ok (.iload_n 1, 1) := by decide +kernel
theorem dX1_fullestCell_11 : decode cX1_fullestCell 11 = .ok (.aload_n 0, 1) := by decide +kernel
theorem dX1_fullestCell_12 : decode cX1_fullestCell 12 = .ok (.getfield 15, 3) := by decide +kernel
theorem dX1_fullestCell_15 : decode cX1_fullestCell 15 = .ok (.iload_n 2, 1) := by decide +kernel
theorem dX1_fullestCell_16 : decode cX1_fullestCell 16 = .ok (.iaload, 1) := by decide +kernel
theorem dX1_fullestCell_17 : decode cX1_fullestCell 17 = .ok (.invokestatic 54, 3) := by decide +kernel
theorem dX1_fullestCell_20 : decode cX1_fullestCell 20 = .ok (.istore_n 1, 1) := by decide +kernel
theorem dX1_fullestCell_21 : decode cX1_fullestCell 21 = .ok (.iinc 2 1, 3) := by decide +kernel
theorem dX1_fullestCell_24 : decode cX1_fullestCell 24 = .ok (.goto (-20), 3) := by decide +kernel
theorem dX1_fullestCell_27 : decode cX1_fullestCell 27 = .ok (.iload_n 1, 1) := by decide +kernel
theorem dX1_fullestCell_28 : decode cX1_fullestCell 28 = .ok (.ireturn, 1) := by decide +kernel
theorem dX1_peopleInside_0 : decode cX1_peopleInside 0 = .ok (.iconst 0, 1) := by decide +kernel
theorem dX1_peopleInside_1 : decode cX1_peopleInside 1 = .ok (.istore_n 1, 1) := by decide +kernel
theorem dX1_peopleInside_2 : decode cX1_peopleInside 2 = .ok (.iconst 0, 1) := by decide +kernel
theorem dX1_peopleInside_3 : decode cX1_peopleInside 3 = .ok (.istore_n 2, 1) := by decide +kernel
theorem dX1_peopleInside_4 : decode cX1_peopleInside 4 = .ok (.iload_n 2, 1) := by decide +kernel
theorem dX1_peopleInside_5 : decode cX1_peopleInside 5 = .ok (.bipush 35, 2) := by decide +kernel
theorem dX1_peopleInside_7 : decode cX1_peopleInside 7 = .ok (.if_icmp .ge 18, 3) := by decide +kernel
theorem dX1_peopleInside_10 : decode cX1_peopleInside 10 = .ok (.iload_n 1, 1) := by decide +kernel
theorem dX1_peopleInside_11 : decode cX1_peopleInside 11 = .ok (.aload_n 0, 1) := by decide +kernel
theorem dX1_peopleInside_12 : decode cX1_peopleInside 12 = .ok (.getfield 15, 3) := by decide +kernel
theorem dX1_peopleInside_15 : decode cX1_peopleInside 15 = .ok (.iload_n 2, 1) := by decide +kernel
theorem dX1_peopleInside_16 : decode cX1_peopleInside 16 = .ok (.iaload, 1) := by decide +kernel
theorem dX1_peopleInside_17 : decode cX1_peopleInside 17 = .ok (.iadd, 1) := by decide +kernel
theorem dX1_peopleInside_18 : decode cX1_peopleInside 18 = .ok (.istore_n 1, 1) := by decide +kernel
theorem dX1_peopleInside_19 : decode cX1_peopleInside 19 = .ok (.iinc 2 1, 3) := by decide +kernel
theorem dX1_peopleInside_22 : decode cX1_peopleInside 22 = .ok (.goto (-18), 3) := by decide +kernel
theorem dX1_peopleInside_25 : decode cX1_peopleInside 25 = .ok (.iload_n 1, 1) := by decide +kernel
theorem dX1_peopleInside_26 : decode cX1_peopleInside 26 = .ok (.ireturn, 1) := by decide +kernel
theorem dX1_peopleOut_0 : decode cX1_peopleOut 0 = .ok (.iconst 0, 1) := by decide +kernel
theorem dX1_peopleOut_1 : decode cX1_peopleOut 1 = .ok (.istore_n 1, 1) := by decide +kernel
theorem dX1_peopleOut_2 : decode cX1_peopleOut 2 = .ok (.iconst 0, 1) := by decide +kernel
theorem dX1_peopleOut_3 : decode cX1_peopleOut 3 = .ok (.istore_n 2, 1) := by decide +kernel
theorem dX1_peopleOut_4 : decode cX1_peopleOut 4 = .ok (.iload_n 2, 1) := by decide +kernel
theorem dX1_peopleOut_5 : decode cX1_peopleOut 5 = .ok (.iconst 4, 1) := by decide +kernel
theorem dX1_peopleOut_6 : decode cX1_peopleOut 6 = .ok (.if_icmp .ge 18, 3) := by decide +kernel
theorem dX1_peopleOut_9 : decode cX1_peopleOut 9 = .ok (.iload_n 1, 1) := by decide +kernel
theorem dX1_peopleOut_10 : decode cX1_peopleOut 10 = .ok (.aload_n 0, 1) := by decide +kernel
theorem dX1_peopleOut_11 : decode cX1_peopleOut 11 = .ok (.getfield 35, 3) := by decide +kernel
theorem dX1_peopleOut_14 : decode cX1_peopleOut 14 = .ok (.iload_n 2, 1) := by decide +kernel
theorem dX1_peopleOut_15 : decode cX1_peopleOut 15 = .ok (.iaload, 1) := by decide +kernel
theorem dX1_peopleOut_16 : decode cX1_peopleOut 16 = .ok (.iadd, 1) := by decide +kernel
theorem dX1_peopleOut_17 : decode cX1_peopleOut 17 = .ok (.istore_n 1, 1) := by decide +kernel
theorem dX1_peopleOut_18 : decode cX1_peopleOut 18 = .ok (.iinc 2 1, 3) := by decide +kernel
theorem dX1_peopleOut_21 : decode cX1_peopleOut 21 = .ok (.goto (-17), 3) := by decide +kernel
theorem dX1_peopleOut_24 : decode cX1_peopleOut 24 = .ok (.iload_n 1, 1) := by decide +kernel
theorem dX1_peopleOut_25 : decode cX1_peopleOut 25 = .ok (.ireturn, 1) := by decide +kernel
theorem dX1_ropeCount_0 : decode cX1_ropeCount 0 = .ok (.iconst 0, 1) := by decide +kernel
theorem dX1_ropeCount_1 : decode cX1_ropeCount 1 = .ok (.istore_n 1, 1) := by decide +kernel
theorem dX1_ropeCount_2 : decode cX1_ropeCount 2 = .ok (.iconst 0, 1) := by decide +kernel
theorem dX1_ropeCount_3 : decode cX1_ropeCount 3 = .ok (.istore_n 2, 1) := by decide +kernel
theorem dX1_ropeCount_4 : decode cX1_ropeCount 4 = .ok (.iload_n 2, 1) := by decide +kernel
theorem dX1_ropeCount_5 : decode cX1_ropeCount 5 = .ok (.bipush 70, 2) := by decide +kernel
theorem dX1_ropeCount_7 : decode cX1_ropeCount 7 = .ok (.if_icmp .ge 26, 3) := by decide +kernel
theorem dX1_ropeCount_10 : decode cX1_ropeCount 10 = .ok (.iload_n 1, 1) := by decide +kernel
theorem dX1_ropeCount_11 : decode cX1_ropeCount 11 = .ok (.aload_n 0, 1) := by decide +kernel
theorem dX1_ropeCount_12 : decode cX1_ropeCount 12 = .ok (.getfield 22, 3) := by decide +kernel
theorem dX1_ropeCount_15 : decode cX1_ropeCount 15 = .ok (.iload_n 2, 1) := by decide +kernel
theorem dX1_ropeCount_16 : decode cX1_ropeCount 16 = .ok (.baload, 1) := by decide +kernel
theorem dX1_ropeCount_17 : decode cX1_ropeCount 17 = .ok (.ifCond .eq 7, 3) := by decide +kernel
theorem dX1_ropeCount_20 : decode cX1_ropeCount 20 = .ok (.iconst 1, 1) := by decide +kernel
theorem dX1_ropeCount_21 : decode cX1_ropeCount 21 = .ok (.goto 4, 3) := by decide +kernel
theorem dX1_ropeCount_24 : decode cX1_ropeCount 24 = .ok (.iconst 0, 1) := by decide +kernel
theorem dX1_ropeCount_25 : decode cX1_ropeCount 25 = .ok (.iadd, 1) := by decide +kernel
theorem dX1_ropeCount_26 : decode cX1_ropeCount 26 = .ok (.istore_n 1, 1) := by decide +kernel
theorem dX1_ropeCount_27 : decode cX1_ropeCount 27 = .ok (.iinc 2 1, 3) := by decide +kernel
theorem dX1_ropeCount_30 : decode cX1_ropeCount 30 = .ok (.goto (-26), 3) := by decide +kernel
theorem dX1_ropeCount_33 : decode cX1_ropeCount 33 = .ok (.iload_n 1, 1) := by decide +kernel
theorem dX1_ropeCount_34 : decode cX1_ropeCount 34 = .ok (.ireturn, 1) := by decide +kernel
theorem dX1_guardCount_0 : decode cX1_guardCount 0 = .ok (.iconst 0, 1) := by decide +kernel
theorem dX1_guardCount_1 : decode cX1_guardCount 1 = .ok (.istore_n 1, 1) := by decide +kernel
theorem dX1_guardCount_2 : decode cX1_guardCount 2 = .ok (.iconst 0, 1) := by decide +kernel
theorem dX1_guardCount_3 : decode cX1_guardCount 3 = .ok (.istore_n 2, 1) := by decide +kernel
theorem dX1_guardCount_4 : decode cX1_guardCount 4 = .ok (.iload_n 2, 1) := by decide +kernel
theorem dX1_guardCount_5 : decode cX1_guardCount 5 = .ok (.bipush 35, 2) := by decide +kernel
theorem dX1_guardCount_7 : decode cX1_guardCount 7 = .ok (.if_icmp .ge 27, 3) := by decide +kernel
theorem dX1_guardCount_10 : decode cX1_guardCount 10 = .ok (.iload_n 1, 1) := by decide +kernel
theorem dX1_guardCount_11 : decode cX1_guardCount 11 = .ok (.aload_n 0, 1) := by decide +kernel
theorem dX1_guardCount_12 : decode cX1_guardCount 12 = .ok (.getfield 19, 3) := by decide +kernel
theorem dX1_guardCount_15 : decode cX1_guardCount 15 = .ok (.iload_n 2, 1) := by decide +kernel
theorem dX1_guardCount_16 : decode cX1_guardCount 16 = .ok (.iaload, 1) := by decide +kernel
theorem dX1_guardCount_17 : decode cX1_guardCount 17 = .ok (.iconst (-1), 1) := by decide +kernel
theorem dX1_guardCount_18 : decode cX1_guardCount 18 = .ok (.if_icmp .ne 7, 3) := by decide +kernel
theorem dX1_guardCount_21 : decode cX1_guardCount 21 = .ok (.iconst 0, 1) := by decide +kernel
theorem dX1_guardCount_22 : decode cX1_guardCount 22 = .ok (.goto 4, 3) := by decide +kernel
theorem dX1_guardCount_25 : decode cX1_guardCount 25 = .ok (.iconst 1, 1) := by decide +kernel
theorem dX1_guardCount_26 : decode cX1_guardCount 26 = .ok (.iadd, 1) := by decide +kernel
theorem dX1_guardCount_27 : decode cX1_guardCount 27 = .ok (.istore_n 1, 1) := by decide +kernel
theorem dX1_guardCount_28 : decode cX1_guardCount 28 = .ok (.iinc 2 1, 3) := by decide +kernel
theorem dX1_guardCount_31 : decode cX1_guardCount 31 = .ok (.goto (-27), 3) := by decide +kernel
theorem dX1_guardCount_34 : decode cX1_guardCount 34 = .ok (.iload_n 1, 1) := by decide +kernel
theorem dX1_guardCount_35 : decode cX1_guardCount 35 = .ok (.ireturn, 1) := by decide +kernel
theorem dX1_openDoors_0 : decode cX1_openDoors 0 = .ok (.iconst 0, 1) := by decide +kernel
theorem dX1_openDoors_1 : decode cX1_openDoors 1 = .ok (.istore_n 1, 1) := by decide +kernel
theorem dX1_openDoors_2 : decode cX1_openDoors 2 = .ok (.iconst 0, 1) := by decide +kernel
theorem dX1_openDoors_3 : decode cX1_openDoors 3 = .ok (.istore_n 2, 1) := by decide +kernel
theorem dX1_openDoors_4 : decode cX1_openDoors 4 = .ok (.iload_n 2, 1) := by decide +kernel
theorem dX1_openDoors_5 : decode cX1_openDoors 5 = .ok (.iconst 4, 1) := by decide +kernel
theorem dX1_openDoors_6 : decode cX1_openDoors 6 = .ok (.if_icmp .ge 28, 3) := by decide +kernel
theorem dX1_openDoors_9 : decode cX1_openDoors 9 = .ok (.iload_n 1, 1) := by decide +kernel
theorem dX1_openDoors_10 : decode cX1_openDoors 10 = .ok (.aload_n 0, 1) := by decide +kernel
theorem dX1_openDoors_11 : decode cX1_openDoors 11 = .ok (.getfield 32, 3) := by decide +kernel
theorem dX1_openDoors_14 : decode cX1_openDoors 14 = .ok (.iload_n 2, 1) := by decide +kernel
theorem dX1_openDoors_15 : decode cX1_openDoors 15 = .ok (.baload, 1) := by decide +kernel
theorem dX1_openDoors_16 : decode cX1_openDoors 16 = .ok (.ifCond .eq 9, 3) := by decide +kernel
theorem dX1_openDoors_19 : decode cX1_openDoors 19 = .ok (.iconst 1, 1) := by decide +kernel
theorem dX1_openDoors_20 : decode cX1_openDoors 20 = .ok (.iload_n 2, 1) := by decide +kernel
theorem dX1_openDoors_21 : decode cX1_openDoors 21 = .ok (.ishl, 1) := by decide +kernel
theorem dX1_openDoors_22 : decode cX1_openDoors 22 = .ok (.goto 4, 3) := by decide +kernel
theorem dX1_openDoors_25 : decode cX1_openDoors 25 = .ok (.iconst 0, 1) := by decide +kernel
theorem dX1_openDoors_26 : decode cX1_openDoors 26 = .ok (.ior, 1) := by decide +kernel
theorem dX1_openDoors_27 : decode cX1_openDoors 27 = .ok (.istore_n 1, 1) := by decide +kernel
theorem dX1_openDoors_28 : decode cX1_openDoors 28 = .ok (.iinc 2 1, 3) := by decide +kernel
theorem dX1_openDoors_31 : decode cX1_openDoors 31 = .ok (.goto (-27), 3) := by decide +kernel
theorem dX1_openDoors_34 : decode cX1_openDoors 34 = .ok (.iload_n 1, 1) := by decide +kernel
theorem dX1_openDoors_35 : decode cX1_openDoors 35 = .ok (.ireturn, 1) := by decide +kernel
theorem dX1_unevenness_0 : decode cX1_unevenness 0 = .ok (.bipush (-6), 2) := by decide +kernel
theorem dX1_unevenness_2 : decode cX1_unevenness 2 = .ok (.istore_n 1, 1) := by decide +kernel
theorem dX1_unevenness_3 : decode cX1_unevenness 3 = .ok (.bipush (-6), 2) := by decide +kernel
theorem dX1_unevenness_5 : decode cX1_unevenness 5 = .ok (.istore_n 2, 1) := by decide +kernel
theorem dX1_unevenness_6 : decode cX1_unevenness 6 = .ok (.iconst 0, 1) := by decide +kernel
theorem dX1_unevenness_7 : decode cX1_unevenness 7 = .ok (.istore_n 3, 1) := by decide +kernel
theorem dX1_unevenness_8 : decode cX1_unevenness 8 = .ok (.iload_n 3, 1) := by decide +kernel
theorem dX1_unevenness_9 : decode cX1_unevenness 9 = .ok (.iconst 4, 1) := by decide +kernel
theorem dX1_unevenness_10 : decode cX1_unevenness 10 = .ok (.if_icmp .ge 70, 3) := by decide +kernel
theorem dX1_unevenness_13 : decode cX1_unevenness 13 = .ok (.aload_n 0, 1) := by decide +kernel
theorem dX1_unevenness_14 : decode cX1_unevenness 14 = .ok (.getfield 32, 3) := by decide +kernel
theorem dX1_unevenness_17 : decode cX1_unevenness 17 = .ok (.iload_n 3, 1) := by decide +kernel
theorem dX1_unevenness_18 : decode cX1_unevenness 18 = .ok (.baload, 1) := by decide +kernel
theorem dX1_unevenness_19 : decode cX1_unevenness 19 = .ok (.ifCond .eq 55, 3) := by decide +kernel
theorem dX1_unevenness_22 : decode cX1_unevenness 22 = .ok (.iload_n 1, 1) := by decide +kernel
theorem dX1_unevenness_23 : decode cX1_unevenness 23 = .ok (.bipush (-6), 2) := by decide +kernel
theorem dX1_unevenness_25 : decode cX1_unevenness 25 = .ok (.if_icmp .ne 12, 3) := by decide +kernel
theorem dX1_unevenness_28 : decode cX1_unevenness 28 = .ok (.aload_n 0, 1) := by decide +kernel
theorem dX1_unevenness_29 : decode cX1_unevenness 29 = .ok (.getfield 35, 3) := by decide +kernel
theorem dX1_unevenness_32 : decode cX1_unevenness 32 = .ok (.iload_n 3, 1) := by decide +kernel
theorem dX1_unevenness_33 : decode cX1_unevenness 33 = .ok (.iaload, 1) := by decide +kernel
theorem dX1_unevenness_34 : decode cX1_unevenness 34 = .ok (.goto 13, 3) := by decide +kernel
theorem dX1_unevenness_37 : decode cX1_unevenness 37 = .ok (.iload_n 1, 1) := by decide +kernel
theorem dX1_unevenness_38 : decode cX1_unevenness 38 = .ok (.aload_n 0, 1) := by decide +kernel
theorem dX1_unevenness_39 : decode cX1_unevenness 39 = .ok (.getfield 35, 3) := by decide +kernel
theorem dX1_unevenness_42 : decode cX1_unevenness 42 = .ok (.iload_n 3, 1) := by decide +kernel
theorem dX1_unevenness_43 : decode cX1_unevenness 43 = .ok (.iaload, 1) := by decide +kernel
theorem dX1_unevenness_44 : decode cX1_unevenness 44 = .ok (.invokestatic 54, 3) := by decide +kernel
theorem dX1_unevenness_47 : decode cX1_unevenness 47 = .ok (.istore_n 1, 1) := by decide +kernel
theorem dX1_unevenness_48 : decode cX1_unevenness 48 = .ok (.iload_n 2, 1) := by decide +kernel
theorem dX1_unevenness_49 : decode cX1_unevenness 49 = .ok (.bipush (-6), 2) := by decide +kernel
theorem dX1_unevenness_51 : decode cX1_unevenness 51 = .ok (.if_icmp .ne 12, 3) := by decide +kernel
theorem dX1_unevenness_54 : decode cX1_unevenness 54 = .ok (.aload_n 0, 1) := by decide +kernel
theorem dX1_unevenness_55 : decode cX1_unevenness 55 = .ok (.getfield 35, 3) := by decide +kernel
theorem dX1_unevenness_58 : decode cX1_unevenness 58 = .ok (.iload_n 3, 1) := by decide +kernel
theorem dX1_unevenness_59 : decode cX1_unevenness 59 = .ok (.iaload, 1) := by decide +kernel
theorem dX1_unevenness_60 : decode cX1_unevenness 60 = .ok (.goto 13, 3) := by decide +kernel
theorem dX1_unevenness_63 : decode cX1_unevenness 63 = .ok (.iload_n 2, 1) := by decide +kernel
theorem dX1_unevenness_64 : decode cX1_unevenness 64 = .ok (.aload_n 0, 1) := by decide +kernel
theorem dX1_unevenness_65 : decode cX1_unevenness 65 = .ok (.getfield 35, 3) := by decide +kernel
theorem dX1_unevenness_68 : decode cX1_unevenness 68 = .ok (.iload_n 3, 1) := by decide +kernel
theorem dX1_unevenness_69 : decode cX1_unevenness 69 = .ok (.iaload, 1) := by decide +kernel
theorem dX1_unevenness_70 : decode cX1_unevenness 70 = .ok (.invokestatic 60, 3) := by decide +kernel
theorem dX1_unevenness_73 : decode cX1_unevenness 73 = .ok (.istore_n 2, 1) := by decide +kernel
theorem dX1_unevenness_74 : decode cX1_unevenness 74 = .ok (.iinc 3 1, 3) := by decide +kernel
theorem dX1_unevenness_77 : decode cX1_unevenness 77 = .ok (.goto (-69), 3) := by decide +kernel
theorem dX1_unevenness_80 : decode cX1_unevenness 80 = .ok (.iload_n 1, 1) := by decide +kernel
theorem dX1_unevenness_81 : decode cX1_unevenness 81 = .ok (.iload_n 2, 1) := by decide +kernel
theorem dX1_unevenness_82 : decode cX1_unevenness 82 = .ok (.isub, 1) := by decide +kernel
theorem dX1_unevenness_83 : decode cX1_unevenness 83 = .ok (.ireturn, 1) := by decide +kernel
set_option maxRecDepth 20000 in
theorem ggX1_ropesAround_X5_edgeTowards : GoodIn wsX1_ropesAround wsX5_edgeTowards := goodIn_r _ [4, 5, 6, 7, 8, 9, 10, 3, 11] (by decide +kernel) (by decide +kernel)
set_option maxRecDepth 20000 in
theorem gX1_ropesAround_X5_edgeTowards_n63 : GoodIn wsX1_ropesAround (wsX5_edgeTowards) := ggX1_ropesAround_X5_edgeTowards
set_option maxRecDepth 20000 in
theorem ggX1_ropesAround_X5_isEdge : GoodIn wsX1_ropesAround wsX5_isEdge := goodIn_r _ [13] (by decide +kernel) (by decide +kernel)
set_option maxRecDepth 20000 in
theorem gX1_ropesAround_X5_isEdge_n66 : GoodIn wsX1_ropesAround (wsX5_isEdge) := ggX1_ropesAround_X5_isEdge
theorem dX1_ropesAround_0 : decode cX1_ropesAround 0 = .ok (.iconst 0, 1) := by decide +kernel
theorem dX1_ropesAround_1 : decode cX1_ropesAround 1 = .ok (.istore_n 2, 1) := by decide +kernel
theorem dX1_ropesAround_2 : decode cX1_ropesAround 2 = .ok (.iconst 0, 1) := by decide +kernel
theorem dX1_ropesAround_3 : decode cX1_ropesAround 3 = .ok (.istore_n 3, 1) := by decide +kernel
theorem dX1_ropesAround_4 : decode cX1_ropesAround 4 = .ok (.iload_n 3, 1) := by decide +kernel
theorem dX1_ropesAround_5 : decode cX1_ropesAround 5 = .ok (.iconst 4, 1) := by decide +kernel
theorem dX1_ropesAround_6 : decode cX1_ropesAround 6 = .ok (.if_icmp .ge 44, 3) := by decide +kernel
theorem dX1_ropesAround_9 : decode cX1_ropesAround 9 = .ok (.iload_n 1, 1) := by decide +kernel
theorem dX1_ropesAround_10 : decode cX1_ropesAround 10 = .ok (.iload_n 3, 1) := by decide +kernel
theorem dX1_ropesAround_11 : decode cX1_ropesAround 11 = .ok (.invokestatic 63, 3) := by decide +kernel
theorem dX1_ropesAround_14 : decode cX1_ropesAround 14 = .ok (.istore 4, 2) := by decide +kernel
theorem dX1_ropesAround_16 : decode cX1_ropesAround 16 = .ok (.iload_n 2, 1) := by decide +kernel
theorem dX1_ropesAround_17 : decode cX1_ropesAround 17 = .ok (.iload 4, 2) := by decide +kernel
theorem dX1_ropesAround_19 : decode cX1_ropesAround 19 = .ok (.invokestatic 66, 3) := by decide +kernel
theorem dX1_ropesAround_22 : decode cX1_ropesAround 22 = .ok (.ifCond .eq 19, 3) := by decide +kernel
theorem dX1_ropesAround_25 : decode cX1_ropesAround 25 = .ok (.aload_n 0, 1) := by decide +kernel
theorem dX1_ropesAround_26 : decode cX1_ropesAround 26 = .ok (.getfield 22, 3) := by decide +kernel
theorem dX1_ropesAround_29 : decode cX1_ropesAround 29 = .ok (.iload 4, 2) := by decide +kernel
theorem dX1_ropesAround_31 : decode cX1_ropesAround 31 = .ok (.baload, 1) := by decide +kernel
theorem dX1_ropesAround_32 : decode cX1_ropesAround 32 = .ok (.ifCond .eq 9, 3) := by decide +kernel
theorem dX1_ropesAround_35 : decode cX1_ropesAround 35 = .ok (.iconst 1, 1) := by decide +kernel
theorem dX1_ropesAround_36 : decode cX1_ropesAround 36 = .ok (.iload_n 3, 1) := by decide +kernel
theorem dX1_ropesAround_37 : decode cX1_ropesAround 37 = .ok (.ishl, 1) := by decide +kernel
theorem dX1_ropesAround_38 : decode cX1_ropesAround 38 = .ok (.goto 4, 3) := by decide +kernel
theorem dX1_ropesAround_41 : decode cX1_ropesAround 41 = .ok (.iconst 0, 1) := by decide +kernel
theorem dX1_ropesAround_42 : decode cX1_ropesAround 42 = .ok (.ior, 1) := by decide +kernel
theorem dX1_ropesAround_43 : decode cX1_ropesAround 43 = .ok (.istore_n 2, 1) := by decide +kernel
theorem dX1_ropesAround_44 : decode cX1_ropesAround 44 = .ok (.iinc 3 1, 3) := by decide +kernel
theorem dX1_ropesAround_47 : decode cX1_ropesAround 47 = .ok (.goto (-43), 3) := by decide +kernel
theorem dX1_ropesAround_50 : decode cX1_ropesAround 50 = .ok (.iload_n 2, 1) := by decide +kernel
theorem dX1_ropesAround_51 : decode cX1_ropesAround 51 = .ok (.ireturn, 1) := by decide +kernel
set_option maxRecDepth 20000 in
theorem ggX1_stepFrom_X5_edgeTowards : GoodIn wsX1_stepFrom wsX5_edgeTowards := goodIn_r _ [4, 5, 6, 7, 8, 9, 10, 3, 11] (by decide +kernel) (by decide +kernel)
set_option maxRecDepth 20000 in
theorem gX1_stepFrom_X5_edgeTowards_n63 : GoodIn wsX1_stepFrom (wsX5_edgeTowards) := ggX1_stepFrom_X5_edgeTowards
set_option maxRecDepth 20000 in
theorem ggX1_stepFrom_X5_isEdge : GoodIn wsX1_stepFrom wsX5_isEdge := goodIn_r _ [13] (by decide +kernel) (by decide +kernel)
set_option maxRecDepth 20000 in
theorem gX1_stepFrom_X5_isEdge_n66 : GoodIn wsX1_stepFrom (wsX5_isEdge) := ggX1_stepFrom_X5_isEdge
set_option maxRecDepth 20000 in
theorem ggX1_stepFrom_X5_beside : GoodIn wsX1_stepFrom wsX5_beside := goodIn_r _ [11] (by decide +kernel) (by decide +kernel)
set_option maxRecDepth 20000 in
theorem gX1_stepFrom_X5_beside_n69 : GoodIn wsX1_stepFrom (wsX5_beside) := ggX1_stepFrom_X5_beside
theorem dX1_stepFrom_0 : decode cX1_stepFrom 0 = .ok (.iload_n 1, 1) := by decide +kernel
theorem dX1_stepFrom_1 : decode cX1_stepFrom 1 = .ok (.iload_n 2, 1) := by decide +kernel
theorem dX1_stepFrom_2 : decode cX1_stepFrom 2 = .ok (.invokestatic 63, 3) := by decide +kernel
theorem dX1_stepFrom_5 : decode cX1_stepFrom 5 = .ok (.istore_n 3, 1) := by decide +kernel
theorem dX1_stepFrom_6 : decode cX1_stepFrom 6 = .ok (.iload_n 3, 1) := by decide +kernel
theorem dX1_stepFrom_7 : decode cX1_stepFrom 7 = .ok (.invokestatic 66, 3) := by decide +kernel
theorem dX1_stepFrom_10 : decode cX1_stepFrom 10 = .ok (.ifCond .eq 12, 3) := by decide +kernel
theorem dX1_stepFrom_13 : decode cX1_stepFrom 13 = .ok (.aload_n 0, 1) := by decide +kernel
theorem dX1_stepFrom_14 : decode cX1_stepFrom 14 = .ok (.getfield 22, 3) := by decide +kernel
theorem dX1_stepFrom_17 : decode cX1_stepFrom 17 = .ok (.iload_n 3, 1) := by decide +kernel
theorem dX1_stepFrom_18 : decode cX1_stepFrom 18 = .ok (.baload, 1) := by decide +kernel
theorem dX1_stepFrom_19 : decode cX1_stepFrom 19 = .ok (.ifCond .eq 8, 3) := by decide +kernel
theorem dX1_stepFrom_22 : decode cX1_stepFrom 22 = .ok (.bipush (-6), 2) := by decide +kernel
theorem dX1_stepFrom_24 : decode cX1_stepFrom 24 = .ok (.goto 8, 3) := by decide +kernel
theorem dX1_stepFrom_27 : decode cX1_stepFrom 27 = .ok (.iload_n 1, 1) := by decide +kernel
theorem dX1_stepFrom_28 : decode cX1_stepFrom 28 = .ok (.iload_n 2, 1) := by decide +kernel
theorem dX1_stepFrom_29 : decode cX1_stepFrom 29 = .ok (.invokestatic 69, 3) := by decide +kernel
theorem dX1_stepFrom_32 : decode cX1_stepFrom 32 = .ok (.ireturn, 1) := by decide +kernel
theorem dX2_init_0 : decode cX2_init 0 = .ok (.aload_n 0, 1) := by decide +kernel
theorem dX2_init_1 : decode cX2_init 1 = .ok (.invokespecial 3, 3) := by decide +kernel
theorem dX2_init_4 : decode cX2_init 4 = .ok (.aload_n 0, 1) := by decide +kernel
theorem dX2_init_5 : decode cX2_init 5 = .ok (.bipush 35, 2) := by decide +kernel
theorem dX2_init_7 : decode cX2_init 7 = .ok (.newarray .int, 2) := by decide +kernel
theorem dX2_init_9 : decode cX2_init 9 = .ok (.putfield 9, 3) := by decide +kernel
theorem dX2_init_12 : decode cX2_init 12 = .ok (.return_, 1) := by decide +kernel
set_option maxRecDepth 20000 in
theorem ggX2_run_X2_letOut : GoodIn wsX2_run wsX2_letOut := goodIn_r _ [6, 7, 8, 9, 10, 11, 12, 13, 14, 15, 16, 17, 18, 48, 49, 50, 51, 52, 53, 54, 55, 56, 57, 58, 59] (by decide +kernel) (by decide +kernel)
set_option maxRecDepth 20000 in
theorem gX2_run_X2_letOut : GoodIn wsX2_run (va_wsS RX2 21 yX2_letOut wsX2_letOut) := goodIn_app (goodIn_of _ (by decide +kernel)) ggX2_run_X2_letOut
set_option maxRecDepth 20000 in
theorem ggX2_run_X4_turnsAMinute : GoodIn wsX2_run wsX4_turnsAMinute := goodIn_r _ [23, 24, 61, 62, 63, 64, 65, 66] (by decide +kernel) (by decide +kernel)
set_option maxRecDepth 20000 in
theorem gX2_run_X4_turnsAMinute : GoodIn wsX2_run (wsV RX2 25 RX4 yX4_turnsAMinute wsX4_turnsAMinute) := goodIn_app (goodIn_of _ (by decide +kernel)) ggX2_run_X4_turnsAMinute
set_option maxRecDepth 20000 in
theorem ggX2_run_X4_cellAtTurn : GoodIn wsX2_run wsX4_cellAtTurn := goodIn_r _ [28, 29, 16, 17, 18, 61, 62, 63, 64, 65, 66] (by decide +kernel) (by decide +kernel)
set_option maxRecDepth 20000 in
theorem gX2_run_X4_cellAtTurn : GoodIn wsX2_run (wsV RX2 31 RX4 yX4_cellAtTurn wsX4_cellAtTurn) := goodIn_app (goodIn_of _ (by decide +kernel)) ggX2_run_X4_cellAtTurn
set_option maxRecDepth 20000 in
theorem ggX2_run_X4_nextOf : GoodIn wsX2_run wsX4_nextOf := goodIn_r _ [33, 34, 16, 17, 18, 61, 62, 63, 64, 65, 66] (by decide +kernel) (by decide +kernel)
set_option maxRecDepth 20000 in
theorem gX2_run_X4_nextOf : GoodIn wsX2_run (wsV RX2 35 RX4 yX4_nextOf wsX4_nextOf) := goodIn_app (goodIn_of _ (by decide +kernel)) ggX2_run_X4_nextOf
set_option maxRecDepth 20000 in
theorem ggX2_run_X2_move : GoodIn wsX2_run wsX2_move := goodIn_r _ [38, 10, 2, 11, 12, 13, 14, 39, 40, 16, 17, 18, 41, 42, 43, 44, 45, 46, 47, 48, 49, 50, 51, 52, 53, 54, 55, 56, 57, 58, 59, 60] (by decide +kernel) (by decide +kernel)
set_option maxRecDepth 20000 in
theorem gX2_run_X2_move : GoodIn wsX2_run (wsV RX2 38 RX2 yX2_move wsX2_move) := goodIn_app (goodIn_of _ (by decide +kernel)) ggX2_run_X2_move
theorem dX2_run_0 : decode cX2_run 0 = .ok (.aload_n 1, 1) := by decide +kernel
theorem dX2_run_1 : decode cX2_run 1 = .ok (.dup, 1) := by decide +kernel
theorem dX2_run_2 : decode cX2_run 2 = .ok (.getfield 15, 3) := by decide +kernel
theorem dX2_run_5 : decode cX2_run 5 = .ok (.iconst 1, 1) := by decide +kernel
theorem dX2_run_6 : decode cX2_run 6 = .ok (.iadd, 1) := by decide +kernel
theorem dX2_run_7 : decode cX2_run 7 = .ok (.putfield 15, 3) := by decide +kernel
theorem dX2_run_10 : decode cX2_run 10 = .ok (.iconst 0, 1) := by decide +kernel
theorem dX2_run_11 : decode cX2_run 11 = .ok (.istore_n 3, 1) := by decide +kernel
theorem dX2_run_12 : decode cX2_run 12 = .ok (.iconst 0, 1) := by decide +kernel
theorem dX2_run_13 : decode cX2_run 13 = .ok (.istore 4, 2) := by decide +kernel
theorem dX2_run_15 : decode cX2_run 15 = .ok (.iload 4, 2) := by decide +kernel
theorem dX2_run_17 : decode cX2_run 17 = .ok (.iconst 4, 1) := by decide +kernel
theorem dX2_run_18 : decode cX2_run 18 = .ok (.if_icmp .ge 18, 3) := by decide +kernel
theorem dX2_run_21 : decode cX2_run 21 = .ok (.iload_n 3, 1) := by decide +kernel
theorem dX2_run_22 : decode cX2_run 22 = .ok (.aload_n 1, 1) := by decide +kernel
theorem dX2_run_23 : decode cX2_run 23 = .ok (.iload 4, 2) := by decide +kernel
theorem dX2_run_25 : decode cX2_run 25 = .ok (.invokestatic 21, 3) := by decide +kernel
theorem dX2_run_28 : decode cX2_run 28 = .ok (.iadd, 1) := by decide +kernel
theorem dX2_run_29 : decode cX2_run 29 = .ok (.istore_n 3, 1) := by decide +kernel
theorem dX2_run_30 : decode cX2_run 30 = .ok (.iinc 4 1, 3) := by decide +kernel
theorem dX2_run_33 : decode cX2_run 33 = .ok (.goto (-18), 3) := by decide +kernel
theorem dX2_run_36 : decode cX2_run 36 = .ok (.iconst 0, 1) := by decide +kernel
theorem dX2_run_37 : decode cX2_run 37 = .ok (.istore 4, 2) := by decide +kernel
theorem dX2_run_39 : decode cX2_run 39 = .ok (.iload 4, 2) := by decide +kernel
theorem dX2_run_41 : decode cX2_run 41 = .ok (.bipush 35, 2) := by decide +kernel
theorem dX2_run_43 : decode cX2_run 43 = .ok (.if_icmp .ge 17, 3) := by decide +kernel
theorem dX2_run_46 : decode cX2_run 46 = .ok (.aload_n 0, 1) := by decide +kernel
theorem dX2_run_47 : decode cX2_run 47 = .ok (.getfield 9, 3) := by decide +kernel
theorem dX2_run_50 : decode cX2_run 50 = .ok (.iload 4, 2) := by decide +kernel
theorem dX2_run_52 : decode cX2_run 52 = .ok (.iconst 0, 1) := by decide +kernel
theorem dX2_run_53 : decode cX2_run 53 = .ok (.iastore, 1) := by decide +kernel
theorem dX2_run_54 : decode cX2_run 54 = .ok (.iinc 4 1, 3) := by decide +kernel
theorem dX2_run_57 : decode cX2_run 57 = .ok (.goto (-18), 3) := by decide +kernel
theorem dX2_run_60 : decode cX2_run 60 = .ok (.iconst 0, 1) := by decide +kernel
theorem dX2_run_61 : decode cX2_run 61 = .ok (.istore 4, 2) := by decide +kernel
theorem dX2_run_63 : decode cX2_run 63 = .ok (.iload 4, 2) := by decide +kernel
theorem dX2_run_65 : decode cX2_run 65 = .ok (.aload_n 2, 1) := by decide +kernel
theorem dX2_run_66 : decode cX2_run 66 = .ok (.invokevirtual 25, 3) := by decide +kernel
theorem dX2_run_69 : decode cX2_run 69 = .ok (.if_icmp .ge 30, 3) := by decide +kernel
theorem dX2_run_72 : decode cX2_run 72 = .ok (.aload_n 2, 1) := by decide +kernel
theorem dX2_run_73 : decode cX2_run 73 = .ok (.iload 4, 2) := by decide +kernel
theorem dX2_run_75 : decode cX2_run 75 = .ok (.invokevirtual 31, 3) := by decide +kernel
theorem dX2_run_78 : decode cX2_run 78 = .ok (.istore 5, 2) := by decide +kernel
theorem dX2_run_80 : decode cX2_run 80 = .ok (.aload_n 0, 1) := by decide +kernel
theorem dX2_run_81 : decode cX2_run 81 = .ok (.aload_n 1, 1) := by decide +kernel
theorem dX2_run_82 : decode cX2_run 82 = .ok (.iload 5, 2) := by decide +kernel
theorem dX2_run_84 : decode cX2_run 84 = .ok (.aload_n 2, 1) := by decide +kernel
theorem dX2_run_85 : decode cX2_run 85 = .ok (.iload 5, 2) := by decide +kernel
theorem dX2_run_87 : decode cX2_run 87 = .ok (.invokevirtual 35, 3) := by decide +kernel
theorem dX2_run_90 : decode cX2_run 90 = .ok (.invokevirtual 38, 3) := by decide +kernel
theorem dX2_run_93 : decode cX2_run 93 = .ok (.iinc 4 1, 3) := by decide +kernel
theorem dX2_run_96 : decode cX2_run 96 = .ok (.goto (-33), 3) := by decide +kernel
theorem dX2_run_99 : decode cX2_run 99 = .ok (.iload_n 3, 1) := by decide +kernel
theorem dX2_run_100 : decode cX2_run 100 = .ok (.ireturn, 1) := by decide +kernel
set_option maxRecDepth 20000 in
theorem ggX2_letOut_X5_isCell : GoodIn wsX2_letOut wsX5_isCell := goodIn_r _ [12] (by decide +kernel) (by decide +kernel)
set_option maxRecDepth 20000 in
theorem gX2_letOut_X5_isCell_n49 : GoodIn wsX2_letOut (wsX5_isCell) := ggX2_letOut_X5_isCell
theorem dX2_letOut_0 : decode cX2_letOut 0 = .ok (.aload_n 0, 1) := by decide +kernel
theorem dX2_letOut_1 : decode cX2_letOut 1 = .ok (.getfield 42, 3) := by decide +kernel
theorem dX2_letOut_4 : decode cX2_letOut 4 = .ok (.iload_n 1, 1) := by decide +kernel
theorem dX2_letOut_5 : decode cX2_letOut 5 = .ok (.iaload, 1) := by decide +kernel
theorem dX2_letOut_6 : decode cX2_letOut 6 = .ok (.istore_n 2, 1) := by decide +kernel
theorem dX2_letOut_7 : decode cX2_letOut 7 = .ok (.aload_n 0, 1) := by decide +kernel
theorem dX2_letOut_8 : decode cX2_letOut 8 = .ok (.getfield 45, 3) := by decide +kernel
theorem dX2_letOut_11 : decode cX2_letOut 11 = .ok (.iload_n 1, 1) := by decide +kernel
theorem dX2_letOut_12 : decode cX2_letOut 12 = .ok (.baload, 1) := by decide +kernel
theorem dX2_letOut_13 : decode cX2_letOut 13 = .ok (.ifCond .eq 10, 3) := by decide +kernel
theorem dX2_letOut_16 : decode cX2_letOut 16 = .ok (.iload_n 2, 1) := by decide +kernel
theorem dX2_letOut_17 : decode cX2_letOut 17 = .ok (.invokestatic 49, 3) := by decide +kernel
theorem dX2_letOut_20 : decode cX2_letOut 20 = .ok (.ifCond .ne 5, 3) := by decide +kernel
theorem dX2_letOut_23 : decode cX2_letOut 23 = .ok (.iconst 0, 1) := by decide +kernel
theorem dX2_letOut_24 : decode cX2_letOut 24 = .ok (.ireturn, 1) := by decide +kernel
theorem dX2_letOut_25 : decode cX2_letOut 25 = .ok (.aload_n 0, 1) := by decide +kernel
theorem dX2_letOut_26 : decode cX2_letOut 26 = .ok (.getfield 53, 3) := by decide +kernel
theorem dX2_letOut_29 : decode cX2_letOut 29 = .ok (.iload_n 1, 1) := by decide +kernel
theorem dX2_letOut_30 : decode cX2_letOut 30 = .ok (.iaload, 1) := by decide +kernel
theorem dX2_letOut_31 : decode cX2_letOut 31 = .ok (.aload_n 0, 1) := by decide +kernel
theorem dX2_letOut_32 : decode cX2_letOut 32 = .ok (.getfield 56, 3) := by decide +kernel
theorem dX2_letOut_35 : decode cX2_letOut 35 = .ok (.iload_n 2, 1) := by decide +kernel
theorem dX2_letOut_36 : decode cX2_letOut 36 = .ok (.iaload, 1) := by decide +kernel
theorem dX2_letOut_37 : decode cX2_letOut 37 = .ok (.invokestatic 59, 3) := by decide +kernel
theorem dX2_letOut_40 : decode cX2_letOut 40 = .ok (.istore_n 3, 1) := by decide +kernel
theorem dX2_letOut_41 : decode cX2_letOut 41 = .ok (.aload_n 0, 1) := by decide +kernel
theorem dX2_letOut_42 : decode cX2_letOut 42 = .ok (.getfield 56, 3) := by decide +kernel
theorem dX2_letOut_45 : decode cX2_letOut 45 = .ok (.iload_n 2, 1) := by decide +kernel
theorem dX2_letOut_46 : decode cX2_letOut 46 = .ok (.dup2, 1) := by decide +kernel
theorem dX2_letOut_47 : decode cX2_letOut 47 = .ok (.iaload, 1) := by decide +kernel
theorem dX2_letOut_48 : decode cX2_letOut 48 = .ok (.iload_n 3, 1) := by decide +kernel
theorem dX2_letOut_49 : decode cX2_letOut 49 = .ok (.isub, 1) := by decide +kernel
theorem dX2_letOut_50 : decode cX2_letOut 50 = .ok (.iastore, 1) := by decide +kernel
theorem dX2_letOut_51 : decode cX2_letOut 51 = .ok (.aload_n 0, 1) := by decide +kernel
theorem dX2_letOut_52 : decode cX2_letOut 52 = .ok (.getfield 65, 3) := by decide +kernel
theorem dX2_letOut_55 : decode cX2_letOut 55 = .ok (.iload_n 1, 1) := by decide +kernel
theorem dX2_letOut_56 : decode cX2_letOut 56 = .ok (.dup2, 1) := by decide +kernel
theorem dX2_letOut_57 : decode cX2_letOut 57 = .ok (.iaload, 1) := by decide +kernel
theorem dX2_letOut_58 : decode cX2_letOut 58 = .ok (.iload_n 3, 1) := by decide +kernel
theorem dX2_letOut_59 : decode cX2_letOut 59 = .ok (.iadd, 1) := by decide +kernel
theorem dX2_letOut_60 : decode cX2_letOut 60 = .ok (.iastore, 1) := by decide +kernel
theorem dX2_letOut_61 : decode cX2_letOut 61 = .ok (.iload_n 3, 1) := by decide +kernel
theorem dX2_letOut_62 : decode cX2_letOut 62 = .ok (.ireturn, 1) := by decide +kernel
set_option maxRecDepth 20000 in
theorem ggX2_move_X5_isCell : GoodIn wsX2_move wsX5_isCell := goodIn_r _ [11] (by decide +kernel) (by decide +kernel)
set_option maxRecDepth 20000 in
theorem gX2_move_X5_isCell_n49 : GoodIn wsX2_move (wsX5_isCell) := ggX2_move_X5_isCell
set_option maxRecDepth 20000 in
theorem ggX2_move_X1_roomIn : GoodIn wsX2_move wsX1_roomIn := goodIn_r _ [16, 17, 18, 9, 10, 11, 19, 20, 21, 22, 23, 24, 25, 26, 27, 28, 29, 30] (by decide +kernel) (by decide +kernel)
set_option maxRecDepth 20000 in
theorem gX2_move_X1_roomIn : GoodIn wsX2_move (wsV RX2 68 RX1 yX1_roomIn wsX1_roomIn) := goodIn_app (goodIn_of _ (by decide +kernel)) ggX2_move_X1_roomIn
theorem dX2_move_0 : decode cX2_move 0 = .ok (.iload_n 2, 1) := by decide +kernel
theorem dX2_move_1 : decode cX2_move 1 = .ok (.invokestatic 49, 3) := by decide +kernel
theorem dX2_move_4 : decode cX2_move 4 = .ok (.ifCond .eq 10, 3) := by decide +kernel
theorem dX2_move_7 : decode cX2_move 7 = .ok (.iload_n 3, 1) := by decide +kernel
theorem dX2_move_8 : decode cX2_move 8 = .ok (.invokestatic 49, 3) := by decide +kernel
theorem dX2_move_11 : decode cX2_move 11 = .ok (.ifCond .ne 4, 3) := by decide +kernel
theorem dX2_move_14 : decode cX2_move 14 = .ok (.return_, 1) := by decide +kernel
theorem dX2_move_15 : decode cX2_move 15 = .ok (.aload_n 1, 1) := by decide +kernel
theorem dX2_move_16 : decode cX2_move 16 = .ok (.getfield 56, 3) := by decide +kernel
theorem dX2_move_19 : decode cX2_move 19 = .ok (.iload_n 2, 1) := by decide +kernel
theorem dX2_move_20 : decode cX2_move 20 = .ok (.iaload, 1) := by decide +kernel
theorem dX2_move_21 : decode cX2_move 21 = .ok (.aload_n 0, 1) := by decide +kernel
theorem dX2_move_22 : decode cX2_move 22 = .ok (.getfield 9, 3) := by decide +kernel
theorem dX2_move_25 : decode cX2_move 25 = .ok (.iload_n 2, 1) := by decide +kernel
theorem dX2_move_26 : decode cX2_move 26 = .ok (.iaload, 1) := by decide +kernel
theorem dX2_move_27 : decode cX2_move 27 = .ok (.isub, 1) := by decide +kernel
theorem dX2_move_28 : decode cX2_move 28 = .ok (.istore 4, 2) := by decide +kernel
theorem dX2_move_30 : decode cX2_move 30 = .ok (.iload 4, 2) := by decide +kernel
theorem dX2_move_32 : decode cX2_move 32 = .ok (.aload_n 1, 1) := by decide +kernel
theorem dX2_move_33 : decode cX2_move 33 = .ok (.iload_n 3, 1) := by decide +kernel
theorem dX2_move_34 : decode cX2_move 34 = .ok (.invokevirtual 68, 3) := by decide +kernel
theorem dX2_move_37 : decode cX2_move 37 = .ok (.invokestatic 59, 3) := by decide +kernel
theorem dX2_move_40 : decode cX2_move 40 = .ok (.istore 5, 2) := by decide +kernel
theorem dX2_move_42 : decode cX2_move 42 = .ok (.aload_n 1, 1) := by decide +kernel
theorem dX2_move_43 : decode cX2_move 43 = .ok (.getfield 56, 3) := by decide +kernel
theorem dX2_move_46 : decode cX2_move 46 = .ok (.iload_n 2, 1) := by decide +kernel
theorem dX2_move_47 : decode cX2_move 47 = .ok (.dup2, 1) := by decide +kernel
theorem dX2_move_48 : decode cX2_move 48 = .ok (.iaload, 1) := by decide +kernel
theorem dX2_move_49 : decode cX2_move 49 = .ok (.iload 5, 2) := by decide +kernel
theorem dX2_move_51 : decode cX2_move 51 = .ok (.isub, 1) := by decide +kernel
theorem dX2_move_52 : decode cX2_move 52 = .ok (.iastore, 1) := by decide +kernel
theorem dX2_move_53 : decode cX2_move 53 = .ok (.aload_n 1, 1) := by decide +kernel
theorem dX2_move_54 : decode cX2_move 54 = .ok (.getfield 56, 3) := by decide +kernel
theorem dX2_move_57 : decode cX2_move 57 = .ok (.iload_n 3, 1) := by decide +kernel
theorem dX2_move_58 : decode cX2_move 58 = .ok (.dup2, 1) := by decide +kernel
theorem dX2_move_59 : decode cX2_move 59 = .ok (.iaload, 1) := by decide +kernel
theorem dX2_move_60 : decode cX2_move 60 = .ok (.iload 5, 2) := by decide +kernel
theorem dX2_move_62 : decode cX2_move 62 = .ok (.iadd, 1) := by decide +kernel
theorem dX2_move_63 : decode cX2_move 63 = .ok (.iastore, 1) := by decide +kernel
theorem dX2_move_64 : decode cX2_move 64 = .ok (.aload_n 0, 1) := by decide +kernel
theorem dX2_move_65 : decode cX2_move 65 = .ok (.getfield 9, 3) := by decide +kernel
theorem dX2_move_68 : decode cX2_move 68 = .ok (.iload_n 3, 1) := by decide +kernel
theorem dX2_move_69 : decode cX2_move 69 = .ok (.dup2, 1) := by decide +kernel
theorem dX2_move_70 : decode cX2_move 70 = .ok (.iaload, 1) := by decide +kernel
theorem dX2_move_71 : decode cX2_move 71 = .ok (.iload 5, 2) := by decide +kernel
theorem dX2_move_73 : decode cX2_move 73 = .ok (.iadd, 1) := by decide +kernel
theorem dX2_move_74 : decode cX2_move 74 = .ok (.iastore, 1) := by decide +kernel
theorem dX2_move_75 : decode cX2_move 75 = .ok (.iload 5, 2) := by decide +kernel
theorem dX2_move_77 : decode cX2_move 77 = .ok (.iload 4, 2) := by decide +kernel
theorem dX2_move_79 : decode cX2_move 79 = .ok (.if_icmp .ge 27, 3) := by decide +kernel
theorem dX2_move_82 : decode cX2_move 82 = .ok (.aload_n 1, 1) := by decide +kernel
theorem dX2_move_83 : decode cX2_move 83 = .ok (.dup, 1) := by decide +kernel
theorem dX2_move_84 : decode cX2_move 84 = .ok (.getfield 71, 3) := by decide +kernel
theorem dX2_move_87 : decode cX2_move 87 = .ok (.iconst 1, 1) := by decide +kernel
theorem dX2_move_88 : decode cX2_move 88 = .ok (.iadd, 1) := by decide +kernel
theorem dX2_move_89 : decode cX2_move 89 = .ok (.putfield 71, 3) := by decide +kernel
theorem dX2_move_92 : decode cX2_move 92 = .ok (.aload_n 1, 1) := by decide +kernel
theorem dX2_move_93 : decode cX2_move 93 = .ok (.dup, 1) := by decide +kernel
theorem dX2_move_94 : decode cX2_move 94 = .ok (.getfield 74, 3) := by decide +kernel
theorem dX2_move_97 : decode cX2_move 97 = .ok (.iload 4, 2) := by decide +kernel
theorem dX2_move_99 : decode cX2_move 99 = .ok (.iload 5, 2) := by decide +kernel
theorem dX2_move_101 : decode cX2_move 101 = .ok (.isub, 1) := by decide +kernel
theorem dX2_move_102 : decode cX2_move 102 = .ok (.iadd, 1) := by decide +kernel
theorem dX2_move_103 : decode cX2_move 103 = .ok (.putfield 74, 3) := by decide +kernel
theorem dX2_move_106 : decode cX2_move 106 = .ok (.return_, 1) := by decide +kernel
theorem dX3_init_0 : decode cX3_init 0 = .ok (.aload_n 0, 1) := by decide +kernel
theorem dX3_init_1 : decode cX3_init 1 = .ok (.invokespecial 3, 3) := by decide +kernel
theorem dX3_init_4 : decode cX3_init 4 = .ok (.aload_n 0, 1) := by decide +kernel
theorem dX3_init_5 : decode cX3_init 5 = .ok (.bipush 60, 2) := by decide +kernel
theorem dX3_init_7 : decode cX3_init 7 = .ok (.newarray .int, 2) := by decide +kernel
theorem dX3_init_9 : decode cX3_init 9 = .ok (.putfield 9, 3) := by decide +kernel
theorem dX3_init_12 : decode cX3_init 12 = .ok (.return_, 1) := by decide +kernel
theorem dX3_append_0 : decode cX3_append 0 = .ok (.aload_n 0, 1) := by decide +kernel
theorem dX3_append_1 : decode cX3_append 1 = .ok (.getfield 15, 3) := by decide +kernel
theorem dX3_append_4 : decode cX3_append 4 = .ok (.ifCond .lt 32, 3) := by decide +kernel
theorem dX3_append_7 : decode cX3_append 7 = .ok (.aload_n 0, 1) := by decide +kernel
theorem dX3_append_8 : decode cX3_append 8 = .ok (.getfield 15, 3) := by decide +kernel
theorem dX3_append_11 : decode cX3_append 11 = .ok (.bipush 60, 2) := by decide +kernel
theorem dX3_append_13 : decode cX3_append 13 = .ok (.if_icmp .ge 23, 3) := by decide +kernel
theorem dX3_append_16 : decode cX3_append 16 = .ok (.aload_n 0, 1) := by decide +kernel
theorem dX3_append_17 : decode cX3_append 17 = .ok (.getfield 9, 3) := by decide +kernel
theorem dX3_append_20 : decode cX3_append 20 = .ok (.aload_n 0, 1) := by decide +kernel
theorem dX3_append_21 : decode cX3_append 21 = .ok (.getfield 15, 3) := by decide +kernel
theorem dX3_append_24 : decode cX3_append 24 = .ok (.iload_n 1, 1) := by decide +kernel
theorem dX3_append_25 : decode cX3_append 25 = .ok (.iastore, 1) := by decide +kernel
theorem dX3_append_26 : decode cX3_append 26 = .ok (.aload_n 0, 1) := by decide +kernel
theorem dX3_append_27 : decode cX3_append 27 = .ok (.dup, 1) := by decide +kernel
theorem dX3_append_28 : decode cX3_append 28 = .ok (.getfield 15, 3) := by decide +kernel
theorem dX3_append_31 : decode cX3_append 31 = .ok (.iconst 1, 1) := by decide +kernel
theorem dX3_append_32 : decode cX3_append 32 = .ok (.iadd, 1) := by decide +kernel
theorem dX3_append_33 : decode cX3_append 33 = .ok (.putfield 15, 3) := by decide +kernel
theorem dX3_append_36 : decode cX3_append 36 = .ok (.return_, 1) := by decide +kernel
set_option maxRecDepth 20000 in
theorem ggX3_firstFault_X3_codeAt : GoodIn wsX3_firstFault wsX3_codeAt := goodIn_r _ [6, 1, 7, 14, 15] (by decide +kernel) (by decide +kernel)
set_option maxRecDepth 20000 in
theorem gX3_firstFault_X3_codeAt : GoodIn wsX3_firstFault (wsV RX3 19 RX3 yX3_codeAt wsX3_codeAt) := goodIn_app (goodIn_of _ (by decide +kernel)) ggX3_firstFault_X3_codeAt
set_option maxRecDepth 20000 in
theorem ggX3_firstFault_X3_placeBehind : GoodIn wsX3_firstFault wsX3_placeBehind := goodIn_r _ [10, 11, 12, 5, 13] (by decide +kernel) (by decide +kernel)
set_option maxRecDepth 20000 in
theorem gX3_firstFault_X3_placeBehind : GoodIn wsX3_firstFault (va_wsS RX3 23 yX3_placeBehind wsX3_placeBehind) := goodIn_app (goodIn_of _ (by decide +kernel)) ggX3_firstFault_X3_placeBehind
theorem dX3_firstFault_0 : decode cX3_firstFault 0 = .ok (.iconst 0, 1) := by decide +kernel
theorem dX3_firstFault_1 : decode cX3_firstFault 1 = .ok (.istore_n 1, 1) := by decide +kernel
theorem dX3_firstFault_2 : decode cX3_firstFault 2 = .ok (.iconst 0, 1) := by decide +kernel
theorem dX3_firstFault_3 : decode cX3_firstFault 3 = .ok (.istore_n 2, 1) := by decide +kernel
theorem dX3_firstFault_4 : decode cX3_firstFault 4 = .ok (.iload_n 2, 1) := by decide +kernel
theorem dX3_firstFault_5 : decode cX3_firstFault 5 = .ok (.aload_n 0, 1) := by decide +kernel
theorem dX3_firstFault_6 : decode cX3_firstFault 6 = .ok (.getfield 15, 3) := by decide +kernel
theorem dX3_firstFault_9 : decode cX3_firstFault 9 = .ok (.if_icmp .ge 27, 3) := by decide +kernel
theorem dX3_firstFault_12 : decode cX3_firstFault 12 = .ok (.iload_n 1, 1) := by decide +kernel
theorem dX3_firstFault_13 : decode cX3_firstFault 13 = .ok (.aload_n 0, 1) := by decide +kernel
theorem dX3_firstFault_14 : decode cX3_firstFault 14 = .ok (.iload_n 2, 1) := by decide +kernel
theorem dX3_firstFault_15 : decode cX3_firstFault 15 = .ok (.invokevirtual 19, 3) := by decide +kernel
theorem dX3_firstFault_18 : decode cX3_firstFault 18 = .ok (.invokestatic 23, 3) := by decide +kernel
theorem dX3_firstFault_21 : decode cX3_firstFault 21 = .ok (.istore_n 1, 1) := by decide +kernel
theorem dX3_firstFault_22 : decode cX3_firstFault 22 = .ok (.iload_n 1, 1) := by decide +kernel
theorem dX3_firstFault_23 : decode cX3_firstFault 23 = .ok (.bipush (-6), 2) := by decide +kernel
theorem dX3_firstFault_25 : decode cX3_firstFault 25 = .ok (.if_icmp .ne 5, 3) := by decide +kernel
theorem dX3_firstFault_28 : decode cX3_firstFault 28 = .ok (.iload_n 2, 1) := by decide +kernel
theorem dX3_firstFault_29 : decode cX3_firstFault 29 = .ok (.ireturn, 1) := by decide +kernel
theorem dX3_firstFault_30 : decode cX3_firstFault 30 = .ok (.iinc 2 1, 3) := by decide +kernel
theorem dX3_firstFault_33 : decode cX3_firstFault 33 = .ok (.goto (-29), 3) := by decide +kernel
theorem dX3_firstFault_36 : decode cX3_firstFault 36 = .ok (.iload_n 1, 1) := by decide +kernel
theorem dX3_firstFault_37 : decode cX3_firstFault 37 = .ok (.iconst 4, 1) := by decide +kernel
theorem dX3_firstFault_38 : decode cX3_firstFault 38 = .ok (.if_icmp .lt 8, 3) := by decide +kernel
theorem dX3_firstFault_41 : decode cX3_firstFault 41 = .ok (.bipush (-6), 2) := by decide +kernel
theorem dX3_firstFault_43 : decode cX3_firstFault 43 = .ok (.goto 7, 3) := by decide +kernel
theorem dX3_firstFault_46 : decode cX3_firstFault 46 = .ok (.aload_n 0, 1) := by decide +kernel
theorem dX3_firstFault_47 : decode cX3_firstFault 47 = .ok (.getfield 15, 3) := by decide +kernel
theorem dX3_firstFault_50 : decode cX3_firstFault 50 = .ok (.ireturn, 1) := by decide +kernel
set_option maxRecDepth 20000 in
theorem ggX3_letCrowdsIn_X3_codeAt : GoodIn wsX3_letCrowdsIn wsX3_codeAt := goodIn_r _ [6, 1, 7, 31, 32] (by decide +kernel) (by decide +kernel)
set_option maxRecDepth 20000 in
theorem gX3_letCrowdsIn_X3_codeAt : GoodIn wsX3_letCrowdsIn (wsV RX3 19 RX3 yX3_codeAt wsX3_codeAt) := goodIn_app (goodIn_of _ (by decide +kernel)) ggX3_letCrowdsIn_X3_codeAt
set_option maxRecDepth 20000 in
theorem ggX3_letCrowdsIn_X3_letCrowdIn : GoodIn wsX3_letCrowdsIn wsX3_letCrowdIn := goodIn_r _ [11, 12, 13, 14, 15, 2, 3, 4, 5, 6, 1, 7, 16, 17, 18, 19, 20, 21, 22, 23, 24, 25, 26, 27, 28, 29, 30, 31, 32, 33, 34, 35, 36, 37, 38, 39, 40, 41, 42, 43, 44] (by decide +kernel) (by decide +kernel)
set_option maxRecDepth 20000 in
theorem gX3_letCrowdsIn_X3_letCrowdIn : GoodIn wsX3_letCrowdsIn (wsV RX3 27 RX3 yX3_letCrowdIn wsX3_letCrowdIn) := goodIn_app (goodIn_of _ (by decide +kernel)) ggX3_letCrowdsIn_X3_letCrowdIn
theorem dX3_letCrowdsIn_0 : decode cX3_letCrowdsIn 0 = .ok (.iconst 0, 1) := by decide +kernel
theorem dX3_letCrowdsIn_1 : decode cX3_letCrowdsIn 1 = .ok (.istore_n 2, 1) := by decide +kernel
theorem dX3_letCrowdsIn_2 : decode cX3_letCrowdsIn 2 = .ok (.iconst 1, 1) := by decide +kernel
theorem dX3_letCrowdsIn_3 : decode cX3_letCrowdsIn 3 = .ok (.istore_n 3, 1) := by decide +kernel
theorem dX3_letCrowdsIn_4 : decode cX3_letCrowdsIn 4 = .ok (.iload_n 3, 1) := by decide +kernel
theorem dX3_letCrowdsIn_5 : decode cX3_letCrowdsIn 5 = .ok (.aload_n 0, 1) := by decide +kernel
theorem dX3_letCrowdsIn_6 : decode cX3_letCrowdsIn 6 = .ok (.getfield 15, 3) := by decide +kernel
theorem dX3_letCrowdsIn_9 : decode cX3_letCrowdsIn 9 = .ok (.if_icmp .gt 38, 3) := by decide +kernel
theorem dX3_letCrowdsIn_12 : decode cX3_letCrowdsIn 12 = .ok (.iload_n 3, 1) := by decide +kernel
theorem dX3_letCrowdsIn_13 : decode cX3_letCrowdsIn 13 = .ok (.aload_n 0, 1) := by decide +kernel
theorem dX3_letCrowdsIn_14 : decode cX3_letCrowdsIn 14 = .ok (.getfield 15, 3) := by decide +kernel
theorem dX3_letCrowdsIn_17 : decode cX3_letCrowdsIn 17 = .ok (.if_icmp .eq 13, 3) := by decide +kernel
theorem dX3_letCrowdsIn_20 : decode cX3_letCrowdsIn 20 = .ok (.aload_n 0, 1) := by decide +kernel
theorem dX3_letCrowdsIn_21 : decode cX3_letCrowdsIn 21 = .ok (.iload_n 3, 1) := by decide +kernel
theorem dX3_letCrowdsIn_22 : decode cX3_letCrowdsIn 22 = .ok (.invokevirtual 19, 3) := by decide +kernel
theorem dX3_letCrowdsIn_25 : decode cX3_letCrowdsIn 25 = .ok (.bipush 44, 2) := by decide +kernel
theorem dX3_letCrowdsIn_27 : decode cX3_letCrowdsIn 27 = .ok (.if_icmp .ne 14, 3) := by decide +kernel
theorem dX3_letCrowdsIn_30 : decode cX3_letCrowdsIn 30 = .ok (.aload_n 0, 1) := by decide +kernel
theorem dX3_letCrowdsIn_31 : decode cX3_letCrowdsIn 31 = .ok (.aload_n 1, 1) := by decide +kernel
theorem dX3_letCrowdsIn_32 : decode cX3_letCrowdsIn 32 = .ok (.iload_n 2, 1) := by decide +kernel
theorem dX3_letCrowdsIn_33 : decode cX3_letCrowdsIn 33 = .ok (.iload_n 3, 1) := by decide +kernel
theorem dX3_letCrowdsIn_34 : decode cX3_letCrowdsIn 34 = .ok (.invokevirtual 27, 3) := by decide +kernel
theorem dX3_letCrowdsIn_37 : decode cX3_letCrowdsIn 37 = .ok (.iload_n 3, 1) := by decide +kernel
theorem dX3_letCrowdsIn_38 : decode cX3_letCrowdsIn 38 = .ok (.iconst 1, 1) := by decide +kernel
theorem dX3_letCrowdsIn_39 : decode cX3_letCrowdsIn 39 = .ok (.iadd, 1) := by decide +kernel
theorem dX3_letCrowdsIn_40 : decode cX3_letCrowdsIn 40 = .ok (.istore_n 2, 1) := by decide +kernel
theorem dX3_letCrowdsIn_41 : decode cX3_letCrowdsIn 41 = .ok (.iinc 3 1, 3) := by decide +kernel
theorem dX3_letCrowdsIn_44 : decode cX3_letCrowdsIn 44 = .ok (.goto (-40), 3) := by decide +kernel
theorem dX3_letCrowdsIn_47 : decode cX3_letCrowdsIn 47 = .ok (.return_, 1) := by decide +kernel
set_option maxRecDepth 20000 in
theorem ggX3_letCrowdIn_X3_codeAt : GoodIn wsX3_letCrowdIn wsX3_codeAt := goodIn_r _ [9, 10, 11, 27, 28] (by decide +kernel) (by decide +kernel)
set_option maxRecDepth 20000 in
theorem gX3_letCrowdIn_X3_codeAt : GoodIn wsX3_letCrowdIn (wsV RX3 19 RX3 yX3_codeAt wsX3_codeAt) := goodIn_app (goodIn_of _ (by decide +kernel)) ggX3_letCrowdIn_X3_codeAt
set_option maxRecDepth 20000 in
theorem ggX3_letCrowdIn_X1_roomIn : GoodIn wsX3_letCrowdIn wsX1_roomIn := goodIn_r _ [16, 17, 18, 19, 20, 21, 29, 30, 31, 32, 33, 34, 35, 36, 37, 38, 39, 40] (by decide +kernel) (by decide +kernel)
set_option maxRecDepth 20000 in
theorem gX3_letCrowdIn_X1_roomIn : GoodIn wsX3_letCrowdIn (wsV RX3 31 RX1 yX1_roomIn wsX1_roomIn) := goodIn_app (goodIn_of _ (by decide +kernel)) ggX3_letCrowdIn_X1_roomIn
set_option maxRecDepth 20000 in
theorem ggX3_letCrowdIn_X1_letIn : GoodIn wsX3_letCrowdIn wsX1_letIn := goodIn_r _ [25, 18, 26, 19, 20, 21, 29, 30, 31, 32, 33, 34, 35, 36, 37, 38, 39, 40] (by decide +kernel) (by decide +kernel)
set_option maxRecDepth 20000 in
theorem gX3_letCrowdIn_X1_letIn : GoodIn wsX3_letCrowdIn (wsV RX3 41 RX1 yX1_letIn wsX1_letIn) := goodIn_app (goodIn_of _ (by decide +kernel)) ggX3_letCrowdIn_X1_letIn
theorem dX3_letCrowdIn_0 : decode cX3_letCrowdIn 0 = .ok (.aload_n 0, 1) := by decide +kernel
theorem dX3_letCrowdIn_1 : decode cX3_letCrowdIn 1 = .ok (.iload_n 2, 1) := by decide +kernel
theorem dX3_letCrowdIn_2 : decode cX3_letCrowdIn 2 = .ok (.invokevirtual 19, 3) := by decide +kernel
theorem dX3_letCrowdIn_5 : decode cX3_letCrowdIn 5 = .ok (.bipush 97, 2) := by decide +kernel
theorem dX3_letCrowdIn_7 : decode cX3_letCrowdIn 7 = .ok (.isub, 1) := by decide +kernel
theorem dX3_letCrowdIn_8 : decode cX3_letCrowdIn 8 = .ok (.bipush 7, 2) := by decide +kernel
theorem dX3_letCrowdIn_10 : decode cX3_letCrowdIn 10 = .ok (.aload_n 0, 1) := by decide +kernel
theorem dX3_letCrowdIn_11 : decode cX3_letCrowdIn 11 = .ok (.iload_n 2, 1) := by decide +kernel
theorem dX3_letCrowdIn_12 : decode cX3_letCrowdIn 12 = .ok (.iconst 1, 1) := by decide +kernel
theorem dX3_letCrowdIn_13 : decode cX3_letCrowdIn 13 = .ok (.iadd, 1) := by decide +kernel
theorem dX3_letCrowdIn_14 : decode cX3_letCrowdIn 14 = .ok (.invokevirtual 19, 3) := by decide +kernel
theorem dX3_letCrowdIn_17 : decode cX3_letCrowdIn 17 = .ok (.bipush 49, 2) := by decide +kernel
theorem dX3_letCrowdIn_19 : decode cX3_letCrowdIn 19 = .ok (.isub, 1) := by decide +kernel
theorem dX3_letCrowdIn_20 : decode cX3_letCrowdIn 20 = .ok (.imul, 1) := by decide +kernel
theorem dX3_letCrowdIn_21 : decode cX3_letCrowdIn 21 = .ok (.iadd, 1) := by decide +kernel
theorem dX3_letCrowdIn_22 : decode cX3_letCrowdIn 22 = .ok (.istore 4, 2) := by decide +kernel
theorem dX3_letCrowdIn_24 : decode cX3_letCrowdIn 24 = .ok (.aload_n 0, 1) := by decide +kernel
theorem dX3_letCrowdIn_25 : decode cX3_letCrowdIn 25 = .ok (.iload_n 2, 1) := by decide +kernel
theorem dX3_letCrowdIn_26 : decode cX3_letCrowdIn 26 = .ok (.iconst 3, 1) := by decide +kernel
theorem dX3_letCrowdIn_27 : decode cX3_letCrowdIn 27 = .ok (.iadd, 1) := by decide +kernel
theorem dX3_letCrowdIn_28 : decode cX3_letCrowdIn 28 = .ok (.invokevirtual 19, 3) := by decide +kernel
theorem dX3_letCrowdIn_31 : decode cX3_letCrowdIn 31 = .ok (.bipush 48, 2) := by decide +kernel
theorem dX3_letCrowdIn_33 : decode cX3_letCrowdIn 33 = .ok (.isub, 1) := by decide +kernel
theorem dX3_letCrowdIn_34 : decode cX3_letCrowdIn 34 = .ok (.istore 5, 2) := by decide +kernel
theorem dX3_letCrowdIn_36 : decode cX3_letCrowdIn 36 = .ok (.iload_n 2, 1) := by decide +kernel
theorem dX3_letCrowdIn_37 : decode cX3_letCrowdIn 37 = .ok (.iconst 4, 1) := by decide +kernel
theorem dX3_letCrowdIn_38 : decode cX3_letCrowdIn 38 = .ok (.iadd, 1) := by decide +kernel
theorem dX3_letCrowdIn_39 : decode cX3_letCrowdIn 39 = .ok (.iload_n 3, 1) := by decide +kernel
theorem dX3_letCrowdIn_40 : decode cX3_letCrowdIn 40 = .ok (.if_icmp .ge 21, 3) := by decide +kernel
theorem dX3_letCrowdIn_43 : decode cX3_letCrowdIn 43 = .ok (.bipush 10, 2) := by decide +kernel
theorem dX3_letCrowdIn_45 : decode cX3_letCrowdIn 45 = .ok (.iload 5, 2) := by decide +kernel
theorem dX3_letCrowdIn_47 : decode cX3_letCrowdIn 47 = .ok (.imul, 1) := by decide +kernel
theorem dX3_letCrowdIn_48 : decode cX3_letCrowdIn 48 = .ok (.aload_n 0, 1) := by decide +kernel
theorem dX3_letCrowdIn_49 : decode cX3_letCrowdIn 49 = .ok (.iload_n 2, 1) := by decide +kernel
theorem dX3_letCrowdIn_50 : decode cX3_letCrowdIn 50 = .ok (.iconst 4, 1) := by decide +kernel
theorem dX3_letCrowdIn_51 : decode cX3_letCrowdIn 51 = .ok (.iadd, 1) := by decide +kernel
theorem dX3_letCrowdIn_52 : decode cX3_letCrowdIn 52 = .ok (.invokevirtual 19, 3) := by decide +kernel
theorem dX3_letCrowdIn_55 : decode cX3_letCrowdIn 55 = .ok (.iadd, 1) := by decide +kernel
theorem dX3_letCrowdIn_56 : decode cX3_letCrowdIn 56 = .ok (.bipush 48, 2) := by decide +kernel
theorem dX3_letCrowdIn_58 : decode cX3_letCrowdIn 58 = .ok (.isub, 1) := by decide +kernel
theorem dX3_letCrowdIn_59 : decode cX3_letCrowdIn 59 = .ok (.istore 5, 2) := by decide +kernel
theorem dX3_letCrowdIn_61 : decode cX3_letCrowdIn 61 = .ok (.aload_n 1, 1) := by decide +kernel
theorem dX3_letCrowdIn_62 : decode cX3_letCrowdIn 62 = .ok (.iload 4, 2) := by decide +kernel
theorem dX3_letCrowdIn_64 : decode cX3_letCrowdIn 64 = .ok (.iload 5, 2) := by decide +kernel
theorem dX3_letCrowdIn_66 : decode cX3_letCrowdIn 66 = .ok (.aload_n 1, 1) := by decide +kernel
theorem dX3_letCrowdIn_67 : decode cX3_letCrowdIn 67 = .ok (.iload 4, 2) := by decide +kernel
theorem dX3_letCrowdIn_69 : decode cX3_letCrowdIn 69 = .ok (.invokevirtual 31, 3) := by decide +kernel
theorem dX3_letCrowdIn_72 : decode cX3_letCrowdIn 72 = .ok (.invokestatic 36, 3) := by decide +kernel
theorem dX3_letCrowdIn_75 : decode cX3_letCrowdIn 75 = .ok (.invokevirtual 41, 3) := by decide +kernel
theorem dX3_letCrowdIn_78 : decode cX3_letCrowdIn 78 = .ok (.return_, 1) := by decide +kernel
theorem dX3_codeAt_0 : decode cX3_codeAt 0 = .ok (.iload_n 1, 1) := by decide +kernel
theorem dX3_codeAt_1 : decode cX3_codeAt 1 = .ok (.ifCond .lt 26, 3) := by decide +kernel
theorem dX3_codeAt_4 : decode cX3_codeAt 4 = .ok (.iload_n 1, 1) := by decide +kernel
theorem dX3_codeAt_5 : decode cX3_codeAt 5 = .ok (.aload_n 0, 1) := by decide +kernel
theorem dX3_codeAt_6 : decode cX3_codeAt 6 = .ok (.getfield 15, 3) := by decide +kernel
theorem dX3_codeAt_9 : decode cX3_codeAt 9 = .ok (.if_icmp .ge 18, 3) := by decide +kernel
theorem dX3_codeAt_12 : decode cX3_codeAt 12 = .ok (.iload_n 1, 1) := by decide +kernel
theorem dX3_codeAt_13 : decode cX3_codeAt 13 = .ok (.bipush 60, 2) := by decide +kernel
theorem dX3_codeAt_15 : decode cX3_codeAt 15 = .ok (.if_icmp .ge 12, 3) := by decide +kernel
theorem dX3_codeAt_18 : decode cX3_codeAt 18 = .ok (.aload_n 0, 1) := by decide +kernel
theorem dX3_codeAt_19 : decode cX3_codeAt 19 = .ok (.getfield 9, 3) := by decide +kernel
theorem dX3_codeAt_22 : decode cX3_codeAt 22 = .ok (.iload_n 1, 1) := by decide +kernel
theorem dX3_codeAt_23 : decode cX3_codeAt 23 = .ok (.iaload, 1) := by decide +kernel
theorem dX3_codeAt_24 : decode cX3_codeAt 24 = .ok (.goto 4, 3) := by decide +kernel
theorem dX3_codeAt_27 : decode cX3_codeAt 27 = .ok (.iconst 0, 1) := by decide +kernel
theorem dX3_codeAt_28 : decode cX3_codeAt 28 = .ok (.ireturn, 1) := by decide +kernel
set_option maxRecDepth 20000 in
theorem ggX3_placeBehind_X3_placeBehindFirstDigit : GoodIn wsX3_placeBehind wsX3_placeBehindFirstDigit := goodIn_r _ [4] (by decide +kernel) (by decide +kernel)
set_option maxRecDepth 20000 in
theorem gX3_placeBehind_X3_placeBehindFirstDigit : GoodIn wsX3_placeBehind (va_wsS RX3 45 yX3_placeBehindFirstDigit wsX3_placeBehindFirstDigit) := goodIn_app (goodIn_of _ (by decide +kernel)) ggX3_placeBehind_X3_placeBehindFirstDigit
theorem dX3_placeBehind_0 : decode cX3_placeBehind 0 = .ok (.iload_n 0, 1) := by decide +kernel
theorem dX3_placeBehind_1 : decode cX3_placeBehind 1 = .ok (.tableswitch 87 0 3 #[31, 50, 69, 82], 31) := by decide +kernel
theorem dX3_placeBehind_32 : decode cX3_placeBehind 32 = .ok (.iload_n 1, 1) := by decide +kernel
theorem dX3_placeBehind_33 : decode cX3_placeBehind 33 = .ok (.bipush 97, 2) := by decide +kernel
theorem dX3_placeBehind_35 : decode cX3_placeBehind 35 = .ok (.if_icmp .lt 13, 3) := by decide +kernel
theorem dX3_placeBehind_38 : decode cX3_placeBehind 38 = .ok (.iload_n 1, 1) := by decide +kernel
theorem dX3_placeBehind_39 : decode cX3_placeBehind 39 = .ok (.bipush 103, 2) := by decide +kernel
theorem dX3_placeBehind_41 : decode cX3_placeBehind 41 = .ok (.if_icmp .gt 7, 3) := by decide +kernel
theorem dX3_placeBehind_44 : decode cX3_placeBehind 44 = .ok (.iconst 1, 1) := by decide +kernel
theorem dX3_placeBehind_45 : decode cX3_placeBehind 45 = .ok (.goto 5, 3) := by decide +kernel
theorem dX3_placeBehind_48 : decode cX3_placeBehind 48 = .ok (.bipush (-6), 2) := by decide +kernel
theorem dX3_placeBehind_50 : decode cX3_placeBehind 50 = .ok (.ireturn, 1) := by decide +kernel
theorem dX3_placeBehind_51 : decode cX3_placeBehind 51 = .ok (.iload_n 1, 1) := by decide +kernel
theorem dX3_placeBehind_52 : decode cX3_placeBehind 52 = .ok (.bipush 49, 2) := by decide +kernel
theorem dX3_placeBehind_54 : decode cX3_placeBehind 54 = .ok (.if_icmp .lt 13, 3) := by decide +kernel
theorem dX3_placeBehind_57 : decode cX3_placeBehind 57 = .ok (.iload_n 1, 1) := by decide +kernel
theorem dX3_placeBehind_58 : decode cX3_placeBehind 58 = .ok (.bipush 53, 2) := by decide +kernel
theorem dX3_placeBehind_60 : decode cX3_placeBehind 60 = .ok (.if_icmp .gt 7, 3) := by decide +kernel
theorem dX3_placeBehind_63 : decode cX3_placeBehind 63 = .ok (.iconst 2, 1) := by decide +kernel
theorem dX3_placeBehind_64 : decode cX3_placeBehind 64 = .ok (.goto 5, 3) := by decide +kernel
theorem dX3_placeBehind_67 : decode cX3_placeBehind 67 = .ok (.bipush (-6), 2) := by decide +kernel
theorem dX3_placeBehind_69 : decode cX3_placeBehind 69 = .ok (.ireturn, 1) := by decide +kernel
theorem dX3_placeBehind_70 : decode cX3_placeBehind 70 = .ok (.iload_n 1, 1) := by decide +kernel
theorem dX3_placeBehind_71 : decode cX3_placeBehind 71 = .ok (.bipush 58, 2) := by decide +kernel
theorem dX3_placeBehind_73 : decode cX3_placeBehind 73 = .ok (.if_icmp .ne 7, 3) := by decide +kernel
theorem dX3_placeBehind_76 : decode cX3_placeBehind 76 = .ok (.iconst 3, 1) := by decide +kernel
theorem dX3_placeBehind_77 : decode cX3_placeBehind 77 = .ok (.goto 5, 3) := by decide +kernel
theorem dX3_placeBehind_80 : decode cX3_placeBehind 80 = .ok (.bipush (-6), 2) := by decide +kernel
theorem dX3_placeBehind_82 : decode cX3_placeBehind 82 = .ok (.ireturn, 1) := by decide +kernel
theorem dX3_placeBehind_83 : decode cX3_placeBehind 83 = .ok (.iload_n 1, 1) := by decide +kernel
theorem dX3_placeBehind_84 : decode cX3_placeBehind 84 = .ok (.invokestatic 45, 3) := by decide +kernel
theorem dX3_placeBehind_87 : decode cX3_placeBehind 87 = .ok (.ireturn, 1) := by decide +kernel
theorem dX3_placeBehind_88 : decode cX3_placeBehind 88 = .ok (.iload_n 1, 1) := by decide +kernel
theorem dX3_placeBehind_89 : decode cX3_placeBehind 89 = .ok (.bipush 44, 2) := by decide +kernel
theorem dX3_placeBehind_91 : decode cX3_placeBehind 91 = .ok (.if_icmp .ne 5, 3) := by decide +kernel
theorem dX3_placeBehind_94 : decode cX3_placeBehind 94 = .ok (.iconst 0, 1) := by decide +kernel
theorem dX3_placeBehind_95 : decode cX3_placeBehind 95 = .ok (.ireturn, 1) := by decide +kernel
theorem dX3_placeBehind_96 : decode cX3_placeBehind 96 = .ok (.iload_n 0, 1) := by decide +kernel
theorem dX3_placeBehind_97 : decode cX3_placeBehind 97 = .ok (.iconst 4, 1) := by decide +kernel
theorem dX3_placeBehind_98 : decode cX3_placeBehind 98 = .ok (.if_icmp .ne 23, 3) := by decide +kernel
theorem dX3_placeBehind_101 : decode cX3_placeBehind 101 = .ok (.iload_n 1, 1) := by decide +kernel
theorem dX3_placeBehind_102 : decode cX3_placeBehind 102 = .ok (.bipush 48, 2) := by decide +kernel
theorem dX3_placeBehind_104 : decode cX3_placeBehind 104 = .ok (.if_icmp .lt 13, 3) := by decide +kernel
theorem dX3_placeBehind_107 : decode cX3_placeBehind 107 = .ok (.iload_n 1, 1) := by decide +kernel
theorem dX3_placeBehind_108 : decode cX3_placeBehind 108 = .ok (.bipush 57, 2) := by decide +kernel
theorem dX3_placeBehind_110 : decode cX3_placeBehind 110 = .ok (.if_icmp .gt 7, 3) := by decide +kernel
theorem dX3_placeBehind_113 : decode cX3_placeBehind 113 = .ok (.iconst 1, 1) := by decide +kernel
theorem dX3_placeBehind_114 : decode cX3_placeBehind 114 = .ok (.goto 23, 3) := by decide +kernel
theorem dX3_placeBehind_117 : decode cX3_placeBehind 117 = .ok (.iconst 0, 1) := by decide +kernel
theorem dX3_placeBehind_118 : decode cX3_placeBehind 118 = .ok (.goto 19, 3) := by decide +kernel
theorem dX3_placeBehind_121 : decode cX3_placeBehind 121 = .ok (.iload_n 0, 1) := by decide +kernel
theorem dX3_placeBehind_122 : decode cX3_placeBehind 122 = .ok (.iconst 5, 1) := by decide +kernel
theorem dX3_placeBehind_123 : decode cX3_placeBehind 123 = .ok (.if_icmp .ne 13, 3) := by decide +kernel
theorem dX3_placeBehind_126 : decode cX3_placeBehind 126 = .ok (.iload_n 1, 1) := by decide +kernel
theorem dX3_placeBehind_127 : decode cX3_placeBehind 127 = .ok (.bipush 48, 2) := by decide +kernel
theorem dX3_placeBehind_129 : decode cX3_placeBehind 129 = .ok (.if_icmp .ne 7, 3) := by decide +kernel
theorem dX3_placeBehind_132 : decode cX3_placeBehind 132 = .ok (.iconst 1, 1) := by decide +kernel
theorem dX3_placeBehind_133 : decode cX3_placeBehind 133 = .ok (.goto 4, 3) := by decide +kernel
theorem dX3_placeBehind_136 : decode cX3_placeBehind 136 = .ok (.iconst 0, 1) := by decide +kernel
theorem dX3_placeBehind_137 : decode cX3_placeBehind 137 = .ok (.istore_n 2, 1) := by decide +kernel
theorem dX3_placeBehind_138 : decode cX3_placeBehind 138 = .ok (.iload_n 2, 1) := by decide +kernel
theorem dX3_placeBehind_139 : decode cX3_placeBehind 139 = .ok (.ifCond .eq 8, 3) := by decide +kernel
theorem dX3_placeBehind_142 : decode cX3_placeBehind 142 = .ok (.bipush 6, 2) := by decide +kernel
theorem dX3_placeBehind_144 : decode cX3_placeBehind 144 = .ok (.goto 5, 3) := by decide +kernel
theorem dX3_placeBehind_147 : decode cX3_placeBehind 147 = .ok (.bipush (-6), 2) := by decide +kernel
theorem dX3_placeBehind_149 : decode cX3_placeBehind 149 = .ok (.ireturn, 1) := by decide +kernel
theorem dX3_placeBehindFirstDigit_0 : decode cX3_placeBehindFirstDigit 0 = .ok (.iload_n 0, 1) := by decide +kernel
theorem dX3_placeBehindFirstDigit_1 : decode cX3_placeBehindFirstDigit 1 = .ok (.bipush 49, 2) := by decide +kernel
theorem dX3_placeBehindFirstDigit_3 : decode cX3_placeBehindFirstDigit 3 = .ok (.if_icmp .lt 9, 3) := by decide +kernel
theorem dX3_placeBehindFirstDigit_6 : decode cX3_placeBehindFirstDigit 6 = .ok (.iload_n 0, 1) := by decide +kernel
theorem dX3_placeBehindFirstDigit_7 : decode cX3_placeBehindFirstDigit 7 = .ok (.bipush 57, 2) := by decide +kernel
theorem dX3_placeBehindFirstDigit_9 : decode cX3_placeBehindFirstDigit 9 = .ok (.if_icmp .le 6, 3) := by decide +kernel
theorem dX3_placeBehindFirstDigit_12 : decode cX3_placeBehindFirstDigit 12 = .ok (.bipush (-6), 2) := by decide +kernel
theorem dX3_placeBehindFirstDigit_14 : decode cX3_placeBehindFirstDigit 14 = .ok (.ireturn, 1) := by decide +kernel
theorem dX3_placeBehindFirstDigit_15 : decode cX3_placeBehindFirstDigit 15 = .ok (.iload_n 0, 1) := by decide +kernel
theorem dX3_placeBehindFirstDigit_16 : decode cX3_placeBehindFirstDigit 16 = .ok (.bipush 49, 2) := by decide +kernel
theorem dX3_placeBehindFirstDigit_18 : decode cX3_placeBehindFirstDigit 18 = .ok (.if_icmp .ne 7, 3) := by decide +kernel
theorem dX3_placeBehindFirstDigit_21 : decode cX3_placeBehindFirstDigit 21 = .ok (.iconst 4, 1) := by decide +kernel
theorem dX3_placeBehindFirstDigit_22 : decode cX3_placeBehindFirstDigit 22 = .ok (.goto 15, 3) := by decide +kernel
theorem dX3_placeBehindFirstDigit_25 : decode cX3_placeBehindFirstDigit 25 = .ok (.iload_n 0, 1) := by decide +kernel
theorem dX3_placeBehindFirstDigit_26 : decode cX3_placeBehindFirstDigit 26 = .ok (.bipush 50, 2) := by decide +kernel
theorem dX3_placeBehindFirstDigit_28 : decode cX3_placeBehindFirstDigit 28 = .ok (.if_icmp .ne 7, 3) := by decide +kernel
theorem dX3_placeBehindFirstDigit_31 : decode cX3_placeBehindFirstDigit 31 = .ok (.iconst 5, 1) := by decide +kernel
theorem dX3_placeBehindFirstDigit_32 : decode cX3_placeBehindFirstDigit 32 = .ok (.goto 5, 3) := by decide +kernel
theorem dX3_placeBehindFirstDigit_35 : decode cX3_placeBehindFirstDigit 35 = .ok (.bipush 6, 2) := by decide +kernel
theorem dX3_placeBehindFirstDigit_37 : decode cX3_placeBehindFirstDigit 37 = .ok (.ireturn, 1) := by decide +kernel
end
section
theorem dX4_init_0 : decode cX4_init 0 = .ok (.aload_n 0, 1) := by decide +kernel
theorem dX4_init_1 : decode cX4_init 1 = .ok (.invokespecial 3, 3) := by decide +kernel
theorem dX4_init_4 : decode cX4_init 4 = .ok (.aload_n 0, 1) := by decide +kernel
theorem dX4_init_5 : decode cX4_init 5 = .ok (.sipush 140, 3) := by decide +kernel
theorem dX4_init_8 : decode cX4_init 8 = .ok (.newarray .int, 2) := by decide +kernel
theorem dX4_init_10 : decode cX4_init 10 = .ok (.putfield 9, 3) := by decide +kernel
theorem dX4_init_13 : decode cX4_init 13 = .ok (.aload_n 0, 1) := by decide +kernel
theorem dX4_init_14 : decode cX4_init 14 = .ok (.bipush 35, 2) := by decide +kernel
theorem dX4_init_16 : decode cX4_init 16 = .ok (.newarray .int, 2) := by decide +kernel
theorem dX4_init_18 : decode cX4_init 18 = .ok (.putfield 15, 3) := by decide +kernel
theorem dX4_init_21 : decode cX4_init 21 = .ok (.aload_n 0, 1) := by decide +kernel
theorem dX4_init_22 : decode cX4_init 22 = .ok (.bipush 35, 2) := by decide +kernel
theorem dX4_init_24 : decode cX4_init 24 = .ok (.newarray .int, 2) := by decide +kernel
theorem dX4_init_26 : decode cX4_init 26 = .ok (.putfield 18, 3) := by decide +kernel
theorem dX4_init_29 : decode cX4_init 29 = .ok (.aload_n 0, 1) := by decide +kernel
theorem dX4_init_30 : decode cX4_init 30 = .ok (.bipush 35, 2) := by decide +kernel
theorem dX4_init_32 : decode cX4_init 32 = .ok (.newarray .int, 2) := by decide +kernel
theorem dX4_init_34 : decode cX4_init 34 = .ok (.putfield 21, 3) := by decide +kernel
theorem dX4_init_37 : decode cX4_init 37 = .ok (.aload_n 0, 1) := by decide +kernel
theorem dX4_init_38 : decode cX4_init 38 = .ok (.bipush 35, 2) := by decide +kernel
theorem dX4_init_40 : decode cX4_init 40 = .ok (.newarray .int, 2) := by decide +kernel
theorem dX4_init_42 : decode cX4_init 42 = .ok (.putfield 24, 3) := by decide +kernel
theorem dX4_init_45 : decode cX4_init 45 = .ok (.return_, 1) := by decide +kernel
set_option maxRecDepth 20000 in
theorem ggX4_find_X4_measureFrom : GoodIn wsX4_find wsX4_measureFrom := goodIn_r _ [7, 8, 9, 10, 11, 12, 13, 14, 15, 16, 17, 18, 19, 20, 21, 22, 23, 24, 25, 26, 27, 28, 29, 30, 31, 32, 33, 6, 34, 35, 36, 61, 62, 63, 64, 65, 66, 67, 68, 69, 70, 71, 72, 73, 74, 75, 76, 77, 78] (by decide +kernel) (by decide +kernel)
set_option maxRecDepth 20000 in
theorem gX4_find_X4_measureFrom : GoodIn wsX4_find (wsV RX4 27 RX4 yX4_measureFrom wsX4_measureFrom) := goodIn_app (goodIn_of _ (by decide +kernel)) ggX4_find_X4_measureFrom
set_option maxRecDepth 20000 in
theorem ggX4_find_X4_chooseGoal : GoodIn wsX4_find wsX4_chooseGoal := goodIn_r _ [40, 41, 42, 35, 12, 36, 31, 32, 33, 6, 34, 8, 11, 13, 67, 68, 69, 70, 71, 72, 73, 74, 75, 76, 77, 78, 61, 62, 63, 64, 65, 66] (by decide +kernel) (by decide +kernel)
set_option maxRecDepth 20000 in
theorem gX4_find_X4_chooseGoal : GoodIn wsX4_find (wsV RX4 31 RX4 yX4_chooseGoal wsX4_chooseGoal) := goodIn_app (goodIn_of _ (by decide +kernel)) ggX4_find_X4_chooseGoal
set_option maxRecDepth 20000 in
theorem ggX4_find_X4_chooseNext : GoodIn wsX4_find wsX4_chooseNext := goodIn_r _ [46, 47, 48, 49, 6, 50, 51, 52, 53, 54, 1, 11, 12, 13, 31, 32, 33, 34, 8, 35, 36, 14, 15, 16, 17, 18, 19, 20, 21, 22, 23, 24, 25, 26, 27, 28, 29, 30, 61, 62, 63, 64, 65, 66, 67, 68, 69, 70, 71, 72, 73, 74, 75, 76, 77, 78] (by decide +kernel) (by decide +kernel)
set_option maxRecDepth 20000 in
theorem gX4_find_X4_chooseNext : GoodIn wsX4_find (wsV RX4 35 RX4 yX4_chooseNext wsX4_chooseNext) := goodIn_app (goodIn_of _ (by decide +kernel)) ggX4_find_X4_chooseNext
set_option maxRecDepth 20000 in
theorem ggX4_find_X4_orderTurns : GoodIn wsX4_find wsX4_orderTurns := goodIn_r _ [58, 59, 60, 47, 48, 49, 6, 50, 51, 52, 53, 54, 1, 11, 12, 13, 31, 32, 33, 34, 8, 35, 36, 61, 62, 63, 64, 65, 66] (by decide +kernel) (by decide +kernel)
set_option maxRecDepth 20000 in
theorem gX4_find_X4_orderTurns : GoodIn wsX4_find (wsV RX4 38 RX4 yX4_orderTurns wsX4_orderTurns) := goodIn_app (goodIn_of _ (by decide +kernel)) ggX4_find_X4_orderTurns
theorem dX4_find_0 : decode cX4_find 0 = .ok (.iconst 0, 1) := by decide +kernel
theorem dX4_find_1 : decode cX4_find 1 = .ok (.istore_n 2, 1) := by decide +kernel
theorem dX4_find_2 : decode cX4_find 2 = .ok (.iload_n 2, 1) := by decide +kernel
theorem dX4_find_3 : decode cX4_find 3 = .ok (.iconst 4, 1) := by decide +kernel
theorem dX4_find_4 : decode cX4_find 4 = .ok (.if_icmp .ge 15, 3) := by decide +kernel
theorem dX4_find_7 : decode cX4_find 7 = .ok (.aload_n 0, 1) := by decide +kernel
theorem dX4_find_8 : decode cX4_find 8 = .ok (.aload_n 1, 1) := by decide +kernel
theorem dX4_find_9 : decode cX4_find 9 = .ok (.iload_n 2, 1) := by decide +kernel
theorem dX4_find_10 : decode cX4_find 10 = .ok (.invokevirtual 27, 3) := by decide +kernel
theorem dX4_find_13 : decode cX4_find 13 = .ok (.iinc 2 1, 3) := by decide +kernel
theorem dX4_find_16 : decode cX4_find 16 = .ok (.goto (-14), 3) := by decide +kernel
theorem dX4_find_19 : decode cX4_find 19 = .ok (.iconst 0, 1) := by decide +kernel
theorem dX4_find_20 : decode cX4_find 20 = .ok (.istore_n 2, 1) := by decide +kernel
theorem dX4_find_21 : decode cX4_find 21 = .ok (.iload_n 2, 1) := by decide +kernel
theorem dX4_find_22 : decode cX4_find 22 = .ok (.bipush 35, 2) := by decide +kernel
theorem dX4_find_24 : decode cX4_find 24 = .ok (.if_icmp .ge 33, 3) := by decide +kernel
theorem dX4_find_27 : decode cX4_find 27 = .ok (.aload_n 0, 1) := by decide +kernel
theorem dX4_find_28 : decode cX4_find 28 = .ok (.getfield 18, 3) := by decide +kernel
theorem dX4_find_31 : decode cX4_find 31 = .ok (.iload_n 2, 1) := by decide +kernel
theorem dX4_find_32 : decode cX4_find 32 = .ok (.aload_n 0, 1) := by decide +kernel
theorem dX4_find_33 : decode cX4_find 33 = .ok (.aload_n 1, 1) := by decide +kernel
theorem dX4_find_34 : decode cX4_find 34 = .ok (.iload_n 2, 1) := by decide +kernel
theorem dX4_find_35 : decode cX4_find 35 = .ok (.invokevirtual 31, 3) := by decide +kernel
theorem dX4_find_38 : decode cX4_find 38 = .ok (.iastore, 1) := by decide +kernel
theorem dX4_find_39 : decode cX4_find 39 = .ok (.aload_n 0, 1) := by decide +kernel
theorem dX4_find_40 : decode cX4_find 40 = .ok (.getfield 21, 3) := by decide +kernel
theorem dX4_find_43 : decode cX4_find 43 = .ok (.iload_n 2, 1) := by decide +kernel
theorem dX4_find_44 : decode cX4_find 44 = .ok (.aload_n 0, 1) := by decide +kernel
theorem dX4_find_45 : decode cX4_find 45 = .ok (.aload_n 1, 1) := by decide +kernel
theorem dX4_find_46 : decode cX4_find 46 = .ok (.iload_n 2, 1) := by decide +kernel
theorem dX4_find_47 : decode cX4_find 47 = .ok (.invokevirtual 35, 3) := by decide +kernel
theorem dX4_find_50 : decode cX4_find 50 = .ok (.iastore, 1) := by decide +kernel
theorem dX4_find_51 : decode cX4_find 51 = .ok (.iinc 2 1, 3) := by decide +kernel
theorem dX4_find_54 : decode cX4_find 54 = .ok (.goto (-33), 3) := by decide +kernel
theorem dX4_find_57 : decode cX4_find 57 = .ok (.aload_n 0, 1) := by decide +kernel
theorem dX4_find_58 : decode cX4_find 58 = .ok (.invokevirtual 38, 3) := by decide +kernel
theorem dX4_find_61 : decode cX4_find 61 = .ok (.return_, 1) := by decide +kernel
set_option maxRecDepth 20000 in
theorem ggX4_stepsTo_X5_isDoor : GoodIn wsX4_stepsTo wsX5_isDoor := goodIn_r _ [4] (by decide +kernel) (by decide +kernel)
set_option maxRecDepth 20000 in
theorem gX4_stepsTo_X5_isDoor_n41 : GoodIn wsX4_stepsTo (wsX5_isDoor) := ggX4_stepsTo_X5_isDoor
set_option maxRecDepth 20000 in
theorem ggX4_stepsTo_X5_isCell : GoodIn wsX4_stepsTo wsX5_isCell := goodIn_r _ [6] (by decide +kernel) (by decide +kernel)
set_option maxRecDepth 20000 in
theorem gX4_stepsTo_X5_isCell_n45 : GoodIn wsX4_stepsTo (wsX5_isCell) := ggX4_stepsTo_X5_isCell
theorem dX4_stepsTo_0 : decode cX4_stepsTo 0 = .ok (.iload_n 1, 1) := by decide +kernel
theorem dX4_stepsTo_1 : decode cX4_stepsTo 1 = .ok (.invokestatic 41, 3) := by decide +kernel
theorem dX4_stepsTo_4 : decode cX4_stepsTo 4 = .ok (.ifCond .eq 24, 3) := by decide +kernel
theorem dX4_stepsTo_7 : decode cX4_stepsTo 7 = .ok (.iload_n 2, 1) := by decide +kernel
theorem dX4_stepsTo_8 : decode cX4_stepsTo 8 = .ok (.invokestatic 45, 3) := by decide +kernel
theorem dX4_stepsTo_11 : decode cX4_stepsTo 11 = .ok (.ifCond .eq 17, 3) := by decide +kernel
theorem dX4_stepsTo_14 : decode cX4_stepsTo 14 = .ok (.aload_n 0, 1) := by decide +kernel
theorem dX4_stepsTo_15 : decode cX4_stepsTo 15 = .ok (.getfield 9, 3) := by decide +kernel
theorem dX4_stepsTo_18 : decode cX4_stepsTo 18 = .ok (.iload_n 1, 1) := by decide +kernel
theorem dX4_stepsTo_19 : decode cX4_stepsTo 19 = .ok (.bipush 35, 2) := by decide +kernel
theorem dX4_stepsTo_21 : decode cX4_stepsTo 21 = .ok (.imul, 1) := by decide +kernel
theorem dX4_stepsTo_22 : decode cX4_stepsTo 22 = .ok (.iload_n 2, 1) := by decide +kernel
theorem dX4_stepsTo_23 : decode cX4_stepsTo 23 = .ok (.iadd, 1) := by decide +kernel
theorem dX4_stepsTo_24 : decode cX4_stepsTo 24 = .ok (.iaload, 1) := by decide +kernel
theorem dX4_stepsTo_25 : decode cX4_stepsTo 25 = .ok (.goto 5, 3) := by decide +kernel
theorem dX4_stepsTo_28 : decode cX4_stepsTo 28 = .ok (.bipush (-6), 2) := by decide +kernel
theorem dX4_stepsTo_30 : decode cX4_stepsTo 30 = .ok (.ireturn, 1) := by decide +kernel
set_option maxRecDepth 20000 in
theorem ggX4_goalOf_X5_isCell : GoodIn wsX4_goalOf wsX5_isCell := goodIn_r _ [4] (by decide +kernel) (by decide +kernel)
set_option maxRecDepth 20000 in
theorem gX4_goalOf_X5_isCell_n45 : GoodIn wsX4_goalOf (wsX5_isCell) := ggX4_goalOf_X5_isCell
theorem dX4_goalOf_0 : decode cX4_goalOf 0 = .ok (.iload_n 1, 1) := by decide +kernel
theorem dX4_goalOf_1 : decode cX4_goalOf 1 = .ok (.invokestatic 45, 3) := by decide +kernel
theorem dX4_goalOf_4 : decode cX4_goalOf 4 = .ok (.ifCond .eq 12, 3) := by decide +kernel
theorem dX4_goalOf_7 : decode cX4_goalOf 7 = .ok (.aload_n 0, 1) := by decide +kernel
theorem dX4_goalOf_8 : decode cX4_goalOf 8 = .ok (.getfield 18, 3) := by decide +kernel
theorem dX4_goalOf_11 : decode cX4_goalOf 11 = .ok (.iload_n 1, 1) := by decide +kernel
theorem dX4_goalOf_12 : decode cX4_goalOf 12 = .ok (.iaload, 1) := by decide +kernel
theorem dX4_goalOf_13 : decode cX4_goalOf 13 = .ok (.goto 5, 3) := by decide +kernel
theorem dX4_goalOf_16 : decode cX4_goalOf 16 = .ok (.bipush (-6), 2) := by decide +kernel
theorem dX4_goalOf_18 : decode cX4_goalOf 18 = .ok (.ireturn, 1) := by decide +kernel
set_option maxRecDepth 20000 in
theorem ggX4_nextOf_X5_isCell : GoodIn wsX4_nextOf wsX5_isCell := goodIn_r _ [4] (by decide +kernel) (by decide +kernel)
set_option maxRecDepth 20000 in
theorem gX4_nextOf_X5_isCell_n45 : GoodIn wsX4_nextOf (wsX5_isCell) := ggX4_nextOf_X5_isCell
theorem dX4_nextOf_0 : decode cX4_nextOf 0 = .ok (.iload_n 1, 1) := by decide +kernel
theorem dX4_nextOf_1 : decode cX4_nextOf 1 = .ok (.invokestatic 45, 3) := by decide +kernel
theorem dX4_nextOf_4 : decode cX4_nextOf 4 = .ok (.ifCond .eq 12, 3) := by decide +kernel
theorem dX4_nextOf_7 : decode cX4_nextOf 7 = .ok (.aload_n 0, 1) := by decide +kernel
theorem dX4_nextOf_8 : decode cX4_nextOf 8 = .ok (.getfield 21, 3) := by decide +kernel
theorem dX4_nextOf_11 : decode cX4_nextOf 11 = .ok (.iload_n 1, 1) := by decide +kernel
theorem dX4_nextOf_12 : decode cX4_nextOf 12 = .ok (.iaload, 1) := by decide +kernel
theorem dX4_nextOf_13 : decode cX4_nextOf 13 = .ok (.goto 5, 3) := by decide +kernel
theorem dX4_nextOf_16 : decode cX4_nextOf 16 = .ok (.bipush (-6), 2) := by decide +kernel
theorem dX4_nextOf_18 : decode cX4_nextOf 18 = .ok (.ireturn, 1) := by decide +kernel
set_option maxRecDepth 20000 in
theorem ggX4_stepsToGoal_X4_goalOf : GoodIn wsX4_stepsToGoal wsX4_goalOf := goodIn_r _ [5, 6, 7, 8, 9, 17, 18, 19, 20, 21, 22] (by decide +kernel) (by decide +kernel)
set_option maxRecDepth 20000 in
theorem gX4_stepsToGoal_X4_goalOf : GoodIn wsX4_stepsToGoal (wsV RX4 48 RX4 yX4_goalOf wsX4_goalOf) := goodIn_app (goodIn_of _ (by decide +kernel)) ggX4_stepsToGoal_X4_goalOf
set_option maxRecDepth 20000 in
theorem ggX4_stepsToGoal_X4_stepsTo : GoodIn wsX4_stepsToGoal wsX4_stepsTo := goodIn_r _ [13, 14, 15, 8, 16, 7, 9, 17, 18, 19, 20, 21, 22] (by decide +kernel) (by decide +kernel)
set_option maxRecDepth 20000 in
theorem gX4_stepsToGoal_X4_stepsTo : GoodIn wsX4_stepsToGoal (wsV RX4 52 RX4 yX4_stepsTo wsX4_stepsTo) := goodIn_app (goodIn_of _ (by decide +kernel)) ggX4_stepsToGoal_X4_stepsTo
theorem dX4_stepsToGoal_0 : decode cX4_stepsToGoal 0 = .ok (.aload_n 0, 1) := by decide +kernel
theorem dX4_stepsToGoal_1 : decode cX4_stepsToGoal 1 = .ok (.aload_n 0, 1) := by decide +kernel
theorem dX4_stepsToGoal_2 : decode cX4_stepsToGoal 2 = .ok (.iload_n 1, 1) := by decide +kernel
theorem dX4_stepsToGoal_3 : decode cX4_stepsToGoal 3 = .ok (.invokevirtual 48, 3) := by decide +kernel
theorem dX4_stepsToGoal_6 : decode cX4_stepsToGoal 6 = .ok (.iload_n 1, 1) := by decide +kernel
theorem dX4_stepsToGoal_7 : decode cX4_stepsToGoal 7 = .ok (.invokevirtual 52, 3) := by decide +kernel
theorem dX4_stepsToGoal_10 : decode cX4_stepsToGoal 10 = .ok (.ireturn, 1) := by decide +kernel
theorem dX4_turnsAMinute_0 : decode cX4_turnsAMinute 0 = .ok (.aload_n 0, 1) := by decide +kernel
theorem dX4_turnsAMinute_1 : decode cX4_turnsAMinute 1 = .ok (.getfield 56, 3) := by decide +kernel
theorem dX4_turnsAMinute_4 : decode cX4_turnsAMinute 4 = .ok (.ireturn, 1) := by decide +kernel
set_option maxRecDepth 20000 in
theorem ggX4_cellAtTurn_X5_isCell : GoodIn wsX4_cellAtTurn wsX5_isCell := goodIn_r _ [4] (by decide +kernel) (by decide +kernel)
set_option maxRecDepth 20000 in
theorem gX4_cellAtTurn_X5_isCell_n45 : GoodIn wsX4_cellAtTurn (wsX5_isCell) := ggX4_cellAtTurn_X5_isCell
theorem dX4_cellAtTurn_0 : decode cX4_cellAtTurn 0 = .ok (.iload_n 1, 1) := by decide +kernel
theorem dX4_cellAtTurn_1 : decode cX4_cellAtTurn 1 = .ok (.invokestatic 45, 3) := by decide +kernel
theorem dX4_cellAtTurn_4 : decode cX4_cellAtTurn 4 = .ok (.ifCond .eq 12, 3) := by decide +kernel
theorem dX4_cellAtTurn_7 : decode cX4_cellAtTurn 7 = .ok (.aload_n 0, 1) := by decide +kernel
theorem dX4_cellAtTurn_8 : decode cX4_cellAtTurn 8 = .ok (.getfield 24, 3) := by decide +kernel
theorem dX4_cellAtTurn_11 : decode cX4_cellAtTurn 11 = .ok (.iload_n 1, 1) := by decide +kernel
theorem dX4_cellAtTurn_12 : decode cX4_cellAtTurn 12 = .ok (.iaload, 1) := by decide +kernel
theorem dX4_cellAtTurn_13 : decode cX4_cellAtTurn 13 = .ok (.goto 5, 3) := by decide +kernel
theorem dX4_cellAtTurn_16 : decode cX4_cellAtTurn 16 = .ok (.bipush (-6), 2) := by decide +kernel
theorem dX4_cellAtTurn_18 : decode cX4_cellAtTurn 18 = .ok (.ireturn, 1) := by decide +kernel
theorem dX4_cellsWithGoal_0 : decode cX4_cellsWithGoal 0 = .ok (.iconst 0, 1) := by decide +kernel
theorem dX4_cellsWithGoal_1 : decode cX4_cellsWithGoal 1 = .ok (.istore_n 2, 1) := by decide +kernel
theorem dX4_cellsWithGoal_2 : decode cX4_cellsWithGoal 2 = .ok (.iconst 0, 1) := by decide +kernel
theorem dX4_cellsWithGoal_3 : decode cX4_cellsWithGoal 3 = .ok (.istore_n 3, 1) := by decide +kernel
theorem dX4_cellsWithGoal_4 : decode cX4_cellsWithGoal 4 = .ok (.iload_n 3, 1) := by decide +kernel
theorem dX4_cellsWithGoal_5 : decode cX4_cellsWithGoal 5 = .ok (.bipush 35, 2) := by decide +kernel
theorem dX4_cellsWithGoal_7 : decode cX4_cellsWithGoal 7 = .ok (.if_icmp .ge 27, 3) := by decide +kernel
theorem dX4_cellsWithGoal_10 : decode cX4_cellsWithGoal 10 = .ok (.iload_n 2, 1) := by decide +kernel
theorem dX4_cellsWithGoal_11 : decode cX4_cellsWithGoal 11 = .ok (.aload_n 0, 1) := by decide +kernel
theorem dX4_cellsWithGoal_12 : decode cX4_cellsWithGoal 12 = .ok (.getfield 18, 3) := by decide +kernel
theorem dX4_cellsWithGoal_15 : decode cX4_cellsWithGoal 15 = .ok (.iload_n 3, 1) := by decide +kernel
theorem dX4_cellsWithGoal_16 : decode cX4_cellsWithGoal 16 = .ok (.iaload, 1) := by decide +kernel
theorem dX4_cellsWithGoal_17 : decode cX4_cellsWithGoal 17 = .ok (.iload_n 1, 1) := by decide +kernel
theorem dX4_cellsWithGoal_18 : decode cX4_cellsWithGoal 18 = .ok (.if_icmp .ne 7, 3) := by decide +kernel
theorem dX4_cellsWithGoal_21 : decode cX4_cellsWithGoal 21 = .ok (.iconst 1, 1) := by decide +kernel
theorem dX4_cellsWithGoal_22 : decode cX4_cellsWithGoal 22 = .ok (.goto 4, 3) := by decide +kernel
theorem dX4_cellsWithGoal_25 : decode cX4_cellsWithGoal 25 = .ok (.iconst 0, 1) := by decide +kernel
theorem dX4_cellsWithGoal_26 : decode cX4_cellsWithGoal 26 = .ok (.iadd, 1) := by decide +kernel
theorem dX4_cellsWithGoal_27 : decode cX4_cellsWithGoal 27 = .ok (.istore_n 2, 1) := by decide +kernel
theorem dX4_cellsWithGoal_28 : decode cX4_cellsWithGoal 28 = .ok (.iinc 3 1, 3) := by decide +kernel
theorem dX4_cellsWithGoal_31 : decode cX4_cellsWithGoal 31 = .ok (.goto (-27), 3) := by decide +kernel
theorem dX4_cellsWithGoal_34 : decode cX4_cellsWithGoal 34 = .ok (.iload_n 2, 1) := by decide +kernel
theorem dX4_cellsWithGoal_35 : decode cX4_cellsWithGoal 35 = .ok (.ireturn, 1) := by decide +kernel
theorem dX4_peopleWithGoal_0 : decode cX4_peopleWithGoal 0 = .ok (.iconst 0, 1) := by decide +kernel
theorem dX4_peopleWithGoal_1 : decode cX4_peopleWithGoal 1 = .ok (.istore_n 3, 1) := by decide +kernel
theorem dX4_peopleWithGoal_2 : decode cX4_peopleWithGoal 2 = .ok (.iconst 0, 1) := by decide +kernel
theorem dX4_peopleWithGoal_3 : decode cX4_peopleWithGoal 3 = .ok (.istore 4, 2) := by decide +kernel
theorem dX4_peopleWithGoal_5 : decode cX4_peopleWithGoal 5 = .ok (.iload 4, 2) := by decide +kernel
theorem dX4_peopleWithGoal_7 : decode cX4_peopleWithGoal 7 = .ok (.bipush 35, 2) := by decide +kernel
theorem dX4_peopleWithGoal_9 : decode cX4_peopleWithGoal 9 = .ok (.if_icmp .ge 34, 3) := by decide +kernel
theorem dX4_peopleWithGoal_12 : decode cX4_peopleWithGoal 12 = .ok (.iload_n 3, 1) := by decide +kernel
theorem dX4_peopleWithGoal_13 : decode cX4_peopleWithGoal 13 = .ok (.aload_n 0, 1) := by decide +kernel
theorem dX4_peopleWithGoal_14 : decode cX4_peopleWithGoal 14 = .ok (.getfield 18, 3) := by decide +kernel
theorem dX4_peopleWithGoal_17 : decode cX4_peopleWithGoal 17 = .ok (.iload 4, 2) := by decide +kernel
theorem dX4_peopleWithGoal_19 : decode cX4_peopleWithGoal 19 = .ok (.iaload, 1) := by decide +kernel
theorem dX4_peopleWithGoal_20 : decode cX4_peopleWithGoal 20 = .ok (.iload_n 2, 1) := by decide +kernel
theorem dX4_peopleWithGoal_21 : decode cX4_peopleWithGoal 21 = .ok (.if_icmp .ne 13, 3) := by decide +kernel
theorem dX4_peopleWithGoal_24 : decode cX4_peopleWithGoal 24 = .ok (.aload_n 1, 1) := by decide +kernel
theorem dX4_peopleWithGoal_25 : decode cX4_peopleWithGoal 25 = .ok (.getfield 60, 3) := by decide +kernel
theorem dX4_peopleWithGoal_28 : decode cX4_peopleWithGoal 28 = .ok (.iload 4, 2) := by decide +kernel
theorem dX4_peopleWithGoal_30 : decode cX4_peopleWithGoal 30 = .ok (.iaload, 1) := by decide +kernel
theorem dX4_peopleWithGoal_31 : decode cX4_peopleWithGoal 31 = .ok (.goto 4, 3) := by decide +kernel
theorem dX4_peopleWithGoal_34 : decode cX4_peopleWithGoal 34 = .ok (.iconst 0, 1) := by decide +kernel
theorem dX4_peopleWithGoal_35 : decode cX4_peopleWithGoal 35 = .ok (.iadd, 1) := by decide +kernel
theorem dX4_peopleWithGoal_36 : decode cX4_peopleWithGoal 36 = .ok (.istore_n 3, 1) := by decide +kernel
theorem dX4_peopleWithGoal_37 : decode cX4_peopleWithGoal 37 = .ok (.iinc 4 1, 3) := by decide +kernel
theorem dX4_peopleWithGoal_40 : decode cX4_peopleWithGoal 40 = .ok (.goto (-35), 3) := by decide +kernel
theorem dX4_peopleWithGoal_43 : decode cX4_peopleWithGoal 43 = .ok (.iload_n 3, 1) := by decide +kernel
theorem dX4_peopleWithGoal_44 : decode cX4_peopleWithGoal 44 = .ok (.ireturn, 1) := by decide +kernel
set_option maxRecDepth 20000 in
theorem ggX4_stranded_X4_peopleWithGoal : GoodIn wsX4_stranded wsX4_peopleWithGoal := goodIn_r _ [5, 6, 7, 8, 9, 10, 11, 12, 13, 14, 15, 16, 17, 18, 19, 20, 21, 22, 23, 24, 25] (by decide +kernel) (by decide +kernel)
set_option maxRecDepth 20000 in
theorem gX4_stranded_X4_peopleWithGoal : GoodIn wsX4_stranded (wsV RX4 65 RX4 yX4_peopleWithGoal wsX4_peopleWithGoal) := goodIn_app (goodIn_of _ (by decide +kernel)) ggX4_stranded_X4_peopleWithGoal
theorem dX4_stranded_0 : decode cX4_stranded 0 = .ok (.aload_n 0, 1) := by decide +kernel
theorem dX4_stranded_1 : decode cX4_stranded 1 = .ok (.aload_n 1, 1) := by decide +kernel
theorem dX4_stranded_2 : decode cX4_stranded 2 = .ok (.bipush (-6), 2) := by decide +kernel
theorem dX4_stranded_4 : decode cX4_stranded 4 = .ok (.invokevirtual 65, 3) := by decide +kernel
theorem dX4_stranded_7 : decode cX4_stranded 7 = .ok (.ireturn, 1) := by decide +kernel
set_option maxRecDepth 20000 in
theorem ggX4_measureFrom_X5_isCell : GoodIn wsX4_measureFrom wsX5_isCell := goodIn_r _ [6] (by decide +kernel) (by decide +kernel)
set_option maxRecDepth 20000 in
theorem gX4_measureFrom_X5_isCell_n45 : GoodIn wsX4_measureFrom (wsX5_isCell) := ggX4_measureFrom_X5_isCell
set_option maxRecDepth 20000 in
theorem ggX4_measureFrom_X1_stepFrom : GoodIn wsX4_measureFrom wsX1_stepFrom := goodIn_r _ [11, 12, 13, 5, 14, 15, 16, 17, 18, 19, 20, 21, 22, 23, 37, 38, 39, 40, 41, 42, 43, 44, 45, 46, 47, 48] (by decide +kernel) (by decide +kernel)
set_option maxRecDepth 20000 in
theorem gX4_measureFrom_X1_stepFrom : GoodIn wsX4_measureFrom (wsV RX4 71 RX1 yX1_stepFrom wsX1_stepFrom) := goodIn_app (goodIn_of _ (by decide +kernel)) ggX4_measureFrom_X1_stepFrom
set_option maxRecDepth 20000 in
theorem ggX4_measureFrom_X4_stepsTo : GoodIn wsX4_measureFrom wsX4_stepsTo := goodIn_r _ [28, 1, 29, 5, 30, 4, 6, 31, 32, 33, 34, 35, 36] (by decide +kernel) (by decide +kernel)
set_option maxRecDepth 20000 in
theorem gX4_measureFrom_X4_stepsTo : GoodIn wsX4_measureFrom (wsV RX4 52 RX4 yX4_stepsTo wsX4_stepsTo) := goodIn_app (goodIn_of _ (by decide +kernel)) ggX4_measureFrom_X4_stepsTo
theorem dX4_measureFrom_0 : decode cX4_measureFrom 0 = .ok (.iload_n 2, 1) := by decide +kernel
theorem dX4_measureFrom_1 : decode cX4_measureFrom 1 = .ok (.bipush 35, 2) := by decide +kernel
theorem dX4_measureFrom_3 : decode cX4_measureFrom 3 = .ok (.imul, 1) := by decide +kernel
theorem dX4_measureFrom_4 : decode cX4_measureFrom 4 = .ok (.istore_n 3, 1) := by decide +kernel
theorem dX4_measureFrom_5 : decode cX4_measureFrom 5 = .ok (.iconst 0, 1) := by decide +kernel
theorem dX4_measureFrom_6 : decode cX4_measureFrom 6 = .ok (.istore 4, 2) := by decide +kernel
theorem dX4_measureFrom_8 : decode cX4_measureFrom 8 = .ok (.iload 4, 2) := by decide +kernel
theorem dX4_measureFrom_10 : decode cX4_measureFrom 10 = .ok (.bipush 35, 2) := by decide +kernel
theorem dX4_measureFrom_12 : decode cX4_measureFrom 12 = .ok (.if_icmp .ge 20, 3) := by decide +kernel
theorem dX4_measureFrom_15 : decode cX4_measureFrom 15 = .ok (.aload_n 0, 1) := by decide +kernel
theorem dX4_measureFrom_16 : decode cX4_measureFrom 16 = .ok (.getfield 9, 3) := by decide +kernel
theorem dX4_measureFrom_19 : decode cX4_measureFrom 19 = .ok (.iload_n 3, 1) := by decide +kernel
theorem dX4_measureFrom_20 : decode cX4_measureFrom 20 = .ok (.iload 4, 2) := by decide +kernel
theorem dX4_measureFrom_22 : decode cX4_measureFrom 22 = .ok (.iadd, 1) := by decide +kernel
theorem dX4_measureFrom_23 : decode cX4_measureFrom 23 = .ok (.bipush (-6), 2) := by decide +kernel
theorem dX4_measureFrom_25 : decode cX4_measureFrom 25 = .ok (.iastore, 1) := by decide +kernel
theorem dX4_measureFrom_26 : decode cX4_measureFrom 26 = .ok (.iinc 4 1, 3) := by decide +kernel
theorem dX4_measureFrom_29 : decode cX4_measureFrom 29 = .ok (.goto (-21), 3) := by decide +kernel
theorem dX4_measureFrom_32 : decode cX4_measureFrom 32 = .ok (.aload_n 1, 1) := by decide +kernel
theorem dX4_measureFrom_33 : decode cX4_measureFrom 33 = .ok (.getfield 68, 3) := by decide +kernel
theorem dX4_measureFrom_36 : decode cX4_measureFrom 36 = .ok (.iload_n 2, 1) := by decide +kernel
theorem dX4_measureFrom_37 : decode cX4_measureFrom 37 = .ok (.iaload, 1) := by decide +kernel
theorem dX4_measureFrom_38 : decode cX4_measureFrom 38 = .ok (.istore 4, 2) := by decide +kernel
theorem dX4_measureFrom_40 : decode cX4_measureFrom 40 = .ok (.iload 4, 2) := by decide +kernel
theorem dX4_measureFrom_42 : decode cX4_measureFrom 42 = .ok (.invokestatic 45, 3) := by decide +kernel
theorem dX4_measureFrom_45 : decode cX4_measureFrom 45 = .ok (.ifCond .ne 4, 3) := by decide +kernel
theorem dX4_measureFrom_48 : decode cX4_measureFrom 48 = .ok (.return_, 1) := by decide +kernel
theorem dX4_measureFrom_49 : decode cX4_measureFrom 49 = .ok (.aload_n 0, 1) := by decide +kernel
theorem dX4_measureFrom_50 : decode cX4_measureFrom 50 = .ok (.getfield 9, 3) := by decide +kernel
theorem dX4_measureFrom_53 : decode cX4_measureFrom 53 = .ok (.iload_n 3, 1) := by decide +kernel
theorem dX4_measureFrom_54 : decode cX4_measureFrom 54 = .ok (.iload 4, 2) := by decide +kernel
theorem dX4_measureFrom_56 : decode cX4_measureFrom 56 = .ok (.iadd, 1) := by decide +kernel
theorem dX4_measureFrom_57 : decode cX4_measureFrom 57 = .ok (.iconst 0, 1) := by decide +kernel
theorem dX4_measureFrom_58 : decode cX4_measureFrom 58 = .ok (.iastore, 1) := by decide +kernel
theorem dX4_measureFrom_59 : decode cX4_measureFrom 59 = .ok (.aload_n 0, 1) := by decide +kernel
theorem dX4_measureFrom_60 : decode cX4_measureFrom 60 = .ok (.getfield 15, 3) := by decide +kernel
theorem dX4_measureFrom_63 : decode cX4_measureFrom 63 = .ok (.iconst 0, 1) := by decide +kernel
theorem dX4_measureFrom_64 : decode cX4_measureFrom 64 = .ok (.iload 4, 2) := by decide +kernel
theorem dX4_measureFrom_66 : decode cX4_measureFrom 66 = .ok (.iastore, 1) := by decide +kernel
theorem dX4_measureFrom_67 : decode cX4_measureFrom 67 = .ok (.iconst 1, 1) := by decide +kernel
theorem dX4_measureFrom_68 : decode cX4_measureFrom 68 = .ok (.istore 5, 2) := by decide +kernel
theorem dX4_measureFrom_70 : decode cX4_measureFrom 70 = .ok (.iconst 0, 1) := by decide +kernel
theorem dX4_measureFrom_71 : decode cX4_measureFrom 71 = .ok (.istore 6, 2) := by decide +kernel
theorem dX4_measureFrom_73 : decode cX4_measureFrom 73 = .ok (.iload 6, 2) := by decide +kernel
theorem dX4_measureFrom_75 : decode cX4_measureFrom 75 = .ok (.iload 5, 2) := by decide +kernel
theorem dX4_measureFrom_77 : decode cX4_measureFrom 77 = .ok (.if_icmp .ge 109, 3) := by decide +kernel
theorem dX4_measureFrom_80 : decode cX4_measureFrom 80 = .ok (.iload 6, 2) := by decide +kernel
theorem dX4_measureFrom_82 : decode cX4_measureFrom 82 = .ok (.bipush 35, 2) := by decide +kernel
theorem dX4_measureFrom_84 : decode cX4_measureFrom 84 = .ok (.if_icmp .ge 102, 3) := by decide +kernel
theorem dX4_measureFrom_87 : decode cX4_measureFrom 87 = .ok (.aload_n 0, 1) := by decide +kernel
theorem dX4_measureFrom_88 : decode cX4_measureFrom 88 = .ok (.getfield 15, 3) := by decide +kernel
theorem dX4_measureFrom_91 : decode cX4_measureFrom 91 = .ok (.iload 6, 2) := by decide +kernel
theorem dX4_measureFrom_93 : decode cX4_measureFrom 93 = .ok (.iaload, 1) := by decide +kernel
theorem dX4_measureFrom_94 : decode cX4_measureFrom 94 = .ok (.istore 7, 2) := by decide +kernel
theorem dX4_measureFrom_96 : decode cX4_measureFrom 96 = .ok (.iconst 0, 1) := by decide +kernel
theorem dX4_measureFrom_97 : decode cX4_measureFrom 97 = .ok (.istore 8, 2) := by decide +kernel
theorem dX4_measureFrom_99 : decode cX4_measureFrom 99 = .ok (.iload 8, 2) := by decide +kernel
theorem dX4_measureFrom_101 : decode cX4_measureFrom 101 = .ok (.iconst 4, 1) := by decide +kernel
theorem dX4_measureFrom_102 : decode cX4_measureFrom 102 = .ok (.if_icmp .ge 78, 3) := by decide +kernel
theorem dX4_measureFrom_105 : decode cX4_measureFrom 105 = .ok (.aload_n 1, 1) := by decide +kernel
theorem dX4_measureFrom_106 : decode cX4_measureFrom 106 = .ok (.iload 7, 2) := by decide +kernel
theorem dX4_measureFrom_108 : decode cX4_measureFrom 108 = .ok (.iload 8, 2) := by decide +kernel
theorem dX4_measureFrom_110 : decode cX4_measureFrom 110 = .ok (.invokevirtual 71, 3) := by decide +kernel
theorem dX4_measureFrom_113 : decode cX4_measureFrom 113 = .ok (.istore 9, 2) := by decide +kernel
theorem dX4_measureFrom_115 : decode cX4_measureFrom 115 = .ok (.iload 9, 2) := by decide +kernel
theorem dX4_measureFrom_117 : decode cX4_measureFrom 117 = .ok (.invokestatic 45, 3) := by decide +kernel
theorem dX4_measureFrom_120 : decode cX4_measureFrom 120 = .ok (.ifCond .eq 54, 3) := by decide +kernel
theorem dX4_measureFrom_123 : decode cX4_measureFrom 123 = .ok (.iload 5, 2) := by decide +kernel
theorem dX4_measureFrom_125 : decode cX4_measureFrom 125 = .ok (.bipush 35, 2) := by decide +kernel
theorem dX4_measureFrom_127 : decode cX4_measureFrom 127 = .ok (.if_icmp .ge 47, 3) := by decide +kernel
theorem dX4_measureFrom_130 : decode cX4_measureFrom 130 = .ok (.aload_n 0, 1) := by decide +kernel
theorem dX4_measureFrom_131 : decode cX4_measureFrom 131 = .ok (.getfield 9, 3) := by decide +kernel
theorem dX4_measureFrom_134 : decode cX4_measureFrom 134 = .ok (.iload_n 3, 1) := by decide +kernel
theorem dX4_measureFrom_135 : decode cX4_measureFrom 135 = .ok (.iload 9, 2) := by decide +kernel
theorem dX4_measureFrom_137 : decode cX4_measureFrom 137 = .ok (.iadd, 1) := by decide +kernel
theorem dX4_measureFrom_138 : decode cX4_measureFrom 138 = .ok (.iaload, 1) := by decide +kernel
theorem dX4_measureFrom_139 : decode cX4_measureFrom 139 = .ok (.bipush (-6), 2) := by decide +kernel
theorem dX4_measureFrom_141 : decode cX4_measureFrom 141 = .ok (.if_icmp .ne 33, 3) := by decide +kernel
theorem dX4_measureFrom_144 : decode cX4_measureFrom 144 = .ok (.aload_n 0, 1) := by decide +kernel
theorem dX4_measureFrom_145 : decode cX4_measureFrom 145 = .ok (.getfield 9, 3) := by decide +kernel
theorem dX4_measureFrom_148 : decode cX4_measureFrom 148 = .ok (.iload_n 3, 1) := by decide +kernel
theorem dX4_measureFrom_149 : decode cX4_measureFrom 149 = .ok (.iload 9, 2) := by decide +kernel
theorem dX4_measureFrom_151 : decode cX4_measureFrom 151 = .ok (.iadd, 1) := by decide +kernel
theorem dX4_measureFrom_152 : decode cX4_measureFrom 152 = .ok (.aload_n 0, 1) := by decide +kernel
theorem dX4_measureFrom_153 : decode cX4_measureFrom 153 = .ok (.iload_n 2, 1) := by decide +kernel
theorem dX4_measureFrom_154 : decode cX4_measureFrom 154 = .ok (.iload 7, 2) := by decide +kernel
theorem dX4_measureFrom_156 : decode cX4_measureFrom 156 = .ok (.invokevirtual 52, 3) := by decide +kernel
theorem dX4_measureFrom_159 : decode cX4_measureFrom 159 = .ok (.iconst 1, 1) := by decide +kernel
theorem dX4_measureFrom_160 : decode cX4_measureFrom 160 = .ok (.iadd, 1) := by decide +kernel
theorem dX4_measureFrom_161 : decode cX4_measureFrom 161 = .ok (.iastore, 1) := by decide +kernel
theorem dX4_measureFrom_162 : decode cX4_measureFrom 162 = .ok (.aload_n 0, 1) := by decide +kernel
theorem dX4_measureFrom_163 : decode cX4_measureFrom 163 = .ok (.getfield 15, 3) := by decide +kernel
theorem dX4_measureFrom_166 : decode cX4_measureFrom 166 = .ok (.iload 5, 2) := by decide +kernel
theorem dX4_measureFrom_168 : decode cX4_measureFrom 168 = .ok (.iload 9, 2) := by decide +kernel
theorem dX4_measureFrom_170 : decode cX4_measureFrom 170 = .ok (.iastore, 1) := by decide +kernel
theorem dX4_measureFrom_171 : decode cX4_measureFrom 171 = .ok (.iinc 5 1, 3) := by decide +kernel
theorem dX4_measureFrom_174 : decode cX4_measureFrom 174 = .ok (.iinc 8 1, 3) := by decide +kernel
theorem dX4_measureFrom_177 : decode cX4_measureFrom 177 = .ok (.goto (-78), 3) := by decide +kernel
theorem dX4_measureFrom_180 : decode cX4_measureFrom 180 = .ok (.iinc 6 1, 3) := by decide +kernel
theorem dX4_measureFrom_183 : decode cX4_measureFrom 183 = .ok (.goto (-110), 3) := by decide +kernel
theorem dX4_measureFrom_186 : decode cX4_measureFrom 186 = .ok (.return_, 1) := by decide +kernel
set_option maxRecDepth 20000 in
theorem ggX4_chooseGoal_X5_isDoor : GoodIn wsX4_chooseGoal wsX5_isDoor := goodIn_r _ [5] (by decide +kernel) (by decide +kernel)
set_option maxRecDepth 20000 in
theorem gX4_chooseGoal_X5_isDoor_n41 : GoodIn wsX4_chooseGoal (wsX5_isDoor) := ggX4_chooseGoal_X5_isDoor
set_option maxRecDepth 20000 in
theorem ggX4_chooseGoal_X4_stepsTo : GoodIn wsX4_chooseGoal wsX4_stepsTo := goodIn_r _ [10, 11, 3, 4, 5, 12, 13, 26, 27, 28, 29, 30, 31] (by decide +kernel) (by decide +kernel)
set_option maxRecDepth 20000 in
theorem gX4_chooseGoal_X4_stepsTo : GoodIn wsX4_chooseGoal (wsV RX4 52 RX4 yX4_stepsTo wsX4_stepsTo) := goodIn_app (goodIn_of _ (by decide +kernel)) ggX4_chooseGoal_X4_stepsTo
theorem dX4_chooseGoal_0 : decode cX4_chooseGoal 0 = .ok (.aload_n 1, 1) := by decide +kernel
theorem dX4_chooseGoal_1 : decode cX4_chooseGoal 1 = .ok (.getfield 74, 3) := by decide +kernel
theorem dX4_chooseGoal_4 : decode cX4_chooseGoal 4 = .ok (.iload_n 2, 1) := by decide +kernel
theorem dX4_chooseGoal_5 : decode cX4_chooseGoal 5 = .ok (.iaload, 1) := by decide +kernel
theorem dX4_chooseGoal_6 : decode cX4_chooseGoal 6 = .ok (.istore_n 3, 1) := by decide +kernel
theorem dX4_chooseGoal_7 : decode cX4_chooseGoal 7 = .ok (.iload_n 3, 1) := by decide +kernel
theorem dX4_chooseGoal_8 : decode cX4_chooseGoal 8 = .ok (.invokestatic 41, 3) := by decide +kernel
theorem dX4_chooseGoal_11 : decode cX4_chooseGoal 11 = .ok (.ifCond .eq 25, 3) := by decide +kernel
theorem dX4_chooseGoal_14 : decode cX4_chooseGoal 14 = .ok (.aload_n 1, 1) := by decide +kernel
theorem dX4_chooseGoal_15 : decode cX4_chooseGoal 15 = .ok (.getfield 77, 3) := by decide +kernel
theorem dX4_chooseGoal_18 : decode cX4_chooseGoal 18 = .ok (.iload_n 3, 1) := by decide +kernel
theorem dX4_chooseGoal_19 : decode cX4_chooseGoal 19 = .ok (.baload, 1) := by decide +kernel
theorem dX4_chooseGoal_20 : decode cX4_chooseGoal 20 = .ok (.ifCond .eq 16, 3) := by decide +kernel
theorem dX4_chooseGoal_23 : decode cX4_chooseGoal 23 = .ok (.aload_n 0, 1) := by decide +kernel
theorem dX4_chooseGoal_24 : decode cX4_chooseGoal 24 = .ok (.iload_n 3, 1) := by decide +kernel
theorem dX4_chooseGoal_25 : decode cX4_chooseGoal 25 = .ok (.iload_n 2, 1) := by decide +kernel
theorem dX4_chooseGoal_26 : decode cX4_chooseGoal 26 = .ok (.invokevirtual 52, 3) := by decide +kernel
theorem dX4_chooseGoal_29 : decode cX4_chooseGoal 29 = .ok (.bipush (-6), 2) := by decide +kernel
theorem dX4_chooseGoal_31 : decode cX4_chooseGoal 31 = .ok (.if_icmp .eq 5, 3) := by decide +kernel
theorem dX4_chooseGoal_34 : decode cX4_chooseGoal 34 = .ok (.iload_n 3, 1) := by decide +kernel
theorem dX4_chooseGoal_35 : decode cX4_chooseGoal 35 = .ok (.ireturn, 1) := by decide +kernel
theorem dX4_chooseGoal_36 : decode cX4_chooseGoal 36 = .ok (.bipush (-6), 2) := by decide +kernel
theorem dX4_chooseGoal_38 : decode cX4_chooseGoal 38 = .ok (.istore 4, 2) := by decide +kernel
theorem dX4_chooseGoal_40 : decode cX4_chooseGoal 40 = .ok (.iconst 0, 1) := by decide +kernel
theorem dX4_chooseGoal_41 : decode cX4_chooseGoal 41 = .ok (.istore 5, 2) := by decide +kernel
theorem dX4_chooseGoal_43 : decode cX4_chooseGoal 43 = .ok (.iload 5, 2) := by decide +kernel
theorem dX4_chooseGoal_45 : decode cX4_chooseGoal 45 = .ok (.iconst 4, 1) := by decide +kernel
theorem dX4_chooseGoal_46 : decode cX4_chooseGoal 46 = .ok (.if_icmp .ge 58, 3) := by decide +kernel
theorem dX4_chooseGoal_49 : decode cX4_chooseGoal 49 = .ok (.aload_n 0, 1) := by decide +kernel
theorem dX4_chooseGoal_50 : decode cX4_chooseGoal 50 = .ok (.iload 5, 2) := by decide +kernel
theorem dX4_chooseGoal_52 : decode cX4_chooseGoal 52 = .ok (.iload_n 2, 1) := by decide +kernel
theorem dX4_chooseGoal_53 : decode cX4_chooseGoal 53 = .ok (.invokevirtual 52, 3) := by decide +kernel
theorem dX4_chooseGoal_56 : decode cX4_chooseGoal 56 = .ok (.istore 6, 2) := by decide +kernel
theorem dX4_chooseGoal_58 : decode cX4_chooseGoal 58 = .ok (.aload_n 1, 1) := by decide +kernel
theorem dX4_chooseGoal_59 : decode cX4_chooseGoal 59 = .ok (.getfield 77, 3) := by decide +kernel
theorem dX4_chooseGoal_62 : decode cX4_chooseGoal 62 = .ok (.iload 5, 2) := by decide +kernel
theorem dX4_chooseGoal_64 : decode cX4_chooseGoal 64 = .ok (.baload, 1) := by decide +kernel
theorem dX4_chooseGoal_65 : decode cX4_chooseGoal 65 = .ok (.ifCond .eq 33, 3) := by decide +kernel
theorem dX4_chooseGoal_68 : decode cX4_chooseGoal 68 = .ok (.iload 6, 2) := by decide +kernel
theorem dX4_chooseGoal_70 : decode cX4_chooseGoal 70 = .ok (.bipush (-6), 2) := by decide +kernel
theorem dX4_chooseGoal_72 : decode cX4_chooseGoal 72 = .ok (.if_icmp .eq 26, 3) := by decide +kernel
theorem dX4_chooseGoal_75 : decode cX4_chooseGoal 75 = .ok (.iload 4, 2) := by decide +kernel
theorem dX4_chooseGoal_77 : decode cX4_chooseGoal 77 = .ok (.bipush (-6), 2) := by decide +kernel
theorem dX4_chooseGoal_79 : decode cX4_chooseGoal 79 = .ok (.if_icmp .eq 15, 3) := by decide +kernel
theorem dX4_chooseGoal_82 : decode cX4_chooseGoal 82 = .ok (.iload 6, 2) := by decide +kernel
theorem dX4_chooseGoal_84 : decode cX4_chooseGoal 84 = .ok (.aload_n 0, 1) := by decide +kernel
theorem dX4_chooseGoal_85 : decode cX4_chooseGoal 85 = .ok (.iload 4, 2) := by decide +kernel
theorem dX4_chooseGoal_87 : decode cX4_chooseGoal 87 = .ok (.iload_n 2, 1) := by decide +kernel
theorem dX4_chooseGoal_88 : decode cX4_chooseGoal 88 = .ok (.invokevirtual 52, 3) := by decide +kernel
theorem dX4_chooseGoal_91 : decode cX4_chooseGoal 91 = .ok (.if_icmp .ge 7, 3) := by decide +kernel
theorem dX4_chooseGoal_94 : decode cX4_chooseGoal 94 = .ok (.iload 5, 2) := by decide +kernel
theorem dX4_chooseGoal_96 : decode cX4_chooseGoal 96 = .ok (.istore 4, 2) := by decide +kernel
theorem dX4_chooseGoal_98 : decode cX4_chooseGoal 98 = .ok (.iinc 5 1, 3) := by decide +kernel
theorem dX4_chooseGoal_101 : decode cX4_chooseGoal 101 = .ok (.goto (-58), 3) := by decide +kernel
theorem dX4_chooseGoal_104 : decode cX4_chooseGoal 104 = .ok (.iload 4, 2) := by decide +kernel
theorem dX4_chooseGoal_106 : decode cX4_chooseGoal 106 = .ok (.ireturn, 1) := by decide +kernel
set_option maxRecDepth 20000 in
theorem ggX4_chooseNext_X4_stepsToGoal : GoodIn wsX4_chooseNext wsX4_stepsToGoal := goodIn_r _ [5, 6, 7, 8, 4, 9, 10, 11, 12, 13, 14, 15, 16, 17, 18, 19, 20, 38, 39, 40, 41, 42, 43] (by decide +kernel) (by decide +kernel)
set_option maxRecDepth 20000 in
theorem gX4_chooseNext_X4_stepsToGoal : GoodIn wsX4_chooseNext (wsV RX4 81 RX4 yX4_stepsToGoal wsX4_stepsToGoal) := goodIn_app (goodIn_of _ (by decide +kernel)) ggX4_chooseNext_X4_stepsToGoal
set_option maxRecDepth 20000 in
theorem ggX4_chooseNext_X1_stepFrom : GoodIn wsX4_chooseNext wsX1_stepFrom := goodIn_r _ [25, 26, 27, 12, 28, 29, 30, 31, 32, 33, 34, 35, 36, 37, 44, 45, 46, 47, 48, 49, 50, 51, 52, 53, 54, 55] (by decide +kernel) (by decide +kernel)
set_option maxRecDepth 20000 in
theorem gX4_chooseNext_X1_stepFrom : GoodIn wsX4_chooseNext (wsV RX4 71 RX1 yX1_stepFrom wsX1_stepFrom) := goodIn_app (goodIn_of _ (by decide +kernel)) ggX4_chooseNext_X1_stepFrom
set_option maxRecDepth 20000 in
theorem ggX4_chooseNext_X4_goalOf : GoodIn wsX4_chooseNext wsX4_goalOf := goodIn_r _ [9, 10, 11, 12, 13, 38, 39, 40, 41, 42, 43] (by decide +kernel) (by decide +kernel)
set_option maxRecDepth 20000 in
theorem gX4_chooseNext_X4_goalOf : GoodIn wsX4_chooseNext (wsV RX4 48 RX4 yX4_goalOf wsX4_goalOf) := goodIn_app (goodIn_of _ (by decide +kernel)) ggX4_chooseNext_X4_goalOf
set_option maxRecDepth 20000 in
theorem ggX4_chooseNext_X4_stepsTo : GoodIn wsX4_chooseNext wsX4_stepsTo := goodIn_r _ [17, 18, 19, 12, 20, 11, 13, 38, 39, 40, 41, 42, 43] (by decide +kernel) (by decide +kernel)
set_option maxRecDepth 20000 in
theorem gX4_chooseNext_X4_stepsTo : GoodIn wsX4_chooseNext (wsV RX4 52 RX4 yX4_stepsTo wsX4_stepsTo) := goodIn_app (goodIn_of _ (by decide +kernel)) ggX4_chooseNext_X4_stepsTo
theorem dX4_chooseNext_0 : decode cX4_chooseNext 0 = .ok (.aload_n 0, 1) := by decide +kernel
theorem dX4_chooseNext_1 : decode cX4_chooseNext 1 = .ok (.iload_n 2, 1) := by decide +kernel
theorem dX4_chooseNext_2 : decode cX4_chooseNext 2 = .ok (.invokevirtual 81, 3) := by decide +kernel
theorem dX4_chooseNext_5 : decode cX4_chooseNext 5 = .ok (.istore_n 3, 1) := by decide +kernel
theorem dX4_chooseNext_6 : decode cX4_chooseNext 6 = .ok (.iload_n 3, 1) := by decide +kernel
theorem dX4_chooseNext_7 : decode cX4_chooseNext 7 = .ok (.iconst 1, 1) := by decide +kernel
theorem dX4_chooseNext_8 : decode cX4_chooseNext 8 = .ok (.if_icmp .ge 6, 3) := by decide +kernel
theorem dX4_chooseNext_11 : decode cX4_chooseNext 11 = .ok (.bipush (-6), 2) := by decide +kernel
theorem dX4_chooseNext_13 : decode cX4_chooseNext 13 = .ok (.ireturn, 1) := by decide +kernel
theorem dX4_chooseNext_14 : decode cX4_chooseNext 14 = .ok (.iconst 0, 1) := by decide +kernel
theorem dX4_chooseNext_15 : decode cX4_chooseNext 15 = .ok (.istore 4, 2) := by decide +kernel
theorem dX4_chooseNext_17 : decode cX4_chooseNext 17 = .ok (.iload 4, 2) := by decide +kernel
theorem dX4_chooseNext_19 : decode cX4_chooseNext 19 = .ok (.iconst 4, 1) := by decide +kernel
theorem dX4_chooseNext_20 : decode cX4_chooseNext 20 = .ok (.if_icmp .ge 45, 3) := by decide +kernel
theorem dX4_chooseNext_23 : decode cX4_chooseNext 23 = .ok (.aload_n 1, 1) := by decide +kernel
theorem dX4_chooseNext_24 : decode cX4_chooseNext 24 = .ok (.iload_n 2, 1) := by decide +kernel
theorem dX4_chooseNext_25 : decode cX4_chooseNext 25 = .ok (.iload 4, 2) := by decide +kernel
theorem dX4_chooseNext_27 : decode cX4_chooseNext 27 = .ok (.invokevirtual 71, 3) := by decide +kernel
theorem dX4_chooseNext_30 : decode cX4_chooseNext 30 = .ok (.istore 5, 2) := by decide +kernel
theorem dX4_chooseNext_32 : decode cX4_chooseNext 32 = .ok (.iload 5, 2) := by decide +kernel
theorem dX4_chooseNext_34 : decode cX4_chooseNext 34 = .ok (.bipush (-6), 2) := by decide +kernel
theorem dX4_chooseNext_36 : decode cX4_chooseNext 36 = .ok (.if_icmp .eq 23, 3) := by decide +kernel
theorem dX4_chooseNext_39 : decode cX4_chooseNext 39 = .ok (.aload_n 0, 1) := by decide +kernel
theorem dX4_chooseNext_40 : decode cX4_chooseNext 40 = .ok (.aload_n 0, 1) := by decide +kernel
theorem dX4_chooseNext_41 : decode cX4_chooseNext 41 = .ok (.iload_n 2, 1) := by decide +kernel
theorem dX4_chooseNext_42 : decode cX4_chooseNext 42 = .ok (.invokevirtual 48, 3) := by decide +kernel
theorem dX4_chooseNext_45 : decode cX4_chooseNext 45 = .ok (.iload 5, 2) := by decide +kernel
theorem dX4_chooseNext_47 : decode cX4_chooseNext 47 = .ok (.invokevirtual 52, 3) := by decide +kernel
theorem dX4_chooseNext_50 : decode cX4_chooseNext 50 = .ok (.iload_n 3, 1) := by decide +kernel
theorem dX4_chooseNext_51 : decode cX4_chooseNext 51 = .ok (.iconst 1, 1) := by decide +kernel
theorem dX4_chooseNext_52 : decode cX4_chooseNext 52 = .ok (.isub, 1) := by decide +kernel
theorem dX4_chooseNext_53 : decode cX4_chooseNext 53 = .ok (.if_icmp .ne 6, 3) := by decide +kernel
theorem dX4_chooseNext_56 : decode cX4_chooseNext 56 = .ok (.iload 5, 2) := by decide +kernel
theorem dX4_chooseNext_58 : decode cX4_chooseNext 58 = .ok (.ireturn, 1) := by decide +kernel
theorem dX4_chooseNext_59 : decode cX4_chooseNext 59 = .ok (.iinc 4 1, 3) := by decide +kernel
theorem dX4_chooseNext_62 : decode cX4_chooseNext 62 = .ok (.goto (-45), 3) := by decide +kernel
theorem dX4_chooseNext_65 : decode cX4_chooseNext 65 = .ok (.bipush (-6), 2) := by decide +kernel
theorem dX4_chooseNext_67 : decode cX4_chooseNext 67 = .ok (.ireturn, 1) := by decide +kernel
set_option maxRecDepth 20000 in
theorem ggX4_orderTurns_X4_stepsToGoal : GoodIn wsX4_orderTurns wsX4_stepsToGoal := goodIn_r _ [7, 8, 9, 10, 6, 11, 12, 13, 14, 15, 16, 17, 18, 19, 20, 21, 22, 23, 24, 25, 26, 27, 28] (by decide +kernel) (by decide +kernel)
set_option maxRecDepth 20000 in
theorem gX4_orderTurns_X4_stepsToGoal : GoodIn wsX4_orderTurns (wsV RX4 81 RX4 yX4_stepsToGoal wsX4_stepsToGoal) := goodIn_app (goodIn_of _ (by decide +kernel)) ggX4_orderTurns_X4_stepsToGoal
theorem dX4_orderTurns_0 : decode cX4_orderTurns 0 = .ok (.aload_n 0, 1) := by decide +kernel
theorem dX4_orderTurns_1 : decode cX4_orderTurns 1 = .ok (.iconst 0, 1) := by decide +kernel
theorem dX4_orderTurns_2 : decode cX4_orderTurns 2 = .ok (.putfield 56, 3) := by decide +kernel
theorem dX4_orderTurns_5 : decode cX4_orderTurns 5 = .ok (.iconst 1, 1) := by decide +kernel
theorem dX4_orderTurns_6 : decode cX4_orderTurns 6 = .ok (.istore_n 1, 1) := by decide +kernel
theorem dX4_orderTurns_7 : decode cX4_orderTurns 7 = .ok (.iload_n 1, 1) := by decide +kernel
theorem dX4_orderTurns_8 : decode cX4_orderTurns 8 = .ok (.bipush 35, 2) := by decide +kernel
theorem dX4_orderTurns_10 : decode cX4_orderTurns 10 = .ok (.if_icmp .ge 61, 3) := by decide +kernel
theorem dX4_orderTurns_13 : decode cX4_orderTurns 13 = .ok (.iconst 0, 1) := by decide +kernel
theorem dX4_orderTurns_14 : decode cX4_orderTurns 14 = .ok (.istore_n 2, 1) := by decide +kernel
theorem dX4_orderTurns_15 : decode cX4_orderTurns 15 = .ok (.iload_n 2, 1) := by decide +kernel
theorem dX4_orderTurns_16 : decode cX4_orderTurns 16 = .ok (.bipush 35, 2) := by decide +kernel
theorem dX4_orderTurns_18 : decode cX4_orderTurns 18 = .ok (.if_icmp .ge 47, 3) := by decide +kernel
theorem dX4_orderTurns_21 : decode cX4_orderTurns 21 = .ok (.aload_n 0, 1) := by decide +kernel
theorem dX4_orderTurns_22 : decode cX4_orderTurns 22 = .ok (.iload_n 2, 1) := by decide +kernel
theorem dX4_orderTurns_23 : decode cX4_orderTurns 23 = .ok (.invokevirtual 81, 3) := by decide +kernel
theorem dX4_orderTurns_26 : decode cX4_orderTurns 26 = .ok (.iload_n 1, 1) := by decide +kernel
theorem dX4_orderTurns_27 : decode cX4_orderTurns 27 = .ok (.if_icmp .ne 32, 3) := by decide +kernel
theorem dX4_orderTurns_30 : decode cX4_orderTurns 30 = .ok (.aload_n 0, 1) := by decide +kernel
theorem dX4_orderTurns_31 : decode cX4_orderTurns 31 = .ok (.getfield 56, 3) := by decide +kernel
theorem dX4_orderTurns_34 : decode cX4_orderTurns 34 = .ok (.bipush 35, 2) := by decide +kernel
theorem dX4_orderTurns_36 : decode cX4_orderTurns 36 = .ok (.if_icmp .ge 23, 3) := by decide +kernel
theorem dX4_orderTurns_39 : decode cX4_orderTurns 39 = .ok (.aload_n 0, 1) := by decide +kernel
theorem dX4_orderTurns_40 : decode cX4_orderTurns 40 = .ok (.getfield 24, 3) := by decide +kernel
theorem dX4_orderTurns_43 : decode cX4_orderTurns 43 = .ok (.aload_n 0, 1) := by decide +kernel
theorem dX4_orderTurns_44 : decode cX4_orderTurns 44 = .ok (.getfield 56, 3) := by decide +kernel
theorem dX4_orderTurns_47 : decode cX4_orderTurns 47 = .ok (.iload_n 2, 1) := by decide +kernel
theorem dX4_orderTurns_48 : decode cX4_orderTurns 48 = .ok (.iastore, 1) := by decide +kernel
theorem dX4_orderTurns_49 : decode cX4_orderTurns 49 = .ok (.aload_n 0, 1) := by decide +kernel
theorem dX4_orderTurns_50 : decode cX4_orderTurns 50 = .ok (.dup, 1) := by decide +kernel
theorem dX4_orderTurns_51 : decode cX4_orderTurns 51 = .ok (.getfield 56, 3) := by decide +kernel
theorem dX4_orderTurns_54 : decode cX4_orderTurns 54 = .ok (.iconst 1, 1) := by decide +kernel
theorem dX4_orderTurns_55 : decode cX4_orderTurns 55 = .ok (.iadd, 1) := by decide +kernel
theorem dX4_orderTurns_56 : decode cX4_orderTurns 56 = .ok (.putfield 56, 3) := by decide +kernel
theorem dX4_orderTurns_59 : decode cX4_orderTurns 59 = .ok (.iinc 2 1, 3) := by decide +kernel
theorem dX4_orderTurns_62 : decode cX4_orderTurns 62 = .ok (.goto (-47), 3) := by decide +kernel
theorem dX4_orderTurns_65 : decode cX4_orderTurns 65 = .ok (.iinc 1 1, 3) := by decide +kernel
theorem dX4_orderTurns_68 : decode cX4_orderTurns 68 = .ok (.goto (-61), 3) := by decide +kernel
theorem dX4_orderTurns_71 : decode cX4_orderTurns 71 = .ok (.return_, 1) := by decide +kernel
theorem dJ6_bitCount_0f7a4_0 : decode cJ6_bitCount_0f7a4 0 = .ok (.iload_n 0, 1) := by decide +kernel
theorem dJ6_bitCount_0f7a4_1 : decode cJ6_bitCount_0f7a4 1 = .ok (.iload_n 0, 1) := by decide +kernel
theorem dJ6_bitCount_0f7a4_2 : decode cJ6_bitCount_0f7a4 2 = .ok (.iconst 1, 1) := by decide +kernel
theorem dJ6_bitCount_0f7a4_3 : decode cJ6_bitCount_0f7a4 3 = .ok (.iushr, 1) := by decide +kernel
theorem dJ6_bitCount_0f7a4_4 : decode cJ6_bitCount_0f7a4 4 = .ok (.ldc_w 265, 3) := by decide +kernel
theorem dJ6_bitCount_0f7a4_7 : decode cJ6_bitCount_0f7a4 7 = .ok (.iand, 1) := by decide +kernel
theorem dJ6_bitCount_0f7a4_8 : decode cJ6_bitCount_0f7a4 8 = .ok (.isub, 1) := by decide +kernel
theorem dJ6_bitCount_0f7a4_9 : decode cJ6_bitCount_0f7a4 9 = .ok (.istore_n 0, 1) := by decide +kernel
theorem dJ6_bitCount_0f7a4_10 : decode cJ6_bitCount_0f7a4 10 = .ok (.iload_n 0, 1) := by decide +kernel
theorem dJ6_bitCount_0f7a4_11 : decode cJ6_bitCount_0f7a4 11 = .ok (.ldc_w 266, 3) := by decide +kernel
theorem dJ6_bitCount_0f7a4_14 : decode cJ6_bitCount_0f7a4 14 = .ok (.iand, 1) := by decide +kernel
theorem dJ6_bitCount_0f7a4_15 : decode cJ6_bitCount_0f7a4 15 = .ok (.iload_n 0, 1) := by decide +kernel
theorem dJ6_bitCount_0f7a4_16 : decode cJ6_bitCount_0f7a4 16 = .ok (.iconst 2, 1) := by decide +kernel
theorem dJ6_bitCount_0f7a4_17 : decode cJ6_bitCount_0f7a4 17 = .ok (.iushr, 1) := by decide +kernel
theorem dJ6_bitCount_0f7a4_18 : decode cJ6_bitCount_0f7a4 18 = .ok (.ldc_w 266, 3) := by decide +kernel
theorem dJ6_bitCount_0f7a4_21 : decode cJ6_bitCount_0f7a4 21 = .ok (.iand, 1) := by decide +kernel
theorem dJ6_bitCount_0f7a4_22 : decode cJ6_bitCount_0f7a4 22 = .ok (.iadd, 1) := by decide +kernel
theorem dJ6_bitCount_0f7a4_23 : decode cJ6_bitCount_0f7a4 23 = .ok (.istore_n 0, 1) := by decide +kernel
theorem dJ6_bitCount_0f7a4_24 : decode cJ6_bitCount_0f7a4 24 = .ok (.iload_n 0, 1) := by decide +kernel
theorem dJ6_bitCount_0f7a4_25 : decode cJ6_bitCount_0f7a4 25 = .ok (.iload_n 0, 1) := by decide +kernel
theorem dJ6_bitCount_0f7a4_26 : decode cJ6_bitCount_0f7a4 26 = .ok (.iconst 4, 1) := by decide +kernel
theorem dJ6_bitCount_0f7a4_27 : decode cJ6_bitCount_0f7a4 27 = .ok (.iushr, 1) := by decide +kernel
theorem dJ6_bitCount_0f7a4_28 : decode cJ6_bitCount_0f7a4 28 = .ok (.iadd, 1) := by decide +kernel
theorem dJ6_bitCount_0f7a4_29 : decode cJ6_bitCount_0f7a4 29 = .ok (.ldc_w 267, 3) := by decide +kernel
theorem dJ6_bitCount_0f7a4_32 : decode cJ6_bitCount_0f7a4 32 = .ok (.iand, 1) := by decide +kernel
theorem dJ6_bitCount_0f7a4_33 : decode cJ6_bitCount_0f7a4 33 = .ok (.istore_n 0, 1) := by decide +kernel
theorem dJ6_bitCount_0f7a4_34 : decode cJ6_bitCount_0f7a4 34 = .ok (.iload_n 0, 1) := by decide +kernel
theorem dJ6_bitCount_0f7a4_35 : decode cJ6_bitCount_0f7a4 35 = .ok (.iload_n 0, 1) := by decide +kernel
theorem dJ6_bitCount_0f7a4_36 : decode cJ6_bitCount_0f7a4 36 = .ok (.bipush 8, 2) := by decide +kernel
theorem dJ6_bitCount_0f7a4_38 : decode cJ6_bitCount_0f7a4 38 = .ok (.iushr, 1) := by decide +kernel
theorem dJ6_bitCount_0f7a4_39 : decode cJ6_bitCount_0f7a4 39 = .ok (.iadd, 1) := by decide +kernel
theorem dJ6_bitCount_0f7a4_40 : decode cJ6_bitCount_0f7a4 40 = .ok (.istore_n 0, 1) := by decide +kernel
theorem dJ6_bitCount_0f7a4_41 : decode cJ6_bitCount_0f7a4 41 = .ok (.iload_n 0, 1) := by decide +kernel
theorem dJ6_bitCount_0f7a4_42 : decode cJ6_bitCount_0f7a4 42 = .ok (.iload_n 0, 1) := by decide +kernel
theorem dJ6_bitCount_0f7a4_43 : decode cJ6_bitCount_0f7a4 43 = .ok (.bipush 16, 2) := by decide +kernel
theorem dJ6_bitCount_0f7a4_45 : decode cJ6_bitCount_0f7a4 45 = .ok (.iushr, 1) := by decide +kernel
theorem dJ6_bitCount_0f7a4_46 : decode cJ6_bitCount_0f7a4 46 = .ok (.iadd, 1) := by decide +kernel
theorem dJ6_bitCount_0f7a4_47 : decode cJ6_bitCount_0f7a4 47 = .ok (.istore_n 0, 1) := by decide +kernel
theorem dJ6_bitCount_0f7a4_48 : decode cJ6_bitCount_0f7a4 48 = .ok (.iload_n 0, 1) := by decide +kernel
theorem dJ6_bitCount_0f7a4_49 : decode cJ6_bitCount_0f7a4 49 = .ok (.bipush 63, 2) := by decide +kernel
theorem dJ6_bitCount_0f7a4_51 : decode cJ6_bitCount_0f7a4 51 = .ok (.iand, 1) := by decide +kernel
theorem dJ6_bitCount_0f7a4_52 : decode cJ6_bitCount_0f7a4 52 = .ok (.ireturn, 1) := by decide +kernel
theorem dJ9_max_7cf53_0 : decode cJ9_max_7cf53 0 = .ok (.iload_n 0, 1) := by decide +kernel
theorem dJ9_max_7cf53_1 : decode cJ9_max_7cf53 1 = .ok (.iload_n 1, 1) := by decide +kernel
theorem dJ9_max_7cf53_2 : decode cJ9_max_7cf53 2 = .ok (.if_icmp .lt 7, 3) := by decide +kernel
theorem dJ9_max_7cf53_5 : decode cJ9_max_7cf53 5 = .ok (.iload_n 0, 1) := by decide +kernel
theorem dJ9_max_7cf53_6 : decode cJ9_max_7cf53 6 = .ok (.goto 4, 3) := by decide +kernel
theorem dJ9_max_7cf53_9 : decode cJ9_max_7cf53 9 = .ok (.iload_n 1, 1) := by decide +kernel
theorem dJ9_max_7cf53_10 : decode cJ9_max_7cf53 10 = .ok (.ireturn, 1) := by decide +kernel
theorem dJ9_min_7cf53_0 : decode cJ9_min_7cf53 0 = .ok (.iload_n 0, 1) := by decide +kernel
theorem dJ9_min_7cf53_1 : decode cJ9_min_7cf53 1 = .ok (.iload_n 1, 1) := by decide +kernel
theorem dJ9_min_7cf53_2 : decode cJ9_min_7cf53 2 = .ok (.if_icmp .gt 7, 3) := by decide +kernel
theorem dJ9_min_7cf53_5 : decode cJ9_min_7cf53 5 = .ok (.iload_n 0, 1) := by decide +kernel
theorem dJ9_min_7cf53_6 : decode cJ9_min_7cf53 6 = .ok (.goto 4, 3) := by decide +kernel
theorem dJ9_min_7cf53_9 : decode cJ9_min_7cf53 9 = .ok (.iload_n 1, 1) := by decide +kernel
theorem dJ9_min_7cf53_10 : decode cJ9_min_7cf53 10 = .ok (.ireturn, 1) := by decide +kernel
end
section
set_option maxRecDepth 20000 in
theorem ggX5_init_X1_init : GoodIn wsX5_init wsX1_init := goodIn_r _ [30, 31, 2, 3, 32, 33, 34, 35, 26, 36, 37, 38, 39, 40, 67, 68, 69, 70, 71, 72, 73, 74, 75, 76, 77, 78] (by decide +kernel) (by decide +kernel)
set_option maxRecDepth 20000 in
theorem gX5_init_X1_init : GoodIn wsX5_init (wsX1_init) := ggX5_init_X1_init
set_option maxRecDepth 20000 in
theorem ggX5_init_X4_init : GoodIn wsX5_init wsX4_init := goodIn_r _ [42, 43, 2, 3, 33, 44, 45, 46, 47, 48, 89, 90, 91, 92, 93, 94] (by decide +kernel) (by decide +kernel)
set_option maxRecDepth 20000 in
theorem gX5_init_X4_init_n18 : GoodIn wsX5_init (wsX4_init) := ggX5_init_X4_init
set_option maxRecDepth 20000 in
theorem ggX5_init_X2_init : GoodIn wsX5_init wsX2_init := goodIn_r _ [50, 51, 2, 3, 33, 52, 95] (by decide +kernel) (by decide +kernel)
set_option maxRecDepth 20000 in
theorem gX5_init_X2_init_n25 : GoodIn wsX5_init (wsX2_init) := ggX5_init_X2_init
set_option maxRecDepth 20000 in
theorem ggX5_init_X0_init : GoodIn wsX5_init wsX0_init := goodIn_r _ [54, 55, 2, 3, 56, 5, 6, 57, 58, 9, 10, 59, 60, 13, 14, 61, 62, 29, 30, 31, 32, 33, 34, 35, 26, 36, 37, 38, 39, 40, 41, 42, 43, 44, 45, 46, 47, 48, 49, 50, 51, 52, 67, 68, 69, 70, 71, 72, 73, 74, 75, 76, 77, 78, 96, 97, 98, 89, 90, 91, 92, 93, 94, 95] (by decide +kernel) (by decide +kernel)
set_option maxRecDepth 20000 in
theorem gX5_init_X0_init_n32 : GoodIn wsX5_init (wsX0_init) := ggX5_init_X0_init
set_option maxRecDepth 20000 in
theorem ggX5_init_X3_init : GoodIn wsX5_init wsX3_init := goodIn_r _ [64, 65, 2, 3, 33, 66, 99, 100] (by decide +kernel) (by decide +kernel)
set_option maxRecDepth 20000 in
theorem gX5_init_X3_init_n39 : GoodIn wsX5_init (wsX3_init) := ggX5_init_X3_init
theorem dX5_init_0 : decode cX5_init 0 = .ok (.aload_n 0, 1) := by decide +kernel
theorem dX5_init_1 : decode cX5_init 1 = .ok (.invokespecial 3, 3) := by decide +kernel
theorem dX5_init_4 : decode cX5_init 4 = .ok (.aload_n 0, 1) := by decide +kernel
theorem dX5_init_5 : decode cX5_init 5 = .ok (.new 9, 3) := by decide +kernel
theorem dX5_init_8 : decode cX5_init 8 = .ok (.dup, 1) := by decide +kernel
theorem dX5_init_9 : decode cX5_init 9 = .ok (.invokespecial 11, 3) := by decide +kernel
theorem dX5_init_12 : decode cX5_init 12 = .ok (.putfield 12, 3) := by decide +kernel
theorem dX5_init_15 : decode cX5_init 15 = .ok (.aload_n 0, 1) := by decide +kernel
theorem dX5_init_16 : decode cX5_init 16 = .ok (.new 16, 3) := by decide +kernel
theorem dX5_init_19 : decode cX5_init 19 = .ok (.dup, 1) := by decide +kernel
theorem dX5_init_20 : decode cX5_init 20 = .ok (.invokespecial 18, 3) := by decide +kernel
theorem dX5_init_23 : decode cX5_init 23 = .ok (.putfield 19, 3) := by decide +kernel
theorem dX5_init_26 : decode cX5_init 26 = .ok (.aload_n 0, 1) := by decide +kernel
theorem dX5_init_27 : decode cX5_init 27 = .ok (.new 23, 3) := by decide +kernel
theorem dX5_init_30 : decode cX5_init 30 = .ok (.dup, 1) := by decide +kernel
theorem dX5_init_31 : decode cX5_init 31 = .ok (.invokespecial 25, 3) := by decide +kernel
theorem dX5_init_34 : decode cX5_init 34 = .ok (.putfield 26, 3) := by decide +kernel
theorem dX5_init_37 : decode cX5_init 37 = .ok (.aload_n 0, 1) := by decide +kernel
theorem dX5_init_38 : decode cX5_init 38 = .ok (.new 30, 3) := by decide +kernel
theorem dX5_init_41 : decode cX5_init 41 = .ok (.dup, 1) := by decide +kernel
theorem dX5_init_42 : decode cX5_init 42 = .ok (.invokespecial 32, 3) := by decide +kernel
theorem dX5_init_45 : decode cX5_init 45 = .ok (.putfield 33, 3) := by decide +kernel
theorem dX5_init_48 : decode cX5_init 48 = .ok (.aload_n 0, 1) := by decide +kernel
theorem dX5_init_49 : decode cX5_init 49 = .ok (.new 37, 3) := by decide +kernel
theorem dX5_init_52 : decode cX5_init 52 = .ok (.dup, 1) := by decide +kernel
theorem dX5_init_53 : decode cX5_init 53 = .ok (.invokespecial 39, 3) := by decide +kernel
theorem dX5_init_56 : decode cX5_init 56 = .ok (.putfield 40, 3) := by decide +kernel
theorem dX5_init_59 : decode cX5_init 59 = .ok (.aload_n 0, 1) := by decide +kernel
theorem dX5_init_60 : decode cX5_init 60 = .ok (.bipush 6, 2) := by decide +kernel
theorem dX5_init_62 : decode cX5_init 62 = .ok (.anewarray 9, 3) := by decide +kernel
theorem dX5_init_65 : decode cX5_init 65 = .ok (.putfield 44, 3) := by decide +kernel
theorem dX5_init_68 : decode cX5_init 68 = .ok (.aload_n 0, 1) := by decide +kernel
theorem dX5_init_69 : decode cX5_init 69 = .ok (.iconst 2, 1) := by decide +kernel
theorem dX5_init_70 : decode cX5_init 70 = .ok (.anewarray 9, 3) := by decide +kernel
theorem dX5_init_73 : decode cX5_init 73 = .ok (.putfield 48, 3) := by decide +kernel
theorem dX5_init_76 : decode cX5_init 76 = .ok (.aload_n 0, 1) := by decide +kernel
theorem dX5_init_77 : decode cX5_init 77 = .ok (.iconst 2, 1) := by decide +kernel
theorem dX5_init_78 : decode cX5_init 78 = .ok (.newarray .boolean, 2) := by decide +kernel
theorem dX5_init_80 : decode cX5_init 80 = .ok (.putfield 51, 3) := by decide +kernel
theorem dX5_init_83 : decode cX5_init 83 = .ok (.iconst 0, 1) := by decide +kernel
theorem dX5_init_84 : decode cX5_init 84 = .ok (.istore_n 1, 1) := by decide +kernel
theorem dX5_init_85 : decode cX5_init 85 = .ok (.iload_n 1, 1) := by decide +kernel
theorem dX5_init_86 : decode cX5_init 86 = .ok (.bipush 6, 2) := by decide +kernel
theorem dX5_init_88 : decode cX5_init 88 = .ok (.if_icmp .ge 22, 3) := by decide +kernel
theorem dX5_init_91 : decode cX5_init 91 = .ok (.aload_n 0, 1) := by decide +kernel
theorem dX5_init_92 : decode cX5_init 92 = .ok (.getfield 44, 3) := by decide +kernel
theorem dX5_init_95 : decode cX5_init 95 = .ok (.iload_n 1, 1) := by decide +kernel
theorem dX5_init_96 : decode cX5_init 96 = .ok (.new 9, 3) := by decide +kernel
theorem dX5_init_99 : decode cX5_init 99 = .ok (.dup, 1) := by decide +kernel
theorem dX5_init_100 : decode cX5_init 100 = .ok (.invokespecial 11, 3) := by decide +kernel
theorem dX5_init_103 : decode cX5_init 103 = .ok (.aastore, 1) := by decide +kernel
theorem dX5_init_104 : decode cX5_init 104 = .ok (.iinc 1 1, 3) := by decide +kernel
theorem dX5_init_107 : decode cX5_init 107 = .ok (.goto (-22), 3) := by decide +kernel
theorem dX5_init_110 : decode cX5_init 110 = .ok (.iconst 0, 1) := by decide +kernel
theorem dX5_init_111 : decode cX5_init 111 = .ok (.istore_n 1, 1) := by decide +kernel
theorem dX5_init_112 : decode cX5_init 112 = .ok (.iload_n 1, 1) := by decide +kernel
theorem dX5_init_113 : decode cX5_init 113 = .ok (.iconst 2, 1) := by decide +kernel
theorem dX5_init_114 : decode cX5_init 114 = .ok (.if_icmp .ge 22, 3) := by decide +kernel
theorem dX5_init_117 : decode cX5_init 117 = .ok (.aload_n 0, 1) := by decide +kernel
theorem dX5_init_118 : decode cX5_init 118 = .ok (.getfield 48, 3) := by decide +kernel
theorem dX5_init_121 : decode cX5_init 121 = .ok (.iload_n 1, 1) := by decide +kernel
theorem dX5_init_122 : decode cX5_init 122 = .ok (.new 9, 3) := by decide +kernel
theorem dX5_init_125 : decode cX5_init 125 = .ok (.dup, 1) := by decide +kernel
theorem dX5_init_126 : decode cX5_init 126 = .ok (.invokespecial 11, 3) := by decide +kernel
theorem dX5_init_129 : decode cX5_init 129 = .ok (.aastore, 1) := by decide +kernel
theorem dX5_init_130 : decode cX5_init 130 = .ok (.iinc 1 1, 3) := by decide +kernel
theorem dX5_init_133 : decode cX5_init 133 = .ok (.goto (-21), 3) := by decide +kernel
theorem dX5_init_136 : decode cX5_init 136 = .ok (.return_, 1) := by decide +kernel
set_option maxRecDepth 20000 in
theorem ggX5_setRoom_X1_fullestCell : GoodIn wsX5_setRoom wsX1_fullestCell := goodIn_r _ [7, 8, 9, 10, 11, 12, 56, 57, 58, 59, 60, 61, 62, 63, 64, 65, 66, 67] (by decide +kernel) (by decide +kernel)
set_option maxRecDepth 20000 in
theorem gX5_setRoom_X1_fullestCell : GoodIn wsX5_setRoom (wsV RX5 55 RX1 yX1_fullestCell wsX1_fullestCell) := goodIn_app (goodIn_of _ (by decide +kernel)) ggX5_setRoom_X1_fullestCell
set_option maxRecDepth 20000 in
theorem ggX5_setRoom_X5_remember : GoodIn wsX5_setRoom wsX5_remember := goodIn_r _ [17, 18, 1, 19, 20, 21, 11, 22, 23, 24, 25, 16, 26, 27, 28, 29, 30, 31, 32, 33, 6, 34, 35, 36, 37, 38, 39, 8, 40, 41, 42, 43, 44, 45, 46, 47, 48, 49, 50, 51, 52, 53, 54, 55, 56, 57, 58, 59, 60, 61, 62, 63, 64, 65, 66, 67] (by decide +kernel) (by decide +kernel)
set_option maxRecDepth 20000 in
theorem gX5_setRoom_X5_remember : GoodIn wsX5_setRoom (wsV RX5 59 RX5 yX5_remember wsX5_remember) := goodIn_app (goodIn_of _ (by decide +kernel)) ggX5_setRoom_X5_remember
theorem dX5_setRoom_0 : decode cX5_setRoom 0 = .ok (.iload_n 1, 1) := by decide +kernel
theorem dX5_setRoom_1 : decode cX5_setRoom 1 = .ok (.iconst 1, 1) := by decide +kernel
theorem dX5_setRoom_2 : decode cX5_setRoom 2 = .ok (.if_icmp .lt 9, 3) := by decide +kernel
theorem dX5_setRoom_5 : decode cX5_setRoom 5 = .ok (.iload_n 1, 1) := by decide +kernel
theorem dX5_setRoom_6 : decode cX5_setRoom 6 = .ok (.bipush 20, 2) := by decide +kernel
theorem dX5_setRoom_8 : decode cX5_setRoom 8 = .ok (.if_icmp .le 6, 3) := by decide +kernel
theorem dX5_setRoom_11 : decode cX5_setRoom 11 = .ok (.bipush (-2), 2) := by decide +kernel
theorem dX5_setRoom_13 : decode cX5_setRoom 13 = .ok (.ireturn, 1) := by decide +kernel
theorem dX5_setRoom_14 : decode cX5_setRoom 14 = .ok (.aload_n 0, 1) := by decide +kernel
theorem dX5_setRoom_15 : decode cX5_setRoom 15 = .ok (.getfield 12, 3) := by decide +kernel
theorem dX5_setRoom_18 : decode cX5_setRoom 18 = .ok (.invokevirtual 55, 3) := by decide +kernel
theorem dX5_setRoom_21 : decode cX5_setRoom 21 = .ok (.iload_n 1, 1) := by decide +kernel
theorem dX5_setRoom_22 : decode cX5_setRoom 22 = .ok (.if_icmp .le 6, 3) := by decide +kernel
theorem dX5_setRoom_25 : decode cX5_setRoom 25 = .ok (.bipush (-5), 2) := by decide +kernel
theorem dX5_setRoom_27 : decode cX5_setRoom 27 = .ok (.ireturn, 1) := by decide +kernel
theorem dX5_setRoom_28 : decode cX5_setRoom 28 = .ok (.aload_n 0, 1) := by decide +kernel
theorem dX5_setRoom_29 : decode cX5_setRoom 29 = .ok (.invokevirtual 59, 3) := by decide +kernel
theorem dX5_setRoom_32 : decode cX5_setRoom 32 = .ok (.aload_n 0, 1) := by decide +kernel
theorem dX5_setRoom_33 : decode cX5_setRoom 33 = .ok (.getfield 12, 3) := by decide +kernel
theorem dX5_setRoom_36 : decode cX5_setRoom 36 = .ok (.getfield 62, 3) := by decide +kernel
theorem dX5_setRoom_39 : decode cX5_setRoom 39 = .ok (.istore_n 2, 1) := by decide +kernel
theorem dX5_setRoom_40 : decode cX5_setRoom 40 = .ok (.aload_n 0, 1) := by decide +kernel
theorem dX5_setRoom_41 : decode cX5_setRoom 41 = .ok (.getfield 12, 3) := by decide +kernel
theorem dX5_setRoom_44 : decode cX5_setRoom 44 = .ok (.iload_n 1, 1) := by decide +kernel
theorem dX5_setRoom_45 : decode cX5_setRoom 45 = .ok (.putfield 62, 3) := by decide +kernel
theorem dX5_setRoom_48 : decode cX5_setRoom 48 = .ok (.iload_n 2, 1) := by decide +kernel
theorem dX5_setRoom_49 : decode cX5_setRoom 49 = .ok (.ireturn, 1) := by decide +kernel
set_option maxRecDepth 20000 in
theorem ggX5_rope_X5_isCell : GoodIn wsX5_rope wsX5_isCell := goodIn_r _ [6] (by decide +kernel) (by decide +kernel)
set_option maxRecDepth 20000 in
theorem gX5_rope_X5_isCell : GoodIn wsX5_rope (va_wsS RX5 66 yX5_isCell wsX5_isCell) := goodIn_app (goodIn_of _ (by decide +kernel)) ggX5_rope_X5_isCell
set_option maxRecDepth 20000 in
theorem ggX5_rope_X5_isSide : GoodIn wsX5_rope wsX5_isSide := goodIn_r _ [9] (by decide +kernel) (by decide +kernel)
set_option maxRecDepth 20000 in
theorem gX5_rope_X5_isSide : GoodIn wsX5_rope (va_wsS RX5 70 yX5_isSide wsX5_isSide) := goodIn_app (goodIn_of _ (by decide +kernel)) ggX5_rope_X5_isSide
set_option maxRecDepth 20000 in
theorem ggX5_rope_X5_edgeAt : GoodIn wsX5_rope wsX5_edgeAt := goodIn_r _ [12, 13, 14, 5, 15, 16, 17, 18, 19, 20, 21, 22] (by decide +kernel) (by decide +kernel)
set_option maxRecDepth 20000 in
theorem gX5_rope_X5_edgeAt : GoodIn wsX5_rope (va_wsS RX5 73 yX5_edgeAt wsX5_edgeAt) := goodIn_app (goodIn_of _ (by decide +kernel)) ggX5_rope_X5_edgeAt
set_option maxRecDepth 20000 in
theorem ggX5_rope_X5_isEdge : GoodIn wsX5_rope wsX5_isEdge := goodIn_r _ [25] (by decide +kernel) (by decide +kernel)
set_option maxRecDepth 20000 in
theorem gX5_rope_X5_isEdge : GoodIn wsX5_rope (va_wsS RX5 77 yX5_isEdge wsX5_isEdge) := goodIn_app (goodIn_of _ (by decide +kernel)) ggX5_rope_X5_isEdge
set_option maxRecDepth 20000 in
theorem ggX5_rope_X1_ropeCount : GoodIn wsX5_rope wsX1_ropeCount := goodIn_r _ [30, 31, 71, 72, 73, 74, 75, 76, 77, 78, 79, 80, 81, 82] (by decide +kernel) (by decide +kernel)
set_option maxRecDepth 20000 in
theorem gX5_rope_X1_ropeCount : GoodIn wsX5_rope (wsV RX5 83 RX1 yX1_ropeCount wsX1_ropeCount) := goodIn_app (goodIn_of _ (by decide +kernel)) ggX5_rope_X1_ropeCount
set_option maxRecDepth 20000 in
theorem ggX5_rope_X5_remember : GoodIn wsX5_rope wsX5_remember := goodIn_r _ [35, 36, 1, 37, 16, 17, 18, 19, 38, 39, 40, 5, 41, 42, 43, 44, 45, 46, 47, 48, 29, 49, 50, 51, 52, 53, 54, 55, 56, 31, 57, 58, 59, 60, 61, 62, 63, 64, 65, 66, 67, 68, 69, 70, 71, 72, 73, 74, 75, 76, 77, 78, 79, 80, 81, 82] (by decide +kernel) (by decide +kernel)
set_option maxRecDepth 20000 in
theorem gX5_rope_X5_remember : GoodIn wsX5_rope (wsV RX5 59 RX5 yX5_remember wsX5_remember) := goodIn_app (goodIn_of _ (by decide +kernel)) ggX5_rope_X5_remember
theorem dX5_rope_0 : decode cX5_rope 0 = .ok (.iload_n 1, 1) := by decide +kernel
theorem dX5_rope_1 : decode cX5_rope 1 = .ok (.invokestatic 66, 3) := by decide +kernel
theorem dX5_rope_4 : decode cX5_rope 4 = .ok (.ifCond .ne 5, 3) := by decide +kernel
theorem dX5_rope_7 : decode cX5_rope 7 = .ok (.iconst (-1), 1) := by decide +kernel
theorem dX5_rope_8 : decode cX5_rope 8 = .ok (.ireturn, 1) := by decide +kernel
theorem dX5_rope_9 : decode cX5_rope 9 = .ok (.iload_n 2, 1) := by decide +kernel
theorem dX5_rope_10 : decode cX5_rope 10 = .ok (.invokestatic 70, 3) := by decide +kernel
theorem dX5_rope_13 : decode cX5_rope 13 = .ok (.ifCond .ne 6, 3) := by decide +kernel
theorem dX5_rope_16 : decode cX5_rope 16 = .ok (.bipush (-2), 2) := by decide +kernel
theorem dX5_rope_18 : decode cX5_rope 18 = .ok (.ireturn, 1) := by decide +kernel
theorem dX5_rope_19 : decode cX5_rope 19 = .ok (.iload_n 1, 1) := by decide +kernel
theorem dX5_rope_20 : decode cX5_rope 20 = .ok (.iload_n 2, 1) := by decide +kernel
theorem dX5_rope_21 : decode cX5_rope 21 = .ok (.invokestatic 73, 3) := by decide +kernel
theorem dX5_rope_24 : decode cX5_rope 24 = .ok (.istore 4, 2) := by decide +kernel
theorem dX5_rope_26 : decode cX5_rope 26 = .ok (.iload 4, 2) := by decide +kernel
theorem dX5_rope_28 : decode cX5_rope 28 = .ok (.invokestatic 77, 3) := by decide +kernel
theorem dX5_rope_31 : decode cX5_rope 31 = .ok (.ifCond .eq 17, 3) := by decide +kernel
theorem dX5_rope_34 : decode cX5_rope 34 = .ok (.aload_n 0, 1) := by decide +kernel
theorem dX5_rope_35 : decode cX5_rope 35 = .ok (.getfield 12, 3) := by decide +kernel
theorem dX5_rope_38 : decode cX5_rope 38 = .ok (.getfield 80, 3) := by decide +kernel
theorem dX5_rope_41 : decode cX5_rope 41 = .ok (.iload 4, 2) := by decide +kernel
theorem dX5_rope_43 : decode cX5_rope 43 = .ok (.baload, 1) := by decide +kernel
theorem dX5_rope_44 : decode cX5_rope 44 = .ok (.iload_n 3, 1) := by decide +kernel
theorem dX5_rope_45 : decode cX5_rope 45 = .ok (.if_icmp .ne 6, 3) := by decide +kernel
theorem dX5_rope_48 : decode cX5_rope 48 = .ok (.bipush (-5), 2) := by decide +kernel
theorem dX5_rope_50 : decode cX5_rope 50 = .ok (.ireturn, 1) := by decide +kernel
theorem dX5_rope_51 : decode cX5_rope 51 = .ok (.iload_n 3, 1) := by decide +kernel
theorem dX5_rope_52 : decode cX5_rope 52 = .ok (.ifCond .eq 18, 3) := by decide +kernel
theorem dX5_rope_55 : decode cX5_rope 55 = .ok (.aload_n 0, 1) := by decide +kernel
theorem dX5_rope_56 : decode cX5_rope 56 = .ok (.getfield 12, 3) := by decide +kernel
theorem dX5_rope_59 : decode cX5_rope 59 = .ok (.invokevirtual 83, 3) := by decide +kernel
theorem dX5_rope_62 : decode cX5_rope 62 = .ok (.bipush 24, 2) := by decide +kernel
theorem dX5_rope_64 : decode cX5_rope 64 = .ok (.if_icmp .lt 6, 3) := by decide +kernel
theorem dX5_rope_67 : decode cX5_rope 67 = .ok (.bipush (-4), 2) := by decide +kernel
theorem dX5_rope_69 : decode cX5_rope 69 = .ok (.ireturn, 1) := by decide +kernel
theorem dX5_rope_70 : decode cX5_rope 70 = .ok (.aload_n 0, 1) := by decide +kernel
theorem dX5_rope_71 : decode cX5_rope 71 = .ok (.invokevirtual 59, 3) := by decide +kernel
theorem dX5_rope_74 : decode cX5_rope 74 = .ok (.aload_n 0, 1) := by decide +kernel
theorem dX5_rope_75 : decode cX5_rope 75 = .ok (.getfield 12, 3) := by decide +kernel
theorem dX5_rope_78 : decode cX5_rope 78 = .ok (.getfield 80, 3) := by decide +kernel
theorem dX5_rope_81 : decode cX5_rope 81 = .ok (.iload 4, 2) := by decide +kernel
theorem dX5_rope_83 : decode cX5_rope 83 = .ok (.iload_n 3, 1) := by decide +kernel
theorem dX5_rope_84 : decode cX5_rope 84 = .ok (.bastore, 1) := by decide +kernel
theorem dX5_rope_85 : decode cX5_rope 85 = .ok (.aload_n 0, 1) := by decide +kernel
theorem dX5_rope_86 : decode cX5_rope 86 = .ok (.getfield 12, 3) := by decide +kernel
theorem dX5_rope_89 : decode cX5_rope 89 = .ok (.invokevirtual 83, 3) := by decide +kernel
theorem dX5_rope_92 : decode cX5_rope 92 = .ok (.ireturn, 1) := by decide +kernel
set_option maxRecDepth 20000 in
theorem ggX5_door_X5_isDoor : GoodIn wsX5_door wsX5_isDoor := goodIn_r _ [7] (by decide +kernel) (by decide +kernel)
set_option maxRecDepth 20000 in
theorem gX5_door_X5_isDoor : GoodIn wsX5_door (va_wsS RX5 86 yX5_isDoor wsX5_isDoor) := goodIn_app (goodIn_of _ (by decide +kernel)) ggX5_door_X5_isDoor
set_option maxRecDepth 20000 in
theorem ggX5_door_X5_isCell : GoodIn wsX5_door wsX5_isCell := goodIn_r _ [10] (by decide +kernel) (by decide +kernel)
set_option maxRecDepth 20000 in
theorem gX5_door_X5_isCell : GoodIn wsX5_door (va_wsS RX5 66 yX5_isCell wsX5_isCell) := goodIn_app (goodIn_of _ (by decide +kernel)) ggX5_door_X5_isCell
set_option maxRecDepth 20000 in
theorem ggX5_door_X5_remember : GoodIn wsX5_door wsX5_remember := goodIn_r _ [14, 15, 1, 16, 17, 18, 19, 20, 21, 22, 23, 6, 24, 25, 26, 27, 28, 29, 30, 31, 32, 33, 34, 35, 36, 37, 38, 39, 40, 41, 42, 43, 44, 45, 46, 47, 48, 49, 50, 51, 52, 53, 54, 55, 56, 57, 58, 59, 60, 61, 62, 63, 64, 65, 66, 67] (by decide +kernel) (by decide +kernel)
set_option maxRecDepth 20000 in
theorem gX5_door_X5_remember : GoodIn wsX5_door (wsV RX5 59 RX5 yX5_remember wsX5_remember) := goodIn_app (goodIn_of _ (by decide +kernel)) ggX5_door_X5_remember
theorem dX5_door_0 : decode cX5_door 0 = .ok (.iload_n 1, 1) := by decide +kernel
theorem dX5_door_1 : decode cX5_door 1 = .ok (.invokestatic 86, 3) := by decide +kernel
theorem dX5_door_4 : decode cX5_door 4 = .ok (.ifCond .eq 10, 3) := by decide +kernel
theorem dX5_door_7 : decode cX5_door 7 = .ok (.iload_n 2, 1) := by decide +kernel
theorem dX5_door_8 : decode cX5_door 8 = .ok (.invokestatic 66, 3) := by decide +kernel
theorem dX5_door_11 : decode cX5_door 11 = .ok (.ifCond .ne 5, 3) := by decide +kernel
theorem dX5_door_14 : decode cX5_door 14 = .ok (.iconst (-1), 1) := by decide +kernel
theorem dX5_door_15 : decode cX5_door 15 = .ok (.ireturn, 1) := by decide +kernel
theorem dX5_door_16 : decode cX5_door 16 = .ok (.iload_n 3, 1) := by decide +kernel
theorem dX5_door_17 : decode cX5_door 17 = .ok (.iconst 1, 1) := by decide +kernel
theorem dX5_door_18 : decode cX5_door 18 = .ok (.if_icmp .lt 9, 3) := by decide +kernel
theorem dX5_door_21 : decode cX5_door 21 = .ok (.iload_n 3, 1) := by decide +kernel
theorem dX5_door_22 : decode cX5_door 22 = .ok (.bipush 9, 2) := by decide +kernel
theorem dX5_door_24 : decode cX5_door 24 = .ok (.if_icmp .le 6, 3) := by decide +kernel
theorem dX5_door_27 : decode cX5_door 27 = .ok (.bipush (-2), 2) := by decide +kernel
theorem dX5_door_29 : decode cX5_door 29 = .ok (.ireturn, 1) := by decide +kernel
theorem dX5_door_30 : decode cX5_door 30 = .ok (.aload_n 0, 1) := by decide +kernel
theorem dX5_door_31 : decode cX5_door 31 = .ok (.invokevirtual 59, 3) := by decide +kernel
theorem dX5_door_34 : decode cX5_door 34 = .ok (.aload_n 0, 1) := by decide +kernel
theorem dX5_door_35 : decode cX5_door 35 = .ok (.getfield 12, 3) := by decide +kernel
theorem dX5_door_38 : decode cX5_door 38 = .ok (.getfield 89, 3) := by decide +kernel
theorem dX5_door_41 : decode cX5_door 41 = .ok (.iload_n 1, 1) := by decide +kernel
theorem dX5_door_42 : decode cX5_door 42 = .ok (.iaload, 1) := by decide +kernel
theorem dX5_door_43 : decode cX5_door 43 = .ok (.istore 4, 2) := by decide +kernel
theorem dX5_door_45 : decode cX5_door 45 = .ok (.aload_n 0, 1) := by decide +kernel
theorem dX5_door_46 : decode cX5_door 46 = .ok (.getfield 12, 3) := by decide +kernel
theorem dX5_door_49 : decode cX5_door 49 = .ok (.getfield 89, 3) := by decide +kernel
theorem dX5_door_52 : decode cX5_door 52 = .ok (.iload_n 1, 1) := by decide +kernel
theorem dX5_door_53 : decode cX5_door 53 = .ok (.iload_n 2, 1) := by decide +kernel
theorem dX5_door_54 : decode cX5_door 54 = .ok (.iastore, 1) := by decide +kernel
theorem dX5_door_55 : decode cX5_door 55 = .ok (.aload_n 0, 1) := by decide +kernel
theorem dX5_door_56 : decode cX5_door 56 = .ok (.getfield 12, 3) := by decide +kernel
theorem dX5_door_59 : decode cX5_door 59 = .ok (.getfield 93, 3) := by decide +kernel
theorem dX5_door_62 : decode cX5_door 62 = .ok (.iload_n 1, 1) := by decide +kernel
theorem dX5_door_63 : decode cX5_door 63 = .ok (.iload_n 3, 1) := by decide +kernel
theorem dX5_door_64 : decode cX5_door 64 = .ok (.iastore, 1) := by decide +kernel
theorem dX5_door_65 : decode cX5_door 65 = .ok (.iload 4, 2) := by decide +kernel
theorem dX5_door_67 : decode cX5_door 67 = .ok (.ireturn, 1) := by decide +kernel
set_option maxRecDepth 20000 in
theorem ggX5_open_X5_isDoor : GoodIn wsX5_open wsX5_isDoor := goodIn_r _ [6] (by decide +kernel) (by decide +kernel)
set_option maxRecDepth 20000 in
theorem gX5_open_X5_isDoor : GoodIn wsX5_open (va_wsS RX5 86 yX5_isDoor wsX5_isDoor) := goodIn_app (goodIn_of _ (by decide +kernel)) ggX5_open_X5_isDoor
set_option maxRecDepth 20000 in
theorem ggX5_open_X5_remember : GoodIn wsX5_open wsX5_remember := goodIn_r _ [10, 11, 1, 12, 13, 14, 15, 16, 17, 18, 19, 5, 20, 21, 22, 23, 24, 25, 26, 27, 28, 29, 30, 31, 32, 33, 34, 35, 36, 37, 38, 39, 40, 41, 53, 54, 55, 56, 57, 58, 59, 60, 61, 62, 63, 64, 65, 66, 67, 68, 69, 70, 71, 72, 73, 74] (by decide +kernel) (by decide +kernel)
set_option maxRecDepth 20000 in
theorem gX5_open_X5_remember : GoodIn wsX5_open (wsV RX5 59 RX5 yX5_remember wsX5_remember) := goodIn_app (goodIn_of _ (by decide +kernel)) ggX5_open_X5_remember
set_option maxRecDepth 20000 in
theorem ggX5_open_X1_openDoors : GoodIn wsX5_open wsX1_openDoors := goodIn_r _ [45, 40, 63, 64, 65, 66, 67, 68, 69, 70, 71, 72, 73, 74] (by decide +kernel) (by decide +kernel)
set_option maxRecDepth 20000 in
theorem gX5_open_X1_openDoors : GoodIn wsX5_open (wsV RX5 99 RX1 yX1_openDoors wsX1_openDoors) := goodIn_app (goodIn_of _ (by decide +kernel)) ggX5_open_X1_openDoors
set_option maxRecDepth 20000 in
theorem ggX5_open_J6_bitCount_0f7a4 : GoodIn wsX5_open wsJ6_bitCount_0f7a4 := goodIn_r _ [49, 50, 51, 52] (by decide +kernel) (by decide +kernel)
set_option maxRecDepth 20000 in
theorem gX5_open_J6_bitCount_0f7a4 : GoodIn wsX5_open (va_wsS RX5 102 yJ6_bitCount_0f7a4 wsJ6_bitCount_0f7a4) := goodIn_app (goodIn_of _ (by decide +kernel)) ggX5_open_J6_bitCount_0f7a4
theorem dX5_open_0 : decode cX5_open 0 = .ok (.iload_n 1, 1) := by decide +kernel
theorem dX5_open_1 : decode cX5_open 1 = .ok (.invokestatic 86, 3) := by decide +kernel
theorem dX5_open_4 : decode cX5_open 4 = .ok (.ifCond .ne 5, 3) := by decide +kernel
theorem dX5_open_7 : decode cX5_open 7 = .ok (.iconst (-1), 1) := by decide +kernel
theorem dX5_open_8 : decode cX5_open 8 = .ok (.ireturn, 1) := by decide +kernel
theorem dX5_open_9 : decode cX5_open 9 = .ok (.aload_n 0, 1) := by decide +kernel
theorem dX5_open_10 : decode cX5_open 10 = .ok (.getfield 12, 3) := by decide +kernel
theorem dX5_open_13 : decode cX5_open 13 = .ok (.getfield 96, 3) := by decide +kernel
theorem dX5_open_16 : decode cX5_open 16 = .ok (.iload_n 1, 1) := by decide +kernel
theorem dX5_open_17 : decode cX5_open 17 = .ok (.baload, 1) := by decide +kernel
theorem dX5_open_18 : decode cX5_open 18 = .ok (.iload_n 2, 1) := by decide +kernel
theorem dX5_open_19 : decode cX5_open 19 = .ok (.if_icmp .ne 6, 3) := by decide +kernel
theorem dX5_open_22 : decode cX5_open 22 = .ok (.bipush (-5), 2) := by decide +kernel
theorem dX5_open_24 : decode cX5_open 24 = .ok (.ireturn, 1) := by decide +kernel
theorem dX5_open_25 : decode cX5_open 25 = .ok (.aload_n 0, 1) := by decide +kernel
theorem dX5_open_26 : decode cX5_open 26 = .ok (.invokevirtual 59, 3) := by decide +kernel
theorem dX5_open_29 : decode cX5_open 29 = .ok (.aload_n 0, 1) := by decide +kernel
theorem dX5_open_30 : decode cX5_open 30 = .ok (.getfield 12, 3) := by decide +kernel
theorem dX5_open_33 : decode cX5_open 33 = .ok (.getfield 96, 3) := by decide +kernel
theorem dX5_open_36 : decode cX5_open 36 = .ok (.iload_n 1, 1) := by decide +kernel
theorem dX5_open_37 : decode cX5_open 37 = .ok (.iload_n 2, 1) := by decide +kernel
theorem dX5_open_38 : decode cX5_open 38 = .ok (.bastore, 1) := by decide +kernel
theorem dX5_open_39 : decode cX5_open 39 = .ok (.aload_n 0, 1) := by decide +kernel
theorem dX5_open_40 : decode cX5_open 40 = .ok (.getfield 12, 3) := by decide +kernel
theorem dX5_open_43 : decode cX5_open 43 = .ok (.invokevirtual 99, 3) := by decide +kernel
theorem dX5_open_46 : decode cX5_open 46 = .ok (.invokestatic 102, 3) := by decide +kernel
theorem dX5_open_49 : decode cX5_open 49 = .ok (.ireturn, 1) := by decide +kernel
set_option maxRecDepth 20000 in
theorem ggX5_guard_X5_isCell : GoodIn wsX5_guard wsX5_isCell := goodIn_r _ [7] (by decide +kernel) (by decide +kernel)
set_option maxRecDepth 20000 in
theorem gX5_guard_X5_isCell : GoodIn wsX5_guard (va_wsS RX5 66 yX5_isCell wsX5_isCell) := goodIn_app (goodIn_of _ (by decide +kernel)) ggX5_guard_X5_isCell
set_option maxRecDepth 20000 in
theorem ggX5_guard_X5_isDoor : GoodIn wsX5_guard wsX5_isDoor := goodIn_r _ [10] (by decide +kernel) (by decide +kernel)
set_option maxRecDepth 20000 in
theorem gX5_guard_X5_isDoor : GoodIn wsX5_guard (va_wsS RX5 86 yX5_isDoor wsX5_isDoor) := goodIn_app (goodIn_of _ (by decide +kernel)) ggX5_guard_X5_isDoor
set_option maxRecDepth 20000 in
theorem ggX5_guard_X5_remember : GoodIn wsX5_guard wsX5_remember := goodIn_r _ [14, 15, 1, 16, 17, 18, 19, 20, 21, 22, 23, 6, 24, 25, 26, 27, 28, 29, 30, 31, 32, 33, 34, 35, 36, 37, 38, 39, 40, 41, 42, 43, 44, 45, 100, 101, 102, 103, 104, 105, 106, 107, 108, 109, 110, 111, 112, 113, 114, 115, 116, 117, 118, 119, 120, 121] (by decide +kernel) (by decide +kernel)
set_option maxRecDepth 20000 in
theorem gX5_guard_X5_remember : GoodIn wsX5_guard (wsV RX5 59 RX5 yX5_remember wsX5_remember) := goodIn_app (goodIn_of _ (by decide +kernel)) ggX5_guard_X5_remember
set_option maxRecDepth 20000 in
theorem ggX5_guard_X4_find : GoodIn wsX5_guard wsX4_find := goodIn_r _ [50, 51, 52, 53, 54, 55, 49, 56, 57, 58, 59, 5, 6, 7, 60, 61, 62, 32, 63, 41, 64, 65, 17, 18, 19, 20, 66, 67, 68, 69, 70, 71, 72, 73, 74, 9, 10, 75, 76, 77, 78, 79, 80, 81, 82, 83, 84, 85, 86, 87, 88, 89, 90, 91, 92, 93, 94, 95, 96, 97, 98, 122, 123, 124, 125, 126, 127, 110, 111, 112, 113, 114, 115, 116, 117, 118, 119, 120, 121] (by decide +kernel) (by decide +kernel)
set_option maxRecDepth 20000 in
theorem gX5_guard_X4_find : GoodIn wsX5_guard (wsV RX5 111 RX4 yX4_find wsX4_find) := goodIn_app (goodIn_of _ (by decide +kernel)) ggX5_guard_X4_find
set_option maxRecDepth 20000 in
theorem ggX5_guard_X4_goalOf : GoodIn wsX5_guard wsX4_goalOf := goodIn_r _ [92, 51, 5, 6, 7, 122, 123, 124, 125, 126, 127] (by decide +kernel) (by decide +kernel)
set_option maxRecDepth 20000 in
theorem gX5_guard_X4_goalOf : GoodIn wsX5_guard (wsV RX5 115 RX4 yX4_goalOf wsX4_goalOf) := goodIn_app (goodIn_of _ (by decide +kernel)) ggX5_guard_X4_goalOf
theorem dX5_guard_0 : decode cX5_guard 0 = .ok (.iload_n 1, 1) := by decide +kernel
theorem dX5_guard_1 : decode cX5_guard 1 = .ok (.invokestatic 66, 3) := by decide +kernel
theorem dX5_guard_4 : decode cX5_guard 4 = .ok (.ifCond .ne 5, 3) := by decide +kernel
theorem dX5_guard_7 : decode cX5_guard 7 = .ok (.iconst (-1), 1) := by decide +kernel
theorem dX5_guard_8 : decode cX5_guard 8 = .ok (.ireturn, 1) := by decide +kernel
theorem dX5_guard_9 : decode cX5_guard 9 = .ok (.iload_n 2, 1) := by decide +kernel
theorem dX5_guard_10 : decode cX5_guard 10 = .ok (.iconst (-1), 1) := by decide +kernel
theorem dX5_guard_11 : decode cX5_guard 11 = .ok (.if_icmp .eq 13, 3) := by decide +kernel
theorem dX5_guard_14 : decode cX5_guard 14 = .ok (.iload_n 2, 1) := by decide +kernel
theorem dX5_guard_15 : decode cX5_guard 15 = .ok (.invokestatic 86, 3) := by decide +kernel
theorem dX5_guard_18 : decode cX5_guard 18 = .ok (.ifCond .ne 6, 3) := by decide +kernel
theorem dX5_guard_21 : decode cX5_guard 21 = .ok (.bipush (-2), 2) := by decide +kernel
theorem dX5_guard_23 : decode cX5_guard 23 = .ok (.ireturn, 1) := by decide +kernel
theorem dX5_guard_24 : decode cX5_guard 24 = .ok (.aload_n 0, 1) := by decide +kernel
theorem dX5_guard_25 : decode cX5_guard 25 = .ok (.invokevirtual 59, 3) := by decide +kernel
theorem dX5_guard_28 : decode cX5_guard 28 = .ok (.aload_n 0, 1) := by decide +kernel
theorem dX5_guard_29 : decode cX5_guard 29 = .ok (.getfield 12, 3) := by decide +kernel
theorem dX5_guard_32 : decode cX5_guard 32 = .ok (.getfield 108, 3) := by decide +kernel
theorem dX5_guard_35 : decode cX5_guard 35 = .ok (.iload_n 1, 1) := by decide +kernel
theorem dX5_guard_36 : decode cX5_guard 36 = .ok (.iload_n 2, 1) := by decide +kernel
theorem dX5_guard_37 : decode cX5_guard 37 = .ok (.iastore, 1) := by decide +kernel
theorem dX5_guard_38 : decode cX5_guard 38 = .ok (.aload_n 0, 1) := by decide +kernel
theorem dX5_guard_39 : decode cX5_guard 39 = .ok (.getfield 19, 3) := by decide +kernel
theorem dX5_guard_42 : decode cX5_guard 42 = .ok (.aload_n 0, 1) := by decide +kernel
theorem dX5_guard_43 : decode cX5_guard 43 = .ok (.getfield 12, 3) := by decide +kernel
theorem dX5_guard_46 : decode cX5_guard 46 = .ok (.invokevirtual 111, 3) := by decide +kernel
theorem dX5_guard_49 : decode cX5_guard 49 = .ok (.aload_n 0, 1) := by decide +kernel
theorem dX5_guard_50 : decode cX5_guard 50 = .ok (.getfield 19, 3) := by decide +kernel
theorem dX5_guard_53 : decode cX5_guard 53 = .ok (.iload_n 1, 1) := by decide +kernel
theorem dX5_guard_54 : decode cX5_guard 54 = .ok (.invokevirtual 115, 3) := by decide +kernel
theorem dX5_guard_57 : decode cX5_guard 57 = .ok (.ireturn, 1) := by decide +kernel
set_option maxRecDepth 20000 in
theorem ggX5_enter_X5_isCell : GoodIn wsX5_enter wsX5_isCell := goodIn_r _ [7] (by decide +kernel) (by decide +kernel)
set_option maxRecDepth 20000 in
theorem gX5_enter_X5_isCell : GoodIn wsX5_enter (va_wsS RX5 66 yX5_isCell wsX5_isCell) := goodIn_app (goodIn_of _ (by decide +kernel)) ggX5_enter_X5_isCell
set_option maxRecDepth 20000 in
theorem ggX5_enter_X5_remember : GoodIn wsX5_enter wsX5_remember := goodIn_r _ [11, 12, 1, 13, 14, 15, 16, 17, 18, 19, 20, 6, 21, 22, 23, 24, 25, 26, 27, 28, 29, 30, 31, 32, 33, 34, 35, 36, 37, 38, 39, 40, 41, 42, 47, 48, 49, 50, 51, 52, 53, 54, 55, 56, 57, 58, 59, 60, 61, 62, 63, 64, 65, 66, 67, 68] (by decide +kernel) (by decide +kernel)
set_option maxRecDepth 20000 in
theorem gX5_enter_X5_remember : GoodIn wsX5_enter (wsV RX5 59 RX5 yX5_remember wsX5_remember) := goodIn_app (goodIn_of _ (by decide +kernel)) ggX5_enter_X5_remember
set_option maxRecDepth 20000 in
theorem ggX5_enter_X1_letIn : GoodIn wsX5_enter wsX1_letIn := goodIn_r _ [46, 36, 33, 5, 6, 7, 57, 58, 59, 60, 61, 62, 63, 64, 65, 66, 67, 68] (by decide +kernel) (by decide +kernel)
set_option maxRecDepth 20000 in
theorem gX5_enter_X1_letIn : GoodIn wsX5_enter (wsV RX5 121 RX1 yX1_letIn wsX1_letIn) := goodIn_app (goodIn_of _ (by decide +kernel)) ggX5_enter_X1_letIn
theorem dX5_enter_0 : decode cX5_enter 0 = .ok (.iload_n 1, 1) := by decide +kernel
theorem dX5_enter_1 : decode cX5_enter 1 = .ok (.invokestatic 66, 3) := by decide +kernel
theorem dX5_enter_4 : decode cX5_enter 4 = .ok (.ifCond .ne 5, 3) := by decide +kernel
theorem dX5_enter_7 : decode cX5_enter 7 = .ok (.iconst (-1), 1) := by decide +kernel
theorem dX5_enter_8 : decode cX5_enter 8 = .ok (.ireturn, 1) := by decide +kernel
theorem dX5_enter_9 : decode cX5_enter 9 = .ok (.iload_n 2, 1) := by decide +kernel
theorem dX5_enter_10 : decode cX5_enter 10 = .ok (.iconst 1, 1) := by decide +kernel
theorem dX5_enter_11 : decode cX5_enter 11 = .ok (.if_icmp .lt 9, 3) := by decide +kernel
theorem dX5_enter_14 : decode cX5_enter 14 = .ok (.iload_n 2, 1) := by decide +kernel
theorem dX5_enter_15 : decode cX5_enter 15 = .ok (.bipush 20, 2) := by decide +kernel
theorem dX5_enter_17 : decode cX5_enter 17 = .ok (.if_icmp .le 6, 3) := by decide +kernel
theorem dX5_enter_20 : decode cX5_enter 20 = .ok (.bipush (-2), 2) := by decide +kernel
theorem dX5_enter_22 : decode cX5_enter 22 = .ok (.ireturn, 1) := by decide +kernel
theorem dX5_enter_23 : decode cX5_enter 23 = .ok (.aload_n 0, 1) := by decide +kernel
theorem dX5_enter_24 : decode cX5_enter 24 = .ok (.getfield 12, 3) := by decide +kernel
theorem dX5_enter_27 : decode cX5_enter 27 = .ok (.getfield 118, 3) := by decide +kernel
theorem dX5_enter_30 : decode cX5_enter 30 = .ok (.iload_n 1, 1) := by decide +kernel
theorem dX5_enter_31 : decode cX5_enter 31 = .ok (.iaload, 1) := by decide +kernel
theorem dX5_enter_32 : decode cX5_enter 32 = .ok (.iload_n 2, 1) := by decide +kernel
theorem dX5_enter_33 : decode cX5_enter 33 = .ok (.iadd, 1) := by decide +kernel
theorem dX5_enter_34 : decode cX5_enter 34 = .ok (.aload_n 0, 1) := by decide +kernel
theorem dX5_enter_35 : decode cX5_enter 35 = .ok (.getfield 12, 3) := by decide +kernel
theorem dX5_enter_38 : decode cX5_enter 38 = .ok (.getfield 62, 3) := by decide +kernel
theorem dX5_enter_41 : decode cX5_enter 41 = .ok (.if_icmp .le 6, 3) := by decide +kernel
theorem dX5_enter_44 : decode cX5_enter 44 = .ok (.bipush (-4), 2) := by decide +kernel
theorem dX5_enter_46 : decode cX5_enter 46 = .ok (.ireturn, 1) := by decide +kernel
theorem dX5_enter_47 : decode cX5_enter 47 = .ok (.aload_n 0, 1) := by decide +kernel
theorem dX5_enter_48 : decode cX5_enter 48 = .ok (.invokevirtual 59, 3) := by decide +kernel
theorem dX5_enter_51 : decode cX5_enter 51 = .ok (.aload_n 0, 1) := by decide +kernel
theorem dX5_enter_52 : decode cX5_enter 52 = .ok (.getfield 12, 3) := by decide +kernel
theorem dX5_enter_55 : decode cX5_enter 55 = .ok (.iload_n 1, 1) := by decide +kernel
theorem dX5_enter_56 : decode cX5_enter 56 = .ok (.iload_n 2, 1) := by decide +kernel
theorem dX5_enter_57 : decode cX5_enter 57 = .ok (.invokevirtual 121, 3) := by decide +kernel
theorem dX5_enter_60 : decode cX5_enter 60 = .ok (.aload_n 0, 1) := by decide +kernel
theorem dX5_enter_61 : decode cX5_enter 61 = .ok (.getfield 12, 3) := by decide +kernel
theorem dX5_enter_64 : decode cX5_enter 64 = .ok (.getfield 118, 3) := by decide +kernel
theorem dX5_enter_67 : decode cX5_enter 67 = .ok (.iload_n 1, 1) := by decide +kernel
theorem dX5_enter_68 : decode cX5_enter 68 = .ok (.iaload, 1) := by decide +kernel
theorem dX5_enter_69 : decode cX5_enter 69 = .ok (.ireturn, 1) := by decide +kernel
set_option maxRecDepth 20000 in
theorem ggX5_read_X3_firstFault : GoodIn wsX5_read wsX3_firstFault := goodIn_r _ [9, 10, 11, 12, 13, 8, 14, 15, 16, 17, 18, 19, 20, 21, 99, 100] (by decide +kernel) (by decide +kernel)
set_option maxRecDepth 20000 in
theorem gX5_read_X3_firstFault : GoodIn wsX5_read (wsV RX5 125 RX3 yX3_firstFault wsX3_firstFault) := goodIn_app (goodIn_of _ (by decide +kernel)) ggX5_read_X3_firstFault
set_option maxRecDepth 20000 in
theorem ggX5_read_X5_remember : GoodIn wsX5_read wsX5_remember := goodIn_r _ [26, 27, 2, 28, 29, 30, 31, 32, 33, 34, 35, 25, 36, 37, 38, 39, 40, 41, 42, 43, 44, 45, 46, 47, 48, 49, 50, 51, 52, 53, 54, 55, 56, 57, 77, 78, 79, 80, 81, 82, 83, 84, 85, 86, 87, 88, 89, 90, 91, 92, 93, 94, 95, 96, 97, 98] (by decide +kernel) (by decide +kernel)
set_option maxRecDepth 20000 in
theorem gX5_read_X5_remember : GoodIn wsX5_read (wsV RX5 59 RX5 yX5_remember wsX5_remember) := goodIn_app (goodIn_of _ (by decide +kernel)) ggX5_read_X5_remember
set_option maxRecDepth 20000 in
theorem ggX5_read_X3_letCrowdsIn : GoodIn wsX5_read wsX3_letCrowdsIn := goodIn_r _ [61, 10, 11, 12, 13, 8, 14, 15, 62, 63, 64, 65, 66, 30, 31, 32, 67, 68, 69, 44, 70, 46, 51, 71, 25, 72, 73, 74, 75, 76, 48, 99, 100, 87, 88, 89, 90, 91, 92, 93, 94, 95, 96, 97, 98] (by decide +kernel) (by decide +kernel)
set_option maxRecDepth 20000 in
theorem gX5_read_X3_letCrowdsIn : GoodIn wsX5_read (wsV RX5 131 RX3 yX3_letCrowdsIn wsX3_letCrowdsIn) := goodIn_app (goodIn_of _ (by decide +kernel)) ggX5_read_X3_letCrowdsIn
theorem dX5_read_0 : decode cX5_read 0 = .ok (.aload_n 0, 1) := by decide +kernel
theorem dX5_read_1 : decode cX5_read 1 = .ok (.getfield 40, 3) := by decide +kernel
theorem dX5_read_4 : decode cX5_read 4 = .ok (.invokevirtual 125, 3) := by decide +kernel
theorem dX5_read_7 : decode cX5_read 7 = .ok (.bipush (-6), 2) := by decide +kernel
theorem dX5_read_9 : decode cX5_read 9 = .ok (.if_icmp .eq 6, 3) := by decide +kernel
theorem dX5_read_12 : decode cX5_read 12 = .ok (.bipush (-3), 2) := by decide +kernel
theorem dX5_read_14 : decode cX5_read 14 = .ok (.ireturn, 1) := by decide +kernel
theorem dX5_read_15 : decode cX5_read 15 = .ok (.aload_n 0, 1) := by decide +kernel
theorem dX5_read_16 : decode cX5_read 16 = .ok (.invokevirtual 59, 3) := by decide +kernel
theorem dX5_read_19 : decode cX5_read 19 = .ok (.aload_n 0, 1) := by decide +kernel
theorem dX5_read_20 : decode cX5_read 20 = .ok (.getfield 12, 3) := by decide +kernel
theorem dX5_read_23 : decode cX5_read 23 = .ok (.getfield 128, 3) := by decide +kernel
theorem dX5_read_26 : decode cX5_read 26 = .ok (.istore_n 1, 1) := by decide +kernel
theorem dX5_read_27 : decode cX5_read 27 = .ok (.aload_n 0, 1) := by decide +kernel
theorem dX5_read_28 : decode cX5_read 28 = .ok (.getfield 40, 3) := by decide +kernel
theorem dX5_read_31 : decode cX5_read 31 = .ok (.aload_n 0, 1) := by decide +kernel
theorem dX5_read_32 : decode cX5_read 32 = .ok (.getfield 12, 3) := by decide +kernel
theorem dX5_read_35 : decode cX5_read 35 = .ok (.invokevirtual 131, 3) := by decide +kernel
theorem dX5_read_38 : decode cX5_read 38 = .ok (.aload_n 0, 1) := by decide +kernel
theorem dX5_read_39 : decode cX5_read 39 = .ok (.getfield 40, 3) := by decide +kernel
theorem dX5_read_42 : decode cX5_read 42 = .ok (.iconst 0, 1) := by decide +kernel
theorem dX5_read_43 : decode cX5_read 43 = .ok (.putfield 134, 3) := by decide +kernel
theorem dX5_read_46 : decode cX5_read 46 = .ok (.aload_n 0, 1) := by decide +kernel
theorem dX5_read_47 : decode cX5_read 47 = .ok (.getfield 12, 3) := by decide +kernel
theorem dX5_read_50 : decode cX5_read 50 = .ok (.getfield 128, 3) := by decide +kernel
theorem dX5_read_53 : decode cX5_read 53 = .ok (.iload_n 1, 1) := by decide +kernel
theorem dX5_read_54 : decode cX5_read 54 = .ok (.isub, 1) := by decide +kernel
theorem dX5_read_55 : decode cX5_read 55 = .ok (.ireturn, 1) := by decide +kernel
set_option maxRecDepth 20000 in
theorem ggX5_pass_X5_remember : GoodIn wsX5_pass wsX5_remember := goodIn_r _ [9, 10, 1, 11, 12, 13, 14, 15, 16, 17, 18, 8, 19, 20, 21, 22, 23, 24, 25, 26, 27, 28, 29, 30, 31, 32, 33, 34, 35, 36, 37, 38, 39, 40, 136, 137, 138, 139, 140, 141, 142, 143, 144, 145, 146, 147, 148, 149, 150, 151, 152, 153, 154, 155, 156, 157] (by decide +kernel) (by decide +kernel)
set_option maxRecDepth 20000 in
theorem gX5_pass_X5_remember : GoodIn wsX5_pass (wsV RX5 59 RX5 yX5_remember wsX5_remember) := goodIn_app (goodIn_of _ (by decide +kernel)) ggX5_pass_X5_remember
set_option maxRecDepth 20000 in
theorem ggX5_pass_X4_find : GoodIn wsX5_pass wsX4_find := goodIn_r _ [45, 46, 47, 48, 49, 50, 44, 51, 52, 53, 54, 55, 8, 56, 57, 58, 59, 27, 60, 36, 61, 62, 12, 13, 14, 15, 63, 64, 65, 66, 67, 68, 69, 70, 71, 72, 73, 74, 75, 76, 77, 78, 79, 80, 81, 82, 83, 84, 85, 86, 87, 88, 89, 90, 91, 92, 93, 94, 95, 96, 97, 158, 159, 160, 161, 162, 163, 146, 147, 148, 149, 150, 151, 152, 153, 154, 155, 156, 157] (by decide +kernel) (by decide +kernel)
set_option maxRecDepth 20000 in
theorem gX5_pass_X4_find : GoodIn wsX5_pass (wsV RX5 111 RX4 yX4_find wsX4_find) := goodIn_app (goodIn_of _ (by decide +kernel)) ggX5_pass_X4_find
set_option maxRecDepth 20000 in
theorem ggX5_pass_X2_run : GoodIn wsX5_pass wsX2_run := goodIn_r _ [102, 103, 104, 105, 106, 101, 107, 108, 109, 110, 111, 112, 13, 14, 15, 113, 55, 8, 56, 114, 115, 116, 44, 117, 96, 118, 119, 120, 121, 97, 122, 123, 124, 125, 47, 126, 127, 128, 129, 130, 131, 132, 133, 134, 27, 135, 29, 34, 146, 147, 148, 149, 150, 151, 152, 153, 154, 155, 156, 157, 164, 158, 159, 160, 161, 162, 163] (by decide +kernel) (by decide +kernel)
set_option maxRecDepth 20000 in
theorem gX5_pass_X2_run : GoodIn wsX5_pass (wsV RX5 140 RX2 yX2_run wsX2_run) := goodIn_app (goodIn_of _ (by decide +kernel)) ggX5_pass_X2_run
theorem dX5_pass_0 : decode cX5_pass 0 = .ok (.iload_n 1, 1) := by decide +kernel
theorem dX5_pass_1 : decode cX5_pass 1 = .ok (.iconst 1, 1) := by decide +kernel
theorem dX5_pass_2 : decode cX5_pass 2 = .ok (.if_icmp .lt 9, 3) := by decide +kernel
theorem dX5_pass_5 : decode cX5_pass 5 = .ok (.iload_n 1, 1) := by decide +kernel
theorem dX5_pass_6 : decode cX5_pass 6 = .ok (.bipush 99, 2) := by decide +kernel
theorem dX5_pass_8 : decode cX5_pass 8 = .ok (.if_icmp .le 6, 3) := by decide +kernel
theorem dX5_pass_11 : decode cX5_pass 11 = .ok (.bipush (-2), 2) := by decide +kernel
theorem dX5_pass_13 : decode cX5_pass 13 = .ok (.ireturn, 1) := by decide +kernel
theorem dX5_pass_14 : decode cX5_pass 14 = .ok (.aload_n 0, 1) := by decide +kernel
theorem dX5_pass_15 : decode cX5_pass 15 = .ok (.getfield 12, 3) := by decide +kernel
theorem dX5_pass_18 : decode cX5_pass 18 = .ok (.getfield 137, 3) := by decide +kernel
theorem dX5_pass_21 : decode cX5_pass 21 = .ok (.iload_n 1, 1) := by decide +kernel
theorem dX5_pass_22 : decode cX5_pass 22 = .ok (.iadd, 1) := by decide +kernel
theorem dX5_pass_23 : decode cX5_pass 23 = .ok (.sipush 9999, 3) := by decide +kernel
theorem dX5_pass_26 : decode cX5_pass 26 = .ok (.if_icmp .le 6, 3) := by decide +kernel
theorem dX5_pass_29 : decode cX5_pass 29 = .ok (.bipush (-4), 2) := by decide +kernel
theorem dX5_pass_31 : decode cX5_pass 31 = .ok (.ireturn, 1) := by decide +kernel
theorem dX5_pass_32 : decode cX5_pass 32 = .ok (.aload_n 0, 1) := by decide +kernel
theorem dX5_pass_33 : decode cX5_pass 33 = .ok (.invokevirtual 59, 3) := by decide +kernel
theorem dX5_pass_36 : decode cX5_pass 36 = .ok (.aload_n 0, 1) := by decide +kernel
theorem dX5_pass_37 : decode cX5_pass 37 = .ok (.getfield 19, 3) := by decide +kernel
theorem dX5_pass_40 : decode cX5_pass 40 = .ok (.aload_n 0, 1) := by decide +kernel
theorem dX5_pass_41 : decode cX5_pass 41 = .ok (.getfield 12, 3) := by decide +kernel
theorem dX5_pass_44 : decode cX5_pass 44 = .ok (.invokevirtual 111, 3) := by decide +kernel
theorem dX5_pass_47 : decode cX5_pass 47 = .ok (.iconst 0, 1) := by decide +kernel
theorem dX5_pass_48 : decode cX5_pass 48 = .ok (.istore_n 2, 1) := by decide +kernel
theorem dX5_pass_49 : decode cX5_pass 49 = .ok (.iconst 0, 1) := by decide +kernel
theorem dX5_pass_50 : decode cX5_pass 50 = .ok (.istore_n 3, 1) := by decide +kernel
theorem dX5_pass_51 : decode cX5_pass 51 = .ok (.iload_n 3, 1) := by decide +kernel
theorem dX5_pass_52 : decode cX5_pass 52 = .ok (.iload_n 1, 1) := by decide +kernel
theorem dX5_pass_53 : decode cX5_pass 53 = .ok (.if_icmp .ge 27, 3) := by decide +kernel
theorem dX5_pass_56 : decode cX5_pass 56 = .ok (.iload_n 2, 1) := by decide +kernel
theorem dX5_pass_57 : decode cX5_pass 57 = .ok (.aload_n 0, 1) := by decide +kernel
theorem dX5_pass_58 : decode cX5_pass 58 = .ok (.getfield 26, 3) := by decide +kernel
theorem dX5_pass_61 : decode cX5_pass 61 = .ok (.aload_n 0, 1) := by decide +kernel
theorem dX5_pass_62 : decode cX5_pass 62 = .ok (.getfield 12, 3) := by decide +kernel
theorem dX5_pass_65 : decode cX5_pass 65 = .ok (.aload_n 0, 1) := by decide +kernel
theorem dX5_pass_66 : decode cX5_pass 66 = .ok (.getfield 19, 3) := by decide +kernel
theorem dX5_pass_69 : decode cX5_pass 69 = .ok (.invokevirtual 140, 3) := by decide +kernel
theorem dX5_pass_72 : decode cX5_pass 72 = .ok (.iadd, 1) := by decide +kernel
theorem dX5_pass_73 : decode cX5_pass 73 = .ok (.istore_n 2, 1) := by decide +kernel
theorem dX5_pass_74 : decode cX5_pass 74 = .ok (.iinc 3 1, 3) := by decide +kernel
theorem dX5_pass_77 : decode cX5_pass 77 = .ok (.goto (-26), 3) := by decide +kernel
theorem dX5_pass_80 : decode cX5_pass 80 = .ok (.iload_n 2, 1) := by decide +kernel
theorem dX5_pass_81 : decode cX5_pass 81 = .ok (.ireturn, 1) := by decide +kernel
set_option maxRecDepth 20000 in
theorem ggX5_cell_X5_isCell : GoodIn wsX5_cell wsX5_isCell := goodIn_r _ [8] (by decide +kernel) (by decide +kernel)
set_option maxRecDepth 20000 in
theorem gX5_cell_X5_isCell : GoodIn wsX5_cell (va_wsS RX5 66 yX5_isCell wsX5_isCell) := goodIn_app (goodIn_of _ (by decide +kernel)) ggX5_cell_X5_isCell
set_option maxRecDepth 20000 in
theorem ggX5_cell_X4_find : GoodIn wsX5_cell wsX4_find := goodIn_r _ [13, 14, 15, 16, 17, 18, 12, 19, 20, 21, 22, 6, 7, 8, 23, 24, 25, 26, 27, 28, 29, 30, 31, 32, 33, 34, 35, 36, 37, 38, 39, 40, 41, 42, 43, 44, 45, 46, 47, 48, 49, 50, 51, 52, 53, 54, 55, 56, 57, 58, 59, 60, 61, 62, 63, 64, 65, 66, 67, 68, 69, 102, 103, 104, 105, 106, 107, 90, 91, 92, 93, 94, 95, 96, 97, 98, 99, 100, 101] (by decide +kernel) (by decide +kernel)
set_option maxRecDepth 20000 in
theorem gX5_cell_X4_find : GoodIn wsX5_cell (wsV RX5 111 RX4 yX4_find wsX4_find) := goodIn_app (goodIn_of _ (by decide +kernel)) ggX5_cell_X4_find
set_option maxRecDepth 20000 in
theorem ggX5_cell_X4_goalOf : GoodIn wsX5_cell wsX4_goalOf := goodIn_r _ [63, 14, 6, 7, 8, 102, 103, 104, 105, 106, 107] (by decide +kernel) (by decide +kernel)
set_option maxRecDepth 20000 in
theorem gX5_cell_X4_goalOf : GoodIn wsX5_cell (wsV RX5 115 RX4 yX4_goalOf wsX4_goalOf) := goodIn_app (goodIn_of _ (by decide +kernel)) ggX5_cell_X4_goalOf
set_option maxRecDepth 20000 in
theorem ggX5_cell_X4_stepsToGoal : GoodIn wsX5_cell wsX4_stepsToGoal := goodIn_r _ [59, 60, 61, 62, 12, 63, 14, 6, 7, 8, 40, 41, 42, 43, 20, 44, 45, 102, 103, 104, 105, 106, 107] (by decide +kernel) (by decide +kernel)
set_option maxRecDepth 20000 in
theorem gX5_cell_X4_stepsToGoal : GoodIn wsX5_cell (wsV RX5 144 RX4 yX4_stepsToGoal wsX4_stepsToGoal) := goodIn_app (goodIn_of _ (by decide +kernel)) ggX5_cell_X4_stepsToGoal
set_option maxRecDepth 20000 in
theorem ggX5_cell_X4_nextOf : GoodIn wsX5_cell wsX4_nextOf := goodIn_r _ [75, 15, 6, 7, 8, 102, 103, 104, 105, 106, 107] (by decide +kernel) (by decide +kernel)
set_option maxRecDepth 20000 in
theorem gX5_cell_X4_nextOf : GoodIn wsX5_cell (wsV RX5 147 RX4 yX4_nextOf wsX4_nextOf) := goodIn_app (goodIn_of _ (by decide +kernel)) ggX5_cell_X4_nextOf
set_option maxRecDepth 20000 in
theorem ggX5_cell_X1_ropesAround : GoodIn wsX5_cell wsX1_ropesAround := goodIn_r _ [79, 28, 29, 7, 30, 31, 32, 33, 34, 35, 36, 37, 38, 39, 90, 91, 92, 93, 94, 95, 96, 97, 98, 99, 100, 101] (by decide +kernel) (by decide +kernel)
set_option maxRecDepth 20000 in
theorem gX5_cell_X1_ropesAround : GoodIn wsX5_cell (wsV RX5 150 RX1 yX1_ropesAround wsX1_ropesAround) := goodIn_app (goodIn_of _ (by decide +kernel)) ggX5_cell_X1_ropesAround
theorem dX5_cell_0 : decode cX5_cell 0 = .ok (.iload_n 1, 1) := by decide +kernel
theorem dX5_cell_1 : decode cX5_cell 1 = .ok (.invokestatic 66, 3) := by decide +kernel
theorem dX5_cell_4 : decode cX5_cell 4 = .ok (.ifCond .ne 5, 3) := by decide +kernel
theorem dX5_cell_7 : decode cX5_cell 7 = .ok (.iconst (-1), 1) := by decide +kernel
theorem dX5_cell_8 : decode cX5_cell 8 = .ok (.ireturn, 1) := by decide +kernel
theorem dX5_cell_9 : decode cX5_cell 9 = .ok (.aload_n 0, 1) := by decide +kernel
theorem dX5_cell_10 : decode cX5_cell 10 = .ok (.getfield 19, 3) := by decide +kernel
theorem dX5_cell_13 : decode cX5_cell 13 = .ok (.aload_n 0, 1) := by decide +kernel
theorem dX5_cell_14 : decode cX5_cell 14 = .ok (.getfield 12, 3) := by decide +kernel
theorem dX5_cell_17 : decode cX5_cell 17 = .ok (.invokevirtual 111, 3) := by decide +kernel
theorem dX5_cell_20 : decode cX5_cell 20 = .ok (.iload_n 2, 1) := by decide +kernel
theorem dX5_cell_21 : decode cX5_cell 21 = .ok (.tableswitch 113 0 5 #[39, 49, 58, 67, 76, 104], 39) := by decide +kernel
theorem dX5_cell_60 : decode cX5_cell 60 = .ok (.aload_n 0, 1) := by decide +kernel
theorem dX5_cell_61 : decode cX5_cell 61 = .ok (.getfield 12, 3) := by decide +kernel
theorem dX5_cell_64 : decode cX5_cell 64 = .ok (.getfield 118, 3) := by decide +kernel
theorem dX5_cell_67 : decode cX5_cell 67 = .ok (.iload_n 1, 1) := by decide +kernel
theorem dX5_cell_68 : decode cX5_cell 68 = .ok (.iaload, 1) := by decide +kernel
theorem dX5_cell_69 : decode cX5_cell 69 = .ok (.ireturn, 1) := by decide +kernel
theorem dX5_cell_70 : decode cX5_cell 70 = .ok (.aload_n 0, 1) := by decide +kernel
theorem dX5_cell_71 : decode cX5_cell 71 = .ok (.getfield 19, 3) := by decide +kernel
theorem dX5_cell_74 : decode cX5_cell 74 = .ok (.iload_n 1, 1) := by decide +kernel
theorem dX5_cell_75 : decode cX5_cell 75 = .ok (.invokevirtual 115, 3) := by decide +kernel
theorem dX5_cell_78 : decode cX5_cell 78 = .ok (.ireturn, 1) := by decide +kernel
theorem dX5_cell_79 : decode cX5_cell 79 = .ok (.aload_n 0, 1) := by decide +kernel
theorem dX5_cell_80 : decode cX5_cell 80 = .ok (.getfield 19, 3) := by decide +kernel
theorem dX5_cell_83 : decode cX5_cell 83 = .ok (.iload_n 1, 1) := by decide +kernel
theorem dX5_cell_84 : decode cX5_cell 84 = .ok (.invokevirtual 144, 3) := by decide +kernel
theorem dX5_cell_87 : decode cX5_cell 87 = .ok (.ireturn, 1) := by decide +kernel
theorem dX5_cell_88 : decode cX5_cell 88 = .ok (.aload_n 0, 1) := by decide +kernel
theorem dX5_cell_89 : decode cX5_cell 89 = .ok (.getfield 19, 3) := by decide +kernel
theorem dX5_cell_92 : decode cX5_cell 92 = .ok (.iload_n 1, 1) := by decide +kernel
theorem dX5_cell_93 : decode cX5_cell 93 = .ok (.invokevirtual 147, 3) := by decide +kernel
theorem dX5_cell_96 : decode cX5_cell 96 = .ok (.ireturn, 1) := by decide +kernel
theorem dX5_cell_97 : decode cX5_cell 97 = .ok (.aload_n 0, 1) := by decide +kernel
theorem dX5_cell_98 : decode cX5_cell 98 = .ok (.getfield 12, 3) := by decide +kernel
theorem dX5_cell_101 : decode cX5_cell 101 = .ok (.getfield 108, 3) := by decide +kernel
theorem dX5_cell_104 : decode cX5_cell 104 = .ok (.iload_n 1, 1) := by decide +kernel
theorem dX5_cell_105 : decode cX5_cell 105 = .ok (.iaload, 1) := by decide +kernel
theorem dX5_cell_106 : decode cX5_cell 106 = .ok (.iconst (-1), 1) := by decide +kernel
theorem dX5_cell_107 : decode cX5_cell 107 = .ok (.if_icmp .ne 8, 3) := by decide +kernel
theorem dX5_cell_110 : decode cX5_cell 110 = .ok (.bipush (-6), 2) := by decide +kernel
theorem dX5_cell_112 : decode cX5_cell 112 = .ok (.goto 12, 3) := by decide +kernel
theorem dX5_cell_115 : decode cX5_cell 115 = .ok (.aload_n 0, 1) := by decide +kernel
theorem dX5_cell_116 : decode cX5_cell 116 = .ok (.getfield 12, 3) := by decide +kernel
theorem dX5_cell_119 : decode cX5_cell 119 = .ok (.getfield 108, 3) := by decide +kernel
theorem dX5_cell_122 : decode cX5_cell 122 = .ok (.iload_n 1, 1) := by decide +kernel
theorem dX5_cell_123 : decode cX5_cell 123 = .ok (.iaload, 1) := by decide +kernel
theorem dX5_cell_124 : decode cX5_cell 124 = .ok (.ireturn, 1) := by decide +kernel
theorem dX5_cell_125 : decode cX5_cell 125 = .ok (.aload_n 0, 1) := by decide +kernel
theorem dX5_cell_126 : decode cX5_cell 126 = .ok (.getfield 12, 3) := by decide +kernel
theorem dX5_cell_129 : decode cX5_cell 129 = .ok (.iload_n 1, 1) := by decide +kernel
theorem dX5_cell_130 : decode cX5_cell 130 = .ok (.invokevirtual 150, 3) := by decide +kernel
theorem dX5_cell_133 : decode cX5_cell 133 = .ok (.ireturn, 1) := by decide +kernel
theorem dX5_cell_134 : decode cX5_cell 134 = .ok (.bipush (-2), 2) := by decide +kernel
theorem dX5_cell_136 : decode cX5_cell 136 = .ok (.ireturn, 1) := by decide +kernel
set_option maxRecDepth 20000 in
theorem ggX5_doorOf_X5_isDoor : GoodIn wsX5_doorOf wsX5_isDoor := goodIn_r _ [10] (by decide +kernel) (by decide +kernel)
set_option maxRecDepth 20000 in
theorem gX5_doorOf_X5_isDoor : GoodIn wsX5_doorOf (va_wsS RX5 86 yX5_isDoor wsX5_isDoor) := goodIn_app (goodIn_of _ (by decide +kernel)) ggX5_doorOf_X5_isDoor
set_option maxRecDepth 20000 in
theorem ggX5_doorOf_X4_find : GoodIn wsX5_doorOf wsX4_find := goodIn_r _ [15, 16, 17, 18, 19, 20, 14, 21, 22, 23, 24, 25, 9, 26, 27, 28, 29, 30, 31, 32, 33, 34, 35, 36, 37, 38, 39, 40, 41, 42, 43, 44, 45, 46, 47, 8, 10, 48, 49, 50, 51, 52, 53, 54, 55, 56, 57, 58, 59, 60, 61, 62, 63, 64, 65, 66, 67, 68, 69, 70, 71, 103, 104, 105, 106, 107, 108, 91, 92, 93, 94, 95, 96, 97, 98, 99, 100, 101, 102] (by decide +kernel) (by decide +kernel)
set_option maxRecDepth 20000 in
theorem gX5_doorOf_X4_find : GoodIn wsX5_doorOf (wsV RX5 111 RX4 yX4_find wsX4_find) := goodIn_app (goodIn_of _ (by decide +kernel)) ggX5_doorOf_X4_find
set_option maxRecDepth 20000 in
theorem ggX5_doorOf_X4_cellsWithGoal : GoodIn wsX5_doorOf wsX4_cellsWithGoal := goodIn_r _ [75, 16, 103, 104, 105, 106, 107, 108] (by decide +kernel) (by decide +kernel)
set_option maxRecDepth 20000 in
theorem gX5_doorOf_X4_cellsWithGoal : GoodIn wsX5_doorOf (wsV RX5 156 RX4 yX4_cellsWithGoal wsX4_cellsWithGoal) := goodIn_app (goodIn_of _ (by decide +kernel)) ggX5_doorOf_X4_cellsWithGoal
set_option maxRecDepth 20000 in
theorem ggX5_doorOf_X4_peopleWithGoal : GoodIn wsX5_doorOf wsX4_peopleWithGoal := goodIn_r _ [79, 16, 80, 103, 104, 105, 106, 107, 108, 91, 92, 93, 94, 95, 96, 97, 98, 99, 100, 101, 102] (by decide +kernel) (by decide +kernel)
set_option maxRecDepth 20000 in
theorem gX5_doorOf_X4_peopleWithGoal : GoodIn wsX5_doorOf (wsV RX5 159 RX4 yX4_peopleWithGoal wsX4_peopleWithGoal) := goodIn_app (goodIn_of _ (by decide +kernel)) ggX5_doorOf_X4_peopleWithGoal
theorem dX5_doorOf_0 : decode cX5_doorOf 0 = .ok (.iload_n 1, 1) := by decide +kernel
theorem dX5_doorOf_1 : decode cX5_doorOf 1 = .ok (.invokestatic 86, 3) := by decide +kernel
theorem dX5_doorOf_4 : decode cX5_doorOf 4 = .ok (.ifCond .ne 5, 3) := by decide +kernel
theorem dX5_doorOf_7 : decode cX5_doorOf 7 = .ok (.iconst (-1), 1) := by decide +kernel
theorem dX5_doorOf_8 : decode cX5_doorOf 8 = .ok (.ireturn, 1) := by decide +kernel
theorem dX5_doorOf_9 : decode cX5_doorOf 9 = .ok (.aload_n 0, 1) := by decide +kernel
theorem dX5_doorOf_10 : decode cX5_doorOf 10 = .ok (.getfield 19, 3) := by decide +kernel
theorem dX5_doorOf_13 : decode cX5_doorOf 13 = .ok (.aload_n 0, 1) := by decide +kernel
theorem dX5_doorOf_14 : decode cX5_doorOf 14 = .ok (.getfield 12, 3) := by decide +kernel
theorem dX5_doorOf_17 : decode cX5_doorOf 17 = .ok (.invokevirtual 111, 3) := by decide +kernel
theorem dX5_doorOf_20 : decode cX5_doorOf 20 = .ok (.iload_n 2, 1) := by decide +kernel
theorem dX5_doorOf_21 : decode cX5_doorOf 21 = .ok (.tableswitch 109 0 5 #[39, 49, 59, 77, 87, 96], 39) := by decide +kernel
theorem dX5_doorOf_60 : decode cX5_doorOf 60 = .ok (.aload_n 0, 1) := by decide +kernel
theorem dX5_doorOf_61 : decode cX5_doorOf 61 = .ok (.getfield 12, 3) := by decide +kernel
theorem dX5_doorOf_64 : decode cX5_doorOf 64 = .ok (.getfield 89, 3) := by decide +kernel
theorem dX5_doorOf_67 : decode cX5_doorOf 67 = .ok (.iload_n 1, 1) := by decide +kernel
theorem dX5_doorOf_68 : decode cX5_doorOf 68 = .ok (.iaload, 1) := by decide +kernel
theorem dX5_doorOf_69 : decode cX5_doorOf 69 = .ok (.ireturn, 1) := by decide +kernel
theorem dX5_doorOf_70 : decode cX5_doorOf 70 = .ok (.aload_n 0, 1) := by decide +kernel
theorem dX5_doorOf_71 : decode cX5_doorOf 71 = .ok (.getfield 12, 3) := by decide +kernel
theorem dX5_doorOf_74 : decode cX5_doorOf 74 = .ok (.getfield 93, 3) := by decide +kernel
theorem dX5_doorOf_77 : decode cX5_doorOf 77 = .ok (.iload_n 1, 1) := by decide +kernel
theorem dX5_doorOf_78 : decode cX5_doorOf 78 = .ok (.iaload, 1) := by decide +kernel
theorem dX5_doorOf_79 : decode cX5_doorOf 79 = .ok (.ireturn, 1) := by decide +kernel
theorem dX5_doorOf_80 : decode cX5_doorOf 80 = .ok (.aload_n 0, 1) := by decide +kernel
theorem dX5_doorOf_81 : decode cX5_doorOf 81 = .ok (.getfield 12, 3) := by decide +kernel
theorem dX5_doorOf_84 : decode cX5_doorOf 84 = .ok (.getfield 96, 3) := by decide +kernel
end
section
theorem dX5_doorOf_87 : decode cX5_doorOf 87 = .ok (.iload_n 1, 1) := by decide +kernel
theorem dX5_doorOf_88 : decode cX5_doorOf 88 = .ok (.baload, 1) := by decide +kernel
theorem dX5_doorOf_89 : decode cX5_doorOf 89 = .ok (.ifCond .eq 7, 3) := by decide +kernel
theorem dX5_doorOf_92 : decode cX5_doorOf 92 = .ok (.iconst 1, 1) := by decide +kernel
theorem dX5_doorOf_93 : decode cX5_doorOf 93 = .ok (.goto 4, 3) := by decide +kernel
theorem dX5_doorOf_96 : decode cX5_doorOf 96 = .ok (.iconst 0, 1) := by decide +kernel
theorem dX5_doorOf_97 : decode cX5_doorOf 97 = .ok (.ireturn, 1) := by decide +kernel
theorem dX5_doorOf_98 : decode cX5_doorOf 98 = .ok (.aload_n 0, 1) := by decide +kernel
theorem dX5_doorOf_99 : decode cX5_doorOf 99 = .ok (.getfield 12, 3) := by decide +kernel
theorem dX5_doorOf_102 : decode cX5_doorOf 102 = .ok (.getfield 153, 3) := by decide +kernel
theorem dX5_doorOf_105 : decode cX5_doorOf 105 = .ok (.iload_n 1, 1) := by decide +kernel
theorem dX5_doorOf_106 : decode cX5_doorOf 106 = .ok (.iaload, 1) := by decide +kernel
theorem dX5_doorOf_107 : decode cX5_doorOf 107 = .ok (.ireturn, 1) := by decide +kernel
theorem dX5_doorOf_108 : decode cX5_doorOf 108 = .ok (.aload_n 0, 1) := by decide +kernel
theorem dX5_doorOf_109 : decode cX5_doorOf 109 = .ok (.getfield 19, 3) := by decide +kernel
theorem dX5_doorOf_112 : decode cX5_doorOf 112 = .ok (.iload_n 1, 1) := by decide +kernel
theorem dX5_doorOf_113 : decode cX5_doorOf 113 = .ok (.invokevirtual 156, 3) := by decide +kernel
theorem dX5_doorOf_116 : decode cX5_doorOf 116 = .ok (.ireturn, 1) := by decide +kernel
theorem dX5_doorOf_117 : decode cX5_doorOf 117 = .ok (.aload_n 0, 1) := by decide +kernel
theorem dX5_doorOf_118 : decode cX5_doorOf 118 = .ok (.getfield 19, 3) := by decide +kernel
theorem dX5_doorOf_121 : decode cX5_doorOf 121 = .ok (.aload_n 0, 1) := by decide +kernel
theorem dX5_doorOf_122 : decode cX5_doorOf 122 = .ok (.getfield 12, 3) := by decide +kernel
theorem dX5_doorOf_125 : decode cX5_doorOf 125 = .ok (.iload_n 1, 1) := by decide +kernel
theorem dX5_doorOf_126 : decode cX5_doorOf 126 = .ok (.invokevirtual 159, 3) := by decide +kernel
theorem dX5_doorOf_129 : decode cX5_doorOf 129 = .ok (.ireturn, 1) := by decide +kernel
theorem dX5_doorOf_130 : decode cX5_doorOf 130 = .ok (.bipush (-2), 2) := by decide +kernel
theorem dX5_doorOf_132 : decode cX5_doorOf 132 = .ok (.ireturn, 1) := by decide +kernel
set_option maxRecDepth 20000 in
theorem ggX5_count_X1_peopleInside : GoodIn wsX5_count wsX1_peopleInside := goodIn_r _ [14, 15, 130, 131, 132, 133, 134, 135, 136, 137, 138, 139, 140, 141] (by decide +kernel) (by decide +kernel)
set_option maxRecDepth 20000 in
theorem gX5_count_X1_peopleInside : GoodIn wsX5_count (wsV RX5 163 RX1 yX1_peopleInside wsX1_peopleInside) := goodIn_app (goodIn_of _ (by decide +kernel)) ggX5_count_X1_peopleInside
set_option maxRecDepth 20000 in
theorem ggX5_count_X1_peopleOut : GoodIn wsX5_count wsX1_peopleOut := goodIn_r _ [19, 20, 130, 131, 132, 133, 134, 135, 136, 137, 138, 139, 140, 141] (by decide +kernel) (by decide +kernel)
set_option maxRecDepth 20000 in
theorem gX5_count_X1_peopleOut : GoodIn wsX5_count (wsV RX5 166 RX1 yX1_peopleOut wsX1_peopleOut) := goodIn_app (goodIn_of _ (by decide +kernel)) ggX5_count_X1_peopleOut
set_option maxRecDepth 20000 in
theorem ggX5_count_X1_ropeCount : GoodIn wsX5_count wsX1_ropeCount := goodIn_r _ [24, 25, 130, 131, 132, 133, 134, 135, 136, 137, 138, 139, 140, 141] (by decide +kernel) (by decide +kernel)
set_option maxRecDepth 20000 in
theorem gX5_count_X1_ropeCount : GoodIn wsX5_count (wsV RX5 83 RX1 yX1_ropeCount wsX1_ropeCount) := goodIn_app (goodIn_of _ (by decide +kernel)) ggX5_count_X1_ropeCount
set_option maxRecDepth 20000 in
theorem ggX5_count_X1_openDoors : GoodIn wsX5_count wsX1_openDoors := goodIn_r _ [29, 30, 130, 131, 132, 133, 134, 135, 136, 137, 138, 139, 140, 141] (by decide +kernel) (by decide +kernel)
set_option maxRecDepth 20000 in
theorem gX5_count_X1_openDoors : GoodIn wsX5_count (wsV RX5 99 RX1 yX1_openDoors wsX1_openDoors) := goodIn_app (goodIn_of _ (by decide +kernel)) ggX5_count_X1_openDoors
set_option maxRecDepth 20000 in
theorem ggX5_count_X5_strandedNow : GoodIn wsX5_count wsX5_strandedNow := goodIn_r _ [35, 36, 1, 37, 38, 39, 40, 41, 42, 43, 44, 45, 46, 47, 48, 49, 50, 51, 34, 52, 53, 54, 55, 13, 56, 25, 57, 58, 59, 60, 61, 62, 63, 64, 65, 66, 67, 68, 69, 70, 71, 72, 73, 74, 75, 76, 77, 78, 79, 80, 81, 82, 83, 84, 85, 86, 87, 88, 89, 90, 91, 92, 93, 94, 95, 96, 97, 98, 99, 100, 101, 102, 103, 104, 105, 106, 120, 121, 122, 123, 124, 125, 126, 127, 128, 129, 144, 145, 146, 147, 148, 149, 130, 131, 132, 133, 134, 135, 136, 137, 138, 139, 140, 141] (by decide +kernel) (by decide +kernel)
set_option maxRecDepth 20000 in
theorem gX5_count_X5_strandedNow : GoodIn wsX5_count (wsV RX5 175 RX5 yX5_strandedNow wsX5_strandedNow) := goodIn_app (goodIn_of _ (by decide +kernel)) ggX5_count_X5_strandedNow
set_option maxRecDepth 20000 in
theorem ggX5_count_X1_unevenness : GoodIn wsX5_count wsX1_unevenness := goodIn_r _ [110, 30, 20, 111, 112, 61, 113, 114, 60, 62, 130, 131, 132, 133, 134, 135, 136, 137, 138, 139, 140, 141] (by decide +kernel) (by decide +kernel)
set_option maxRecDepth 20000 in
theorem gX5_count_X1_unevenness : GoodIn wsX5_count (wsV RX5 178 RX1 yX1_unevenness wsX1_unevenness) := goodIn_app (goodIn_of _ (by decide +kernel)) ggX5_count_X1_unevenness
set_option maxRecDepth 20000 in
theorem ggX5_count_X1_guardCount : GoodIn wsX5_count wsX1_guardCount := goodIn_r _ [118, 119, 130, 131, 132, 133, 134, 135, 136, 137, 138, 139, 140, 141] (by decide +kernel) (by decide +kernel)
set_option maxRecDepth 20000 in
theorem gX5_count_X1_guardCount : GoodIn wsX5_count (wsV RX5 181 RX1 yX1_guardCount wsX1_guardCount) := goodIn_app (goodIn_of _ (by decide +kernel)) ggX5_count_X1_guardCount
theorem dX5_count_0 : decode cX5_count 0 = .ok (.iload_n 1, 1) := by decide +kernel
theorem dX5_count_1 : decode cX5_count 1 = .ok (.tableswitch 177 0 13 #[71, 79, 87, 95, 103, 111, 119, 127, 135, 143, 148, 156, 164, 172], 71) := by decide +kernel
theorem dX5_count_72 : decode cX5_count 72 = .ok (.aload_n 0, 1) := by decide +kernel
theorem dX5_count_73 : decode cX5_count 73 = .ok (.getfield 12, 3) := by decide +kernel
theorem dX5_count_76 : decode cX5_count 76 = .ok (.getfield 62, 3) := by decide +kernel
theorem dX5_count_79 : decode cX5_count 79 = .ok (.ireturn, 1) := by decide +kernel
theorem dX5_count_80 : decode cX5_count 80 = .ok (.aload_n 0, 1) := by decide +kernel
theorem dX5_count_81 : decode cX5_count 81 = .ok (.getfield 12, 3) := by decide +kernel
theorem dX5_count_84 : decode cX5_count 84 = .ok (.getfield 137, 3) := by decide +kernel
theorem dX5_count_87 : decode cX5_count 87 = .ok (.ireturn, 1) := by decide +kernel
theorem dX5_count_88 : decode cX5_count 88 = .ok (.aload_n 0, 1) := by decide +kernel
theorem dX5_count_89 : decode cX5_count 89 = .ok (.getfield 12, 3) := by decide +kernel
theorem dX5_count_92 : decode cX5_count 92 = .ok (.invokevirtual 163, 3) := by decide +kernel
theorem dX5_count_95 : decode cX5_count 95 = .ok (.ireturn, 1) := by decide +kernel
theorem dX5_count_96 : decode cX5_count 96 = .ok (.aload_n 0, 1) := by decide +kernel
theorem dX5_count_97 : decode cX5_count 97 = .ok (.getfield 12, 3) := by decide +kernel
theorem dX5_count_100 : decode cX5_count 100 = .ok (.getfield 128, 3) := by decide +kernel
theorem dX5_count_103 : decode cX5_count 103 = .ok (.ireturn, 1) := by decide +kernel
theorem dX5_count_104 : decode cX5_count 104 = .ok (.aload_n 0, 1) := by decide +kernel
theorem dX5_count_105 : decode cX5_count 105 = .ok (.getfield 12, 3) := by decide +kernel
theorem dX5_count_108 : decode cX5_count 108 = .ok (.invokevirtual 166, 3) := by decide +kernel
theorem dX5_count_111 : decode cX5_count 111 = .ok (.ireturn, 1) := by decide +kernel
theorem dX5_count_112 : decode cX5_count 112 = .ok (.aload_n 0, 1) := by decide +kernel
theorem dX5_count_113 : decode cX5_count 113 = .ok (.getfield 12, 3) := by decide +kernel
theorem dX5_count_116 : decode cX5_count 116 = .ok (.getfield 169, 3) := by decide +kernel
theorem dX5_count_119 : decode cX5_count 119 = .ok (.ireturn, 1) := by decide +kernel
theorem dX5_count_120 : decode cX5_count 120 = .ok (.aload_n 0, 1) := by decide +kernel
theorem dX5_count_121 : decode cX5_count 121 = .ok (.getfield 12, 3) := by decide +kernel
theorem dX5_count_124 : decode cX5_count 124 = .ok (.getfield 172, 3) := by decide +kernel
theorem dX5_count_127 : decode cX5_count 127 = .ok (.ireturn, 1) := by decide +kernel
theorem dX5_count_128 : decode cX5_count 128 = .ok (.aload_n 0, 1) := by decide +kernel
theorem dX5_count_129 : decode cX5_count 129 = .ok (.getfield 12, 3) := by decide +kernel
theorem dX5_count_132 : decode cX5_count 132 = .ok (.invokevirtual 83, 3) := by decide +kernel
theorem dX5_count_135 : decode cX5_count 135 = .ok (.ireturn, 1) := by decide +kernel
theorem dX5_count_136 : decode cX5_count 136 = .ok (.aload_n 0, 1) := by decide +kernel
theorem dX5_count_137 : decode cX5_count 137 = .ok (.getfield 12, 3) := by decide +kernel
theorem dX5_count_140 : decode cX5_count 140 = .ok (.invokevirtual 99, 3) := by decide +kernel
theorem dX5_count_143 : decode cX5_count 143 = .ok (.ireturn, 1) := by decide +kernel
theorem dX5_count_144 : decode cX5_count 144 = .ok (.aload_n 0, 1) := by decide +kernel
theorem dX5_count_145 : decode cX5_count 145 = .ok (.invokevirtual 175, 3) := by decide +kernel
theorem dX5_count_148 : decode cX5_count 148 = .ok (.ireturn, 1) := by decide +kernel
theorem dX5_count_149 : decode cX5_count 149 = .ok (.aload_n 0, 1) := by decide +kernel
theorem dX5_count_150 : decode cX5_count 150 = .ok (.getfield 12, 3) := by decide +kernel
theorem dX5_count_153 : decode cX5_count 153 = .ok (.invokevirtual 178, 3) := by decide +kernel
theorem dX5_count_156 : decode cX5_count 156 = .ok (.ireturn, 1) := by decide +kernel
theorem dX5_count_157 : decode cX5_count 157 = .ok (.aload_n 0, 1) := by decide +kernel
theorem dX5_count_158 : decode cX5_count 158 = .ok (.getfield 12, 3) := by decide +kernel
theorem dX5_count_161 : decode cX5_count 161 = .ok (.invokevirtual 181, 3) := by decide +kernel
theorem dX5_count_164 : decode cX5_count 164 = .ok (.ireturn, 1) := by decide +kernel
theorem dX5_count_165 : decode cX5_count 165 = .ok (.aload_n 0, 1) := by decide +kernel
theorem dX5_count_166 : decode cX5_count 166 = .ok (.getfield 40, 3) := by decide +kernel
theorem dX5_count_169 : decode cX5_count 169 = .ok (.getfield 134, 3) := by decide +kernel
theorem dX5_count_172 : decode cX5_count 172 = .ok (.ireturn, 1) := by decide +kernel
theorem dX5_count_173 : decode cX5_count 173 = .ok (.aload_n 0, 1) := by decide +kernel
theorem dX5_count_174 : decode cX5_count 174 = .ok (.getfield 184, 3) := by decide +kernel
theorem dX5_count_177 : decode cX5_count 177 = .ok (.ireturn, 1) := by decide +kernel
theorem dX5_count_178 : decode cX5_count 178 = .ok (.bipush (-2), 2) := by decide +kernel
theorem dX5_count_180 : decode cX5_count 180 = .ok (.ireturn, 1) := by decide +kernel
set_option maxRecDepth 20000 in
theorem ggX5_distance_X5_isCell : GoodIn wsX5_distance wsX5_isCell := goodIn_r _ [6] (by decide +kernel) (by decide +kernel)
set_option maxRecDepth 20000 in
theorem gX5_distance_X5_isCell : GoodIn wsX5_distance (va_wsS RX5 66 yX5_isCell wsX5_isCell) := goodIn_app (goodIn_of _ (by decide +kernel)) ggX5_distance_X5_isCell
set_option maxRecDepth 20000 in
theorem ggX5_distance_X5_isDoor : GoodIn wsX5_distance wsX5_isDoor := goodIn_r _ [9] (by decide +kernel) (by decide +kernel)
set_option maxRecDepth 20000 in
theorem gX5_distance_X5_isDoor : GoodIn wsX5_distance (va_wsS RX5 86 yX5_isDoor wsX5_isDoor) := goodIn_app (goodIn_of _ (by decide +kernel)) ggX5_distance_X5_isDoor
set_option maxRecDepth 20000 in
theorem ggX5_distance_X4_find : GoodIn wsX5_distance wsX4_find := goodIn_r _ [14, 15, 16, 17, 18, 19, 13, 20, 21, 22, 23, 4, 5, 6, 24, 25, 26, 27, 28, 29, 30, 31, 32, 33, 34, 35, 36, 37, 38, 39, 40, 41, 42, 43, 44, 8, 9, 45, 46, 47, 48, 49, 50, 51, 52, 53, 54, 55, 56, 57, 58, 59, 60, 61, 62, 63, 64, 65, 66, 67, 68, 80, 81, 82, 83, 84, 85, 86, 87, 88, 89, 90, 91, 92, 93, 94, 95, 96, 97] (by decide +kernel) (by decide +kernel)
set_option maxRecDepth 20000 in
theorem gX5_distance_X4_find : GoodIn wsX5_distance (wsV RX5 111 RX4 yX4_find wsX4_find) := goodIn_app (goodIn_of _ (by decide +kernel)) ggX5_distance_X4_find
set_option maxRecDepth 20000 in
theorem ggX5_distance_X4_stepsTo : GoodIn wsX5_distance wsX4_stepsTo := goodIn_r _ [44, 21, 8, 5, 9, 4, 6, 80, 81, 82, 83, 84, 85] (by decide +kernel) (by decide +kernel)
set_option maxRecDepth 20000 in
theorem gX5_distance_X4_stepsTo : GoodIn wsX5_distance (wsV RX5 187 RX4 yX4_stepsTo wsX4_stepsTo) := goodIn_app (goodIn_of _ (by decide +kernel)) ggX5_distance_X4_stepsTo
theorem dX5_distance_0 : decode cX5_distance 0 = .ok (.iload_n 1, 1) := by decide +kernel
theorem dX5_distance_1 : decode cX5_distance 1 = .ok (.invokestatic 66, 3) := by decide +kernel
theorem dX5_distance_4 : decode cX5_distance 4 = .ok (.ifCond .eq 10, 3) := by decide +kernel
theorem dX5_distance_7 : decode cX5_distance 7 = .ok (.iload_n 2, 1) := by decide +kernel
theorem dX5_distance_8 : decode cX5_distance 8 = .ok (.invokestatic 86, 3) := by decide +kernel
theorem dX5_distance_11 : decode cX5_distance 11 = .ok (.ifCond .ne 5, 3) := by decide +kernel
theorem dX5_distance_14 : decode cX5_distance 14 = .ok (.iconst (-1), 1) := by decide +kernel
theorem dX5_distance_15 : decode cX5_distance 15 = .ok (.ireturn, 1) := by decide +kernel
theorem dX5_distance_16 : decode cX5_distance 16 = .ok (.aload_n 0, 1) := by decide +kernel
theorem dX5_distance_17 : decode cX5_distance 17 = .ok (.getfield 19, 3) := by decide +kernel
theorem dX5_distance_20 : decode cX5_distance 20 = .ok (.aload_n 0, 1) := by decide +kernel
theorem dX5_distance_21 : decode cX5_distance 21 = .ok (.getfield 12, 3) := by decide +kernel
theorem dX5_distance_24 : decode cX5_distance 24 = .ok (.invokevirtual 111, 3) := by decide +kernel
theorem dX5_distance_27 : decode cX5_distance 27 = .ok (.aload_n 0, 1) := by decide +kernel
theorem dX5_distance_28 : decode cX5_distance 28 = .ok (.getfield 19, 3) := by decide +kernel
theorem dX5_distance_31 : decode cX5_distance 31 = .ok (.iload_n 2, 1) := by decide +kernel
theorem dX5_distance_32 : decode cX5_distance 32 = .ok (.iload_n 1, 1) := by decide +kernel
theorem dX5_distance_33 : decode cX5_distance 33 = .ok (.invokevirtual 187, 3) := by decide +kernel
theorem dX5_distance_36 : decode cX5_distance 36 = .ok (.ireturn, 1) := by decide +kernel
set_option maxRecDepth 20000 in
theorem ggX5_untilOut_X0_startFrom : GoodIn wsX5_untilOut wsX0_startFrom := goodIn_r _ [7, 8, 9, 10, 11, 12, 13, 14, 15, 16, 17, 18, 19, 20, 21, 22, 23, 24, 25, 26, 27, 28, 29, 30, 31, 32, 33, 34, 35, 36, 37, 38, 39, 40, 41, 42, 43, 44, 45, 46, 47, 48, 49, 50, 51, 52, 53, 54, 55, 56, 57, 58, 59, 60, 61, 62, 63, 64, 65, 66, 67, 68, 69, 70, 71, 72, 73, 74, 75, 76, 77, 78, 79, 80, 81, 82, 83, 84, 85, 86, 87, 88, 155, 156, 157, 158, 159, 160, 161, 162, 163, 164, 165, 166, 167, 168, 169, 170, 171, 172, 173, 174, 175] (by decide +kernel) (by decide +kernel)
set_option maxRecDepth 20000 in
theorem gX5_untilOut_X0_startFrom : GoodIn wsX5_untilOut (wsV RX5 190 RX0 yX0_startFrom wsX0_startFrom) := goodIn_app (goodIn_of _ (by decide +kernel)) ggX5_untilOut_X0_startFrom
set_option maxRecDepth 20000 in
theorem ggX5_untilOut_X0_runUntilOut : GoodIn wsX5_untilOut wsX0_runUntilOut := goodIn_r _ [92, 8, 9, 93, 94, 95, 96, 13, 97, 20, 98, 99, 100, 30, 101, 102, 103, 104, 105, 32, 106, 107, 108, 109, 110, 111, 112, 113, 114, 115, 116, 117, 118, 119, 120, 121, 51, 52, 53, 122, 41, 42, 43, 123, 124, 125, 126, 87, 127, 128, 129, 130, 88, 131, 132, 133, 134, 33, 135, 136, 137, 138, 139, 140, 141, 142, 143, 144, 15, 155, 156, 157, 158, 159, 160, 161, 162, 163, 164, 165, 166, 167, 168, 169, 170, 171, 172, 173, 174, 175, 176] (by decide +kernel) (by decide +kernel)
set_option maxRecDepth 20000 in
theorem gX5_untilOut_X0_runUntilOut : GoodIn wsX5_untilOut (wsV RX5 193 RX0 yX0_runUntilOut wsX0_runUntilOut) := goodIn_app (goodIn_of _ (by decide +kernel)) ggX5_untilOut_X0_runUntilOut
theorem dX5_untilOut_0 : decode cX5_untilOut 0 = .ok (.aload_n 0, 1) := by decide +kernel
theorem dX5_untilOut_1 : decode cX5_untilOut 1 = .ok (.getfield 33, 3) := by decide +kernel
theorem dX5_untilOut_4 : decode cX5_untilOut 4 = .ok (.aload_n 0, 1) := by decide +kernel
theorem dX5_untilOut_5 : decode cX5_untilOut 5 = .ok (.getfield 12, 3) := by decide +kernel
theorem dX5_untilOut_8 : decode cX5_untilOut 8 = .ok (.invokevirtual 190, 3) := by decide +kernel
theorem dX5_untilOut_11 : decode cX5_untilOut 11 = .ok (.aload_n 0, 1) := by decide +kernel
theorem dX5_untilOut_12 : decode cX5_untilOut 12 = .ok (.getfield 33, 3) := by decide +kernel
theorem dX5_untilOut_15 : decode cX5_untilOut 15 = .ok (.invokevirtual 193, 3) := by decide +kernel
theorem dX5_untilOut_18 : decode cX5_untilOut 18 = .ok (.ireturn, 1) := by decide +kernel
set_option maxRecDepth 20000 in
theorem ggX5_ifRope_X5_isCell : GoodIn wsX5_ifRope wsX5_isCell := goodIn_r _ [6] (by decide +kernel) (by decide +kernel)
set_option maxRecDepth 20000 in
theorem gX5_ifRope_X5_isCell : GoodIn wsX5_ifRope (va_wsS RX5 66 yX5_isCell wsX5_isCell) := goodIn_app (goodIn_of _ (by decide +kernel)) ggX5_ifRope_X5_isCell
set_option maxRecDepth 20000 in
theorem ggX5_ifRope_X5_isSide : GoodIn wsX5_ifRope wsX5_isSide := goodIn_r _ [9] (by decide +kernel) (by decide +kernel)
set_option maxRecDepth 20000 in
theorem gX5_ifRope_X5_isSide : GoodIn wsX5_ifRope (va_wsS RX5 70 yX5_isSide wsX5_isSide) := goodIn_app (goodIn_of _ (by decide +kernel)) ggX5_ifRope_X5_isSide
set_option maxRecDepth 20000 in
theorem ggX5_ifRope_X5_edgeAt : GoodIn wsX5_ifRope wsX5_edgeAt := goodIn_r _ [12, 13, 14, 5, 15, 16, 17, 18, 19, 20, 21, 22] (by decide +kernel) (by decide +kernel)
set_option maxRecDepth 20000 in
theorem gX5_ifRope_X5_edgeAt : GoodIn wsX5_ifRope (va_wsS RX5 73 yX5_edgeAt wsX5_edgeAt) := goodIn_app (goodIn_of _ (by decide +kernel)) ggX5_ifRope_X5_edgeAt
set_option maxRecDepth 20000 in
theorem ggX5_ifRope_X5_isEdge : GoodIn wsX5_ifRope wsX5_isEdge := goodIn_r _ [25] (by decide +kernel) (by decide +kernel)
set_option maxRecDepth 20000 in
theorem gX5_ifRope_X5_isEdge : GoodIn wsX5_ifRope (va_wsS RX5 77 yX5_isEdge wsX5_isEdge) := goodIn_app (goodIn_of _ (by decide +kernel)) ggX5_ifRope_X5_isEdge
set_option maxRecDepth 20000 in
theorem ggX5_ifRope_X0_startWithRopeTurned : GoodIn wsX5_ifRope wsX0_startWithRopeTurned := goodIn_r _ [30, 31, 32, 33, 34, 35, 36, 37, 38, 39, 40, 41, 42, 43, 44, 45, 46, 47, 48, 49, 50, 24, 5, 25, 51, 52, 53, 54, 55, 56, 57, 58, 59, 60, 61, 62, 63, 64, 4, 6, 65, 66, 67, 68, 14, 15, 16, 17, 18, 19, 20, 21, 22, 69, 70, 71, 72, 73, 74, 75, 76, 77, 78, 79, 80, 81, 82, 83, 84, 85, 86, 87, 88, 89, 90, 91, 92, 93, 94, 95, 96, 97, 98, 181, 182, 183, 184, 185, 186, 187, 188, 189, 190, 191, 192, 193, 194, 195, 196, 197, 198, 199, 200, 201] (by decide +kernel) (by decide +kernel)
set_option maxRecDepth 20000 in
theorem gX5_ifRope_X0_startWithRopeTurned : GoodIn wsX5_ifRope (wsV RX5 196 RX0 yX0_startWithRopeTurned wsX0_startWithRopeTurned) := goodIn_app (goodIn_of _ (by decide +kernel)) ggX5_ifRope_X0_startWithRopeTurned
set_option maxRecDepth 20000 in
theorem ggX5_ifRope_X0_stranded : GoodIn wsX5_ifRope wsX0_stranded := goodIn_r _ [102, 33, 31, 103, 104, 105, 54, 106, 107, 108, 109, 110, 56, 111, 181, 182, 183, 196, 197, 198, 199, 200, 201, 184, 185, 186, 187, 188, 189, 190, 191, 192, 193, 194, 195] (by decide +kernel) (by decide +kernel)
set_option maxRecDepth 20000 in
theorem gX5_ifRope_X0_stranded : GoodIn wsX5_ifRope (wsV RX5 200 RX0 yX0_stranded wsX0_stranded) := goodIn_app (goodIn_of _ (by decide +kernel)) ggX5_ifRope_X0_stranded
set_option maxRecDepth 20000 in
theorem ggX5_ifRope_X0_runUntilOut : GoodIn wsX5_ifRope wsX0_runUntilOut := goodIn_r _ [115, 31, 33, 116, 117, 118, 119, 37, 120, 44, 103, 104, 105, 54, 106, 107, 108, 109, 110, 56, 111, 121, 122, 123, 124, 125, 126, 127, 128, 129, 130, 131, 132, 133, 134, 135, 17, 18, 19, 136, 4, 5, 6, 137, 138, 139, 140, 97, 141, 142, 143, 144, 98, 145, 146, 147, 148, 57, 149, 150, 151, 152, 153, 154, 155, 156, 157, 158, 39, 181, 182, 183, 184, 185, 186, 187, 188, 189, 190, 191, 192, 193, 194, 195, 196, 197, 198, 199, 200, 201, 202] (by decide +kernel) (by decide +kernel)
set_option maxRecDepth 20000 in
theorem gX5_ifRope_X0_runUntilOut : GoodIn wsX5_ifRope (wsV RX5 193 RX0 yX0_runUntilOut wsX0_runUntilOut) := goodIn_app (goodIn_of _ (by decide +kernel)) ggX5_ifRope_X0_runUntilOut
set_option maxRecDepth 20000 in
theorem ggX5_ifRope_X0_unevenness : GoodIn wsX5_ifRope wsX0_unevenness := goodIn_r _ [162, 31, 163, 164, 165, 37, 166, 49, 50, 167, 168, 18, 169, 170, 17, 19, 181, 182, 183, 184, 185, 186, 187, 188, 189, 190, 191, 192, 193, 194, 195] (by decide +kernel) (by decide +kernel)
set_option maxRecDepth 20000 in
theorem gX5_ifRope_X0_unevenness : GoodIn wsX5_ifRope (wsV RX5 203 RX0 yX0_unevenness wsX0_unevenness) := goodIn_app (goodIn_of _ (by decide +kernel)) ggX5_ifRope_X0_unevenness
theorem dX5_ifRope_0 : decode cX5_ifRope 0 = .ok (.iload_n 1, 1) := by decide +kernel
theorem dX5_ifRope_1 : decode cX5_ifRope 1 = .ok (.invokestatic 66, 3) := by decide +kernel
theorem dX5_ifRope_4 : decode cX5_ifRope 4 = .ok (.ifCond .ne 5, 3) := by decide +kernel
theorem dX5_ifRope_7 : decode cX5_ifRope 7 = .ok (.iconst (-1), 1) := by decide +kernel
theorem dX5_ifRope_8 : decode cX5_ifRope 8 = .ok (.ireturn, 1) := by decide +kernel
theorem dX5_ifRope_9 : decode cX5_ifRope 9 = .ok (.iload_n 2, 1) := by decide +kernel
theorem dX5_ifRope_10 : decode cX5_ifRope 10 = .ok (.invokestatic 70, 3) := by decide +kernel
theorem dX5_ifRope_13 : decode cX5_ifRope 13 = .ok (.ifCond .eq 12, 3) := by decide +kernel
theorem dX5_ifRope_16 : decode cX5_ifRope 16 = .ok (.iload_n 3, 1) := by decide +kernel
theorem dX5_ifRope_17 : decode cX5_ifRope 17 = .ok (.ifCond .lt 8, 3) := by decide +kernel
theorem dX5_ifRope_20 : decode cX5_ifRope 20 = .ok (.iload_n 3, 1) := by decide +kernel
theorem dX5_ifRope_21 : decode cX5_ifRope 21 = .ok (.iconst 2, 1) := by decide +kernel
theorem dX5_ifRope_22 : decode cX5_ifRope 22 = .ok (.if_icmp .le 6, 3) := by decide +kernel
theorem dX5_ifRope_25 : decode cX5_ifRope 25 = .ok (.bipush (-2), 2) := by decide +kernel
theorem dX5_ifRope_27 : decode cX5_ifRope 27 = .ok (.ireturn, 1) := by decide +kernel
theorem dX5_ifRope_28 : decode cX5_ifRope 28 = .ok (.iload_n 1, 1) := by decide +kernel
theorem dX5_ifRope_29 : decode cX5_ifRope 29 = .ok (.iload_n 2, 1) := by decide +kernel
theorem dX5_ifRope_30 : decode cX5_ifRope 30 = .ok (.invokestatic 73, 3) := by decide +kernel
theorem dX5_ifRope_33 : decode cX5_ifRope 33 = .ok (.istore 4, 2) := by decide +kernel
theorem dX5_ifRope_35 : decode cX5_ifRope 35 = .ok (.iload 4, 2) := by decide +kernel
theorem dX5_ifRope_37 : decode cX5_ifRope 37 = .ok (.invokestatic 77, 3) := by decide +kernel
theorem dX5_ifRope_40 : decode cX5_ifRope 40 = .ok (.ifCond .ne 6, 3) := by decide +kernel
theorem dX5_ifRope_43 : decode cX5_ifRope 43 = .ok (.bipush (-5), 2) := by decide +kernel
theorem dX5_ifRope_45 : decode cX5_ifRope 45 = .ok (.ireturn, 1) := by decide +kernel
theorem dX5_ifRope_46 : decode cX5_ifRope 46 = .ok (.aload_n 0, 1) := by decide +kernel
theorem dX5_ifRope_47 : decode cX5_ifRope 47 = .ok (.getfield 33, 3) := by decide +kernel
theorem dX5_ifRope_50 : decode cX5_ifRope 50 = .ok (.aload_n 0, 1) := by decide +kernel
theorem dX5_ifRope_51 : decode cX5_ifRope 51 = .ok (.getfield 12, 3) := by decide +kernel
theorem dX5_ifRope_54 : decode cX5_ifRope 54 = .ok (.iload 4, 2) := by decide +kernel
theorem dX5_ifRope_56 : decode cX5_ifRope 56 = .ok (.invokevirtual 196, 3) := by decide +kernel
theorem dX5_ifRope_59 : decode cX5_ifRope 59 = .ok (.iload_n 3, 1) := by decide +kernel
theorem dX5_ifRope_60 : decode cX5_ifRope 60 = .ok (.iconst 2, 1) := by decide +kernel
theorem dX5_ifRope_61 : decode cX5_ifRope 61 = .ok (.if_icmp .ne 11, 3) := by decide +kernel
theorem dX5_ifRope_64 : decode cX5_ifRope 64 = .ok (.aload_n 0, 1) := by decide +kernel
theorem dX5_ifRope_65 : decode cX5_ifRope 65 = .ok (.getfield 33, 3) := by decide +kernel
theorem dX5_ifRope_68 : decode cX5_ifRope 68 = .ok (.invokevirtual 200, 3) := by decide +kernel
theorem dX5_ifRope_71 : decode cX5_ifRope 71 = .ok (.ireturn, 1) := by decide +kernel
theorem dX5_ifRope_72 : decode cX5_ifRope 72 = .ok (.aload_n 0, 1) := by decide +kernel
theorem dX5_ifRope_73 : decode cX5_ifRope 73 = .ok (.getfield 33, 3) := by decide +kernel
theorem dX5_ifRope_76 : decode cX5_ifRope 76 = .ok (.invokevirtual 193, 3) := by decide +kernel
theorem dX5_ifRope_79 : decode cX5_ifRope 79 = .ok (.istore 5, 2) := by decide +kernel
theorem dX5_ifRope_81 : decode cX5_ifRope 81 = .ok (.iload_n 3, 1) := by decide +kernel
theorem dX5_ifRope_82 : decode cX5_ifRope 82 = .ok (.ifCond .ne 8, 3) := by decide +kernel
theorem dX5_ifRope_85 : decode cX5_ifRope 85 = .ok (.iload 5, 2) := by decide +kernel
theorem dX5_ifRope_87 : decode cX5_ifRope 87 = .ok (.goto 10, 3) := by decide +kernel
theorem dX5_ifRope_90 : decode cX5_ifRope 90 = .ok (.aload_n 0, 1) := by decide +kernel
theorem dX5_ifRope_91 : decode cX5_ifRope 91 = .ok (.getfield 33, 3) := by decide +kernel
theorem dX5_ifRope_94 : decode cX5_ifRope 94 = .ok (.invokevirtual 203, 3) := by decide +kernel
theorem dX5_ifRope_97 : decode cX5_ifRope 97 = .ok (.ireturn, 1) := by decide +kernel
set_option maxRecDepth 20000 in
theorem ggX5_bestRope_X5_strandedNow : GoodIn wsX5_bestRope wsX5_strandedNow := goodIn_r _ [7, 8, 2, 9, 10, 11, 12, 13, 14, 15, 16, 17, 18, 19, 20, 21, 22, 23, 6, 24, 25, 26, 27, 28, 29, 30, 31, 32, 33, 34, 35, 36, 37, 38, 39, 40, 41, 42, 43, 44, 45, 46, 47, 48, 49, 50, 51, 52, 53, 54, 55, 56, 57, 58, 59, 60, 61, 62, 63, 64, 65, 66, 67, 68, 69, 70, 71, 72, 73, 74, 75, 76, 77, 78, 79, 80, 179, 180, 181, 182, 183, 184, 185, 186, 187, 188, 189, 190, 191, 192, 193, 194, 195, 196, 197, 198, 199, 200, 201, 202, 203, 204, 205, 206] (by decide +kernel) (by decide +kernel)
set_option maxRecDepth 20000 in
theorem gX5_bestRope_X5_strandedNow : GoodIn wsX5_bestRope (wsV RX5 175 RX5 yX5_strandedNow wsX5_strandedNow) := goodIn_app (goodIn_of _ (by decide +kernel)) ggX5_bestRope_X5_strandedNow
set_option maxRecDepth 20000 in
theorem ggX5_bestRope_X5_canHang : GoodIn wsX5_bestRope wsX5_canHang := goodIn_r _ [84, 2, 85, 86, 40, 6, 41, 87, 88, 89, 90, 31, 32, 33, 34, 35, 36, 37, 38, 39, 179, 180, 181, 182, 183, 184, 185, 186, 187, 188, 195, 196, 197, 198, 199, 200, 201, 202, 203, 204, 205, 206] (by decide +kernel) (by decide +kernel)
set_option maxRecDepth 20000 in
theorem gX5_bestRope_X5_canHang : GoodIn wsX5_bestRope (wsV RX5 204 RX5 yX5_canHang wsX5_canHang) := goodIn_app (goodIn_of _ (by decide +kernel)) ggX5_bestRope_X5_canHang
set_option maxRecDepth 20000 in
theorem ggX5_bestRope_X0_startWithRopeTurned : GoodIn wsX5_bestRope wsX0_startWithRopeTurned := goodIn_r _ [95, 96, 97, 98, 99, 100, 101, 28, 102, 103, 104, 105, 106, 107, 108, 109, 30, 110, 111, 112, 113, 40, 6, 41, 114, 10, 11, 12, 13, 14, 15, 16, 17, 18, 19, 20, 21, 22, 23, 24, 25, 26, 27, 29, 31, 32, 33, 34, 35, 36, 37, 38, 39, 42, 43, 44, 45, 46, 47, 48, 49, 50, 51, 52, 53, 54, 55, 56, 57, 58, 59, 60, 61, 62, 63, 64, 65, 66, 67, 68, 69, 70, 71, 207, 208, 209, 195, 196, 197, 198, 199, 200, 201, 202, 203, 204, 205, 206, 189, 190, 191, 192, 193, 194] (by decide +kernel) (by decide +kernel)
set_option maxRecDepth 20000 in
theorem gX5_bestRope_X0_startWithRopeTurned : GoodIn wsX5_bestRope (wsV RX5 196 RX0 yX0_startWithRopeTurned wsX0_startWithRopeTurned) := goodIn_app (goodIn_of _ (by decide +kernel)) ggX5_bestRope_X0_startWithRopeTurned
set_option maxRecDepth 20000 in
theorem ggX5_bestRope_X0_stranded : GoodIn wsX5_bestRope wsX0_stranded := goodIn_r _ [118, 98, 96, 119, 73, 74, 12, 75, 76, 77, 78, 79, 14, 80, 207, 208, 209, 189, 190, 191, 192, 193, 194, 195, 196, 197, 198, 199, 200, 201, 202, 203, 204, 205, 206] (by decide +kernel) (by decide +kernel)
set_option maxRecDepth 20000 in
theorem gX5_bestRope_X0_stranded : GoodIn wsX5_bestRope (wsV RX5 200 RX0 yX0_stranded wsX0_stranded) := goodIn_app (goodIn_of _ (by decide +kernel)) ggX5_bestRope_X0_stranded
set_option maxRecDepth 20000 in
theorem ggX5_bestRope_X0_runUntilOut : GoodIn wsX5_bestRope wsX0_runUntilOut := goodIn_r _ [123, 96, 98, 124, 125, 126, 127, 28, 128, 108, 119, 73, 74, 12, 75, 76, 77, 78, 79, 14, 80, 129, 130, 131, 132, 133, 134, 135, 136, 137, 138, 139, 140, 141, 142, 143, 34, 35, 36, 144, 23, 6, 24, 145, 146, 147, 148, 70, 149, 150, 151, 152, 71, 153, 154, 155, 156, 15, 157, 158, 159, 160, 161, 162, 163, 164, 165, 166, 103, 207, 208, 209, 195, 196, 197, 198, 199, 200, 201, 202, 203, 204, 205, 206, 189, 190, 191, 192, 193, 194, 210] (by decide +kernel) (by decide +kernel)
set_option maxRecDepth 20000 in
theorem gX5_bestRope_X0_runUntilOut : GoodIn wsX5_bestRope (wsV RX5 193 RX0 yX0_runUntilOut wsX0_runUntilOut) := goodIn_app (goodIn_of _ (by decide +kernel)) ggX5_bestRope_X0_runUntilOut
set_option maxRecDepth 20000 in
theorem ggX5_bestRope_X0_unevenness : GoodIn wsX5_bestRope wsX0_unevenness := goodIn_r _ [170, 96, 171, 172, 173, 28, 174, 112, 113, 175, 176, 35, 177, 178, 34, 36, 207, 208, 209, 195, 196, 197, 198, 199, 200, 201, 202, 203, 204, 205, 206] (by decide +kernel) (by decide +kernel)
set_option maxRecDepth 20000 in
theorem gX5_bestRope_X0_unevenness : GoodIn wsX5_bestRope (wsV RX5 203 RX0 yX0_unevenness wsX0_unevenness) := goodIn_app (goodIn_of _ (by decide +kernel)) ggX5_bestRope_X0_unevenness
theorem dX5_bestRope_0 : decode cX5_bestRope 0 = .ok (.iload_n 1, 1) := by decide +kernel
theorem dX5_bestRope_1 : decode cX5_bestRope 1 = .ok (.ifCond .lt 8, 3) := by decide +kernel
theorem dX5_bestRope_4 : decode cX5_bestRope 4 = .ok (.iload_n 1, 1) := by decide +kernel
theorem dX5_bestRope_5 : decode cX5_bestRope 5 = .ok (.iconst 2, 1) := by decide +kernel
theorem dX5_bestRope_6 : decode cX5_bestRope 6 = .ok (.if_icmp .le 6, 3) := by decide +kernel
theorem dX5_bestRope_9 : decode cX5_bestRope 9 = .ok (.bipush (-2), 2) := by decide +kernel
theorem dX5_bestRope_11 : decode cX5_bestRope 11 = .ok (.ireturn, 1) := by decide +kernel
theorem dX5_bestRope_12 : decode cX5_bestRope 12 = .ok (.aload_n 0, 1) := by decide +kernel
theorem dX5_bestRope_13 : decode cX5_bestRope 13 = .ok (.invokevirtual 175, 3) := by decide +kernel
theorem dX5_bestRope_16 : decode cX5_bestRope 16 = .ok (.istore_n 2, 1) := by decide +kernel
theorem dX5_bestRope_17 : decode cX5_bestRope 17 = .ok (.bipush (-6), 2) := by decide +kernel
theorem dX5_bestRope_19 : decode cX5_bestRope 19 = .ok (.istore_n 3, 1) := by decide +kernel
theorem dX5_bestRope_20 : decode cX5_bestRope 20 = .ok (.bipush (-6), 2) := by decide +kernel
theorem dX5_bestRope_22 : decode cX5_bestRope 22 = .ok (.istore 4, 2) := by decide +kernel
theorem dX5_bestRope_24 : decode cX5_bestRope 24 = .ok (.bipush (-6), 2) := by decide +kernel
theorem dX5_bestRope_26 : decode cX5_bestRope 26 = .ok (.istore 5, 2) := by decide +kernel
theorem dX5_bestRope_28 : decode cX5_bestRope 28 = .ok (.iconst 0, 1) := by decide +kernel
theorem dX5_bestRope_29 : decode cX5_bestRope 29 = .ok (.istore 6, 2) := by decide +kernel
theorem dX5_bestRope_31 : decode cX5_bestRope 31 = .ok (.iload 6, 2) := by decide +kernel
theorem dX5_bestRope_33 : decode cX5_bestRope 33 = .ok (.bipush 70, 2) := by decide +kernel
theorem dX5_bestRope_35 : decode cX5_bestRope 35 = .ok (.if_icmp .ge 111, 3) := by decide +kernel
theorem dX5_bestRope_38 : decode cX5_bestRope 38 = .ok (.aload_n 0, 1) := by decide +kernel
theorem dX5_bestRope_39 : decode cX5_bestRope 39 = .ok (.iload 6, 2) := by decide +kernel
theorem dX5_bestRope_41 : decode cX5_bestRope 41 = .ok (.invokevirtual 204, 3) := by decide +kernel
theorem dX5_bestRope_44 : decode cX5_bestRope 44 = .ok (.ifCond .ne 6, 3) := by decide +kernel
theorem dX5_bestRope_47 : decode cX5_bestRope 47 = .ok (.goto 93, 3) := by decide +kernel
theorem dX5_bestRope_50 : decode cX5_bestRope 50 = .ok (.aload_n 0, 1) := by decide +kernel
theorem dX5_bestRope_51 : decode cX5_bestRope 51 = .ok (.getfield 33, 3) := by decide +kernel
theorem dX5_bestRope_54 : decode cX5_bestRope 54 = .ok (.aload_n 0, 1) := by decide +kernel
theorem dX5_bestRope_55 : decode cX5_bestRope 55 = .ok (.getfield 12, 3) := by decide +kernel
theorem dX5_bestRope_58 : decode cX5_bestRope 58 = .ok (.iload 6, 2) := by decide +kernel
theorem dX5_bestRope_60 : decode cX5_bestRope 60 = .ok (.invokevirtual 196, 3) := by decide +kernel
theorem dX5_bestRope_63 : decode cX5_bestRope 63 = .ok (.aload_n 0, 1) := by decide +kernel
theorem dX5_bestRope_64 : decode cX5_bestRope 64 = .ok (.getfield 33, 3) := by decide +kernel
theorem dX5_bestRope_67 : decode cX5_bestRope 67 = .ok (.invokevirtual 200, 3) := by decide +kernel
theorem dX5_bestRope_70 : decode cX5_bestRope 70 = .ok (.iload_n 2, 1) := by decide +kernel
theorem dX5_bestRope_71 : decode cX5_bestRope 71 = .ok (.if_icmp .le 6, 3) := by decide +kernel
theorem dX5_bestRope_74 : decode cX5_bestRope 74 = .ok (.goto 66, 3) := by decide +kernel
theorem dX5_bestRope_77 : decode cX5_bestRope 77 = .ok (.aload_n 0, 1) := by decide +kernel
theorem dX5_bestRope_78 : decode cX5_bestRope 78 = .ok (.getfield 33, 3) := by decide +kernel
theorem dX5_bestRope_81 : decode cX5_bestRope 81 = .ok (.invokevirtual 193, 3) := by decide +kernel
theorem dX5_bestRope_84 : decode cX5_bestRope 84 = .ok (.istore 7, 2) := by decide +kernel
theorem dX5_bestRope_86 : decode cX5_bestRope 86 = .ok (.aload_n 0, 1) := by decide +kernel
theorem dX5_bestRope_87 : decode cX5_bestRope 87 = .ok (.getfield 33, 3) := by decide +kernel
theorem dX5_bestRope_90 : decode cX5_bestRope 90 = .ok (.invokevirtual 203, 3) := by decide +kernel
theorem dX5_bestRope_93 : decode cX5_bestRope 93 = .ok (.istore 8, 2) := by decide +kernel
theorem dX5_bestRope_95 : decode cX5_bestRope 95 = .ok (.iload 7, 2) := by decide +kernel
theorem dX5_bestRope_97 : decode cX5_bestRope 97 = .ok (.bipush (-6), 2) := by decide +kernel
theorem dX5_bestRope_99 : decode cX5_bestRope 99 = .ok (.if_icmp .eq 41, 3) := by decide +kernel
theorem dX5_bestRope_102 : decode cX5_bestRope 102 = .ok (.iload_n 3, 1) := by decide +kernel
theorem dX5_bestRope_103 : decode cX5_bestRope 103 = .ok (.bipush (-6), 2) := by decide +kernel
theorem dX5_bestRope_105 : decode cX5_bestRope 105 = .ok (.if_icmp .eq 24, 3) := by decide +kernel
theorem dX5_bestRope_108 : decode cX5_bestRope 108 = .ok (.iload 8, 2) := by decide +kernel
theorem dX5_bestRope_110 : decode cX5_bestRope 110 = .ok (.iload 4, 2) := by decide +kernel
theorem dX5_bestRope_112 : decode cX5_bestRope 112 = .ok (.if_icmp .lt 17, 3) := by decide +kernel
theorem dX5_bestRope_115 : decode cX5_bestRope 115 = .ok (.iload 8, 2) := by decide +kernel
theorem dX5_bestRope_117 : decode cX5_bestRope 117 = .ok (.iload 4, 2) := by decide +kernel
theorem dX5_bestRope_119 : decode cX5_bestRope 119 = .ok (.if_icmp .ne 21, 3) := by decide +kernel
theorem dX5_bestRope_122 : decode cX5_bestRope 122 = .ok (.iload 7, 2) := by decide +kernel
theorem dX5_bestRope_124 : decode cX5_bestRope 124 = .ok (.iload 5, 2) := by decide +kernel
theorem dX5_bestRope_126 : decode cX5_bestRope 126 = .ok (.if_icmp .ge 14, 3) := by decide +kernel
theorem dX5_bestRope_129 : decode cX5_bestRope 129 = .ok (.iload 6, 2) := by decide +kernel
theorem dX5_bestRope_131 : decode cX5_bestRope 131 = .ok (.istore_n 3, 1) := by decide +kernel
theorem dX5_bestRope_132 : decode cX5_bestRope 132 = .ok (.iload 8, 2) := by decide +kernel
theorem dX5_bestRope_134 : decode cX5_bestRope 134 = .ok (.istore 4, 2) := by decide +kernel
theorem dX5_bestRope_136 : decode cX5_bestRope 136 = .ok (.iload 7, 2) := by decide +kernel
theorem dX5_bestRope_138 : decode cX5_bestRope 138 = .ok (.istore 5, 2) := by decide +kernel
theorem dX5_bestRope_140 : decode cX5_bestRope 140 = .ok (.iinc 6 1, 3) := by decide +kernel
theorem dX5_bestRope_143 : decode cX5_bestRope 143 = .ok (.goto (-112), 3) := by decide +kernel
theorem dX5_bestRope_146 : decode cX5_bestRope 146 = .ok (.iload_n 1, 1) := by decide +kernel
theorem dX5_bestRope_147 : decode cX5_bestRope 147 = .ok (.ifCond .ne 7, 3) := by decide +kernel
theorem dX5_bestRope_150 : decode cX5_bestRope 150 = .ok (.iload_n 3, 1) := by decide +kernel
theorem dX5_bestRope_151 : decode cX5_bestRope 151 = .ok (.goto 15, 3) := by decide +kernel
theorem dX5_bestRope_154 : decode cX5_bestRope 154 = .ok (.iload_n 1, 1) := by decide +kernel
theorem dX5_bestRope_155 : decode cX5_bestRope 155 = .ok (.iconst 1, 1) := by decide +kernel
theorem dX5_bestRope_156 : decode cX5_bestRope 156 = .ok (.if_icmp .ne 8, 3) := by decide +kernel
theorem dX5_bestRope_159 : decode cX5_bestRope 159 = .ok (.iload 4, 2) := by decide +kernel
theorem dX5_bestRope_161 : decode cX5_bestRope 161 = .ok (.goto 5, 3) := by decide +kernel
theorem dX5_bestRope_164 : decode cX5_bestRope 164 = .ok (.iload 5, 2) := by decide +kernel
theorem dX5_bestRope_166 : decode cX5_bestRope 166 = .ok (.ireturn, 1) := by decide +kernel
set_option maxRecDepth 20000 in
theorem ggX5_waiting_X0_startFrom : GoodIn wsX5_waiting wsX0_startFrom := goodIn_r _ [8, 9, 10, 11, 12, 13, 14, 15, 16, 17, 18, 19, 20, 21, 22, 23, 24, 25, 26, 27, 28, 29, 30, 31, 32, 33, 34, 35, 36, 37, 38, 39, 40, 41, 42, 43, 44, 45, 46, 47, 48, 49, 50, 51, 52, 53, 54, 55, 56, 57, 58, 59, 60, 61, 62, 63, 64, 65, 66, 67, 68, 69, 70, 71, 72, 73, 74, 75, 76, 77, 78, 79, 80, 81, 82, 83, 84, 85, 86, 87, 88, 89, 173, 174, 175, 161, 162, 163, 164, 165, 166, 167, 168, 169, 170, 171, 172, 176, 177, 178, 179, 180, 181] (by decide +kernel) (by decide +kernel)
set_option maxRecDepth 20000 in
theorem gX5_waiting_X0_startFrom : GoodIn wsX5_waiting (wsV RX5 190 RX0 yX0_startFrom wsX0_startFrom) := goodIn_app (goodIn_of _ (by decide +kernel)) ggX5_waiting_X0_startFrom
set_option maxRecDepth 20000 in
theorem ggX5_waiting_X0_runUntilOut : GoodIn wsX5_waiting wsX0_runUntilOut := goodIn_r _ [93, 9, 10, 94, 95, 96, 97, 14, 98, 21, 99, 100, 101, 31, 102, 103, 104, 105, 106, 33, 107, 108, 109, 110, 111, 112, 113, 114, 115, 116, 117, 118, 119, 120, 121, 122, 52, 53, 54, 123, 42, 43, 44, 124, 125, 126, 127, 88, 128, 129, 130, 131, 89, 132, 133, 134, 135, 34, 136, 137, 138, 139, 140, 141, 142, 143, 144, 145, 16, 173, 174, 175, 161, 162, 163, 164, 165, 166, 167, 168, 169, 170, 171, 172, 176, 177, 178, 179, 180, 181, 182] (by decide +kernel) (by decide +kernel)
set_option maxRecDepth 20000 in
theorem gX5_waiting_X0_runUntilOut : GoodIn wsX5_waiting (wsV RX5 193 RX0 yX0_runUntilOut wsX0_runUntilOut) := goodIn_app (goodIn_of _ (by decide +kernel)) ggX5_waiting_X0_runUntilOut
set_option maxRecDepth 20000 in
theorem ggX5_waiting_X0_waited : GoodIn wsX5_waiting wsX0_waited := goodIn_r _ [149, 9, 150, 173, 174, 175, 161, 162, 163, 164, 165, 166, 167, 168, 169, 170, 171, 172] (by decide +kernel) (by decide +kernel)
set_option maxRecDepth 20000 in
theorem gX5_waiting_X0_waited : GoodIn wsX5_waiting (wsV RX5 207 RX0 yX0_waited wsX0_waited) := goodIn_app (goodIn_of _ (by decide +kernel)) ggX5_waiting_X0_waited
theorem dX5_waiting_0 : decode cX5_waiting 0 = .ok (.aload_n 0, 1) := by decide +kernel
theorem dX5_waiting_1 : decode cX5_waiting 1 = .ok (.getfield 33, 3) := by decide +kernel
theorem dX5_waiting_4 : decode cX5_waiting 4 = .ok (.aload_n 0, 1) := by decide +kernel
theorem dX5_waiting_5 : decode cX5_waiting 5 = .ok (.getfield 12, 3) := by decide +kernel
theorem dX5_waiting_8 : decode cX5_waiting 8 = .ok (.invokevirtual 190, 3) := by decide +kernel
theorem dX5_waiting_11 : decode cX5_waiting 11 = .ok (.aload_n 0, 1) := by decide +kernel
theorem dX5_waiting_12 : decode cX5_waiting 12 = .ok (.getfield 33, 3) := by decide +kernel
theorem dX5_waiting_15 : decode cX5_waiting 15 = .ok (.invokevirtual 193, 3) := by decide +kernel
theorem dX5_waiting_18 : decode cX5_waiting 18 = .ok (.pop, 1) := by decide +kernel
theorem dX5_waiting_19 : decode cX5_waiting 19 = .ok (.aload_n 0, 1) := by decide +kernel
theorem dX5_waiting_20 : decode cX5_waiting 20 = .ok (.getfield 33, 3) := by decide +kernel
theorem dX5_waiting_23 : decode cX5_waiting 23 = .ok (.invokevirtual 207, 3) := by decide +kernel
theorem dX5_waiting_26 : decode cX5_waiting 26 = .ok (.aload_n 0, 1) := by decide +kernel
theorem dX5_waiting_27 : decode cX5_waiting 27 = .ok (.getfield 12, 3) := by decide +kernel
theorem dX5_waiting_30 : decode cX5_waiting 30 = .ok (.getfield 169, 3) := by decide +kernel
theorem dX5_waiting_33 : decode cX5_waiting 33 = .ok (.isub, 1) := by decide +kernel
theorem dX5_waiting_34 : decode cX5_waiting 34 = .ok (.ireturn, 1) := by decide +kernel
set_option maxRecDepth 20000 in
theorem ggX5_put_X5_charactersIn : GoodIn wsX5_put wsX5_charactersIn := goodIn_r _ [6] (by decide +kernel) (by decide +kernel)
set_option maxRecDepth 20000 in
theorem gX5_put_X5_charactersIn : GoodIn wsX5_put (va_wsS RX5 209 yX5_charactersIn wsX5_charactersIn) := goodIn_app (goodIn_of _ (by decide +kernel)) ggX5_put_X5_charactersIn
set_option maxRecDepth 20000 in
theorem ggX5_put_X3_append : GoodIn wsX5_put wsX3_append := goodIn_r _ [11, 12, 13, 24, 25] (by decide +kernel) (by decide +kernel)
set_option maxRecDepth 20000 in
theorem gX5_put_X3_append : GoodIn wsX5_put (wsV RX5 213 RX3 yX3_append wsX3_append) := goodIn_app (goodIn_of _ (by decide +kernel)) ggX5_put_X3_append
theorem dX5_put_0 : decode cX5_put 0 = .ok (.lload_n 1, 1) := by decide +kernel
theorem dX5_put_1 : decode cX5_put 1 = .ok (.invokestatic 209, 3) := by decide +kernel
theorem dX5_put_4 : decode cX5_put 4 = .ok (.istore_n 3, 1) := by decide +kernel
theorem dX5_put_5 : decode cX5_put 5 = .ok (.iload_n 3, 1) := by decide +kernel
theorem dX5_put_6 : decode cX5_put 6 = .ok (.iconst 1, 1) := by decide +kernel
theorem dX5_put_7 : decode cX5_put 7 = .ok (.if_icmp .ge 6, 3) := by decide +kernel
theorem dX5_put_10 : decode cX5_put 10 = .ok (.bipush (-2), 2) := by decide +kernel
theorem dX5_put_12 : decode cX5_put 12 = .ok (.ireturn, 1) := by decide +kernel
theorem dX5_put_13 : decode cX5_put 13 = .ok (.aload_n 0, 1) := by decide +kernel
theorem dX5_put_14 : decode cX5_put 14 = .ok (.getfield 40, 3) := by decide +kernel
theorem dX5_put_17 : decode cX5_put 17 = .ok (.getfield 134, 3) := by decide +kernel
theorem dX5_put_20 : decode cX5_put 20 = .ok (.iload_n 3, 1) := by decide +kernel
theorem dX5_put_21 : decode cX5_put 21 = .ok (.iadd, 1) := by decide +kernel
theorem dX5_put_22 : decode cX5_put 22 = .ok (.bipush 60, 2) := by decide +kernel
theorem dX5_put_24 : decode cX5_put 24 = .ok (.if_icmp .le 6, 3) := by decide +kernel
theorem dX5_put_27 : decode cX5_put 27 = .ok (.bipush (-4), 2) := by decide +kernel
theorem dX5_put_29 : decode cX5_put 29 = .ok (.ireturn, 1) := by decide +kernel
theorem dX5_put_30 : decode cX5_put 30 = .ok (.iload_n 3, 1) := by decide +kernel
theorem dX5_put_31 : decode cX5_put 31 = .ok (.iconst 1, 1) := by decide +kernel
theorem dX5_put_32 : decode cX5_put 32 = .ok (.isub, 1) := by decide +kernel
theorem dX5_put_33 : decode cX5_put 33 = .ok (.istore 4, 2) := by decide +kernel
theorem dX5_put_35 : decode cX5_put 35 = .ok (.iload 4, 2) := by decide +kernel
theorem dX5_put_37 : decode cX5_put 37 = .ok (.ifCond .lt 28, 3) := by decide +kernel
theorem dX5_put_40 : decode cX5_put 40 = .ok (.aload_n 0, 1) := by decide +kernel
theorem dX5_put_41 : decode cX5_put 41 = .ok (.getfield 40, 3) := by decide +kernel
theorem dX5_put_44 : decode cX5_put 44 = .ok (.lload_n 1, 1) := by decide +kernel
theorem dX5_put_45 : decode cX5_put 45 = .ok (.bipush 8, 2) := by decide +kernel
theorem dX5_put_47 : decode cX5_put 47 = .ok (.iload 4, 2) := by decide +kernel
theorem dX5_put_49 : decode cX5_put 49 = .ok (.imul, 1) := by decide +kernel
theorem dX5_put_50 : decode cX5_put 50 = .ok (.lushr, 1) := by decide +kernel
theorem dX5_put_51 : decode cX5_put 51 = .ok (.l2i, 1) := by decide +kernel
theorem dX5_put_52 : decode cX5_put 52 = .ok (.sipush 255, 3) := by decide +kernel
theorem dX5_put_55 : decode cX5_put 55 = .ok (.iand, 1) := by decide +kernel
theorem dX5_put_56 : decode cX5_put 56 = .ok (.invokevirtual 213, 3) := by decide +kernel
theorem dX5_put_59 : decode cX5_put 59 = .ok (.iinc 4 (-1), 3) := by decide +kernel
theorem dX5_put_62 : decode cX5_put 62 = .ok (.goto (-27), 3) := by decide +kernel
theorem dX5_put_65 : decode cX5_put 65 = .ok (.aload_n 0, 1) := by decide +kernel
theorem dX5_put_66 : decode cX5_put 66 = .ok (.getfield 40, 3) := by decide +kernel
theorem dX5_put_69 : decode cX5_put 69 = .ok (.getfield 134, 3) := by decide +kernel
theorem dX5_put_72 : decode cX5_put 72 = .ok (.ireturn, 1) := by decide +kernel
theorem dX5_wipe_0 : decode cX5_wipe 0 = .ok (.aload_n 0, 1) := by decide +kernel
theorem dX5_wipe_1 : decode cX5_wipe 1 = .ok (.getfield 40, 3) := by decide +kernel
theorem dX5_wipe_4 : decode cX5_wipe 4 = .ok (.getfield 134, 3) := by decide +kernel
theorem dX5_wipe_7 : decode cX5_wipe 7 = .ok (.istore_n 1, 1) := by decide +kernel
theorem dX5_wipe_8 : decode cX5_wipe 8 = .ok (.aload_n 0, 1) := by decide +kernel
theorem dX5_wipe_9 : decode cX5_wipe 9 = .ok (.getfield 40, 3) := by decide +kernel
theorem dX5_wipe_12 : decode cX5_wipe 12 = .ok (.iconst 0, 1) := by decide +kernel
theorem dX5_wipe_13 : decode cX5_wipe 13 = .ok (.putfield 134, 3) := by decide +kernel
theorem dX5_wipe_16 : decode cX5_wipe 16 = .ok (.iload_n 1, 1) := by decide +kernel
theorem dX5_wipe_17 : decode cX5_wipe 17 = .ok (.ireturn, 1) := by decide +kernel
set_option maxRecDepth 20000 in
theorem ggX5_fault_X3_firstFault : GoodIn wsX5_fault wsX3_firstFault := goodIn_r _ [6, 7, 8, 9, 10, 5, 11, 12, 13, 14, 15, 16, 17, 18, 29, 30] (by decide +kernel) (by decide +kernel)
set_option maxRecDepth 20000 in
theorem gX5_fault_X3_firstFault : GoodIn wsX5_fault (wsV RX5 125 RX3 yX3_firstFault wsX3_firstFault) := goodIn_app (goodIn_of _ (by decide +kernel)) ggX5_fault_X3_firstFault
theorem dX5_fault_0 : decode cX5_fault 0 = .ok (.aload_n 0, 1) := by decide +kernel
theorem dX5_fault_1 : decode cX5_fault 1 = .ok (.getfield 40, 3) := by decide +kernel
theorem dX5_fault_4 : decode cX5_fault 4 = .ok (.invokevirtual 125, 3) := by decide +kernel
theorem dX5_fault_7 : decode cX5_fault 7 = .ok (.ireturn, 1) := by decide +kernel
set_option maxRecDepth 20000 in
theorem ggX5_undo_X5_recorded : GoodIn wsX5_undo wsX5_recorded := goodIn_r _ [8, 9, 30, 31, 32, 33, 34, 35, 36, 37, 38, 39] (by decide +kernel) (by decide +kernel)
set_option maxRecDepth 20000 in
theorem gX5_undo_X5_recorded : GoodIn wsX5_undo (wsV RX5 220 RX5 yX5_recorded wsX5_recorded) := goodIn_app (goodIn_of _ (by decide +kernel)) ggX5_undo_X5_recorded
set_option maxRecDepth 20000 in
theorem ggX5_undo_X5_copyHall : GoodIn wsX5_undo wsX5_copyHall := goodIn_r _ [12, 13, 14, 15, 16, 17, 18, 19, 20, 21, 22, 23, 24, 25, 26, 27, 28, 29, 40, 41, 42, 43, 44, 45, 46, 47, 48, 49, 50, 51] (by decide +kernel) (by decide +kernel)
set_option maxRecDepth 20000 in
theorem gX5_undo_X5_copyHall : GoodIn wsX5_undo (va_wsS RX5 224 yX5_copyHall wsX5_copyHall) := goodIn_app (goodIn_of _ (by decide +kernel)) ggX5_undo_X5_copyHall
theorem dX5_undo_0 : decode cX5_undo 0 = .ok (.aload_n 0, 1) := by decide +kernel
theorem dX5_undo_1 : decode cX5_undo 1 = .ok (.getfield 184, 3) := by decide +kernel
theorem dX5_undo_4 : decode cX5_undo 4 = .ok (.iconst 1, 1) := by decide +kernel
theorem dX5_undo_5 : decode cX5_undo 5 = .ok (.if_icmp .ge 6, 3) := by decide +kernel
theorem dX5_undo_8 : decode cX5_undo 8 = .ok (.bipush (-5), 2) := by decide +kernel
theorem dX5_undo_10 : decode cX5_undo 10 = .ok (.ireturn, 1) := by decide +kernel
theorem dX5_undo_11 : decode cX5_undo 11 = .ok (.aload_n 0, 1) := by decide +kernel
theorem dX5_undo_12 : decode cX5_undo 12 = .ok (.aload_n 0, 1) := by decide +kernel
theorem dX5_undo_13 : decode cX5_undo 13 = .ok (.getfield 217, 3) := by decide +kernel
theorem dX5_undo_16 : decode cX5_undo 16 = .ok (.invokevirtual 220, 3) := by decide +kernel
theorem dX5_undo_19 : decode cX5_undo 19 = .ok (.aload_n 0, 1) := by decide +kernel
theorem dX5_undo_20 : decode cX5_undo 20 = .ok (.getfield 12, 3) := by decide +kernel
theorem dX5_undo_23 : decode cX5_undo 23 = .ok (.invokestatic 224, 3) := by decide +kernel
theorem dX5_undo_26 : decode cX5_undo 26 = .ok (.aload_n 0, 1) := by decide +kernel
theorem dX5_undo_27 : decode cX5_undo 27 = .ok (.aload_n 0, 1) := by decide +kernel
theorem dX5_undo_28 : decode cX5_undo 28 = .ok (.getfield 217, 3) := by decide +kernel
theorem dX5_undo_31 : decode cX5_undo 31 = .ok (.bipush 6, 2) := by decide +kernel
theorem dX5_undo_33 : decode cX5_undo 33 = .ok (.iadd, 1) := by decide +kernel
theorem dX5_undo_34 : decode cX5_undo 34 = .ok (.iconst 1, 1) := by decide +kernel
theorem dX5_undo_35 : decode cX5_undo 35 = .ok (.isub, 1) := by decide +kernel
theorem dX5_undo_36 : decode cX5_undo 36 = .ok (.bipush 6, 2) := by decide +kernel
theorem dX5_undo_38 : decode cX5_undo 38 = .ok (.irem, 1) := by decide +kernel
theorem dX5_undo_39 : decode cX5_undo 39 = .ok (.putfield 217, 3) := by decide +kernel
theorem dX5_undo_42 : decode cX5_undo 42 = .ok (.aload_n 0, 1) := by decide +kernel
theorem dX5_undo_43 : decode cX5_undo 43 = .ok (.dup, 1) := by decide +kernel
theorem dX5_undo_44 : decode cX5_undo 44 = .ok (.getfield 184, 3) := by decide +kernel
theorem dX5_undo_47 : decode cX5_undo 47 = .ok (.iconst 1, 1) := by decide +kernel
theorem dX5_undo_48 : decode cX5_undo 48 = .ok (.isub, 1) := by decide +kernel
theorem dX5_undo_49 : decode cX5_undo 49 = .ok (.putfield 184, 3) := by decide +kernel
theorem dX5_undo_52 : decode cX5_undo 52 = .ok (.aload_n 0, 1) := by decide +kernel
theorem dX5_undo_53 : decode cX5_undo 53 = .ok (.getfield 184, 3) := by decide +kernel
theorem dX5_undo_56 : decode cX5_undo 56 = .ok (.ireturn, 1) := by decide +kernel
set_option maxRecDepth 20000 in
theorem ggX5_save_X5_copyHall : GoodIn wsX5_save wsX5_copyHall := goodIn_r _ [7, 8, 9, 10, 11, 12, 13, 14, 15, 16, 17, 18, 19, 20, 21, 22, 23, 24, 39, 40, 41, 42, 43, 44, 45, 46, 47, 48, 49, 50] (by decide +kernel) (by decide +kernel)
set_option maxRecDepth 20000 in
theorem gX5_save_X5_copyHall : GoodIn wsX5_save (va_wsS RX5 224 yX5_copyHall wsX5_copyHall) := goodIn_app (goodIn_of _ (by decide +kernel)) ggX5_save_X5_copyHall
set_option maxRecDepth 20000 in
theorem ggX5_save_X1_peopleInside : GoodIn wsX5_save wsX1_peopleInside := goodIn_r _ [28, 18, 39, 40, 41, 42, 43, 44, 45, 46, 47, 48, 49, 50] (by decide +kernel) (by decide +kernel)
set_option maxRecDepth 20000 in
theorem gX5_save_X1_peopleInside : GoodIn wsX5_save (wsV RX5 163 RX1 yX1_peopleInside wsX1_peopleInside) := goodIn_app (goodIn_of _ (by decide +kernel)) ggX5_save_X1_peopleInside
theorem dX5_save_0 : decode cX5_save 0 = .ok (.iload_n 1, 1) := by decide +kernel
theorem dX5_save_1 : decode cX5_save 1 = .ok (.ifCond .lt 8, 3) := by decide +kernel
theorem dX5_save_4 : decode cX5_save 4 = .ok (.iload_n 1, 1) := by decide +kernel
theorem dX5_save_5 : decode cX5_save 5 = .ok (.iconst 2, 1) := by decide +kernel
theorem dX5_save_6 : decode cX5_save 6 = .ok (.if_icmp .lt 6, 3) := by decide +kernel
theorem dX5_save_9 : decode cX5_save 9 = .ok (.bipush (-2), 2) := by decide +kernel
theorem dX5_save_11 : decode cX5_save 11 = .ok (.ireturn, 1) := by decide +kernel
theorem dX5_save_12 : decode cX5_save 12 = .ok (.aload_n 0, 1) := by decide +kernel
theorem dX5_save_13 : decode cX5_save 13 = .ok (.getfield 12, 3) := by decide +kernel
theorem dX5_save_16 : decode cX5_save 16 = .ok (.aload_n 0, 1) := by decide +kernel
theorem dX5_save_17 : decode cX5_save 17 = .ok (.getfield 48, 3) := by decide +kernel
theorem dX5_save_20 : decode cX5_save 20 = .ok (.iload_n 1, 1) := by decide +kernel
theorem dX5_save_21 : decode cX5_save 21 = .ok (.aaload, 1) := by decide +kernel
theorem dX5_save_22 : decode cX5_save 22 = .ok (.invokestatic 224, 3) := by decide +kernel
theorem dX5_save_25 : decode cX5_save 25 = .ok (.aload_n 0, 1) := by decide +kernel
theorem dX5_save_26 : decode cX5_save 26 = .ok (.getfield 51, 3) := by decide +kernel
theorem dX5_save_29 : decode cX5_save 29 = .ok (.iload_n 1, 1) := by decide +kernel
theorem dX5_save_30 : decode cX5_save 30 = .ok (.iconst 1, 1) := by decide +kernel
theorem dX5_save_31 : decode cX5_save 31 = .ok (.bastore, 1) := by decide +kernel
theorem dX5_save_32 : decode cX5_save 32 = .ok (.aload_n 0, 1) := by decide +kernel
theorem dX5_save_33 : decode cX5_save 33 = .ok (.getfield 12, 3) := by decide +kernel
theorem dX5_save_36 : decode cX5_save 36 = .ok (.invokevirtual 163, 3) := by decide +kernel
theorem dX5_save_39 : decode cX5_save 39 = .ok (.ireturn, 1) := by decide +kernel
set_option maxRecDepth 20000 in
theorem ggX5_restore_X5_remember : GoodIn wsX5_restore wsX5_remember := goodIn_r _ [8, 9, 3, 10, 11, 12, 13, 14, 15, 16, 17, 7, 18, 19, 20, 21, 22, 23, 24, 25, 26, 27, 28, 29, 30, 31, 32, 33, 34, 35, 36, 37, 38, 39, 44, 45, 46, 47, 48, 49, 50, 51, 52, 53, 54, 55, 56, 57, 58, 59, 60, 61, 62, 63, 64, 65] (by decide +kernel) (by decide +kernel)
set_option maxRecDepth 20000 in
theorem gX5_restore_X5_remember : GoodIn wsX5_restore (wsV RX5 59 RX5 yX5_remember wsX5_remember) := goodIn_app (goodIn_of _ (by decide +kernel)) ggX5_restore_X5_remember
set_option maxRecDepth 20000 in
theorem ggX5_restore_X5_copyHall : GoodIn wsX5_restore wsX5_copyHall := goodIn_r _ [22, 23, 24, 25, 26, 27, 28, 29, 30, 31, 32, 33, 34, 35, 36, 37, 38, 39, 54, 55, 56, 57, 58, 59, 60, 61, 62, 63, 64, 65] (by decide +kernel) (by decide +kernel)
set_option maxRecDepth 20000 in
theorem gX5_restore_X5_copyHall : GoodIn wsX5_restore (va_wsS RX5 224 yX5_copyHall wsX5_copyHall) := goodIn_app (goodIn_of _ (by decide +kernel)) ggX5_restore_X5_copyHall
set_option maxRecDepth 20000 in
theorem ggX5_restore_X1_peopleInside : GoodIn wsX5_restore wsX1_peopleInside := goodIn_r _ [43, 33, 54, 55, 56, 57, 58, 59, 60, 61, 62, 63, 64, 65] (by decide +kernel) (by decide +kernel)
set_option maxRecDepth 20000 in
theorem gX5_restore_X1_peopleInside : GoodIn wsX5_restore (wsV RX5 163 RX1 yX1_peopleInside wsX1_peopleInside) := goodIn_app (goodIn_of _ (by decide +kernel)) ggX5_restore_X1_peopleInside
theorem dX5_restore_0 : decode cX5_restore 0 = .ok (.iload_n 1, 1) := by decide +kernel
theorem dX5_restore_1 : decode cX5_restore 1 = .ok (.ifCond .lt 8, 3) := by decide +kernel
theorem dX5_restore_4 : decode cX5_restore 4 = .ok (.iload_n 1, 1) := by decide +kernel
theorem dX5_restore_5 : decode cX5_restore 5 = .ok (.iconst 2, 1) := by decide +kernel
theorem dX5_restore_6 : decode cX5_restore 6 = .ok (.if_icmp .lt 6, 3) := by decide +kernel
theorem dX5_restore_9 : decode cX5_restore 9 = .ok (.bipush (-2), 2) := by decide +kernel
theorem dX5_restore_11 : decode cX5_restore 11 = .ok (.ireturn, 1) := by decide +kernel
theorem dX5_restore_12 : decode cX5_restore 12 = .ok (.aload_n 0, 1) := by decide +kernel
theorem dX5_restore_13 : decode cX5_restore 13 = .ok (.getfield 51, 3) := by decide +kernel
theorem dX5_restore_16 : decode cX5_restore 16 = .ok (.iload_n 1, 1) := by decide +kernel
theorem dX5_restore_17 : decode cX5_restore 17 = .ok (.baload, 1) := by decide +kernel
theorem dX5_restore_18 : decode cX5_restore 18 = .ok (.ifCond .ne 6, 3) := by decide +kernel
theorem dX5_restore_21 : decode cX5_restore 21 = .ok (.bipush (-5), 2) := by decide +kernel
theorem dX5_restore_23 : decode cX5_restore 23 = .ok (.ireturn, 1) := by decide +kernel
theorem dX5_restore_24 : decode cX5_restore 24 = .ok (.aload_n 0, 1) := by decide +kernel
theorem dX5_restore_25 : decode cX5_restore 25 = .ok (.invokevirtual 59, 3) := by decide +kernel
theorem dX5_restore_28 : decode cX5_restore 28 = .ok (.aload_n 0, 1) := by decide +kernel
theorem dX5_restore_29 : decode cX5_restore 29 = .ok (.getfield 48, 3) := by decide +kernel
theorem dX5_restore_32 : decode cX5_restore 32 = .ok (.iload_n 1, 1) := by decide +kernel
theorem dX5_restore_33 : decode cX5_restore 33 = .ok (.aaload, 1) := by decide +kernel
theorem dX5_restore_34 : decode cX5_restore 34 = .ok (.aload_n 0, 1) := by decide +kernel
theorem dX5_restore_35 : decode cX5_restore 35 = .ok (.getfield 12, 3) := by decide +kernel
theorem dX5_restore_38 : decode cX5_restore 38 = .ok (.invokestatic 224, 3) := by decide +kernel
theorem dX5_restore_41 : decode cX5_restore 41 = .ok (.aload_n 0, 1) := by decide +kernel
theorem dX5_restore_42 : decode cX5_restore 42 = .ok (.getfield 12, 3) := by decide +kernel
theorem dX5_restore_45 : decode cX5_restore 45 = .ok (.invokevirtual 163, 3) := by decide +kernel
theorem dX5_restore_48 : decode cX5_restore 48 = .ok (.ireturn, 1) := by decide +kernel
set_option maxRecDepth 20000 in
theorem ggX5_remember_X5_recorded : GoodIn wsX5_remember wsX5_recorded := goodIn_r _ [12, 13, 34, 35, 36, 37, 38, 39, 40, 41, 42, 43] (by decide +kernel) (by decide +kernel)
set_option maxRecDepth 20000 in
theorem gX5_remember_X5_recorded : GoodIn wsX5_remember (wsV RX5 220 RX5 yX5_recorded wsX5_recorded) := goodIn_app (goodIn_of _ (by decide +kernel)) ggX5_remember_X5_recorded
set_option maxRecDepth 20000 in
theorem ggX5_remember_X5_copyHall : GoodIn wsX5_remember wsX5_copyHall := goodIn_r _ [16, 17, 18, 19, 20, 21, 22, 23, 24, 25, 26, 27, 28, 29, 30, 31, 32, 33, 44, 45, 46, 47, 48, 49, 50, 51, 52, 53, 54, 55] (by decide +kernel) (by decide +kernel)
set_option maxRecDepth 20000 in
theorem gX5_remember_X5_copyHall : GoodIn wsX5_remember (va_wsS RX5 224 yX5_copyHall wsX5_copyHall) := goodIn_app (goodIn_of _ (by decide +kernel)) ggX5_remember_X5_copyHall
theorem dX5_remember_0 : decode cX5_remember 0 = .ok (.aload_n 0, 1) := by decide +kernel
theorem dX5_remember_1 : decode cX5_remember 1 = .ok (.aload_n 0, 1) := by decide +kernel
theorem dX5_remember_2 : decode cX5_remember 2 = .ok (.getfield 217, 3) := by decide +kernel
theorem dX5_remember_5 : decode cX5_remember 5 = .ok (.iconst 1, 1) := by decide +kernel
theorem dX5_remember_6 : decode cX5_remember 6 = .ok (.iadd, 1) := by decide +kernel
theorem dX5_remember_7 : decode cX5_remember 7 = .ok (.bipush 6, 2) := by decide +kernel
theorem dX5_remember_9 : decode cX5_remember 9 = .ok (.irem, 1) := by decide +kernel
theorem dX5_remember_10 : decode cX5_remember 10 = .ok (.putfield 217, 3) := by decide +kernel
theorem dX5_remember_13 : decode cX5_remember 13 = .ok (.aload_n 0, 1) := by decide +kernel
theorem dX5_remember_14 : decode cX5_remember 14 = .ok (.getfield 12, 3) := by decide +kernel
theorem dX5_remember_17 : decode cX5_remember 17 = .ok (.aload_n 0, 1) := by decide +kernel
theorem dX5_remember_18 : decode cX5_remember 18 = .ok (.aload_n 0, 1) := by decide +kernel
theorem dX5_remember_19 : decode cX5_remember 19 = .ok (.getfield 217, 3) := by decide +kernel
theorem dX5_remember_22 : decode cX5_remember 22 = .ok (.invokevirtual 220, 3) := by decide +kernel
theorem dX5_remember_25 : decode cX5_remember 25 = .ok (.invokestatic 224, 3) := by decide +kernel
theorem dX5_remember_28 : decode cX5_remember 28 = .ok (.aload_n 0, 1) := by decide +kernel
theorem dX5_remember_29 : decode cX5_remember 29 = .ok (.aload_n 0, 1) := by decide +kernel
theorem dX5_remember_30 : decode cX5_remember 30 = .ok (.getfield 184, 3) := by decide +kernel
theorem dX5_remember_33 : decode cX5_remember 33 = .ok (.iconst 1, 1) := by decide +kernel
theorem dX5_remember_34 : decode cX5_remember 34 = .ok (.iadd, 1) := by decide +kernel
theorem dX5_remember_35 : decode cX5_remember 35 = .ok (.bipush 6, 2) := by decide +kernel
theorem dX5_remember_37 : decode cX5_remember 37 = .ok (.invokestatic 228, 3) := by decide +kernel
theorem dX5_remember_40 : decode cX5_remember 40 = .ok (.putfield 184, 3) := by decide +kernel
theorem dX5_remember_43 : decode cX5_remember 43 = .ok (.return_, 1) := by decide +kernel
theorem dX5_recorded_0 : decode cX5_recorded 0 = .ok (.iload_n 1, 1) := by decide +kernel
theorem dX5_recorded_1 : decode cX5_recorded 1 = .ok (.ifCond .lt 18, 3) := by decide +kernel
theorem dX5_recorded_4 : decode cX5_recorded 4 = .ok (.iload_n 1, 1) := by decide +kernel
theorem dX5_recorded_5 : decode cX5_recorded 5 = .ok (.bipush 6, 2) := by decide +kernel
theorem dX5_recorded_7 : decode cX5_recorded 7 = .ok (.if_icmp .ge 12, 3) := by decide +kernel
theorem dX5_recorded_10 : decode cX5_recorded 10 = .ok (.aload_n 0, 1) := by decide +kernel
theorem dX5_recorded_11 : decode cX5_recorded 11 = .ok (.getfield 44, 3) := by decide +kernel
theorem dX5_recorded_14 : decode cX5_recorded 14 = .ok (.iload_n 1, 1) := by decide +kernel
theorem dX5_recorded_15 : decode cX5_recorded 15 = .ok (.aaload, 1) := by decide +kernel
theorem dX5_recorded_16 : decode cX5_recorded 16 = .ok (.goto 4, 3) := by decide +kernel
theorem dX5_recorded_19 : decode cX5_recorded 19 = .ok (.aconst_null, 1) := by decide +kernel
theorem dX5_recorded_20 : decode cX5_recorded 20 = .ok (.areturn, 1) := by decide +kernel
set_option maxRecDepth 20000 in
theorem ggX5_strandedNow_X4_find : GoodIn wsX5_strandedNow wsX4_find := goodIn_r _ [7, 8, 9, 10, 11, 12, 6, 13, 14, 15, 16, 17, 18, 19, 20, 21, 22, 23, 24, 25, 26, 27, 28, 29, 30, 31, 32, 33, 34, 35, 36, 37, 38, 39, 40, 41, 42, 43, 44, 45, 46, 47, 48, 49, 50, 51, 52, 53, 54, 55, 56, 57, 58, 59, 60, 61, 62, 63, 64, 65, 66, 86, 87, 88, 89, 90, 91, 92, 93, 94, 95, 96, 97, 98, 99, 100, 101, 102, 103] (by decide +kernel) (by decide +kernel)
set_option maxRecDepth 20000 in
theorem gX5_strandedNow_X4_find : GoodIn wsX5_strandedNow (wsV RX5 111 RX4 yX4_find wsX4_find) := goodIn_app (goodIn_of _ (by decide +kernel)) ggX5_strandedNow_X4_find
set_option maxRecDepth 20000 in
theorem ggX5_strandedNow_X4_stranded : GoodIn wsX5_strandedNow wsX4_stranded := goodIn_r _ [70, 71, 72, 73, 6, 74, 8, 75, 86, 87, 88, 89, 90, 91, 92, 93, 94, 95, 96, 97, 98, 99, 100, 101, 102, 103] (by decide +kernel) (by decide +kernel)
set_option maxRecDepth 20000 in
theorem gX5_strandedNow_X4_stranded : GoodIn wsX5_strandedNow (wsV RX5 233 RX4 yX4_stranded wsX4_stranded) := goodIn_app (goodIn_of _ (by decide +kernel)) ggX5_strandedNow_X4_stranded
theorem dX5_strandedNow_0 : decode cX5_strandedNow 0 = .ok (.aload_n 0, 1) := by decide +kernel
end
section
theorem dX5_strandedNow_1 : decode cX5_strandedNow 1 = .ok (.getfield 19, 3) := by decide +kernel
theorem dX5_strandedNow_4 : decode cX5_strandedNow 4 = .ok (.aload_n 0, 1) := by decide +kernel
theorem dX5_strandedNow_5 : decode cX5_strandedNow 5 = .ok (.getfield 12, 3) := by decide +kernel
theorem dX5_strandedNow_8 : decode cX5_strandedNow 8 = .ok (.invokevirtual 111, 3) := by decide +kernel
theorem dX5_strandedNow_11 : decode cX5_strandedNow 11 = .ok (.aload_n 0, 1) := by decide +kernel
theorem dX5_strandedNow_12 : decode cX5_strandedNow 12 = .ok (.getfield 19, 3) := by decide +kernel
theorem dX5_strandedNow_15 : decode cX5_strandedNow 15 = .ok (.aload_n 0, 1) := by decide +kernel
theorem dX5_strandedNow_16 : decode cX5_strandedNow 16 = .ok (.getfield 12, 3) := by decide +kernel
theorem dX5_strandedNow_19 : decode cX5_strandedNow 19 = .ok (.invokevirtual 233, 3) := by decide +kernel
theorem dX5_strandedNow_22 : decode cX5_strandedNow 22 = .ok (.ireturn, 1) := by decide +kernel
set_option maxRecDepth 20000 in
theorem ggX5_canHang_X5_isEdge : GoodIn wsX5_canHang wsX5_isEdge := goodIn_r _ [6] (by decide +kernel) (by decide +kernel)
set_option maxRecDepth 20000 in
theorem gX5_canHang_X5_isEdge : GoodIn wsX5_canHang (va_wsS RX5 77 yX5_isEdge wsX5_isEdge) := goodIn_app (goodIn_of _ (by decide +kernel)) ggX5_canHang_X5_isEdge
set_option maxRecDepth 20000 in
theorem ggX5_canHang_X5_edgeAt : GoodIn wsX5_canHang wsX5_edgeAt := goodIn_r _ [9, 10, 11, 5, 12, 13, 14, 15, 16, 17, 18, 19] (by decide +kernel) (by decide +kernel)
set_option maxRecDepth 20000 in
theorem gX5_canHang_X5_edgeAt : GoodIn wsX5_canHang (va_wsS RX5 73 yX5_edgeAt wsX5_edgeAt) := goodIn_app (goodIn_of _ (by decide +kernel)) ggX5_canHang_X5_edgeAt
theorem dX5_canHang_0 : decode cX5_canHang 0 = .ok (.iload_n 1, 1) := by decide +kernel
theorem dX5_canHang_1 : decode cX5_canHang 1 = .ok (.invokestatic 77, 3) := by decide +kernel
theorem dX5_canHang_4 : decode cX5_canHang 4 = .ok (.ifCond .eq 32, 3) := by decide +kernel
theorem dX5_canHang_7 : decode cX5_canHang 7 = .ok (.iload_n 1, 1) := by decide +kernel
theorem dX5_canHang_8 : decode cX5_canHang 8 = .ok (.iconst 2, 1) := by decide +kernel
theorem dX5_canHang_9 : decode cX5_canHang 9 = .ok (.idiv, 1) := by decide +kernel
theorem dX5_canHang_10 : decode cX5_canHang 10 = .ok (.iload_n 1, 1) := by decide +kernel
theorem dX5_canHang_11 : decode cX5_canHang 11 = .ok (.iconst 2, 1) := by decide +kernel
theorem dX5_canHang_12 : decode cX5_canHang 12 = .ok (.irem, 1) := by decide +kernel
theorem dX5_canHang_13 : decode cX5_canHang 13 = .ok (.invokestatic 73, 3) := by decide +kernel
theorem dX5_canHang_16 : decode cX5_canHang 16 = .ok (.iload_n 1, 1) := by decide +kernel
theorem dX5_canHang_17 : decode cX5_canHang 17 = .ok (.if_icmp .ne 19, 3) := by decide +kernel
theorem dX5_canHang_20 : decode cX5_canHang 20 = .ok (.aload_n 0, 1) := by decide +kernel
theorem dX5_canHang_21 : decode cX5_canHang 21 = .ok (.getfield 12, 3) := by decide +kernel
theorem dX5_canHang_24 : decode cX5_canHang 24 = .ok (.getfield 80, 3) := by decide +kernel
theorem dX5_canHang_27 : decode cX5_canHang 27 = .ok (.iload_n 1, 1) := by decide +kernel
theorem dX5_canHang_28 : decode cX5_canHang 28 = .ok (.baload, 1) := by decide +kernel
theorem dX5_canHang_29 : decode cX5_canHang 29 = .ok (.ifCond .ne 7, 3) := by decide +kernel
theorem dX5_canHang_32 : decode cX5_canHang 32 = .ok (.iconst 1, 1) := by decide +kernel
theorem dX5_canHang_33 : decode cX5_canHang 33 = .ok (.goto 4, 3) := by decide +kernel
theorem dX5_canHang_36 : decode cX5_canHang 36 = .ok (.iconst 0, 1) := by decide +kernel
theorem dX5_canHang_37 : decode cX5_canHang 37 = .ok (.ireturn, 1) := by decide +kernel
set_option maxRecDepth 20000 in
theorem ggX5_copyHall_X1_copyFrom : GoodIn wsX5_copyHall wsX1_copyFrom := goodIn_r _ [5, 6, 7, 8, 9, 10, 11, 12, 13, 14, 15, 16, 17, 18, 19, 20, 21, 22, 23, 24, 25, 26, 27, 28, 29] (by decide +kernel) (by decide +kernel)
set_option maxRecDepth 20000 in
theorem gX5_copyHall_X1_copyFrom : GoodIn wsX5_copyHall (wsV RX5 236 RX1 yX1_copyFrom wsX1_copyFrom) := goodIn_app (goodIn_of _ (by decide +kernel)) ggX5_copyHall_X1_copyFrom
theorem dX5_copyHall_0 : decode cX5_copyHall 0 = .ok (.aload_n 0, 1) := by decide +kernel
theorem dX5_copyHall_1 : decode cX5_copyHall 1 = .ok (.ifnull 12, 3) := by decide +kernel
theorem dX5_copyHall_4 : decode cX5_copyHall 4 = .ok (.aload_n 1, 1) := by decide +kernel
theorem dX5_copyHall_5 : decode cX5_copyHall 5 = .ok (.ifnull 8, 3) := by decide +kernel
theorem dX5_copyHall_8 : decode cX5_copyHall 8 = .ok (.aload_n 1, 1) := by decide +kernel
theorem dX5_copyHall_9 : decode cX5_copyHall 9 = .ok (.aload_n 0, 1) := by decide +kernel
theorem dX5_copyHall_10 : decode cX5_copyHall 10 = .ok (.invokevirtual 236, 3) := by decide +kernel
theorem dX5_copyHall_13 : decode cX5_copyHall 13 = .ok (.return_, 1) := by decide +kernel
theorem dX5_isCell_0 : decode cX5_isCell 0 = .ok (.iload_n 0, 1) := by decide +kernel
theorem dX5_isCell_1 : decode cX5_isCell 1 = .ok (.ifCond .lt 13, 3) := by decide +kernel
theorem dX5_isCell_4 : decode cX5_isCell 4 = .ok (.iload_n 0, 1) := by decide +kernel
theorem dX5_isCell_5 : decode cX5_isCell 5 = .ok (.bipush 35, 2) := by decide +kernel
theorem dX5_isCell_7 : decode cX5_isCell 7 = .ok (.if_icmp .ge 7, 3) := by decide +kernel
theorem dX5_isCell_10 : decode cX5_isCell 10 = .ok (.iconst 1, 1) := by decide +kernel
theorem dX5_isCell_11 : decode cX5_isCell 11 = .ok (.goto 4, 3) := by decide +kernel
theorem dX5_isCell_14 : decode cX5_isCell 14 = .ok (.iconst 0, 1) := by decide +kernel
theorem dX5_isCell_15 : decode cX5_isCell 15 = .ok (.ireturn, 1) := by decide +kernel
theorem dX5_isDoor_0 : decode cX5_isDoor 0 = .ok (.iload_n 0, 1) := by decide +kernel
theorem dX5_isDoor_1 : decode cX5_isDoor 1 = .ok (.ifCond .lt 12, 3) := by decide +kernel
theorem dX5_isDoor_4 : decode cX5_isDoor 4 = .ok (.iload_n 0, 1) := by decide +kernel
theorem dX5_isDoor_5 : decode cX5_isDoor 5 = .ok (.iconst 4, 1) := by decide +kernel
theorem dX5_isDoor_6 : decode cX5_isDoor 6 = .ok (.if_icmp .ge 7, 3) := by decide +kernel
theorem dX5_isDoor_9 : decode cX5_isDoor 9 = .ok (.iconst 1, 1) := by decide +kernel
theorem dX5_isDoor_10 : decode cX5_isDoor 10 = .ok (.goto 4, 3) := by decide +kernel
theorem dX5_isDoor_13 : decode cX5_isDoor 13 = .ok (.iconst 0, 1) := by decide +kernel
theorem dX5_isDoor_14 : decode cX5_isDoor 14 = .ok (.ireturn, 1) := by decide +kernel
theorem dX5_isSide_0 : decode cX5_isSide 0 = .ok (.iload_n 0, 1) := by decide +kernel
theorem dX5_isSide_1 : decode cX5_isSide 1 = .ok (.ifCond .lt 12, 3) := by decide +kernel
theorem dX5_isSide_4 : decode cX5_isSide 4 = .ok (.iload_n 0, 1) := by decide +kernel
theorem dX5_isSide_5 : decode cX5_isSide 5 = .ok (.iconst 2, 1) := by decide +kernel
theorem dX5_isSide_6 : decode cX5_isSide 6 = .ok (.if_icmp .ge 7, 3) := by decide +kernel
theorem dX5_isSide_9 : decode cX5_isSide 9 = .ok (.iconst 1, 1) := by decide +kernel
theorem dX5_isSide_10 : decode cX5_isSide 10 = .ok (.goto 4, 3) := by decide +kernel
theorem dX5_isSide_13 : decode cX5_isSide 13 = .ok (.iconst 0, 1) := by decide +kernel
theorem dX5_isSide_14 : decode cX5_isSide 14 = .ok (.ireturn, 1) := by decide +kernel
theorem dX5_isEdge_0 : decode cX5_isEdge 0 = .ok (.iload_n 0, 1) := by decide +kernel
theorem dX5_isEdge_1 : decode cX5_isEdge 1 = .ok (.ifCond .lt 13, 3) := by decide +kernel
theorem dX5_isEdge_4 : decode cX5_isEdge 4 = .ok (.iload_n 0, 1) := by decide +kernel
theorem dX5_isEdge_5 : decode cX5_isEdge 5 = .ok (.bipush 70, 2) := by decide +kernel
theorem dX5_isEdge_7 : decode cX5_isEdge 7 = .ok (.if_icmp .ge 7, 3) := by decide +kernel
theorem dX5_isEdge_10 : decode cX5_isEdge 10 = .ok (.iconst 1, 1) := by decide +kernel
theorem dX5_isEdge_11 : decode cX5_isEdge 11 = .ok (.goto 4, 3) := by decide +kernel
theorem dX5_isEdge_14 : decode cX5_isEdge 14 = .ok (.iconst 0, 1) := by decide +kernel
theorem dX5_isEdge_15 : decode cX5_isEdge 15 = .ok (.ireturn, 1) := by decide +kernel
theorem dX5_beside_0 : decode cX5_beside 0 = .ok (.iload_n 1, 1) := by decide +kernel
theorem dX5_beside_1 : decode cX5_beside 1 = .ok (.tableswitch 97 0 3 #[31, 47, 63, 81], 31) := by decide +kernel
theorem dX5_beside_32 : decode cX5_beside 32 = .ok (.iload_n 0, 1) := by decide +kernel
theorem dX5_beside_33 : decode cX5_beside 33 = .ok (.bipush 7, 2) := by decide +kernel
theorem dX5_beside_35 : decode cX5_beside 35 = .ok (.if_icmp .lt 10, 3) := by decide +kernel
theorem dX5_beside_38 : decode cX5_beside 38 = .ok (.iload_n 0, 1) := by decide +kernel
theorem dX5_beside_39 : decode cX5_beside 39 = .ok (.bipush 7, 2) := by decide +kernel
theorem dX5_beside_41 : decode cX5_beside 41 = .ok (.isub, 1) := by decide +kernel
theorem dX5_beside_42 : decode cX5_beside 42 = .ok (.goto 5, 3) := by decide +kernel
theorem dX5_beside_45 : decode cX5_beside 45 = .ok (.bipush (-6), 2) := by decide +kernel
theorem dX5_beside_47 : decode cX5_beside 47 = .ok (.ireturn, 1) := by decide +kernel
theorem dX5_beside_48 : decode cX5_beside 48 = .ok (.iload_n 0, 1) := by decide +kernel
theorem dX5_beside_49 : decode cX5_beside 49 = .ok (.bipush 7, 2) := by decide +kernel
theorem dX5_beside_51 : decode cX5_beside 51 = .ok (.irem, 1) := by decide +kernel
theorem dX5_beside_52 : decode cX5_beside 52 = .ok (.ifCond .le 9, 3) := by decide +kernel
theorem dX5_beside_55 : decode cX5_beside 55 = .ok (.iload_n 0, 1) := by decide +kernel
theorem dX5_beside_56 : decode cX5_beside 56 = .ok (.iconst 1, 1) := by decide +kernel
theorem dX5_beside_57 : decode cX5_beside 57 = .ok (.isub, 1) := by decide +kernel
theorem dX5_beside_58 : decode cX5_beside 58 = .ok (.goto 5, 3) := by decide +kernel
theorem dX5_beside_61 : decode cX5_beside 61 = .ok (.bipush (-6), 2) := by decide +kernel
theorem dX5_beside_63 : decode cX5_beside 63 = .ok (.ireturn, 1) := by decide +kernel
theorem dX5_beside_64 : decode cX5_beside 64 = .ok (.iload_n 0, 1) := by decide +kernel
theorem dX5_beside_65 : decode cX5_beside 65 = .ok (.bipush 7, 2) := by decide +kernel
theorem dX5_beside_67 : decode cX5_beside 67 = .ok (.irem, 1) := by decide +kernel
theorem dX5_beside_68 : decode cX5_beside 68 = .ok (.bipush 6, 2) := by decide +kernel
theorem dX5_beside_70 : decode cX5_beside 70 = .ok (.if_icmp .ge 9, 3) := by decide +kernel
theorem dX5_beside_73 : decode cX5_beside 73 = .ok (.iload_n 0, 1) := by decide +kernel
theorem dX5_beside_74 : decode cX5_beside 74 = .ok (.iconst 1, 1) := by decide +kernel
theorem dX5_beside_75 : decode cX5_beside 75 = .ok (.iadd, 1) := by decide +kernel
theorem dX5_beside_76 : decode cX5_beside 76 = .ok (.goto 5, 3) := by decide +kernel
theorem dX5_beside_79 : decode cX5_beside 79 = .ok (.bipush (-6), 2) := by decide +kernel
theorem dX5_beside_81 : decode cX5_beside 81 = .ok (.ireturn, 1) := by decide +kernel
theorem dX5_beside_82 : decode cX5_beside 82 = .ok (.iload_n 0, 1) := by decide +kernel
theorem dX5_beside_83 : decode cX5_beside 83 = .ok (.bipush 28, 2) := by decide +kernel
theorem dX5_beside_85 : decode cX5_beside 85 = .ok (.if_icmp .ge 10, 3) := by decide +kernel
theorem dX5_beside_88 : decode cX5_beside 88 = .ok (.iload_n 0, 1) := by decide +kernel
theorem dX5_beside_89 : decode cX5_beside 89 = .ok (.bipush 7, 2) := by decide +kernel
theorem dX5_beside_91 : decode cX5_beside 91 = .ok (.iadd, 1) := by decide +kernel
theorem dX5_beside_92 : decode cX5_beside 92 = .ok (.goto 5, 3) := by decide +kernel
theorem dX5_beside_95 : decode cX5_beside 95 = .ok (.bipush (-6), 2) := by decide +kernel
theorem dX5_beside_97 : decode cX5_beside 97 = .ok (.ireturn, 1) := by decide +kernel
theorem dX5_beside_98 : decode cX5_beside 98 = .ok (.bipush (-6), 2) := by decide +kernel
theorem dX5_beside_100 : decode cX5_beside 100 = .ok (.ireturn, 1) := by decide +kernel
set_option maxRecDepth 20000 in
theorem ggX5_edgeTowards_X5_beside : GoodIn wsX5_edgeTowards wsX5_beside := goodIn_r _ [8] (by decide +kernel) (by decide +kernel)
set_option maxRecDepth 20000 in
theorem gX5_edgeTowards_X5_beside : GoodIn wsX5_edgeTowards (va_wsS RX5 239 yX5_beside wsX5_beside) := goodIn_app (goodIn_of _ (by decide +kernel)) ggX5_edgeTowards_X5_beside
theorem dX5_edgeTowards_0 : decode cX5_edgeTowards 0 = .ok (.iload_n 0, 1) := by decide +kernel
theorem dX5_edgeTowards_1 : decode cX5_edgeTowards 1 = .ok (.iload_n 1, 1) := by decide +kernel
theorem dX5_edgeTowards_2 : decode cX5_edgeTowards 2 = .ok (.invokestatic 239, 3) := by decide +kernel
theorem dX5_edgeTowards_5 : decode cX5_edgeTowards 5 = .ok (.istore_n 2, 1) := by decide +kernel
theorem dX5_edgeTowards_6 : decode cX5_edgeTowards 6 = .ok (.iload_n 2, 1) := by decide +kernel
theorem dX5_edgeTowards_7 : decode cX5_edgeTowards 7 = .ok (.bipush (-6), 2) := by decide +kernel
theorem dX5_edgeTowards_9 : decode cX5_edgeTowards 9 = .ok (.if_icmp .ne 6, 3) := by decide +kernel
theorem dX5_edgeTowards_12 : decode cX5_edgeTowards 12 = .ok (.bipush (-6), 2) := by decide +kernel
theorem dX5_edgeTowards_14 : decode cX5_edgeTowards 14 = .ok (.ireturn, 1) := by decide +kernel
theorem dX5_edgeTowards_15 : decode cX5_edgeTowards 15 = .ok (.iload_n 1, 1) := by decide +kernel
theorem dX5_edgeTowards_16 : decode cX5_edgeTowards 16 = .ok (.iconst 1, 1) := by decide +kernel
theorem dX5_edgeTowards_17 : decode cX5_edgeTowards 17 = .ok (.if_icmp .eq 8, 3) := by decide +kernel
theorem dX5_edgeTowards_20 : decode cX5_edgeTowards 20 = .ok (.iload_n 1, 1) := by decide +kernel
theorem dX5_edgeTowards_21 : decode cX5_edgeTowards 21 = .ok (.iconst 2, 1) := by decide +kernel
theorem dX5_edgeTowards_22 : decode cX5_edgeTowards 22 = .ok (.if_icmp .ne 7, 3) := by decide +kernel
theorem dX5_edgeTowards_25 : decode cX5_edgeTowards 25 = .ok (.iconst 0, 1) := by decide +kernel
theorem dX5_edgeTowards_26 : decode cX5_edgeTowards 26 = .ok (.goto 4, 3) := by decide +kernel
theorem dX5_edgeTowards_29 : decode cX5_edgeTowards 29 = .ok (.iconst 1, 1) := by decide +kernel
theorem dX5_edgeTowards_30 : decode cX5_edgeTowards 30 = .ok (.istore_n 3, 1) := by decide +kernel
theorem dX5_edgeTowards_31 : decode cX5_edgeTowards 31 = .ok (.iconst 2, 1) := by decide +kernel
theorem dX5_edgeTowards_32 : decode cX5_edgeTowards 32 = .ok (.iload_n 0, 1) := by decide +kernel
theorem dX5_edgeTowards_33 : decode cX5_edgeTowards 33 = .ok (.iload_n 2, 1) := by decide +kernel
theorem dX5_edgeTowards_34 : decode cX5_edgeTowards 34 = .ok (.invokestatic 228, 3) := by decide +kernel
theorem dX5_edgeTowards_37 : decode cX5_edgeTowards 37 = .ok (.imul, 1) := by decide +kernel
theorem dX5_edgeTowards_38 : decode cX5_edgeTowards 38 = .ok (.iload_n 3, 1) := by decide +kernel
theorem dX5_edgeTowards_39 : decode cX5_edgeTowards 39 = .ok (.iadd, 1) := by decide +kernel
theorem dX5_edgeTowards_40 : decode cX5_edgeTowards 40 = .ok (.ireturn, 1) := by decide +kernel
set_option maxRecDepth 20000 in
theorem ggX5_edgeAt_X5_edgeTowards : GoodIn wsX5_edgeAt wsX5_edgeTowards := goodIn_r _ [4, 5, 6, 7, 8, 9, 10, 3, 11] (by decide +kernel) (by decide +kernel)
set_option maxRecDepth 20000 in
theorem gX5_edgeAt_X5_edgeTowards : GoodIn wsX5_edgeAt (va_wsS RX5 242 yX5_edgeTowards wsX5_edgeTowards) := goodIn_app (goodIn_of _ (by decide +kernel)) ggX5_edgeAt_X5_edgeTowards
theorem dX5_edgeAt_0 : decode cX5_edgeAt 0 = .ok (.iload_n 0, 1) := by decide +kernel
theorem dX5_edgeAt_1 : decode cX5_edgeAt 1 = .ok (.iload_n 1, 1) := by decide +kernel
theorem dX5_edgeAt_2 : decode cX5_edgeAt 2 = .ok (.ifCond .ne 7, 3) := by decide +kernel
theorem dX5_edgeAt_5 : decode cX5_edgeAt 5 = .ok (.iconst 2, 1) := by decide +kernel
theorem dX5_edgeAt_6 : decode cX5_edgeAt 6 = .ok (.goto 4, 3) := by decide +kernel
theorem dX5_edgeAt_9 : decode cX5_edgeAt 9 = .ok (.iconst 3, 1) := by decide +kernel
theorem dX5_edgeAt_10 : decode cX5_edgeAt 10 = .ok (.invokestatic 242, 3) := by decide +kernel
theorem dX5_edgeAt_13 : decode cX5_edgeAt 13 = .ok (.ireturn, 1) := by decide +kernel
theorem dX5_charactersIn_0 : decode cX5_charactersIn 0 = .ok (.iconst 0, 1) := by decide +kernel
theorem dX5_charactersIn_1 : decode cX5_charactersIn 1 = .ok (.istore_n 2, 1) := by decide +kernel
theorem dX5_charactersIn_2 : decode cX5_charactersIn 2 = .ok (.iload_n 2, 1) := by decide +kernel
theorem dX5_charactersIn_3 : decode cX5_charactersIn 3 = .ok (.bipush 8, 2) := by decide +kernel
theorem dX5_charactersIn_5 : decode cX5_charactersIn 5 = .ok (.if_icmp .ge 48, 3) := by decide +kernel
theorem dX5_charactersIn_8 : decode cX5_charactersIn 8 = .ok (.lload_n 0, 1) := by decide +kernel
theorem dX5_charactersIn_9 : decode cX5_charactersIn 9 = .ok (.bipush 8, 2) := by decide +kernel
theorem dX5_charactersIn_11 : decode cX5_charactersIn 11 = .ok (.iload_n 2, 1) := by decide +kernel
theorem dX5_charactersIn_12 : decode cX5_charactersIn 12 = .ok (.imul, 1) := by decide +kernel
theorem dX5_charactersIn_13 : decode cX5_charactersIn 13 = .ok (.lushr, 1) := by decide +kernel
theorem dX5_charactersIn_14 : decode cX5_charactersIn 14 = .ok (.lstore_n 3, 1) := by decide +kernel
theorem dX5_charactersIn_15 : decode cX5_charactersIn 15 = .ok (.lload_n 3, 1) := by decide +kernel
theorem dX5_charactersIn_16 : decode cX5_charactersIn 16 = .ok (.lconst 0, 1) := by decide +kernel
theorem dX5_charactersIn_17 : decode cX5_charactersIn 17 = .ok (.lcmp, 1) := by decide +kernel
theorem dX5_charactersIn_18 : decode cX5_charactersIn 18 = .ok (.ifCond .ne 5, 3) := by decide +kernel
theorem dX5_charactersIn_21 : decode cX5_charactersIn 21 = .ok (.iload_n 2, 1) := by decide +kernel
theorem dX5_charactersIn_22 : decode cX5_charactersIn 22 = .ok (.ireturn, 1) := by decide +kernel
theorem dX5_charactersIn_23 : decode cX5_charactersIn 23 = .ok (.lload_n 3, 1) := by decide +kernel
theorem dX5_charactersIn_24 : decode cX5_charactersIn 24 = .ok (.l2i, 1) := by decide +kernel
theorem dX5_charactersIn_25 : decode cX5_charactersIn 25 = .ok (.sipush 255, 3) := by decide +kernel
theorem dX5_charactersIn_28 : decode cX5_charactersIn 28 = .ok (.iand, 1) := by decide +kernel
theorem dX5_charactersIn_29 : decode cX5_charactersIn 29 = .ok (.istore 5, 2) := by decide +kernel
theorem dX5_charactersIn_31 : decode cX5_charactersIn 31 = .ok (.iload 5, 2) := by decide +kernel
theorem dX5_charactersIn_33 : decode cX5_charactersIn 33 = .ok (.bipush 33, 2) := by decide +kernel
theorem dX5_charactersIn_35 : decode cX5_charactersIn 35 = .ok (.if_icmp .lt 10, 3) := by decide +kernel
theorem dX5_charactersIn_38 : decode cX5_charactersIn 38 = .ok (.iload 5, 2) := by decide +kernel
theorem dX5_charactersIn_40 : decode cX5_charactersIn 40 = .ok (.bipush 126, 2) := by decide +kernel
theorem dX5_charactersIn_42 : decode cX5_charactersIn 42 = .ok (.if_icmp .le 5, 3) := by decide +kernel
theorem dX5_charactersIn_45 : decode cX5_charactersIn 45 = .ok (.iconst 0, 1) := by decide +kernel
theorem dX5_charactersIn_46 : decode cX5_charactersIn 46 = .ok (.ireturn, 1) := by decide +kernel
theorem dX5_charactersIn_47 : decode cX5_charactersIn 47 = .ok (.iinc 2 1, 3) := by decide +kernel
theorem dX5_charactersIn_50 : decode cX5_charactersIn 50 = .ok (.goto (-48), 3) := by decide +kernel
theorem dX5_charactersIn_53 : decode cX5_charactersIn 53 = .ok (.bipush 8, 2) := by decide +kernel
theorem dX5_charactersIn_55 : decode cX5_charactersIn 55 = .ok (.ireturn, 1) := by decide +kernel
end
section
theorem dX6_init_0 : decode cX6_init 0 = .ok (.aload_n 0, 1) := by decide +kernel
theorem dX6_init_1 : decode cX6_init 1 = .ok (.invokespecial 1, 3) := by decide +kernel
theorem dX6_init_4 : decode cX6_init 4 = .ok (.aload_n 0, 1) := by decide +kernel
theorem dX6_init_5 : decode cX6_init 5 = .ok (.sipush 161, 3) := by decide +kernel
theorem dX6_init_8 : decode cX6_init 8 = .ok (.newarray .int, 2) := by decide +kernel
theorem dX6_init_10 : decode cX6_init 10 = .ok (.putfield 7, 3) := by decide +kernel
theorem dX6_init_13 : decode cX6_init 13 = .ok (.aload_n 0, 1) := by decide +kernel
theorem dX6_init_14 : decode cX6_init 14 = .ok (.sipush 161, 3) := by decide +kernel
theorem dX6_init_17 : decode cX6_init 17 = .ok (.newarray .int, 2) := by decide +kernel
theorem dX6_init_19 : decode cX6_init 19 = .ok (.putfield 13, 3) := by decide +kernel
theorem dX6_init_22 : decode cX6_init 22 = .ok (.aload_n 0, 1) := by decide +kernel
theorem dX6_init_23 : decode cX6_init 23 = .ok (.sipush 966, 3) := by decide +kernel
theorem dX6_init_26 : decode cX6_init 26 = .ok (.newarray .int, 2) := by decide +kernel
theorem dX6_init_28 : decode cX6_init 28 = .ok (.putfield 16, 3) := by decide +kernel
theorem dX6_init_31 : decode cX6_init 31 = .ok (.aload_n 0, 1) := by decide +kernel
theorem dX6_init_32 : decode cX6_init 32 = .ok (.sipush 322, 3) := by decide +kernel
theorem dX6_init_35 : decode cX6_init 35 = .ok (.newarray .int, 2) := by decide +kernel
theorem dX6_init_37 : decode cX6_init 37 = .ok (.putfield 19, 3) := by decide +kernel
theorem dX6_init_40 : decode cX6_init 40 = .ok (.aload_n 0, 1) := by decide +kernel
theorem dX6_init_41 : decode cX6_init 41 = .ok (.iconst 2, 1) := by decide +kernel
theorem dX6_init_42 : decode cX6_init 42 = .ok (.newarray .boolean, 2) := by decide +kernel
theorem dX6_init_44 : decode cX6_init 44 = .ok (.putfield 22, 3) := by decide +kernel
theorem dX6_init_47 : decode cX6_init 47 = .ok (.aload_n 0, 1) := by decide +kernel
theorem dX6_init_48 : decode cX6_init 48 = .ok (.bipush 60, 2) := by decide +kernel
theorem dX6_init_50 : decode cX6_init 50 = .ok (.newarray .int, 2) := by decide +kernel
theorem dX6_init_52 : decode cX6_init 52 = .ok (.putfield 26, 3) := by decide +kernel
theorem dX6_init_55 : decode cX6_init 55 = .ok (.aload_n 0, 1) := by decide +kernel
theorem dX6_init_56 : decode cX6_init 56 = .ok (.sipush 140, 3) := by decide +kernel
theorem dX6_init_59 : decode cX6_init 59 = .ok (.newarray .int, 2) := by decide +kernel
theorem dX6_init_61 : decode cX6_init 61 = .ok (.putfield 29, 3) := by decide +kernel
theorem dX6_init_64 : decode cX6_init 64 = .ok (.aload_n 0, 1) := by decide +kernel
theorem dX6_init_65 : decode cX6_init 65 = .ok (.bipush 35, 2) := by decide +kernel
theorem dX6_init_67 : decode cX6_init 67 = .ok (.newarray .int, 2) := by decide +kernel
theorem dX6_init_69 : decode cX6_init 69 = .ok (.putfield 32, 3) := by decide +kernel
theorem dX6_init_72 : decode cX6_init 72 = .ok (.aload_n 0, 1) := by decide +kernel
theorem dX6_init_73 : decode cX6_init 73 = .ok (.bipush 35, 2) := by decide +kernel
theorem dX6_init_75 : decode cX6_init 75 = .ok (.newarray .int, 2) := by decide +kernel
theorem dX6_init_77 : decode cX6_init 77 = .ok (.putfield 35, 3) := by decide +kernel
theorem dX6_init_80 : decode cX6_init 80 = .ok (.aload_n 0, 1) := by decide +kernel
theorem dX6_init_81 : decode cX6_init 81 = .ok (.bipush 35, 2) := by decide +kernel
theorem dX6_init_83 : decode cX6_init 83 = .ok (.newarray .int, 2) := by decide +kernel
theorem dX6_init_85 : decode cX6_init 85 = .ok (.putfield 38, 3) := by decide +kernel
theorem dX6_init_88 : decode cX6_init 88 = .ok (.aload_n 0, 1) := by decide +kernel
theorem dX6_init_89 : decode cX6_init 89 = .ok (.bipush 35, 2) := by decide +kernel
theorem dX6_init_91 : decode cX6_init 91 = .ok (.newarray .int, 2) := by decide +kernel
theorem dX6_init_93 : decode cX6_init 93 = .ok (.putfield 41, 3) := by decide +kernel
theorem dX6_init_96 : decode cX6_init 96 = .ok (.aload_n 0, 1) := by decide +kernel
theorem dX6_init_97 : decode cX6_init 97 = .ok (.iconst 3, 1) := by decide +kernel
theorem dX6_init_98 : decode cX6_init 98 = .ok (.newarray .int, 2) := by decide +kernel
theorem dX6_init_100 : decode cX6_init 100 = .ok (.putfield 44, 3) := by decide +kernel
theorem dX6_init_103 : decode cX6_init 103 = .ok (.aload_n 0, 1) := by decide +kernel
theorem dX6_init_104 : decode cX6_init 104 = .ok (.getfield 7, 3) := by decide +kernel
theorem dX6_init_107 : decode cX6_init 107 = .ok (.iconst 0, 1) := by decide +kernel
theorem dX6_init_108 : decode cX6_init 108 = .ok (.bipush 6, 2) := by decide +kernel
theorem dX6_init_110 : decode cX6_init 110 = .ok (.iastore, 1) := by decide +kernel
theorem dX6_init_111 : decode cX6_init 111 = .ok (.aload_n 0, 1) := by decide +kernel
theorem dX6_init_112 : decode cX6_init 112 = .ok (.getfield 7, 3) := by decide +kernel
theorem dX6_init_115 : decode cX6_init 115 = .ok (.bipush 6, 2) := by decide +kernel
theorem dX6_init_117 : decode cX6_init 117 = .ok (.bipush 6, 2) := by decide +kernel
theorem dX6_init_119 : decode cX6_init 119 = .ok (.iastore, 1) := by decide +kernel
theorem dX6_init_120 : decode cX6_init 120 = .ok (.aload_n 0, 1) := by decide +kernel
theorem dX6_init_121 : decode cX6_init 121 = .ok (.getfield 7, 3) := by decide +kernel
theorem dX6_init_124 : decode cX6_init 124 = .ok (.bipush 7, 2) := by decide +kernel
theorem dX6_init_126 : decode cX6_init 126 = .ok (.bipush 28, 2) := by decide +kernel
theorem dX6_init_128 : decode cX6_init 128 = .ok (.iastore, 1) := by decide +kernel
theorem dX6_init_129 : decode cX6_init 129 = .ok (.aload_n 0, 1) := by decide +kernel
theorem dX6_init_130 : decode cX6_init 130 = .ok (.getfield 7, 3) := by decide +kernel
theorem dX6_init_133 : decode cX6_init 133 = .ok (.bipush 8, 2) := by decide +kernel
theorem dX6_init_135 : decode cX6_init 135 = .ok (.bipush 34, 2) := by decide +kernel
theorem dX6_init_137 : decode cX6_init 137 = .ok (.iastore, 1) := by decide +kernel
theorem dX6_init_138 : decode cX6_init 138 = .ok (.iconst 0, 1) := by decide +kernel
theorem dX6_init_139 : decode cX6_init 139 = .ok (.istore_n 1, 1) := by decide +kernel
theorem dX6_init_140 : decode cX6_init 140 = .ok (.iload_n 1, 1) := by decide +kernel
theorem dX6_init_141 : decode cX6_init 141 = .ok (.iconst 4, 1) := by decide +kernel
theorem dX6_init_142 : decode cX6_init 142 = .ok (.if_icmp .ge 42, 3) := by decide +kernel
theorem dX6_init_145 : decode cX6_init 145 = .ok (.aload_n 0, 1) := by decide +kernel
theorem dX6_init_146 : decode cX6_init 146 = .ok (.getfield 7, 3) := by decide +kernel
theorem dX6_init_149 : decode cX6_init 149 = .ok (.bipush 9, 2) := by decide +kernel
theorem dX6_init_151 : decode cX6_init 151 = .ok (.iload_n 1, 1) := by decide +kernel
theorem dX6_init_152 : decode cX6_init 152 = .ok (.iadd, 1) := by decide +kernel
theorem dX6_init_153 : decode cX6_init 153 = .ok (.iconst 1, 1) := by decide +kernel
theorem dX6_init_154 : decode cX6_init 154 = .ok (.iastore, 1) := by decide +kernel
theorem dX6_init_155 : decode cX6_init 155 = .ok (.aload_n 0, 1) := by decide +kernel
theorem dX6_init_156 : decode cX6_init 156 = .ok (.getfield 7, 3) := by decide +kernel
theorem dX6_init_159 : decode cX6_init 159 = .ok (.bipush 13, 2) := by decide +kernel
theorem dX6_init_161 : decode cX6_init 161 = .ok (.iload_n 1, 1) := by decide +kernel
theorem dX6_init_162 : decode cX6_init 162 = .ok (.iadd, 1) := by decide +kernel
theorem dX6_init_163 : decode cX6_init 163 = .ok (.iload_n 1, 1) := by decide +kernel
theorem dX6_init_164 : decode cX6_init 164 = .ok (.ifCond .eq 8, 3) := by decide +kernel
theorem dX6_init_167 : decode cX6_init 167 = .ok (.iload_n 1, 1) := by decide +kernel
theorem dX6_init_168 : decode cX6_init 168 = .ok (.iconst 3, 1) := by decide +kernel
theorem dX6_init_169 : decode cX6_init 169 = .ok (.if_icmp .ne 7, 3) := by decide +kernel
theorem dX6_init_172 : decode cX6_init 172 = .ok (.iconst 1, 1) := by decide +kernel
theorem dX6_init_173 : decode cX6_init 173 = .ok (.goto 4, 3) := by decide +kernel
theorem dX6_init_176 : decode cX6_init 176 = .ok (.iconst 0, 1) := by decide +kernel
theorem dX6_init_177 : decode cX6_init 177 = .ok (.iastore, 1) := by decide +kernel
theorem dX6_init_178 : decode cX6_init 178 = .ok (.iinc 1 1, 3) := by decide +kernel
theorem dX6_init_181 : decode cX6_init 181 = .ok (.goto (-41), 3) := by decide +kernel
theorem dX6_init_184 : decode cX6_init 184 = .ok (.iconst 0, 1) := by decide +kernel
theorem dX6_init_185 : decode cX6_init 185 = .ok (.istore_n 1, 1) := by decide +kernel
theorem dX6_init_186 : decode cX6_init 186 = .ok (.iload_n 1, 1) := by decide +kernel
theorem dX6_init_187 : decode cX6_init 187 = .ok (.bipush 35, 2) := by decide +kernel
theorem dX6_init_189 : decode cX6_init 189 = .ok (.if_icmp .ge 19, 3) := by decide +kernel
theorem dX6_init_192 : decode cX6_init 192 = .ok (.aload_n 0, 1) := by decide +kernel
theorem dX6_init_193 : decode cX6_init 193 = .ok (.getfield 7, 3) := by decide +kernel
theorem dX6_init_196 : decode cX6_init 196 = .ok (.bipush 56, 2) := by decide +kernel
theorem dX6_init_198 : decode cX6_init 198 = .ok (.iload_n 1, 1) := by decide +kernel
theorem dX6_init_199 : decode cX6_init 199 = .ok (.iadd, 1) := by decide +kernel
theorem dX6_init_200 : decode cX6_init 200 = .ok (.iconst (-1), 1) := by decide +kernel
theorem dX6_init_201 : decode cX6_init 201 = .ok (.iastore, 1) := by decide +kernel
theorem dX6_init_202 : decode cX6_init 202 = .ok (.iinc 1 1, 3) := by decide +kernel
theorem dX6_init_205 : decode cX6_init 205 = .ok (.goto (-19), 3) := by decide +kernel
theorem dX6_init_208 : decode cX6_init 208 = .ok (.return_, 1) := by decide +kernel
theorem dX6_in_0 : decode cX6_in 0 = .ok (.iload_n 0, 1) := by decide +kernel
theorem dX6_in_1 : decode cX6_in 1 = .ok (.iload_n 1, 1) := by decide +kernel
theorem dX6_in_2 : decode cX6_in 2 = .ok (.if_icmp .lt 12, 3) := by decide +kernel
theorem dX6_in_5 : decode cX6_in 5 = .ok (.iload_n 0, 1) := by decide +kernel
theorem dX6_in_6 : decode cX6_in 6 = .ok (.iload_n 2, 1) := by decide +kernel
theorem dX6_in_7 : decode cX6_in 7 = .ok (.if_icmp .gt 7, 3) := by decide +kernel
theorem dX6_in_10 : decode cX6_in 10 = .ok (.iconst 1, 1) := by decide +kernel
theorem dX6_in_11 : decode cX6_in 11 = .ok (.goto 4, 3) := by decide +kernel
theorem dX6_in_14 : decode cX6_in 14 = .ok (.iconst 0, 1) := by decide +kernel
theorem dX6_in_15 : decode cX6_in 15 = .ok (.ireturn, 1) := by decide +kernel
set_option maxRecDepth 20000 in
theorem ggX6_isCell_X6_in : GoodIn wsX6_isCell wsX6_in := goodIn_r _ [4] (by decide +kernel) (by decide +kernel)
set_option maxRecDepth 20000 in
theorem gX6_isCell_X6_in : GoodIn wsX6_isCell (va_wsS RX6 47 yX6_in wsX6_in) := goodIn_app (goodIn_of _ (by decide +kernel)) ggX6_isCell_X6_in
theorem dX6_isCell_0 : decode cX6_isCell 0 = .ok (.iload_n 0, 1) := by decide +kernel
theorem dX6_isCell_1 : decode cX6_isCell 1 = .ok (.iconst 0, 1) := by decide +kernel
theorem dX6_isCell_2 : decode cX6_isCell 2 = .ok (.bipush 34, 2) := by decide +kernel
theorem dX6_isCell_4 : decode cX6_isCell 4 = .ok (.invokestatic 47, 3) := by decide +kernel
theorem dX6_isCell_7 : decode cX6_isCell 7 = .ok (.ireturn, 1) := by decide +kernel
set_option maxRecDepth 20000 in
theorem ggX6_isDoor_X6_in : GoodIn wsX6_isDoor wsX6_in := goodIn_r _ [4] (by decide +kernel) (by decide +kernel)
set_option maxRecDepth 20000 in
theorem gX6_isDoor_X6_in : GoodIn wsX6_isDoor (va_wsS RX6 47 yX6_in wsX6_in) := goodIn_app (goodIn_of _ (by decide +kernel)) ggX6_isDoor_X6_in
theorem dX6_isDoor_0 : decode cX6_isDoor 0 = .ok (.iload_n 0, 1) := by decide +kernel
theorem dX6_isDoor_1 : decode cX6_isDoor 1 = .ok (.iconst 0, 1) := by decide +kernel
theorem dX6_isDoor_2 : decode cX6_isDoor 2 = .ok (.iconst 3, 1) := by decide +kernel
theorem dX6_isDoor_3 : decode cX6_isDoor 3 = .ok (.invokestatic 47, 3) := by decide +kernel
theorem dX6_isDoor_6 : decode cX6_isDoor 6 = .ok (.ireturn, 1) := by decide +kernel
theorem dX6_record_0 : decode cX6_record 0 = .ok (.aload_n 0, 1) := by decide +kernel
theorem dX6_record_1 : decode cX6_record 1 = .ok (.getfield 51, 3) := by decide +kernel
theorem dX6_record_4 : decode cX6_record 4 = .ok (.bipush 6, 2) := by decide +kernel
theorem dX6_record_6 : decode cX6_record 6 = .ok (.if_icmp .ne 44, 3) := by decide +kernel
theorem dX6_record_9 : decode cX6_record 9 = .ok (.iconst 0, 1) := by decide +kernel
theorem dX6_record_10 : decode cX6_record 10 = .ok (.istore_n 1, 1) := by decide +kernel
theorem dX6_record_11 : decode cX6_record 11 = .ok (.iload_n 1, 1) := by decide +kernel
theorem dX6_record_12 : decode cX6_record 12 = .ok (.sipush 805, 3) := by decide +kernel
theorem dX6_record_15 : decode cX6_record 15 = .ok (.if_icmp .ge 25, 3) := by decide +kernel
theorem dX6_record_18 : decode cX6_record 18 = .ok (.aload_n 0, 1) := by decide +kernel
theorem dX6_record_19 : decode cX6_record 19 = .ok (.getfield 16, 3) := by decide +kernel
theorem dX6_record_22 : decode cX6_record 22 = .ok (.iload_n 1, 1) := by decide +kernel
theorem dX6_record_23 : decode cX6_record 23 = .ok (.aload_n 0, 1) := by decide +kernel
theorem dX6_record_24 : decode cX6_record 24 = .ok (.getfield 16, 3) := by decide +kernel
theorem dX6_record_27 : decode cX6_record 27 = .ok (.iload_n 1, 1) := by decide +kernel
theorem dX6_record_28 : decode cX6_record 28 = .ok (.sipush 161, 3) := by decide +kernel
theorem dX6_record_31 : decode cX6_record 31 = .ok (.iadd, 1) := by decide +kernel
theorem dX6_record_32 : decode cX6_record 32 = .ok (.iaload, 1) := by decide +kernel
theorem dX6_record_33 : decode cX6_record 33 = .ok (.iastore, 1) := by decide +kernel
theorem dX6_record_34 : decode cX6_record 34 = .ok (.iinc 1 1, 3) := by decide +kernel
theorem dX6_record_37 : decode cX6_record 37 = .ok (.goto (-26), 3) := by decide +kernel
theorem dX6_record_40 : decode cX6_record 40 = .ok (.aload_n 0, 1) := by decide +kernel
theorem dX6_record_41 : decode cX6_record 41 = .ok (.dup, 1) := by decide +kernel
theorem dX6_record_42 : decode cX6_record 42 = .ok (.getfield 51, 3) := by decide +kernel
theorem dX6_record_45 : decode cX6_record 45 = .ok (.iconst 1, 1) := by decide +kernel
theorem dX6_record_46 : decode cX6_record 46 = .ok (.isub, 1) := by decide +kernel
theorem dX6_record_47 : decode cX6_record 47 = .ok (.putfield 51, 3) := by decide +kernel
theorem dX6_record_50 : decode cX6_record 50 = .ok (.iconst 0, 1) := by decide +kernel
theorem dX6_record_51 : decode cX6_record 51 = .ok (.istore_n 1, 1) := by decide +kernel
theorem dX6_record_52 : decode cX6_record 52 = .ok (.iload_n 1, 1) := by decide +kernel
theorem dX6_record_53 : decode cX6_record 53 = .ok (.sipush 161, 3) := by decide +kernel
theorem dX6_record_56 : decode cX6_record 56 = .ok (.if_icmp .ge 30, 3) := by decide +kernel
theorem dX6_record_59 : decode cX6_record 59 = .ok (.aload_n 0, 1) := by decide +kernel
theorem dX6_record_60 : decode cX6_record 60 = .ok (.getfield 16, 3) := by decide +kernel
theorem dX6_record_63 : decode cX6_record 63 = .ok (.sipush 161, 3) := by decide +kernel
theorem dX6_record_66 : decode cX6_record 66 = .ok (.aload_n 0, 1) := by decide +kernel
theorem dX6_record_67 : decode cX6_record 67 = .ok (.getfield 51, 3) := by decide +kernel
theorem dX6_record_70 : decode cX6_record 70 = .ok (.imul, 1) := by decide +kernel
theorem dX6_record_71 : decode cX6_record 71 = .ok (.iload_n 1, 1) := by decide +kernel
theorem dX6_record_72 : decode cX6_record 72 = .ok (.iadd, 1) := by decide +kernel
theorem dX6_record_73 : decode cX6_record 73 = .ok (.aload_n 0, 1) := by decide +kernel
theorem dX6_record_74 : decode cX6_record 74 = .ok (.getfield 7, 3) := by decide +kernel
theorem dX6_record_77 : decode cX6_record 77 = .ok (.iload_n 1, 1) := by decide +kernel
theorem dX6_record_78 : decode cX6_record 78 = .ok (.iaload, 1) := by decide +kernel
theorem dX6_record_79 : decode cX6_record 79 = .ok (.iastore, 1) := by decide +kernel
theorem dX6_record_80 : decode cX6_record 80 = .ok (.iinc 1 1, 3) := by decide +kernel
theorem dX6_record_83 : decode cX6_record 83 = .ok (.goto (-31), 3) := by decide +kernel
theorem dX6_record_86 : decode cX6_record 86 = .ok (.aload_n 0, 1) := by decide +kernel
theorem dX6_record_87 : decode cX6_record 87 = .ok (.dup, 1) := by decide +kernel
theorem dX6_record_88 : decode cX6_record 88 = .ok (.getfield 51, 3) := by decide +kernel
theorem dX6_record_91 : decode cX6_record 91 = .ok (.iconst 1, 1) := by decide +kernel
theorem dX6_record_92 : decode cX6_record 92 = .ok (.iadd, 1) := by decide +kernel
theorem dX6_record_93 : decode cX6_record 93 = .ok (.putfield 51, 3) := by decide +kernel
theorem dX6_record_96 : decode cX6_record 96 = .ok (.return_, 1) := by decide +kernel
theorem dX6_putAside_0 : decode cX6_putAside 0 = .ok (.iconst 0, 1) := by decide +kernel
theorem dX6_putAside_1 : decode cX6_putAside 1 = .ok (.istore_n 1, 1) := by decide +kernel
theorem dX6_putAside_2 : decode cX6_putAside 2 = .ok (.iload_n 1, 1) := by decide +kernel
theorem dX6_putAside_3 : decode cX6_putAside 3 = .ok (.sipush 161, 3) := by decide +kernel
theorem dX6_putAside_6 : decode cX6_putAside 6 = .ok (.if_icmp .ge 21, 3) := by decide +kernel
theorem dX6_putAside_9 : decode cX6_putAside 9 = .ok (.aload_n 0, 1) := by decide +kernel
theorem dX6_putAside_10 : decode cX6_putAside 10 = .ok (.getfield 13, 3) := by decide +kernel
theorem dX6_putAside_13 : decode cX6_putAside 13 = .ok (.iload_n 1, 1) := by decide +kernel
theorem dX6_putAside_14 : decode cX6_putAside 14 = .ok (.aload_n 0, 1) := by decide +kernel
theorem dX6_putAside_15 : decode cX6_putAside 15 = .ok (.getfield 7, 3) := by decide +kernel
theorem dX6_putAside_18 : decode cX6_putAside 18 = .ok (.iload_n 1, 1) := by decide +kernel
theorem dX6_putAside_19 : decode cX6_putAside 19 = .ok (.iaload, 1) := by decide +kernel
theorem dX6_putAside_20 : decode cX6_putAside 20 = .ok (.iastore, 1) := by decide +kernel
theorem dX6_putAside_21 : decode cX6_putAside 21 = .ok (.iinc 1 1, 3) := by decide +kernel
theorem dX6_putAside_24 : decode cX6_putAside 24 = .ok (.goto (-22), 3) := by decide +kernel
theorem dX6_putAside_27 : decode cX6_putAside 27 = .ok (.return_, 1) := by decide +kernel
theorem dX6_putBack_0 : decode cX6_putBack 0 = .ok (.iconst 0, 1) := by decide +kernel
theorem dX6_putBack_1 : decode cX6_putBack 1 = .ok (.istore_n 1, 1) := by decide +kernel
theorem dX6_putBack_2 : decode cX6_putBack 2 = .ok (.iload_n 1, 1) := by decide +kernel
theorem dX6_putBack_3 : decode cX6_putBack 3 = .ok (.sipush 161, 3) := by decide +kernel
theorem dX6_putBack_6 : decode cX6_putBack 6 = .ok (.if_icmp .ge 21, 3) := by decide +kernel
theorem dX6_putBack_9 : decode cX6_putBack 9 = .ok (.aload_n 0, 1) := by decide +kernel
theorem dX6_putBack_10 : decode cX6_putBack 10 = .ok (.getfield 7, 3) := by decide +kernel
theorem dX6_putBack_13 : decode cX6_putBack 13 = .ok (.iload_n 1, 1) := by decide +kernel
theorem dX6_putBack_14 : decode cX6_putBack 14 = .ok (.aload_n 0, 1) := by decide +kernel
theorem dX6_putBack_15 : decode cX6_putBack 15 = .ok (.getfield 13, 3) := by decide +kernel
theorem dX6_putBack_18 : decode cX6_putBack 18 = .ok (.iload_n 1, 1) := by decide +kernel
theorem dX6_putBack_19 : decode cX6_putBack 19 = .ok (.iaload, 1) := by decide +kernel
theorem dX6_putBack_20 : decode cX6_putBack 20 = .ok (.iastore, 1) := by decide +kernel
theorem dX6_putBack_21 : decode cX6_putBack 21 = .ok (.iinc 1 1, 3) := by decide +kernel
theorem dX6_putBack_24 : decode cX6_putBack 24 = .ok (.goto (-22), 3) := by decide +kernel
theorem dX6_putBack_27 : decode cX6_putBack 27 = .ok (.return_, 1) := by decide +kernel
theorem dX6_beside_0 : decode cX6_beside 0 = .ok (.iload_n 1, 1) := by decide +kernel
theorem dX6_beside_1 : decode cX6_beside 1 = .ok (.tableswitch 77 0 2 #[27, 43, 59], 27) := by decide +kernel
theorem dX6_beside_28 : decode cX6_beside 28 = .ok (.iload_n 0, 1) := by decide +kernel
theorem dX6_beside_29 : decode cX6_beside 29 = .ok (.bipush 7, 2) := by decide +kernel
theorem dX6_beside_31 : decode cX6_beside 31 = .ok (.if_icmp .lt 10, 3) := by decide +kernel
theorem dX6_beside_34 : decode cX6_beside 34 = .ok (.iload_n 0, 1) := by decide +kernel
theorem dX6_beside_35 : decode cX6_beside 35 = .ok (.bipush 7, 2) := by decide +kernel
theorem dX6_beside_37 : decode cX6_beside 37 = .ok (.isub, 1) := by decide +kernel
theorem dX6_beside_38 : decode cX6_beside 38 = .ok (.goto 5, 3) := by decide +kernel
theorem dX6_beside_41 : decode cX6_beside 41 = .ok (.bipush (-6), 2) := by decide +kernel
theorem dX6_beside_43 : decode cX6_beside 43 = .ok (.ireturn, 1) := by decide +kernel
theorem dX6_beside_44 : decode cX6_beside 44 = .ok (.iload_n 0, 1) := by decide +kernel
theorem dX6_beside_45 : decode cX6_beside 45 = .ok (.bipush 7, 2) := by decide +kernel
theorem dX6_beside_47 : decode cX6_beside 47 = .ok (.irem, 1) := by decide +kernel
theorem dX6_beside_48 : decode cX6_beside 48 = .ok (.ifCond .le 9, 3) := by decide +kernel
theorem dX6_beside_51 : decode cX6_beside 51 = .ok (.iload_n 0, 1) := by decide +kernel
theorem dX6_beside_52 : decode cX6_beside 52 = .ok (.iconst 1, 1) := by decide +kernel
theorem dX6_beside_53 : decode cX6_beside 53 = .ok (.isub, 1) := by decide +kernel
theorem dX6_beside_54 : decode cX6_beside 54 = .ok (.goto 5, 3) := by decide +kernel
theorem dX6_beside_57 : decode cX6_beside 57 = .ok (.bipush (-6), 2) := by decide +kernel
theorem dX6_beside_59 : decode cX6_beside 59 = .ok (.ireturn, 1) := by decide +kernel
theorem dX6_beside_60 : decode cX6_beside 60 = .ok (.iload_n 0, 1) := by decide +kernel
theorem dX6_beside_61 : decode cX6_beside 61 = .ok (.bipush 7, 2) := by decide +kernel
theorem dX6_beside_63 : decode cX6_beside 63 = .ok (.irem, 1) := by decide +kernel
theorem dX6_beside_64 : decode cX6_beside 64 = .ok (.bipush 6, 2) := by decide +kernel
theorem dX6_beside_66 : decode cX6_beside 66 = .ok (.if_icmp .ge 9, 3) := by decide +kernel
theorem dX6_beside_69 : decode cX6_beside 69 = .ok (.iload_n 0, 1) := by decide +kernel
theorem dX6_beside_70 : decode cX6_beside 70 = .ok (.iconst 1, 1) := by decide +kernel
theorem dX6_beside_71 : decode cX6_beside 71 = .ok (.iadd, 1) := by decide +kernel
theorem dX6_beside_72 : decode cX6_beside 72 = .ok (.goto 5, 3) := by decide +kernel
theorem dX6_beside_75 : decode cX6_beside 75 = .ok (.bipush (-6), 2) := by decide +kernel
theorem dX6_beside_77 : decode cX6_beside 77 = .ok (.ireturn, 1) := by decide +kernel
theorem dX6_beside_78 : decode cX6_beside 78 = .ok (.iload_n 0, 1) := by decide +kernel
theorem dX6_beside_79 : decode cX6_beside 79 = .ok (.bipush 7, 2) := by decide +kernel
theorem dX6_beside_81 : decode cX6_beside 81 = .ok (.idiv, 1) := by decide +kernel
theorem dX6_beside_82 : decode cX6_beside 82 = .ok (.iconst 4, 1) := by decide +kernel
theorem dX6_beside_83 : decode cX6_beside 83 = .ok (.if_icmp .ge 10, 3) := by decide +kernel
theorem dX6_beside_86 : decode cX6_beside 86 = .ok (.iload_n 0, 1) := by decide +kernel
theorem dX6_beside_87 : decode cX6_beside 87 = .ok (.bipush 7, 2) := by decide +kernel
theorem dX6_beside_89 : decode cX6_beside 89 = .ok (.iadd, 1) := by decide +kernel
theorem dX6_beside_90 : decode cX6_beside 90 = .ok (.goto 5, 3) := by decide +kernel
theorem dX6_beside_93 : decode cX6_beside 93 = .ok (.bipush (-6), 2) := by decide +kernel
theorem dX6_beside_95 : decode cX6_beside 95 = .ok (.ireturn, 1) := by decide +kernel
theorem dX6_ropeAt_0 : decode cX6_ropeAt 0 = .ok (.bipush 91, 2) := by decide +kernel
theorem dX6_ropeAt_2 : decode cX6_ropeAt 2 = .ok (.iload_n 1, 1) := by decide +kernel
theorem dX6_ropeAt_3 : decode cX6_ropeAt 3 = .ok (.ifCond .ne 14, 3) := by decide +kernel
theorem dX6_ropeAt_6 : decode cX6_ropeAt 6 = .ok (.iconst 2, 1) := by decide +kernel
theorem dX6_ropeAt_7 : decode cX6_ropeAt 7 = .ok (.iload_n 0, 1) := by decide +kernel
theorem dX6_ropeAt_8 : decode cX6_ropeAt 8 = .ok (.bipush 7, 2) := by decide +kernel
theorem dX6_ropeAt_10 : decode cX6_ropeAt 10 = .ok (.isub, 1) := by decide +kernel
theorem dX6_ropeAt_11 : decode cX6_ropeAt 11 = .ok (.imul, 1) := by decide +kernel
theorem dX6_ropeAt_12 : decode cX6_ropeAt 12 = .ok (.iconst 1, 1) := by decide +kernel
theorem dX6_ropeAt_13 : decode cX6_ropeAt 13 = .ok (.iadd, 1) := by decide +kernel
theorem dX6_ropeAt_14 : decode cX6_ropeAt 14 = .ok (.goto 32, 3) := by decide +kernel
theorem dX6_ropeAt_17 : decode cX6_ropeAt 17 = .ok (.iload_n 1, 1) := by decide +kernel
theorem dX6_ropeAt_18 : decode cX6_ropeAt 18 = .ok (.iconst 1, 1) := by decide +kernel
theorem dX6_ropeAt_19 : decode cX6_ropeAt 19 = .ok (.if_icmp .ne 11, 3) := by decide +kernel
theorem dX6_ropeAt_22 : decode cX6_ropeAt 22 = .ok (.iconst 2, 1) := by decide +kernel
theorem dX6_ropeAt_23 : decode cX6_ropeAt 23 = .ok (.iload_n 0, 1) := by decide +kernel
theorem dX6_ropeAt_24 : decode cX6_ropeAt 24 = .ok (.iconst 1, 1) := by decide +kernel
theorem dX6_ropeAt_25 : decode cX6_ropeAt 25 = .ok (.isub, 1) := by decide +kernel
theorem dX6_ropeAt_26 : decode cX6_ropeAt 26 = .ok (.imul, 1) := by decide +kernel
theorem dX6_ropeAt_27 : decode cX6_ropeAt 27 = .ok (.goto 19, 3) := by decide +kernel
theorem dX6_ropeAt_30 : decode cX6_ropeAt 30 = .ok (.iload_n 1, 1) := by decide +kernel
theorem dX6_ropeAt_31 : decode cX6_ropeAt 31 = .ok (.iconst 2, 1) := by decide +kernel
theorem dX6_ropeAt_32 : decode cX6_ropeAt 32 = .ok (.if_icmp .ne 9, 3) := by decide +kernel
theorem dX6_ropeAt_35 : decode cX6_ropeAt 35 = .ok (.iconst 2, 1) := by decide +kernel
theorem dX6_ropeAt_36 : decode cX6_ropeAt 36 = .ok (.iload_n 0, 1) := by decide +kernel
theorem dX6_ropeAt_37 : decode cX6_ropeAt 37 = .ok (.imul, 1) := by decide +kernel
theorem dX6_ropeAt_38 : decode cX6_ropeAt 38 = .ok (.goto 8, 3) := by decide +kernel
theorem dX6_ropeAt_41 : decode cX6_ropeAt 41 = .ok (.iconst 2, 1) := by decide +kernel
theorem dX6_ropeAt_42 : decode cX6_ropeAt 42 = .ok (.iload_n 0, 1) := by decide +kernel
theorem dX6_ropeAt_43 : decode cX6_ropeAt 43 = .ok (.imul, 1) := by decide +kernel
theorem dX6_ropeAt_44 : decode cX6_ropeAt 44 = .ok (.iconst 1, 1) := by decide +kernel
theorem dX6_ropeAt_45 : decode cX6_ropeAt 45 = .ok (.iadd, 1) := by decide +kernel
theorem dX6_ropeAt_46 : decode cX6_ropeAt 46 = .ok (.iadd, 1) := by decide +kernel
theorem dX6_ropeAt_47 : decode cX6_ropeAt 47 = .ok (.ireturn, 1) := by decide +kernel
set_option maxRecDepth 20000 in
theorem ggX6_isFree_X6_beside : GoodIn wsX6_isFree wsX6_beside := goodIn_r _ [5] (by decide +kernel) (by decide +kernel)
set_option maxRecDepth 20000 in
theorem gX6_isFree_X6_beside : GoodIn wsX6_isFree (va_wsS RX6 55 yX6_beside wsX6_beside) := goodIn_app (goodIn_of _ (by decide +kernel)) ggX6_isFree_X6_beside
set_option maxRecDepth 20000 in
theorem ggX6_isFree_X6_ropeAt : GoodIn wsX6_isFree wsX6_ropeAt := goodIn_r _ [8] (by decide +kernel) (by decide +kernel)
set_option maxRecDepth 20000 in
theorem gX6_isFree_X6_ropeAt : GoodIn wsX6_isFree (va_wsS RX6 59 yX6_ropeAt wsX6_ropeAt) := goodIn_app (goodIn_of _ (by decide +kernel)) ggX6_isFree_X6_ropeAt
theorem dX6_isFree_0 : decode cX6_isFree 0 = .ok (.iload_n 1, 1) := by decide +kernel
theorem dX6_isFree_1 : decode cX6_isFree 1 = .ok (.iload_n 2, 1) := by decide +kernel
theorem dX6_isFree_2 : decode cX6_isFree 2 = .ok (.invokestatic 55, 3) := by decide +kernel
theorem dX6_isFree_5 : decode cX6_isFree 5 = .ok (.bipush (-6), 2) := by decide +kernel
theorem dX6_isFree_7 : decode cX6_isFree 7 = .ok (.if_icmp .eq 20, 3) := by decide +kernel
theorem dX6_isFree_10 : decode cX6_isFree 10 = .ok (.aload_n 0, 1) := by decide +kernel
theorem dX6_isFree_11 : decode cX6_isFree 11 = .ok (.getfield 7, 3) := by decide +kernel
theorem dX6_isFree_14 : decode cX6_isFree 14 = .ok (.iload_n 1, 1) := by decide +kernel
theorem dX6_isFree_15 : decode cX6_isFree 15 = .ok (.iload_n 2, 1) := by decide +kernel
theorem dX6_isFree_16 : decode cX6_isFree 16 = .ok (.invokestatic 59, 3) := by decide +kernel
theorem dX6_isFree_19 : decode cX6_isFree 19 = .ok (.iaload, 1) := by decide +kernel
theorem dX6_isFree_20 : decode cX6_isFree 20 = .ok (.ifCond .ne 7, 3) := by decide +kernel
theorem dX6_isFree_23 : decode cX6_isFree 23 = .ok (.iconst 1, 1) := by decide +kernel
theorem dX6_isFree_24 : decode cX6_isFree 24 = .ok (.goto 4, 3) := by decide +kernel
theorem dX6_isFree_27 : decode cX6_isFree 27 = .ok (.iconst 0, 1) := by decide +kernel
theorem dX6_isFree_28 : decode cX6_isFree 28 = .ok (.ireturn, 1) := by decide +kernel
set_option maxRecDepth 20000 in
theorem ggX6_hasRope_X6_beside : GoodIn wsX6_hasRope wsX6_beside := goodIn_r _ [5] (by decide +kernel) (by decide +kernel)
set_option maxRecDepth 20000 in
theorem gX6_hasRope_X6_beside : GoodIn wsX6_hasRope (va_wsS RX6 55 yX6_beside wsX6_beside) := goodIn_app (goodIn_of _ (by decide +kernel)) ggX6_hasRope_X6_beside
set_option maxRecDepth 20000 in
theorem ggX6_hasRope_X6_ropeAt : GoodIn wsX6_hasRope wsX6_ropeAt := goodIn_r _ [8] (by decide +kernel) (by decide +kernel)
set_option maxRecDepth 20000 in
theorem gX6_hasRope_X6_ropeAt : GoodIn wsX6_hasRope (va_wsS RX6 59 yX6_ropeAt wsX6_ropeAt) := goodIn_app (goodIn_of _ (by decide +kernel)) ggX6_hasRope_X6_ropeAt
theorem dX6_hasRope_0 : decode cX6_hasRope 0 = .ok (.iload_n 1, 1) := by decide +kernel
theorem dX6_hasRope_1 : decode cX6_hasRope 1 = .ok (.iload_n 2, 1) := by decide +kernel
theorem dX6_hasRope_2 : decode cX6_hasRope 2 = .ok (.invokestatic 55, 3) := by decide +kernel
theorem dX6_hasRope_5 : decode cX6_hasRope 5 = .ok (.bipush (-6), 2) := by decide +kernel
theorem dX6_hasRope_7 : decode cX6_hasRope 7 = .ok (.if_icmp .eq 21, 3) := by decide +kernel
theorem dX6_hasRope_10 : decode cX6_hasRope 10 = .ok (.aload_n 0, 1) := by decide +kernel
theorem dX6_hasRope_11 : decode cX6_hasRope 11 = .ok (.getfield 7, 3) := by decide +kernel
theorem dX6_hasRope_14 : decode cX6_hasRope 14 = .ok (.iload_n 1, 1) := by decide +kernel
theorem dX6_hasRope_15 : decode cX6_hasRope 15 = .ok (.iload_n 2, 1) := by decide +kernel
theorem dX6_hasRope_16 : decode cX6_hasRope 16 = .ok (.invokestatic 59, 3) := by decide +kernel
theorem dX6_hasRope_19 : decode cX6_hasRope 19 = .ok (.iaload, 1) := by decide +kernel
theorem dX6_hasRope_20 : decode cX6_hasRope 20 = .ok (.iconst 1, 1) := by decide +kernel
theorem dX6_hasRope_21 : decode cX6_hasRope 21 = .ok (.if_icmp .ne 7, 3) := by decide +kernel
theorem dX6_hasRope_24 : decode cX6_hasRope 24 = .ok (.iconst 1, 1) := by decide +kernel
theorem dX6_hasRope_25 : decode cX6_hasRope 25 = .ok (.goto 4, 3) := by decide +kernel
theorem dX6_hasRope_28 : decode cX6_hasRope 28 = .ok (.iconst 0, 1) := by decide +kernel
theorem dX6_hasRope_29 : decode cX6_hasRope 29 = .ok (.ireturn, 1) := by decide +kernel
set_option maxRecDepth 20000 in
theorem ggX6_layFar_X6_isFree : GoodIn wsX6_layFar wsX6_isFree := goodIn_r _ [7, 2, 8, 9, 6, 10, 11, 12, 13, 14, 15, 16, 17, 18, 19, 20, 21, 22, 23, 24, 25, 26, 27, 28, 29] (by decide +kernel) (by decide +kernel)
set_option maxRecDepth 20000 in
theorem gX6_layFar_X6_isFree : GoodIn wsX6_layFar (wsV RX6 62 RX6 yX6_isFree wsX6_isFree) := goodIn_app (goodIn_of _ (by decide +kernel)) ggX6_layFar_X6_isFree
set_option maxRecDepth 20000 in
theorem ggX6_layFar_X6_beside : GoodIn wsX6_layFar wsX6_beside := goodIn_r _ [10] (by decide +kernel) (by decide +kernel)
set_option maxRecDepth 20000 in
theorem gX6_layFar_X6_beside : GoodIn wsX6_layFar (va_wsS RX6 55 yX6_beside wsX6_beside) := goodIn_app (goodIn_of _ (by decide +kernel)) ggX6_layFar_X6_beside
theorem dX6_layFar_0 : decode cX6_layFar 0 = .ok (.bipush 35, 2) := by decide +kernel
theorem dX6_layFar_2 : decode cX6_layFar 2 = .ok (.iload_n 1, 1) := by decide +kernel
theorem dX6_layFar_3 : decode cX6_layFar 3 = .ok (.imul, 1) := by decide +kernel
theorem dX6_layFar_4 : decode cX6_layFar 4 = .ok (.istore_n 2, 1) := by decide +kernel
theorem dX6_layFar_5 : decode cX6_layFar 5 = .ok (.iconst 0, 1) := by decide +kernel
theorem dX6_layFar_6 : decode cX6_layFar 6 = .ok (.istore_n 3, 1) := by decide +kernel
theorem dX6_layFar_7 : decode cX6_layFar 7 = .ok (.iload_n 3, 1) := by decide +kernel
theorem dX6_layFar_8 : decode cX6_layFar 8 = .ok (.bipush 35, 2) := by decide +kernel
theorem dX6_layFar_10 : decode cX6_layFar 10 = .ok (.if_icmp .ge 35, 3) := by decide +kernel
theorem dX6_layFar_13 : decode cX6_layFar 13 = .ok (.aload_n 0, 1) := by decide +kernel
theorem dX6_layFar_14 : decode cX6_layFar 14 = .ok (.getfield 29, 3) := by decide +kernel
theorem dX6_layFar_17 : decode cX6_layFar 17 = .ok (.iload_n 2, 1) := by decide +kernel
theorem dX6_layFar_18 : decode cX6_layFar 18 = .ok (.iload_n 3, 1) := by decide +kernel
theorem dX6_layFar_19 : decode cX6_layFar 19 = .ok (.iadd, 1) := by decide +kernel
theorem dX6_layFar_20 : decode cX6_layFar 20 = .ok (.iload_n 3, 1) := by decide +kernel
theorem dX6_layFar_21 : decode cX6_layFar 21 = .ok (.aload_n 0, 1) := by decide +kernel
theorem dX6_layFar_22 : decode cX6_layFar 22 = .ok (.getfield 7, 3) := by decide +kernel
theorem dX6_layFar_25 : decode cX6_layFar 25 = .ok (.iconst 5, 1) := by decide +kernel
theorem dX6_layFar_26 : decode cX6_layFar 26 = .ok (.iload_n 1, 1) := by decide +kernel
theorem dX6_layFar_27 : decode cX6_layFar 27 = .ok (.iadd, 1) := by decide +kernel
theorem dX6_layFar_28 : decode cX6_layFar 28 = .ok (.iaload, 1) := by decide +kernel
theorem dX6_layFar_29 : decode cX6_layFar 29 = .ok (.if_icmp .ne 7, 3) := by decide +kernel
theorem dX6_layFar_32 : decode cX6_layFar 32 = .ok (.iconst 0, 1) := by decide +kernel
theorem dX6_layFar_33 : decode cX6_layFar 33 = .ok (.goto 5, 3) := by decide +kernel
theorem dX6_layFar_36 : decode cX6_layFar 36 = .ok (.bipush 100, 2) := by decide +kernel
theorem dX6_layFar_38 : decode cX6_layFar 38 = .ok (.iastore, 1) := by decide +kernel
theorem dX6_layFar_39 : decode cX6_layFar 39 = .ok (.iinc 3 1, 3) := by decide +kernel
theorem dX6_layFar_42 : decode cX6_layFar 42 = .ok (.goto (-35), 3) := by decide +kernel
theorem dX6_layFar_45 : decode cX6_layFar 45 = .ok (.iconst 1, 1) := by decide +kernel
theorem dX6_layFar_46 : decode cX6_layFar 46 = .ok (.istore_n 3, 1) := by decide +kernel
theorem dX6_layFar_47 : decode cX6_layFar 47 = .ok (.iload_n 3, 1) := by decide +kernel
theorem dX6_layFar_48 : decode cX6_layFar 48 = .ok (.ifCond .eq 103, 3) := by decide +kernel
theorem dX6_layFar_51 : decode cX6_layFar 51 = .ok (.iconst 0, 1) := by decide +kernel
theorem dX6_layFar_52 : decode cX6_layFar 52 = .ok (.istore_n 3, 1) := by decide +kernel
theorem dX6_layFar_53 : decode cX6_layFar 53 = .ok (.iconst 0, 1) := by decide +kernel
theorem dX6_layFar_54 : decode cX6_layFar 54 = .ok (.istore 4, 2) := by decide +kernel
theorem dX6_layFar_56 : decode cX6_layFar 56 = .ok (.iload 4, 2) := by decide +kernel
theorem dX6_layFar_58 : decode cX6_layFar 58 = .ok (.sipush 140, 3) := by decide +kernel
theorem dX6_layFar_61 : decode cX6_layFar 61 = .ok (.if_icmp .ge 87, 3) := by decide +kernel
theorem dX6_layFar_64 : decode cX6_layFar 64 = .ok (.iload 4, 2) := by decide +kernel
theorem dX6_layFar_66 : decode cX6_layFar 66 = .ok (.iconst 4, 1) := by decide +kernel
theorem dX6_layFar_67 : decode cX6_layFar 67 = .ok (.idiv, 1) := by decide +kernel
theorem dX6_layFar_68 : decode cX6_layFar 68 = .ok (.istore 5, 2) := by decide +kernel
theorem dX6_layFar_70 : decode cX6_layFar 70 = .ok (.aload_n 0, 1) := by decide +kernel
theorem dX6_layFar_71 : decode cX6_layFar 71 = .ok (.iload 5, 2) := by decide +kernel
theorem dX6_layFar_73 : decode cX6_layFar 73 = .ok (.iload 4, 2) := by decide +kernel
theorem dX6_layFar_75 : decode cX6_layFar 75 = .ok (.iconst 4, 1) := by decide +kernel
theorem dX6_layFar_76 : decode cX6_layFar 76 = .ok (.irem, 1) := by decide +kernel
theorem dX6_layFar_77 : decode cX6_layFar 77 = .ok (.invokevirtual 62, 3) := by decide +kernel
theorem dX6_layFar_80 : decode cX6_layFar 80 = .ok (.ifCond .eq 62, 3) := by decide +kernel
theorem dX6_layFar_83 : decode cX6_layFar 83 = .ok (.aload_n 0, 1) := by decide +kernel
theorem dX6_layFar_84 : decode cX6_layFar 84 = .ok (.getfield 29, 3) := by decide +kernel
theorem dX6_layFar_87 : decode cX6_layFar 87 = .ok (.iload_n 2, 1) := by decide +kernel
theorem dX6_layFar_88 : decode cX6_layFar 88 = .ok (.iload 5, 2) := by decide +kernel
theorem dX6_layFar_90 : decode cX6_layFar 90 = .ok (.iload 4, 2) := by decide +kernel
theorem dX6_layFar_92 : decode cX6_layFar 92 = .ok (.iconst 4, 1) := by decide +kernel
theorem dX6_layFar_93 : decode cX6_layFar 93 = .ok (.irem, 1) := by decide +kernel
theorem dX6_layFar_94 : decode cX6_layFar 94 = .ok (.invokestatic 55, 3) := by decide +kernel
theorem dX6_layFar_97 : decode cX6_layFar 97 = .ok (.iadd, 1) := by decide +kernel
theorem dX6_layFar_98 : decode cX6_layFar 98 = .ok (.iaload, 1) := by decide +kernel
theorem dX6_layFar_99 : decode cX6_layFar 99 = .ok (.iconst 1, 1) := by decide +kernel
theorem dX6_layFar_100 : decode cX6_layFar 100 = .ok (.iadd, 1) := by decide +kernel
theorem dX6_layFar_101 : decode cX6_layFar 101 = .ok (.aload_n 0, 1) := by decide +kernel
theorem dX6_layFar_102 : decode cX6_layFar 102 = .ok (.getfield 29, 3) := by decide +kernel
theorem dX6_layFar_105 : decode cX6_layFar 105 = .ok (.iload_n 2, 1) := by decide +kernel
theorem dX6_layFar_106 : decode cX6_layFar 106 = .ok (.iload 5, 2) := by decide +kernel
theorem dX6_layFar_108 : decode cX6_layFar 108 = .ok (.iadd, 1) := by decide +kernel
theorem dX6_layFar_109 : decode cX6_layFar 109 = .ok (.iaload, 1) := by decide +kernel
theorem dX6_layFar_110 : decode cX6_layFar 110 = .ok (.if_icmp .ge 32, 3) := by decide +kernel
theorem dX6_layFar_113 : decode cX6_layFar 113 = .ok (.aload_n 0, 1) := by decide +kernel
theorem dX6_layFar_114 : decode cX6_layFar 114 = .ok (.getfield 29, 3) := by decide +kernel
theorem dX6_layFar_117 : decode cX6_layFar 117 = .ok (.iload_n 2, 1) := by decide +kernel
theorem dX6_layFar_118 : decode cX6_layFar 118 = .ok (.iload 5, 2) := by decide +kernel
theorem dX6_layFar_120 : decode cX6_layFar 120 = .ok (.iadd, 1) := by decide +kernel
theorem dX6_layFar_121 : decode cX6_layFar 121 = .ok (.aload_n 0, 1) := by decide +kernel
theorem dX6_layFar_122 : decode cX6_layFar 122 = .ok (.getfield 29, 3) := by decide +kernel
theorem dX6_layFar_125 : decode cX6_layFar 125 = .ok (.iload_n 2, 1) := by decide +kernel
theorem dX6_layFar_126 : decode cX6_layFar 126 = .ok (.iload 5, 2) := by decide +kernel
theorem dX6_layFar_128 : decode cX6_layFar 128 = .ok (.iload 4, 2) := by decide +kernel
theorem dX6_layFar_130 : decode cX6_layFar 130 = .ok (.iconst 4, 1) := by decide +kernel
theorem dX6_layFar_131 : decode cX6_layFar 131 = .ok (.irem, 1) := by decide +kernel
theorem dX6_layFar_132 : decode cX6_layFar 132 = .ok (.invokestatic 55, 3) := by decide +kernel
theorem dX6_layFar_135 : decode cX6_layFar 135 = .ok (.iadd, 1) := by decide +kernel
theorem dX6_layFar_136 : decode cX6_layFar 136 = .ok (.iaload, 1) := by decide +kernel
theorem dX6_layFar_137 : decode cX6_layFar 137 = .ok (.iconst 1, 1) := by decide +kernel
theorem dX6_layFar_138 : decode cX6_layFar 138 = .ok (.iadd, 1) := by decide +kernel
theorem dX6_layFar_139 : decode cX6_layFar 139 = .ok (.iastore, 1) := by decide +kernel
theorem dX6_layFar_140 : decode cX6_layFar 140 = .ok (.iconst 1, 1) := by decide +kernel
theorem dX6_layFar_141 : decode cX6_layFar 141 = .ok (.istore_n 3, 1) := by decide +kernel
theorem dX6_layFar_142 : decode cX6_layFar 142 = .ok (.iinc 4 1, 3) := by decide +kernel
theorem dX6_layFar_145 : decode cX6_layFar 145 = .ok (.goto (-89), 3) := by decide +kernel
theorem dX6_layFar_148 : decode cX6_layFar 148 = .ok (.goto (-101), 3) := by decide +kernel
theorem dX6_layFar_151 : decode cX6_layFar 151 = .ok (.return_, 1) := by decide +kernel
theorem dX6_leads_0 : decode cX6_leads 0 = .ok (.aload_n 0, 1) := by decide +kernel
theorem dX6_leads_1 : decode cX6_leads 1 = .ok (.getfield 7, 3) := by decide +kernel
theorem dX6_leads_4 : decode cX6_leads 4 = .ok (.bipush 13, 2) := by decide +kernel
theorem dX6_leads_6 : decode cX6_leads 6 = .ok (.iload_n 2, 1) := by decide +kernel
theorem dX6_leads_7 : decode cX6_leads 7 = .ok (.iadd, 1) := by decide +kernel
theorem dX6_leads_8 : decode cX6_leads 8 = .ok (.iaload, 1) := by decide +kernel
theorem dX6_leads_9 : decode cX6_leads 9 = .ok (.iconst 1, 1) := by decide +kernel
theorem dX6_leads_10 : decode cX6_leads 10 = .ok (.if_icmp .ne 23, 3) := by decide +kernel
theorem dX6_leads_13 : decode cX6_leads 13 = .ok (.aload_n 0, 1) := by decide +kernel
theorem dX6_leads_14 : decode cX6_leads 14 = .ok (.getfield 29, 3) := by decide +kernel
theorem dX6_leads_17 : decode cX6_leads 17 = .ok (.bipush 35, 2) := by decide +kernel
theorem dX6_leads_19 : decode cX6_leads 19 = .ok (.iload_n 2, 1) := by decide +kernel
theorem dX6_leads_20 : decode cX6_leads 20 = .ok (.imul, 1) := by decide +kernel
theorem dX6_leads_21 : decode cX6_leads 21 = .ok (.iload_n 1, 1) := by decide +kernel
theorem dX6_leads_22 : decode cX6_leads 22 = .ok (.iadd, 1) := by decide +kernel
theorem dX6_leads_23 : decode cX6_leads 23 = .ok (.iaload, 1) := by decide +kernel
theorem dX6_leads_24 : decode cX6_leads 24 = .ok (.bipush 100, 2) := by decide +kernel
theorem dX6_leads_26 : decode cX6_leads 26 = .ok (.if_icmp .ge 7, 3) := by decide +kernel
theorem dX6_leads_29 : decode cX6_leads 29 = .ok (.iconst 1, 1) := by decide +kernel
theorem dX6_leads_30 : decode cX6_leads 30 = .ok (.goto 4, 3) := by decide +kernel
theorem dX6_leads_33 : decode cX6_leads 33 = .ok (.iconst 0, 1) := by decide +kernel
theorem dX6_leads_34 : decode cX6_leads 34 = .ok (.ireturn, 1) := by decide +kernel
set_option maxRecDepth 20000 in
theorem ggX6_goalOf_X6_leads : GoodIn wsX6_goalOf wsX6_leads := goodIn_r _ [7, 1, 2, 8, 9, 10, 11, 12, 13, 14, 15, 16, 17, 18, 19, 20, 21, 22, 23] (by decide +kernel) (by decide +kernel)
set_option maxRecDepth 20000 in
theorem gX6_goalOf_X6_leads : GoodIn wsX6_goalOf (wsV RX6 66 RX6 yX6_leads wsX6_leads) := goodIn_app (goodIn_of _ (by decide +kernel)) ggX6_goalOf_X6_leads
theorem dX6_goalOf_0 : decode cX6_goalOf 0 = .ok (.aload_n 0, 1) := by decide +kernel
theorem dX6_goalOf_1 : decode cX6_goalOf 1 = .ok (.getfield 7, 3) := by decide +kernel
theorem dX6_goalOf_4 : decode cX6_goalOf 4 = .ok (.bipush 56, 2) := by decide +kernel
theorem dX6_goalOf_6 : decode cX6_goalOf 6 = .ok (.iload_n 1, 1) := by decide +kernel
theorem dX6_goalOf_7 : decode cX6_goalOf 7 = .ok (.iadd, 1) := by decide +kernel
theorem dX6_goalOf_8 : decode cX6_goalOf 8 = .ok (.iaload, 1) := by decide +kernel
theorem dX6_goalOf_9 : decode cX6_goalOf 9 = .ok (.istore_n 2, 1) := by decide +kernel
theorem dX6_goalOf_10 : decode cX6_goalOf 10 = .ok (.iload_n 2, 1) := by decide +kernel
theorem dX6_goalOf_11 : decode cX6_goalOf 11 = .ok (.ifCond .lt 14, 3) := by decide +kernel
theorem dX6_goalOf_14 : decode cX6_goalOf 14 = .ok (.aload_n 0, 1) := by decide +kernel
theorem dX6_goalOf_15 : decode cX6_goalOf 15 = .ok (.iload_n 1, 1) := by decide +kernel
theorem dX6_goalOf_16 : decode cX6_goalOf 16 = .ok (.iload_n 2, 1) := by decide +kernel
theorem dX6_goalOf_17 : decode cX6_goalOf 17 = .ok (.invokevirtual 66, 3) := by decide +kernel
theorem dX6_goalOf_20 : decode cX6_goalOf 20 = .ok (.ifCond .eq 5, 3) := by decide +kernel
theorem dX6_goalOf_23 : decode cX6_goalOf 23 = .ok (.iload_n 2, 1) := by decide +kernel
theorem dX6_goalOf_24 : decode cX6_goalOf 24 = .ok (.ireturn, 1) := by decide +kernel
theorem dX6_goalOf_25 : decode cX6_goalOf 25 = .ok (.bipush (-6), 2) := by decide +kernel
theorem dX6_goalOf_27 : decode cX6_goalOf 27 = .ok (.istore_n 3, 1) := by decide +kernel
theorem dX6_goalOf_28 : decode cX6_goalOf 28 = .ok (.iconst 3, 1) := by decide +kernel
theorem dX6_goalOf_29 : decode cX6_goalOf 29 = .ok (.istore 4, 2) := by decide +kernel
theorem dX6_goalOf_31 : decode cX6_goalOf 31 = .ok (.iload 4, 2) := by decide +kernel
theorem dX6_goalOf_33 : decode cX6_goalOf 33 = .ok (.ifCond .lt 58, 3) := by decide +kernel
theorem dX6_goalOf_36 : decode cX6_goalOf 36 = .ok (.aload_n 0, 1) := by decide +kernel
theorem dX6_goalOf_37 : decode cX6_goalOf 37 = .ok (.iload_n 1, 1) := by decide +kernel
theorem dX6_goalOf_38 : decode cX6_goalOf 38 = .ok (.iload 4, 2) := by decide +kernel
theorem dX6_goalOf_40 : decode cX6_goalOf 40 = .ok (.invokevirtual 66, 3) := by decide +kernel
theorem dX6_goalOf_43 : decode cX6_goalOf 43 = .ok (.ifCond .eq 40, 3) := by decide +kernel
theorem dX6_goalOf_46 : decode cX6_goalOf 46 = .ok (.iload_n 3, 1) := by decide +kernel
theorem dX6_goalOf_47 : decode cX6_goalOf 47 = .ok (.bipush (-6), 2) := by decide +kernel
theorem dX6_goalOf_49 : decode cX6_goalOf 49 = .ok (.if_icmp .eq 29, 3) := by decide +kernel
theorem dX6_goalOf_52 : decode cX6_goalOf 52 = .ok (.aload_n 0, 1) := by decide +kernel
theorem dX6_goalOf_53 : decode cX6_goalOf 53 = .ok (.getfield 29, 3) := by decide +kernel
theorem dX6_goalOf_56 : decode cX6_goalOf 56 = .ok (.bipush 35, 2) := by decide +kernel
theorem dX6_goalOf_58 : decode cX6_goalOf 58 = .ok (.iload 4, 2) := by decide +kernel
theorem dX6_goalOf_60 : decode cX6_goalOf 60 = .ok (.imul, 1) := by decide +kernel
theorem dX6_goalOf_61 : decode cX6_goalOf 61 = .ok (.iload_n 1, 1) := by decide +kernel
theorem dX6_goalOf_62 : decode cX6_goalOf 62 = .ok (.iadd, 1) := by decide +kernel
theorem dX6_goalOf_63 : decode cX6_goalOf 63 = .ok (.iaload, 1) := by decide +kernel
theorem dX6_goalOf_64 : decode cX6_goalOf 64 = .ok (.aload_n 0, 1) := by decide +kernel
theorem dX6_goalOf_65 : decode cX6_goalOf 65 = .ok (.getfield 29, 3) := by decide +kernel
theorem dX6_goalOf_68 : decode cX6_goalOf 68 = .ok (.bipush 35, 2) := by decide +kernel
theorem dX6_goalOf_70 : decode cX6_goalOf 70 = .ok (.iload_n 3, 1) := by decide +kernel
theorem dX6_goalOf_71 : decode cX6_goalOf 71 = .ok (.imul, 1) := by decide +kernel
theorem dX6_goalOf_72 : decode cX6_goalOf 72 = .ok (.iload_n 1, 1) := by decide +kernel
theorem dX6_goalOf_73 : decode cX6_goalOf 73 = .ok (.iadd, 1) := by decide +kernel
theorem dX6_goalOf_74 : decode cX6_goalOf 74 = .ok (.iaload, 1) := by decide +kernel
theorem dX6_goalOf_75 : decode cX6_goalOf 75 = .ok (.if_icmp .gt 8, 3) := by decide +kernel
theorem dX6_goalOf_78 : decode cX6_goalOf 78 = .ok (.iload 4, 2) := by decide +kernel
theorem dX6_goalOf_80 : decode cX6_goalOf 80 = .ok (.goto 4, 3) := by decide +kernel
theorem dX6_goalOf_83 : decode cX6_goalOf 83 = .ok (.iload_n 3, 1) := by decide +kernel
theorem dX6_goalOf_84 : decode cX6_goalOf 84 = .ok (.istore_n 3, 1) := by decide +kernel
theorem dX6_goalOf_85 : decode cX6_goalOf 85 = .ok (.iinc 4 (-1), 3) := by decide +kernel
theorem dX6_goalOf_88 : decode cX6_goalOf 88 = .ok (.goto (-57), 3) := by decide +kernel
theorem dX6_goalOf_91 : decode cX6_goalOf 91 = .ok (.iload_n 3, 1) := by decide +kernel
theorem dX6_goalOf_92 : decode cX6_goalOf 92 = .ok (.ireturn, 1) := by decide +kernel
set_option maxRecDepth 20000 in
theorem ggX6_nextOf_X6_isFree : GoodIn wsX6_nextOf wsX6_isFree := goodIn_r _ [8, 9, 10, 11, 7, 12, 13, 14, 15, 16, 17, 18, 19, 20, 21, 22, 23, 24, 25, 26, 27, 28, 29, 30, 31] (by decide +kernel) (by decide +kernel)
set_option maxRecDepth 20000 in
theorem gX6_nextOf_X6_isFree : GoodIn wsX6_nextOf (wsV RX6 62 RX6 yX6_isFree wsX6_isFree) := goodIn_app (goodIn_of _ (by decide +kernel)) ggX6_nextOf_X6_isFree
set_option maxRecDepth 20000 in
theorem ggX6_nextOf_X6_beside : GoodIn wsX6_nextOf wsX6_beside := goodIn_r _ [12] (by decide +kernel) (by decide +kernel)
set_option maxRecDepth 20000 in
theorem gX6_nextOf_X6_beside : GoodIn wsX6_nextOf (va_wsS RX6 55 yX6_beside wsX6_beside) := goodIn_app (goodIn_of _ (by decide +kernel)) ggX6_nextOf_X6_beside
theorem dX6_nextOf_0 : decode cX6_nextOf 0 = .ok (.bipush (-6), 2) := by decide +kernel
theorem dX6_nextOf_2 : decode cX6_nextOf 2 = .ok (.istore_n 2, 1) := by decide +kernel
theorem dX6_nextOf_3 : decode cX6_nextOf 3 = .ok (.iconst 3, 1) := by decide +kernel
theorem dX6_nextOf_4 : decode cX6_nextOf 4 = .ok (.istore_n 3, 1) := by decide +kernel
theorem dX6_nextOf_5 : decode cX6_nextOf 5 = .ok (.iload_n 3, 1) := by decide +kernel
theorem dX6_nextOf_6 : decode cX6_nextOf 6 = .ok (.ifCond .lt 91, 3) := by decide +kernel
theorem dX6_nextOf_9 : decode cX6_nextOf 9 = .ok (.aload_n 0, 1) := by decide +kernel
theorem dX6_nextOf_10 : decode cX6_nextOf 10 = .ok (.getfield 32, 3) := by decide +kernel
theorem dX6_nextOf_13 : decode cX6_nextOf 13 = .ok (.iload_n 1, 1) := by decide +kernel
theorem dX6_nextOf_14 : decode cX6_nextOf 14 = .ok (.iaload, 1) := by decide +kernel
theorem dX6_nextOf_15 : decode cX6_nextOf 15 = .ok (.bipush (-6), 2) := by decide +kernel
theorem dX6_nextOf_17 : decode cX6_nextOf 17 = .ok (.if_icmp .eq 80, 3) := by decide +kernel
theorem dX6_nextOf_20 : decode cX6_nextOf 20 = .ok (.aload_n 0, 1) := by decide +kernel
theorem dX6_nextOf_21 : decode cX6_nextOf 21 = .ok (.getfield 35, 3) := by decide +kernel
theorem dX6_nextOf_24 : decode cX6_nextOf 24 = .ok (.iload_n 1, 1) := by decide +kernel
theorem dX6_nextOf_25 : decode cX6_nextOf 25 = .ok (.iaload, 1) := by decide +kernel
theorem dX6_nextOf_26 : decode cX6_nextOf 26 = .ok (.ifCond .le 71, 3) := by decide +kernel
theorem dX6_nextOf_29 : decode cX6_nextOf 29 = .ok (.aload_n 0, 1) := by decide +kernel
theorem dX6_nextOf_30 : decode cX6_nextOf 30 = .ok (.iload_n 1, 1) := by decide +kernel
theorem dX6_nextOf_31 : decode cX6_nextOf 31 = .ok (.iload_n 3, 1) := by decide +kernel
theorem dX6_nextOf_32 : decode cX6_nextOf 32 = .ok (.invokevirtual 62, 3) := by decide +kernel
theorem dX6_nextOf_35 : decode cX6_nextOf 35 = .ok (.ifCond .eq 38, 3) := by decide +kernel
theorem dX6_nextOf_38 : decode cX6_nextOf 38 = .ok (.aload_n 0, 1) := by decide +kernel
theorem dX6_nextOf_39 : decode cX6_nextOf 39 = .ok (.getfield 29, 3) := by decide +kernel
theorem dX6_nextOf_42 : decode cX6_nextOf 42 = .ok (.bipush 35, 2) := by decide +kernel
theorem dX6_nextOf_44 : decode cX6_nextOf 44 = .ok (.aload_n 0, 1) := by decide +kernel
theorem dX6_nextOf_45 : decode cX6_nextOf 45 = .ok (.getfield 32, 3) := by decide +kernel
theorem dX6_nextOf_48 : decode cX6_nextOf 48 = .ok (.iload_n 1, 1) := by decide +kernel
theorem dX6_nextOf_49 : decode cX6_nextOf 49 = .ok (.iaload, 1) := by decide +kernel
theorem dX6_nextOf_50 : decode cX6_nextOf 50 = .ok (.imul, 1) := by decide +kernel
theorem dX6_nextOf_51 : decode cX6_nextOf 51 = .ok (.iload_n 1, 1) := by decide +kernel
theorem dX6_nextOf_52 : decode cX6_nextOf 52 = .ok (.iload_n 3, 1) := by decide +kernel
theorem dX6_nextOf_53 : decode cX6_nextOf 53 = .ok (.invokestatic 55, 3) := by decide +kernel
theorem dX6_nextOf_56 : decode cX6_nextOf 56 = .ok (.iadd, 1) := by decide +kernel
theorem dX6_nextOf_57 : decode cX6_nextOf 57 = .ok (.iaload, 1) := by decide +kernel
theorem dX6_nextOf_58 : decode cX6_nextOf 58 = .ok (.aload_n 0, 1) := by decide +kernel
theorem dX6_nextOf_59 : decode cX6_nextOf 59 = .ok (.getfield 35, 3) := by decide +kernel
theorem dX6_nextOf_62 : decode cX6_nextOf 62 = .ok (.iload_n 1, 1) := by decide +kernel
theorem dX6_nextOf_63 : decode cX6_nextOf 63 = .ok (.iaload, 1) := by decide +kernel
theorem dX6_nextOf_64 : decode cX6_nextOf 64 = .ok (.iconst 1, 1) := by decide +kernel
theorem dX6_nextOf_65 : decode cX6_nextOf 65 = .ok (.isub, 1) := by decide +kernel
theorem dX6_nextOf_66 : decode cX6_nextOf 66 = .ok (.if_icmp .ne 7, 3) := by decide +kernel
theorem dX6_nextOf_69 : decode cX6_nextOf 69 = .ok (.iconst 1, 1) := by decide +kernel
theorem dX6_nextOf_70 : decode cX6_nextOf 70 = .ok (.goto 4, 3) := by decide +kernel
theorem dX6_nextOf_73 : decode cX6_nextOf 73 = .ok (.iconst 0, 1) := by decide +kernel
theorem dX6_nextOf_74 : decode cX6_nextOf 74 = .ok (.istore 4, 2) := by decide +kernel
theorem dX6_nextOf_76 : decode cX6_nextOf 76 = .ok (.iload 4, 2) := by decide +kernel
theorem dX6_nextOf_78 : decode cX6_nextOf 78 = .ok (.ifCond .eq 11, 3) := by decide +kernel
theorem dX6_nextOf_81 : decode cX6_nextOf 81 = .ok (.iload_n 1, 1) := by decide +kernel
theorem dX6_nextOf_82 : decode cX6_nextOf 82 = .ok (.iload_n 3, 1) := by decide +kernel
theorem dX6_nextOf_83 : decode cX6_nextOf 83 = .ok (.invokestatic 55, 3) := by decide +kernel
theorem dX6_nextOf_86 : decode cX6_nextOf 86 = .ok (.goto 4, 3) := by decide +kernel
theorem dX6_nextOf_89 : decode cX6_nextOf 89 = .ok (.iload_n 2, 1) := by decide +kernel
theorem dX6_nextOf_90 : decode cX6_nextOf 90 = .ok (.istore_n 2, 1) := by decide +kernel
theorem dX6_nextOf_91 : decode cX6_nextOf 91 = .ok (.iinc 3 (-1), 3) := by decide +kernel
theorem dX6_nextOf_94 : decode cX6_nextOf 94 = .ok (.goto (-89), 3) := by decide +kernel
theorem dX6_nextOf_97 : decode cX6_nextOf 97 = .ok (.iload_n 2, 1) := by decide +kernel
theorem dX6_nextOf_98 : decode cX6_nextOf 98 = .ok (.ireturn, 1) := by decide +kernel
set_option maxRecDepth 20000 in
theorem ggX6_layWays_X6_layFar : GoodIn wsX6_layWays wsX6_layFar := goodIn_r _ [9, 3, 10, 11, 12, 13, 8, 14, 15, 16, 17, 18, 19, 20, 33, 34, 35, 36, 37, 38, 39, 40, 41, 42, 43, 44, 45, 46, 47, 48] (by decide +kernel) (by decide +kernel)
set_option maxRecDepth 20000 in
theorem gX6_layWays_X6_layFar : GoodIn wsX6_layWays (wsV RX6 69 RX6 yX6_layFar wsX6_layFar) := goodIn_app (goodIn_of _ (by decide +kernel)) ggX6_layWays_X6_layFar
set_option maxRecDepth 20000 in
theorem ggX6_layWays_X6_goalOf : GoodIn wsX6_layWays wsX6_goalOf := goodIn_r _ [24, 10, 3, 25, 26, 27, 8, 28, 33, 34, 35, 36, 37, 38, 39, 40, 41, 42, 43, 44, 45, 46, 47, 48] (by decide +kernel) (by decide +kernel)
set_option maxRecDepth 20000 in
theorem gX6_layWays_X6_goalOf : GoodIn wsX6_layWays (wsV RX6 73 RX6 yX6_goalOf wsX6_goalOf) := goodIn_app (goodIn_of _ (by decide +kernel)) ggX6_layWays_X6_goalOf
set_option maxRecDepth 20000 in
theorem ggX6_layWays_X6_nextOf : GoodIn wsX6_layWays wsX6_nextOf := goodIn_r _ [32, 1, 2, 3, 11, 12, 13, 8, 14, 10, 15, 16, 17, 18, 19, 20, 33, 34, 35, 36, 37, 38, 39, 40, 41, 42, 43, 44, 45, 46, 47, 48] (by decide +kernel) (by decide +kernel)
set_option maxRecDepth 20000 in
theorem gX6_layWays_X6_nextOf : GoodIn wsX6_layWays (wsV RX6 77 RX6 yX6_nextOf wsX6_nextOf) := goodIn_app (goodIn_of _ (by decide +kernel)) ggX6_layWays_X6_nextOf
theorem dX6_layWays_0 : decode cX6_layWays 0 = .ok (.iconst 0, 1) := by decide +kernel
theorem dX6_layWays_1 : decode cX6_layWays 1 = .ok (.istore_n 1, 1) := by decide +kernel
theorem dX6_layWays_2 : decode cX6_layWays 2 = .ok (.iload_n 1, 1) := by decide +kernel
theorem dX6_layWays_3 : decode cX6_layWays 3 = .ok (.iconst 4, 1) := by decide +kernel
theorem dX6_layWays_4 : decode cX6_layWays 4 = .ok (.if_icmp .ge 14, 3) := by decide +kernel
theorem dX6_layWays_7 : decode cX6_layWays 7 = .ok (.aload_n 0, 1) := by decide +kernel
theorem dX6_layWays_8 : decode cX6_layWays 8 = .ok (.iload_n 1, 1) := by decide +kernel
theorem dX6_layWays_9 : decode cX6_layWays 9 = .ok (.invokevirtual 69, 3) := by decide +kernel
theorem dX6_layWays_12 : decode cX6_layWays 12 = .ok (.iinc 1 1, 3) := by decide +kernel
theorem dX6_layWays_15 : decode cX6_layWays 15 = .ok (.goto (-13), 3) := by decide +kernel
theorem dX6_layWays_18 : decode cX6_layWays 18 = .ok (.iconst 0, 1) := by decide +kernel
theorem dX6_layWays_19 : decode cX6_layWays 19 = .ok (.istore_n 1, 1) := by decide +kernel
theorem dX6_layWays_20 : decode cX6_layWays 20 = .ok (.iload_n 1, 1) := by decide +kernel
theorem dX6_layWays_21 : decode cX6_layWays 21 = .ok (.bipush 35, 2) := by decide +kernel
theorem dX6_layWays_23 : decode cX6_layWays 23 = .ok (.if_icmp .ge 69, 3) := by decide +kernel
theorem dX6_layWays_26 : decode cX6_layWays 26 = .ok (.aload_n 0, 1) := by decide +kernel
theorem dX6_layWays_27 : decode cX6_layWays 27 = .ok (.getfield 32, 3) := by decide +kernel
theorem dX6_layWays_30 : decode cX6_layWays 30 = .ok (.iload_n 1, 1) := by decide +kernel
theorem dX6_layWays_31 : decode cX6_layWays 31 = .ok (.aload_n 0, 1) := by decide +kernel
theorem dX6_layWays_32 : decode cX6_layWays 32 = .ok (.iload_n 1, 1) := by decide +kernel
theorem dX6_layWays_33 : decode cX6_layWays 33 = .ok (.invokevirtual 73, 3) := by decide +kernel
theorem dX6_layWays_36 : decode cX6_layWays 36 = .ok (.iastore, 1) := by decide +kernel
theorem dX6_layWays_37 : decode cX6_layWays 37 = .ok (.aload_n 0, 1) := by decide +kernel
theorem dX6_layWays_38 : decode cX6_layWays 38 = .ok (.getfield 35, 3) := by decide +kernel
theorem dX6_layWays_41 : decode cX6_layWays 41 = .ok (.iload_n 1, 1) := by decide +kernel
theorem dX6_layWays_42 : decode cX6_layWays 42 = .ok (.aload_n 0, 1) := by decide +kernel
theorem dX6_layWays_43 : decode cX6_layWays 43 = .ok (.getfield 32, 3) := by decide +kernel
theorem dX6_layWays_46 : decode cX6_layWays 46 = .ok (.iload_n 1, 1) := by decide +kernel
theorem dX6_layWays_47 : decode cX6_layWays 47 = .ok (.iaload, 1) := by decide +kernel
theorem dX6_layWays_48 : decode cX6_layWays 48 = .ok (.bipush (-6), 2) := by decide +kernel
theorem dX6_layWays_50 : decode cX6_layWays 50 = .ok (.if_icmp .ne 8, 3) := by decide +kernel
theorem dX6_layWays_53 : decode cX6_layWays 53 = .ok (.bipush (-6), 2) := by decide +kernel
theorem dX6_layWays_55 : decode cX6_layWays 55 = .ok (.goto 19, 3) := by decide +kernel
theorem dX6_layWays_58 : decode cX6_layWays 58 = .ok (.aload_n 0, 1) := by decide +kernel
theorem dX6_layWays_59 : decode cX6_layWays 59 = .ok (.getfield 29, 3) := by decide +kernel
theorem dX6_layWays_62 : decode cX6_layWays 62 = .ok (.bipush 35, 2) := by decide +kernel
theorem dX6_layWays_64 : decode cX6_layWays 64 = .ok (.aload_n 0, 1) := by decide +kernel
theorem dX6_layWays_65 : decode cX6_layWays 65 = .ok (.getfield 32, 3) := by decide +kernel
theorem dX6_layWays_68 : decode cX6_layWays 68 = .ok (.iload_n 1, 1) := by decide +kernel
theorem dX6_layWays_69 : decode cX6_layWays 69 = .ok (.iaload, 1) := by decide +kernel
theorem dX6_layWays_70 : decode cX6_layWays 70 = .ok (.imul, 1) := by decide +kernel
theorem dX6_layWays_71 : decode cX6_layWays 71 = .ok (.iload_n 1, 1) := by decide +kernel
theorem dX6_layWays_72 : decode cX6_layWays 72 = .ok (.iadd, 1) := by decide +kernel
theorem dX6_layWays_73 : decode cX6_layWays 73 = .ok (.iaload, 1) := by decide +kernel
theorem dX6_layWays_74 : decode cX6_layWays 74 = .ok (.iastore, 1) := by decide +kernel
theorem dX6_layWays_75 : decode cX6_layWays 75 = .ok (.aload_n 0, 1) := by decide +kernel
theorem dX6_layWays_76 : decode cX6_layWays 76 = .ok (.getfield 38, 3) := by decide +kernel
theorem dX6_layWays_79 : decode cX6_layWays 79 = .ok (.iload_n 1, 1) := by decide +kernel
theorem dX6_layWays_80 : decode cX6_layWays 80 = .ok (.aload_n 0, 1) := by decide +kernel
theorem dX6_layWays_81 : decode cX6_layWays 81 = .ok (.iload_n 1, 1) := by decide +kernel
theorem dX6_layWays_82 : decode cX6_layWays 82 = .ok (.invokevirtual 77, 3) := by decide +kernel
theorem dX6_layWays_85 : decode cX6_layWays 85 = .ok (.iastore, 1) := by decide +kernel
theorem dX6_layWays_86 : decode cX6_layWays 86 = .ok (.iinc 1 1, 3) := by decide +kernel
theorem dX6_layWays_89 : decode cX6_layWays 89 = .ok (.goto (-69), 3) := by decide +kernel
theorem dX6_layWays_92 : decode cX6_layWays 92 = .ok (.return_, 1) := by decide +kernel
theorem dX6_letsOut_0 : decode cX6_letsOut 0 = .ok (.aload_n 0, 1) := by decide +kernel
theorem dX6_letsOut_1 : decode cX6_letsOut 1 = .ok (.getfield 7, 3) := by decide +kernel
theorem dX6_letsOut_4 : decode cX6_letsOut 4 = .ok (.iconst 5, 1) := by decide +kernel
theorem dX6_letsOut_5 : decode cX6_letsOut 5 = .ok (.iload_n 1, 1) := by decide +kernel
theorem dX6_letsOut_6 : decode cX6_letsOut 6 = .ok (.iadd, 1) := by decide +kernel
theorem dX6_letsOut_7 : decode cX6_letsOut 7 = .ok (.iaload, 1) := by decide +kernel
theorem dX6_letsOut_8 : decode cX6_letsOut 8 = .ok (.istore_n 2, 1) := by decide +kernel
theorem dX6_letsOut_9 : decode cX6_letsOut 9 = .ok (.aload_n 0, 1) := by decide +kernel
theorem dX6_letsOut_10 : decode cX6_letsOut 10 = .ok (.getfield 7, 3) := by decide +kernel
theorem dX6_letsOut_13 : decode cX6_letsOut 13 = .ok (.bipush 21, 2) := by decide +kernel
end
section
theorem dX6_letsOut_15 : decode cX6_letsOut 15 = .ok (.iload_n 2, 1) := by decide +kernel
theorem dX6_letsOut_16 : decode cX6_letsOut 16 = .ok (.iadd, 1) := by decide +kernel
theorem dX6_letsOut_17 : decode cX6_letsOut 17 = .ok (.iaload, 1) := by decide +kernel
theorem dX6_letsOut_18 : decode cX6_letsOut 18 = .ok (.aload_n 0, 1) := by decide +kernel
theorem dX6_letsOut_19 : decode cX6_letsOut 19 = .ok (.getfield 7, 3) := by decide +kernel
theorem dX6_letsOut_22 : decode cX6_letsOut 22 = .ok (.bipush 9, 2) := by decide +kernel
theorem dX6_letsOut_24 : decode cX6_letsOut 24 = .ok (.iload_n 1, 1) := by decide +kernel
theorem dX6_letsOut_25 : decode cX6_letsOut 25 = .ok (.iadd, 1) := by decide +kernel
theorem dX6_letsOut_26 : decode cX6_letsOut 26 = .ok (.iaload, 1) := by decide +kernel
theorem dX6_letsOut_27 : decode cX6_letsOut 27 = .ok (.if_icmp .ge 15, 3) := by decide +kernel
theorem dX6_letsOut_30 : decode cX6_letsOut 30 = .ok (.aload_n 0, 1) := by decide +kernel
theorem dX6_letsOut_31 : decode cX6_letsOut 31 = .ok (.getfield 7, 3) := by decide +kernel
theorem dX6_letsOut_34 : decode cX6_letsOut 34 = .ok (.bipush 21, 2) := by decide +kernel
theorem dX6_letsOut_36 : decode cX6_letsOut 36 = .ok (.iload_n 2, 1) := by decide +kernel
theorem dX6_letsOut_37 : decode cX6_letsOut 37 = .ok (.iadd, 1) := by decide +kernel
theorem dX6_letsOut_38 : decode cX6_letsOut 38 = .ok (.iaload, 1) := by decide +kernel
theorem dX6_letsOut_39 : decode cX6_letsOut 39 = .ok (.goto 12, 3) := by decide +kernel
theorem dX6_letsOut_42 : decode cX6_letsOut 42 = .ok (.aload_n 0, 1) := by decide +kernel
theorem dX6_letsOut_43 : decode cX6_letsOut 43 = .ok (.getfield 7, 3) := by decide +kernel
theorem dX6_letsOut_46 : decode cX6_letsOut 46 = .ok (.bipush 9, 2) := by decide +kernel
theorem dX6_letsOut_48 : decode cX6_letsOut 48 = .ok (.iload_n 1, 1) := by decide +kernel
theorem dX6_letsOut_49 : decode cX6_letsOut 49 = .ok (.iadd, 1) := by decide +kernel
theorem dX6_letsOut_50 : decode cX6_letsOut 50 = .ok (.iaload, 1) := by decide +kernel
theorem dX6_letsOut_51 : decode cX6_letsOut 51 = .ok (.istore_n 3, 1) := by decide +kernel
theorem dX6_letsOut_52 : decode cX6_letsOut 52 = .ok (.aload_n 0, 1) := by decide +kernel
theorem dX6_letsOut_53 : decode cX6_letsOut 53 = .ok (.getfield 7, 3) := by decide +kernel
theorem dX6_letsOut_56 : decode cX6_letsOut 56 = .ok (.bipush 21, 2) := by decide +kernel
theorem dX6_letsOut_58 : decode cX6_letsOut 58 = .ok (.iload_n 2, 1) := by decide +kernel
theorem dX6_letsOut_59 : decode cX6_letsOut 59 = .ok (.iadd, 1) := by decide +kernel
theorem dX6_letsOut_60 : decode cX6_letsOut 60 = .ok (.dup2, 1) := by decide +kernel
theorem dX6_letsOut_61 : decode cX6_letsOut 61 = .ok (.iaload, 1) := by decide +kernel
theorem dX6_letsOut_62 : decode cX6_letsOut 62 = .ok (.iload_n 3, 1) := by decide +kernel
theorem dX6_letsOut_63 : decode cX6_letsOut 63 = .ok (.isub, 1) := by decide +kernel
theorem dX6_letsOut_64 : decode cX6_letsOut 64 = .ok (.iastore, 1) := by decide +kernel
theorem dX6_letsOut_65 : decode cX6_letsOut 65 = .ok (.aload_n 0, 1) := by decide +kernel
theorem dX6_letsOut_66 : decode cX6_letsOut 66 = .ok (.getfield 7, 3) := by decide +kernel
theorem dX6_letsOut_69 : decode cX6_letsOut 69 = .ok (.bipush 17, 2) := by decide +kernel
theorem dX6_letsOut_71 : decode cX6_letsOut 71 = .ok (.iload_n 1, 1) := by decide +kernel
theorem dX6_letsOut_72 : decode cX6_letsOut 72 = .ok (.iadd, 1) := by decide +kernel
theorem dX6_letsOut_73 : decode cX6_letsOut 73 = .ok (.dup2, 1) := by decide +kernel
theorem dX6_letsOut_74 : decode cX6_letsOut 74 = .ok (.iaload, 1) := by decide +kernel
theorem dX6_letsOut_75 : decode cX6_letsOut 75 = .ok (.iload_n 3, 1) := by decide +kernel
theorem dX6_letsOut_76 : decode cX6_letsOut 76 = .ok (.iadd, 1) := by decide +kernel
theorem dX6_letsOut_77 : decode cX6_letsOut 77 = .ok (.iastore, 1) := by decide +kernel
theorem dX6_letsOut_78 : decode cX6_letsOut 78 = .ok (.return_, 1) := by decide +kernel
theorem dX6_goes_0 : decode cX6_goes 0 = .ok (.aload_n 0, 1) := by decide +kernel
theorem dX6_goes_1 : decode cX6_goes 1 = .ok (.getfield 38, 3) := by decide +kernel
theorem dX6_goes_4 : decode cX6_goes 4 = .ok (.iload_n 1, 1) := by decide +kernel
theorem dX6_goes_5 : decode cX6_goes 5 = .ok (.iaload, 1) := by decide +kernel
theorem dX6_goes_6 : decode cX6_goes 6 = .ok (.istore_n 2, 1) := by decide +kernel
theorem dX6_goes_7 : decode cX6_goes 7 = .ok (.aload_n 0, 1) := by decide +kernel
theorem dX6_goes_8 : decode cX6_goes 8 = .ok (.getfield 7, 3) := by decide +kernel
theorem dX6_goes_11 : decode cX6_goes 11 = .ok (.bipush 21, 2) := by decide +kernel
theorem dX6_goes_13 : decode cX6_goes 13 = .ok (.iload_n 1, 1) := by decide +kernel
theorem dX6_goes_14 : decode cX6_goes 14 = .ok (.iadd, 1) := by decide +kernel
theorem dX6_goes_15 : decode cX6_goes 15 = .ok (.iaload, 1) := by decide +kernel
theorem dX6_goes_16 : decode cX6_goes 16 = .ok (.aload_n 0, 1) := by decide +kernel
theorem dX6_goes_17 : decode cX6_goes 17 = .ok (.getfield 41, 3) := by decide +kernel
theorem dX6_goes_20 : decode cX6_goes 20 = .ok (.iload_n 1, 1) := by decide +kernel
theorem dX6_goes_21 : decode cX6_goes 21 = .ok (.iaload, 1) := by decide +kernel
theorem dX6_goes_22 : decode cX6_goes 22 = .ok (.isub, 1) := by decide +kernel
theorem dX6_goes_23 : decode cX6_goes 23 = .ok (.istore_n 3, 1) := by decide +kernel
theorem dX6_goes_24 : decode cX6_goes 24 = .ok (.aload_n 0, 1) := by decide +kernel
theorem dX6_goes_25 : decode cX6_goes 25 = .ok (.getfield 7, 3) := by decide +kernel
theorem dX6_goes_28 : decode cX6_goes 28 = .ok (.iconst 0, 1) := by decide +kernel
theorem dX6_goes_29 : decode cX6_goes 29 = .ok (.iaload, 1) := by decide +kernel
theorem dX6_goes_30 : decode cX6_goes 30 = .ok (.aload_n 0, 1) := by decide +kernel
theorem dX6_goes_31 : decode cX6_goes 31 = .ok (.getfield 7, 3) := by decide +kernel
theorem dX6_goes_34 : decode cX6_goes 34 = .ok (.bipush 21, 2) := by decide +kernel
theorem dX6_goes_36 : decode cX6_goes 36 = .ok (.iload_n 2, 1) := by decide +kernel
theorem dX6_goes_37 : decode cX6_goes 37 = .ok (.iadd, 1) := by decide +kernel
theorem dX6_goes_38 : decode cX6_goes 38 = .ok (.iaload, 1) := by decide +kernel
theorem dX6_goes_39 : decode cX6_goes 39 = .ok (.isub, 1) := by decide +kernel
theorem dX6_goes_40 : decode cX6_goes 40 = .ok (.istore 4, 2) := by decide +kernel
theorem dX6_goes_42 : decode cX6_goes 42 = .ok (.iload_n 3, 1) := by decide +kernel
theorem dX6_goes_43 : decode cX6_goes 43 = .ok (.iload 4, 2) := by decide +kernel
theorem dX6_goes_45 : decode cX6_goes 45 = .ok (.if_icmp .ge 7, 3) := by decide +kernel
theorem dX6_goes_48 : decode cX6_goes 48 = .ok (.iload_n 3, 1) := by decide +kernel
theorem dX6_goes_49 : decode cX6_goes 49 = .ok (.goto 5, 3) := by decide +kernel
theorem dX6_goes_52 : decode cX6_goes 52 = .ok (.iload 4, 2) := by decide +kernel
theorem dX6_goes_54 : decode cX6_goes 54 = .ok (.istore 5, 2) := by decide +kernel
theorem dX6_goes_56 : decode cX6_goes 56 = .ok (.aload_n 0, 1) := by decide +kernel
theorem dX6_goes_57 : decode cX6_goes 57 = .ok (.getfield 7, 3) := by decide +kernel
theorem dX6_goes_60 : decode cX6_goes 60 = .ok (.bipush 21, 2) := by decide +kernel
theorem dX6_goes_62 : decode cX6_goes 62 = .ok (.iload_n 1, 1) := by decide +kernel
theorem dX6_goes_63 : decode cX6_goes 63 = .ok (.iadd, 1) := by decide +kernel
theorem dX6_goes_64 : decode cX6_goes 64 = .ok (.dup2, 1) := by decide +kernel
theorem dX6_goes_65 : decode cX6_goes 65 = .ok (.iaload, 1) := by decide +kernel
theorem dX6_goes_66 : decode cX6_goes 66 = .ok (.iload 5, 2) := by decide +kernel
theorem dX6_goes_68 : decode cX6_goes 68 = .ok (.isub, 1) := by decide +kernel
theorem dX6_goes_69 : decode cX6_goes 69 = .ok (.iastore, 1) := by decide +kernel
theorem dX6_goes_70 : decode cX6_goes 70 = .ok (.aload_n 0, 1) := by decide +kernel
theorem dX6_goes_71 : decode cX6_goes 71 = .ok (.getfield 7, 3) := by decide +kernel
theorem dX6_goes_74 : decode cX6_goes 74 = .ok (.bipush 21, 2) := by decide +kernel
theorem dX6_goes_76 : decode cX6_goes 76 = .ok (.iload_n 2, 1) := by decide +kernel
theorem dX6_goes_77 : decode cX6_goes 77 = .ok (.iadd, 1) := by decide +kernel
theorem dX6_goes_78 : decode cX6_goes 78 = .ok (.dup2, 1) := by decide +kernel
theorem dX6_goes_79 : decode cX6_goes 79 = .ok (.iaload, 1) := by decide +kernel
theorem dX6_goes_80 : decode cX6_goes 80 = .ok (.iload 5, 2) := by decide +kernel
theorem dX6_goes_82 : decode cX6_goes 82 = .ok (.iadd, 1) := by decide +kernel
theorem dX6_goes_83 : decode cX6_goes 83 = .ok (.iastore, 1) := by decide +kernel
theorem dX6_goes_84 : decode cX6_goes 84 = .ok (.aload_n 0, 1) := by decide +kernel
theorem dX6_goes_85 : decode cX6_goes 85 = .ok (.getfield 41, 3) := by decide +kernel
theorem dX6_goes_88 : decode cX6_goes 88 = .ok (.iload_n 2, 1) := by decide +kernel
theorem dX6_goes_89 : decode cX6_goes 89 = .ok (.dup2, 1) := by decide +kernel
theorem dX6_goes_90 : decode cX6_goes 90 = .ok (.iaload, 1) := by decide +kernel
theorem dX6_goes_91 : decode cX6_goes 91 = .ok (.iload 5, 2) := by decide +kernel
theorem dX6_goes_93 : decode cX6_goes 93 = .ok (.iadd, 1) := by decide +kernel
theorem dX6_goes_94 : decode cX6_goes 94 = .ok (.iastore, 1) := by decide +kernel
theorem dX6_goes_95 : decode cX6_goes 95 = .ok (.aload_n 0, 1) := by decide +kernel
theorem dX6_goes_96 : decode cX6_goes 96 = .ok (.getfield 7, 3) := by decide +kernel
theorem dX6_goes_99 : decode cX6_goes 99 = .ok (.iconst 4, 1) := by decide +kernel
theorem dX6_goes_100 : decode cX6_goes 100 = .ok (.dup2, 1) := by decide +kernel
theorem dX6_goes_101 : decode cX6_goes 101 = .ok (.iaload, 1) := by decide +kernel
theorem dX6_goes_102 : decode cX6_goes 102 = .ok (.iload 5, 2) := by decide +kernel
theorem dX6_goes_104 : decode cX6_goes 104 = .ok (.iload_n 3, 1) := by decide +kernel
theorem dX6_goes_105 : decode cX6_goes 105 = .ok (.if_icmp .ge 7, 3) := by decide +kernel
theorem dX6_goes_108 : decode cX6_goes 108 = .ok (.iconst 1, 1) := by decide +kernel
theorem dX6_goes_109 : decode cX6_goes 109 = .ok (.goto 4, 3) := by decide +kernel
theorem dX6_goes_112 : decode cX6_goes 112 = .ok (.iconst 0, 1) := by decide +kernel
theorem dX6_goes_113 : decode cX6_goes 113 = .ok (.iadd, 1) := by decide +kernel
theorem dX6_goes_114 : decode cX6_goes 114 = .ok (.iastore, 1) := by decide +kernel
theorem dX6_goes_115 : decode cX6_goes 115 = .ok (.aload_n 0, 1) := by decide +kernel
theorem dX6_goes_116 : decode cX6_goes 116 = .ok (.getfield 7, 3) := by decide +kernel
theorem dX6_goes_119 : decode cX6_goes 119 = .ok (.iconst 3, 1) := by decide +kernel
theorem dX6_goes_120 : decode cX6_goes 120 = .ok (.dup2, 1) := by decide +kernel
theorem dX6_goes_121 : decode cX6_goes 121 = .ok (.iaload, 1) := by decide +kernel
theorem dX6_goes_122 : decode cX6_goes 122 = .ok (.iload_n 3, 1) := by decide +kernel
theorem dX6_goes_123 : decode cX6_goes 123 = .ok (.iload 5, 2) := by decide +kernel
theorem dX6_goes_125 : decode cX6_goes 125 = .ok (.isub, 1) := by decide +kernel
theorem dX6_goes_126 : decode cX6_goes 126 = .ok (.iadd, 1) := by decide +kernel
theorem dX6_goes_127 : decode cX6_goes 127 = .ok (.iastore, 1) := by decide +kernel
theorem dX6_goes_128 : decode cX6_goes 128 = .ok (.return_, 1) := by decide +kernel
set_option maxRecDepth 20000 in
theorem ggX6_minute_X6_letsOut : GoodIn wsX6_minute wsX6_letsOut := goodIn_r _ [8, 1, 14, 15, 16, 17, 18, 19, 20, 21, 22, 23, 24, 25, 26, 27, 28, 29] (by decide +kernel) (by decide +kernel)
set_option maxRecDepth 20000 in
theorem gX6_minute_X6_letsOut : GoodIn wsX6_minute (wsV RX6 80 RX6 yX6_letsOut wsX6_letsOut) := goodIn_app (goodIn_of _ (by decide +kernel)) ggX6_minute_X6_letsOut
set_option maxRecDepth 20000 in
theorem ggX6_minute_X6_goes : GoodIn wsX6_minute wsX6_goes := goodIn_r _ [12, 13, 1, 2, 14, 15, 16, 17, 18, 19, 20, 21, 22, 23, 24, 25, 26, 27, 28, 29] (by decide +kernel) (by decide +kernel)
set_option maxRecDepth 20000 in
theorem gX6_minute_X6_goes : GoodIn wsX6_minute (wsV RX6 83 RX6 yX6_goes wsX6_goes) := goodIn_app (goodIn_of _ (by decide +kernel)) ggX6_minute_X6_goes
theorem dX6_minute_0 : decode cX6_minute 0 = .ok (.aload_n 0, 1) := by decide +kernel
theorem dX6_minute_1 : decode cX6_minute 1 = .ok (.getfield 7, 3) := by decide +kernel
theorem dX6_minute_4 : decode cX6_minute 4 = .ok (.iconst 1, 1) := by decide +kernel
theorem dX6_minute_5 : decode cX6_minute 5 = .ok (.dup2, 1) := by decide +kernel
theorem dX6_minute_6 : decode cX6_minute 6 = .ok (.iaload, 1) := by decide +kernel
theorem dX6_minute_7 : decode cX6_minute 7 = .ok (.iconst 1, 1) := by decide +kernel
theorem dX6_minute_8 : decode cX6_minute 8 = .ok (.iadd, 1) := by decide +kernel
theorem dX6_minute_9 : decode cX6_minute 9 = .ok (.iastore, 1) := by decide +kernel
theorem dX6_minute_10 : decode cX6_minute 10 = .ok (.iconst 0, 1) := by decide +kernel
theorem dX6_minute_11 : decode cX6_minute 11 = .ok (.istore_n 1, 1) := by decide +kernel
theorem dX6_minute_12 : decode cX6_minute 12 = .ok (.iload_n 1, 1) := by decide +kernel
theorem dX6_minute_13 : decode cX6_minute 13 = .ok (.iconst 4, 1) := by decide +kernel
theorem dX6_minute_14 : decode cX6_minute 14 = .ok (.if_icmp .ge 27, 3) := by decide +kernel
theorem dX6_minute_17 : decode cX6_minute 17 = .ok (.aload_n 0, 1) := by decide +kernel
theorem dX6_minute_18 : decode cX6_minute 18 = .ok (.getfield 7, 3) := by decide +kernel
theorem dX6_minute_21 : decode cX6_minute 21 = .ok (.bipush 13, 2) := by decide +kernel
theorem dX6_minute_23 : decode cX6_minute 23 = .ok (.iload_n 1, 1) := by decide +kernel
theorem dX6_minute_24 : decode cX6_minute 24 = .ok (.iadd, 1) := by decide +kernel
theorem dX6_minute_25 : decode cX6_minute 25 = .ok (.iaload, 1) := by decide +kernel
theorem dX6_minute_26 : decode cX6_minute 26 = .ok (.iconst 1, 1) := by decide +kernel
theorem dX6_minute_27 : decode cX6_minute 27 = .ok (.if_icmp .ne 8, 3) := by decide +kernel
theorem dX6_minute_30 : decode cX6_minute 30 = .ok (.aload_n 0, 1) := by decide +kernel
theorem dX6_minute_31 : decode cX6_minute 31 = .ok (.iload_n 1, 1) := by decide +kernel
theorem dX6_minute_32 : decode cX6_minute 32 = .ok (.invokevirtual 80, 3) := by decide +kernel
theorem dX6_minute_35 : decode cX6_minute 35 = .ok (.iinc 1 1, 3) := by decide +kernel
theorem dX6_minute_38 : decode cX6_minute 38 = .ok (.goto (-26), 3) := by decide +kernel
theorem dX6_minute_41 : decode cX6_minute 41 = .ok (.iconst 0, 1) := by decide +kernel
theorem dX6_minute_42 : decode cX6_minute 42 = .ok (.istore_n 1, 1) := by decide +kernel
theorem dX6_minute_43 : decode cX6_minute 43 = .ok (.iload_n 1, 1) := by decide +kernel
theorem dX6_minute_44 : decode cX6_minute 44 = .ok (.bipush 35, 2) := by decide +kernel
theorem dX6_minute_46 : decode cX6_minute 46 = .ok (.if_icmp .ge 16, 3) := by decide +kernel
theorem dX6_minute_49 : decode cX6_minute 49 = .ok (.aload_n 0, 1) := by decide +kernel
theorem dX6_minute_50 : decode cX6_minute 50 = .ok (.getfield 41, 3) := by decide +kernel
theorem dX6_minute_53 : decode cX6_minute 53 = .ok (.iload_n 1, 1) := by decide +kernel
theorem dX6_minute_54 : decode cX6_minute 54 = .ok (.iconst 0, 1) := by decide +kernel
theorem dX6_minute_55 : decode cX6_minute 55 = .ok (.iastore, 1) := by decide +kernel
theorem dX6_minute_56 : decode cX6_minute 56 = .ok (.iinc 1 1, 3) := by decide +kernel
theorem dX6_minute_59 : decode cX6_minute 59 = .ok (.goto (-16), 3) := by decide +kernel
theorem dX6_minute_62 : decode cX6_minute 62 = .ok (.iconst 1, 1) := by decide +kernel
theorem dX6_minute_63 : decode cX6_minute 63 = .ok (.istore_n 1, 1) := by decide +kernel
theorem dX6_minute_64 : decode cX6_minute 64 = .ok (.iload_n 1, 1) := by decide +kernel
theorem dX6_minute_65 : decode cX6_minute 65 = .ok (.bipush 35, 2) := by decide +kernel
theorem dX6_minute_67 : decode cX6_minute 67 = .ok (.if_icmp .ge 50, 3) := by decide +kernel
theorem dX6_minute_70 : decode cX6_minute 70 = .ok (.iconst 0, 1) := by decide +kernel
theorem dX6_minute_71 : decode cX6_minute 71 = .ok (.istore_n 2, 1) := by decide +kernel
theorem dX6_minute_72 : decode cX6_minute 72 = .ok (.iload_n 2, 1) := by decide +kernel
theorem dX6_minute_73 : decode cX6_minute 73 = .ok (.bipush 35, 2) := by decide +kernel
theorem dX6_minute_75 : decode cX6_minute 75 = .ok (.if_icmp .ge 36, 3) := by decide +kernel
theorem dX6_minute_78 : decode cX6_minute 78 = .ok (.aload_n 0, 1) := by decide +kernel
theorem dX6_minute_79 : decode cX6_minute 79 = .ok (.getfield 35, 3) := by decide +kernel
theorem dX6_minute_82 : decode cX6_minute 82 = .ok (.iload_n 2, 1) := by decide +kernel
theorem dX6_minute_83 : decode cX6_minute 83 = .ok (.iaload, 1) := by decide +kernel
theorem dX6_minute_84 : decode cX6_minute 84 = .ok (.iload_n 1, 1) := by decide +kernel
theorem dX6_minute_85 : decode cX6_minute 85 = .ok (.if_icmp .ne 20, 3) := by decide +kernel
theorem dX6_minute_88 : decode cX6_minute 88 = .ok (.aload_n 0, 1) := by decide +kernel
theorem dX6_minute_89 : decode cX6_minute 89 = .ok (.getfield 7, 3) := by decide +kernel
theorem dX6_minute_92 : decode cX6_minute 92 = .ok (.bipush 21, 2) := by decide +kernel
theorem dX6_minute_94 : decode cX6_minute 94 = .ok (.iload_n 2, 1) := by decide +kernel
theorem dX6_minute_95 : decode cX6_minute 95 = .ok (.iadd, 1) := by decide +kernel
theorem dX6_minute_96 : decode cX6_minute 96 = .ok (.iaload, 1) := by decide +kernel
theorem dX6_minute_97 : decode cX6_minute 97 = .ok (.ifCond .le 8, 3) := by decide +kernel
theorem dX6_minute_100 : decode cX6_minute 100 = .ok (.aload_n 0, 1) := by decide +kernel
theorem dX6_minute_101 : decode cX6_minute 101 = .ok (.iload_n 2, 1) := by decide +kernel
theorem dX6_minute_102 : decode cX6_minute 102 = .ok (.invokevirtual 83, 3) := by decide +kernel
theorem dX6_minute_105 : decode cX6_minute 105 = .ok (.iinc 2 1, 3) := by decide +kernel
theorem dX6_minute_108 : decode cX6_minute 108 = .ok (.goto (-36), 3) := by decide +kernel
theorem dX6_minute_111 : decode cX6_minute 111 = .ok (.iinc 1 1, 3) := by decide +kernel
theorem dX6_minute_114 : decode cX6_minute 114 = .ok (.goto (-50), 3) := by decide +kernel
theorem dX6_minute_117 : decode cX6_minute 117 = .ok (.return_, 1) := by decide +kernel
theorem dX6_people_0 : decode cX6_people 0 = .ok (.iconst 0, 1) := by decide +kernel
theorem dX6_people_1 : decode cX6_people 1 = .ok (.istore_n 1, 1) := by decide +kernel
theorem dX6_people_2 : decode cX6_people 2 = .ok (.iconst 0, 1) := by decide +kernel
theorem dX6_people_3 : decode cX6_people 3 = .ok (.istore_n 2, 1) := by decide +kernel
theorem dX6_people_4 : decode cX6_people 4 = .ok (.iload_n 2, 1) := by decide +kernel
theorem dX6_people_5 : decode cX6_people 5 = .ok (.bipush 35, 2) := by decide +kernel
theorem dX6_people_7 : decode cX6_people 7 = .ok (.if_icmp .ge 21, 3) := by decide +kernel
theorem dX6_people_10 : decode cX6_people 10 = .ok (.iload_n 1, 1) := by decide +kernel
theorem dX6_people_11 : decode cX6_people 11 = .ok (.aload_n 0, 1) := by decide +kernel
theorem dX6_people_12 : decode cX6_people 12 = .ok (.getfield 7, 3) := by decide +kernel
theorem dX6_people_15 : decode cX6_people 15 = .ok (.bipush 21, 2) := by decide +kernel
theorem dX6_people_17 : decode cX6_people 17 = .ok (.iload_n 2, 1) := by decide +kernel
theorem dX6_people_18 : decode cX6_people 18 = .ok (.iadd, 1) := by decide +kernel
theorem dX6_people_19 : decode cX6_people 19 = .ok (.iaload, 1) := by decide +kernel
theorem dX6_people_20 : decode cX6_people 20 = .ok (.iadd, 1) := by decide +kernel
theorem dX6_people_21 : decode cX6_people 21 = .ok (.istore_n 1, 1) := by decide +kernel
theorem dX6_people_22 : decode cX6_people 22 = .ok (.iinc 2 1, 3) := by decide +kernel
theorem dX6_people_25 : decode cX6_people 25 = .ok (.goto (-21), 3) := by decide +kernel
theorem dX6_people_28 : decode cX6_people 28 = .ok (.iload_n 1, 1) := by decide +kernel
theorem dX6_people_29 : decode cX6_people 29 = .ok (.ireturn, 1) := by decide +kernel
theorem dX6_out_0 : decode cX6_out 0 = .ok (.aload_n 0, 1) := by decide +kernel
theorem dX6_out_1 : decode cX6_out 1 = .ok (.getfield 7, 3) := by decide +kernel
theorem dX6_out_4 : decode cX6_out 4 = .ok (.bipush 17, 2) := by decide +kernel
theorem dX6_out_6 : decode cX6_out 6 = .ok (.iaload, 1) := by decide +kernel
theorem dX6_out_7 : decode cX6_out 7 = .ok (.aload_n 0, 1) := by decide +kernel
theorem dX6_out_8 : decode cX6_out 8 = .ok (.getfield 7, 3) := by decide +kernel
theorem dX6_out_11 : decode cX6_out 11 = .ok (.bipush 18, 2) := by decide +kernel
theorem dX6_out_13 : decode cX6_out 13 = .ok (.iaload, 1) := by decide +kernel
theorem dX6_out_14 : decode cX6_out 14 = .ok (.iadd, 1) := by decide +kernel
theorem dX6_out_15 : decode cX6_out 15 = .ok (.aload_n 0, 1) := by decide +kernel
theorem dX6_out_16 : decode cX6_out 16 = .ok (.getfield 7, 3) := by decide +kernel
theorem dX6_out_19 : decode cX6_out 19 = .ok (.bipush 19, 2) := by decide +kernel
theorem dX6_out_21 : decode cX6_out 21 = .ok (.iaload, 1) := by decide +kernel
theorem dX6_out_22 : decode cX6_out 22 = .ok (.iadd, 1) := by decide +kernel
theorem dX6_out_23 : decode cX6_out 23 = .ok (.aload_n 0, 1) := by decide +kernel
theorem dX6_out_24 : decode cX6_out 24 = .ok (.getfield 7, 3) := by decide +kernel
theorem dX6_out_27 : decode cX6_out 27 = .ok (.bipush 20, 2) := by decide +kernel
theorem dX6_out_29 : decode cX6_out 29 = .ok (.iaload, 1) := by decide +kernel
theorem dX6_out_30 : decode cX6_out 30 = .ok (.iadd, 1) := by decide +kernel
theorem dX6_out_31 : decode cX6_out 31 = .ok (.ireturn, 1) := by decide +kernel
theorem dX6_shutIn_0 : decode cX6_shutIn 0 = .ok (.iconst 0, 1) := by decide +kernel
theorem dX6_shutIn_1 : decode cX6_shutIn 1 = .ok (.istore_n 1, 1) := by decide +kernel
theorem dX6_shutIn_2 : decode cX6_shutIn 2 = .ok (.iconst 0, 1) := by decide +kernel
theorem dX6_shutIn_3 : decode cX6_shutIn 3 = .ok (.istore_n 2, 1) := by decide +kernel
theorem dX6_shutIn_4 : decode cX6_shutIn 4 = .ok (.iload_n 2, 1) := by decide +kernel
theorem dX6_shutIn_5 : decode cX6_shutIn 5 = .ok (.bipush 35, 2) := by decide +kernel
theorem dX6_shutIn_7 : decode cX6_shutIn 7 = .ok (.if_icmp .ge 36, 3) := by decide +kernel
theorem dX6_shutIn_10 : decode cX6_shutIn 10 = .ok (.iload_n 1, 1) := by decide +kernel
theorem dX6_shutIn_11 : decode cX6_shutIn 11 = .ok (.aload_n 0, 1) := by decide +kernel
theorem dX6_shutIn_12 : decode cX6_shutIn 12 = .ok (.getfield 32, 3) := by decide +kernel
theorem dX6_shutIn_15 : decode cX6_shutIn 15 = .ok (.iload_n 2, 1) := by decide +kernel
theorem dX6_shutIn_16 : decode cX6_shutIn 16 = .ok (.iaload, 1) := by decide +kernel
theorem dX6_shutIn_17 : decode cX6_shutIn 17 = .ok (.bipush (-6), 2) := by decide +kernel
theorem dX6_shutIn_19 : decode cX6_shutIn 19 = .ok (.if_icmp .ne 15, 3) := by decide +kernel
theorem dX6_shutIn_22 : decode cX6_shutIn 22 = .ok (.aload_n 0, 1) := by decide +kernel
theorem dX6_shutIn_23 : decode cX6_shutIn 23 = .ok (.getfield 7, 3) := by decide +kernel
theorem dX6_shutIn_26 : decode cX6_shutIn 26 = .ok (.bipush 21, 2) := by decide +kernel
theorem dX6_shutIn_28 : decode cX6_shutIn 28 = .ok (.iload_n 2, 1) := by decide +kernel
theorem dX6_shutIn_29 : decode cX6_shutIn 29 = .ok (.iadd, 1) := by decide +kernel
theorem dX6_shutIn_30 : decode cX6_shutIn 30 = .ok (.iaload, 1) := by decide +kernel
theorem dX6_shutIn_31 : decode cX6_shutIn 31 = .ok (.goto 4, 3) := by decide +kernel
theorem dX6_shutIn_34 : decode cX6_shutIn 34 = .ok (.iconst 0, 1) := by decide +kernel
theorem dX6_shutIn_35 : decode cX6_shutIn 35 = .ok (.iadd, 1) := by decide +kernel
theorem dX6_shutIn_36 : decode cX6_shutIn 36 = .ok (.istore_n 1, 1) := by decide +kernel
theorem dX6_shutIn_37 : decode cX6_shutIn 37 = .ok (.iinc 2 1, 3) := by decide +kernel
theorem dX6_shutIn_40 : decode cX6_shutIn 40 = .ok (.goto (-36), 3) := by decide +kernel
theorem dX6_shutIn_43 : decode cX6_shutIn 43 = .ok (.iload_n 1, 1) := by decide +kernel
theorem dX6_shutIn_44 : decode cX6_shutIn 44 = .ok (.ireturn, 1) := by decide +kernel
set_option maxRecDepth 20000 in
theorem ggX6_emptied_X6_people : GoodIn wsX6_emptied wsX6_people := goodIn_r _ [5, 6, 27, 28, 29, 30, 31, 32, 33, 34, 35, 36, 37, 38, 39, 40, 41, 42] (by decide +kernel) (by decide +kernel)
set_option maxRecDepth 20000 in
theorem gX6_emptied_X6_people : GoodIn wsX6_emptied (wsV RX6 86 RX6 yX6_people wsX6_people) := goodIn_app (goodIn_of _ (by decide +kernel)) ggX6_emptied_X6_people
set_option maxRecDepth 20000 in
theorem ggX6_emptied_X6_shutIn : GoodIn wsX6_emptied wsX6_shutIn := goodIn_r _ [10, 11, 6, 27, 28, 29, 30, 31, 32, 33, 34, 35, 36, 37, 38, 39, 40, 41, 42] (by decide +kernel) (by decide +kernel)
set_option maxRecDepth 20000 in
theorem gX6_emptied_X6_shutIn : GoodIn wsX6_emptied (wsV RX6 90 RX6 yX6_shutIn wsX6_shutIn) := goodIn_app (goodIn_of _ (by decide +kernel)) ggX6_emptied_X6_shutIn
set_option maxRecDepth 20000 in
theorem ggX6_emptied_X6_minute : GoodIn wsX6_emptied wsX6_minute := goodIn_r _ [15, 6, 16, 17, 18, 19, 20, 4, 21, 22, 23, 24, 25, 26, 27, 28, 29, 30, 31, 32, 33, 34, 35, 36, 37, 38, 39, 40, 41, 42] (by decide +kernel) (by decide +kernel)
set_option maxRecDepth 20000 in
theorem gX6_emptied_X6_minute : GoodIn wsX6_emptied (wsV RX6 93 RX6 yX6_minute wsX6_minute) := goodIn_app (goodIn_of _ (by decide +kernel)) ggX6_emptied_X6_minute
theorem dX6_emptied_0 : decode cX6_emptied 0 = .ok (.iconst 0, 1) := by decide +kernel
theorem dX6_emptied_1 : decode cX6_emptied 1 = .ok (.istore_n 1, 1) := by decide +kernel
theorem dX6_emptied_2 : decode cX6_emptied 2 = .ok (.aload_n 0, 1) := by decide +kernel
theorem dX6_emptied_3 : decode cX6_emptied 3 = .ok (.invokevirtual 86, 3) := by decide +kernel
theorem dX6_emptied_6 : decode cX6_emptied 6 = .ok (.aload_n 0, 1) := by decide +kernel
theorem dX6_emptied_7 : decode cX6_emptied 7 = .ok (.invokevirtual 90, 3) := by decide +kernel
theorem dX6_emptied_10 : decode cX6_emptied 10 = .ok (.if_icmp .le 20, 3) := by decide +kernel
theorem dX6_emptied_13 : decode cX6_emptied 13 = .ok (.iload_n 1, 1) := by decide +kernel
theorem dX6_emptied_14 : decode cX6_emptied 14 = .ok (.sipush 400, 3) := by decide +kernel
theorem dX6_emptied_17 : decode cX6_emptied 17 = .ok (.if_icmp .ge 13, 3) := by decide +kernel
theorem dX6_emptied_20 : decode cX6_emptied 20 = .ok (.aload_n 0, 1) := by decide +kernel
theorem dX6_emptied_21 : decode cX6_emptied 21 = .ok (.invokevirtual 93, 3) := by decide +kernel
theorem dX6_emptied_24 : decode cX6_emptied 24 = .ok (.iinc 1 1, 3) := by decide +kernel
theorem dX6_emptied_27 : decode cX6_emptied 27 = .ok (.goto (-25), 3) := by decide +kernel
theorem dX6_emptied_30 : decode cX6_emptied 30 = .ok (.aload_n 0, 1) := by decide +kernel
theorem dX6_emptied_31 : decode cX6_emptied 31 = .ok (.invokevirtual 86, 3) := by decide +kernel
theorem dX6_emptied_34 : decode cX6_emptied 34 = .ok (.aload_n 0, 1) := by decide +kernel
theorem dX6_emptied_35 : decode cX6_emptied 35 = .ok (.invokevirtual 90, 3) := by decide +kernel
theorem dX6_emptied_38 : decode cX6_emptied 38 = .ok (.if_icmp .le 8, 3) := by decide +kernel
theorem dX6_emptied_41 : decode cX6_emptied 41 = .ok (.bipush (-6), 2) := by decide +kernel
theorem dX6_emptied_43 : decode cX6_emptied 43 = .ok (.goto 4, 3) := by decide +kernel
theorem dX6_emptied_46 : decode cX6_emptied 46 = .ok (.iload_n 1, 1) := by decide +kernel
theorem dX6_emptied_47 : decode cX6_emptied 47 = .ok (.ireturn, 1) := by decide +kernel
set_option maxRecDepth 20000 in
theorem ggX6_lays_X6_record : GoodIn wsX6_lays wsX6_record := goodIn_r _ [6, 7, 8, 1, 9, 10, 11, 12, 13, 14, 15, 16, 17, 18, 19, 20, 21, 22, 23, 24] (by decide +kernel) (by decide +kernel)
set_option maxRecDepth 20000 in
theorem gX6_lays_X6_record : GoodIn wsX6_lays (wsV RX6 96 RX6 yX6_record wsX6_record) := goodIn_app (goodIn_of _ (by decide +kernel)) ggX6_lays_X6_record
theorem dX6_lays_0 : decode cX6_lays 0 = .ok (.aload_n 0, 1) := by decide +kernel
theorem dX6_lays_1 : decode cX6_lays 1 = .ok (.invokevirtual 96, 3) := by decide +kernel
theorem dX6_lays_4 : decode cX6_lays 4 = .ok (.aload_n 0, 1) := by decide +kernel
theorem dX6_lays_5 : decode cX6_lays 5 = .ok (.getfield 7, 3) := by decide +kernel
theorem dX6_lays_8 : decode cX6_lays 8 = .ok (.iload_n 1, 1) := by decide +kernel
theorem dX6_lays_9 : decode cX6_lays 9 = .ok (.iaload, 1) := by decide +kernel
theorem dX6_lays_10 : decode cX6_lays 10 = .ok (.istore_n 3, 1) := by decide +kernel
theorem dX6_lays_11 : decode cX6_lays 11 = .ok (.aload_n 0, 1) := by decide +kernel
theorem dX6_lays_12 : decode cX6_lays 12 = .ok (.getfield 7, 3) := by decide +kernel
theorem dX6_lays_15 : decode cX6_lays 15 = .ok (.iload_n 1, 1) := by decide +kernel
theorem dX6_lays_16 : decode cX6_lays 16 = .ok (.iload_n 2, 1) := by decide +kernel
theorem dX6_lays_17 : decode cX6_lays 17 = .ok (.iastore, 1) := by decide +kernel
theorem dX6_lays_18 : decode cX6_lays 18 = .ok (.iload_n 3, 1) := by decide +kernel
theorem dX6_lays_19 : decode cX6_lays 19 = .ok (.ireturn, 1) := by decide +kernel
set_option maxRecDepth 20000 in
theorem ggX6_setRoom_X6_in : GoodIn wsX6_setRoom wsX6_in := goodIn_r _ [5] (by decide +kernel) (by decide +kernel)
set_option maxRecDepth 20000 in
theorem gX6_setRoom_X6_in : GoodIn wsX6_setRoom (va_wsS RX6 47 yX6_in wsX6_in) := goodIn_app (goodIn_of _ (by decide +kernel)) ggX6_setRoom_X6_in
set_option maxRecDepth 20000 in
theorem ggX6_setRoom_X6_lays : GoodIn wsX6_setRoom wsX6_lays := goodIn_r _ [9, 1, 10, 11, 12, 4, 13, 14, 15, 16, 17, 18, 19, 20, 21, 22, 23, 24, 25, 26, 27, 28, 29, 30, 31] (by decide +kernel) (by decide +kernel)
set_option maxRecDepth 20000 in
theorem gX6_setRoom_X6_lays : GoodIn wsX6_setRoom (wsV RX6 99 RX6 yX6_lays wsX6_lays) := goodIn_app (goodIn_of _ (by decide +kernel)) ggX6_setRoom_X6_lays
theorem dX6_setRoom_0 : decode cX6_setRoom 0 = .ok (.iload_n 1, 1) := by decide +kernel
theorem dX6_setRoom_1 : decode cX6_setRoom 1 = .ok (.iconst 1, 1) := by decide +kernel
theorem dX6_setRoom_2 : decode cX6_setRoom 2 = .ok (.bipush 20, 2) := by decide +kernel
theorem dX6_setRoom_4 : decode cX6_setRoom 4 = .ok (.invokestatic 47, 3) := by decide +kernel
theorem dX6_setRoom_7 : decode cX6_setRoom 7 = .ok (.ifCond .ne 6, 3) := by decide +kernel
theorem dX6_setRoom_10 : decode cX6_setRoom 10 = .ok (.bipush (-2), 2) := by decide +kernel
theorem dX6_setRoom_12 : decode cX6_setRoom 12 = .ok (.ireturn, 1) := by decide +kernel
theorem dX6_setRoom_13 : decode cX6_setRoom 13 = .ok (.iconst 0, 1) := by decide +kernel
theorem dX6_setRoom_14 : decode cX6_setRoom 14 = .ok (.istore_n 2, 1) := by decide +kernel
theorem dX6_setRoom_15 : decode cX6_setRoom 15 = .ok (.iload_n 2, 1) := by decide +kernel
theorem dX6_setRoom_16 : decode cX6_setRoom 16 = .ok (.bipush 35, 2) := by decide +kernel
theorem dX6_setRoom_18 : decode cX6_setRoom 18 = .ok (.if_icmp .ge 25, 3) := by decide +kernel
theorem dX6_setRoom_21 : decode cX6_setRoom 21 = .ok (.aload_n 0, 1) := by decide +kernel
theorem dX6_setRoom_22 : decode cX6_setRoom 22 = .ok (.getfield 7, 3) := by decide +kernel
theorem dX6_setRoom_25 : decode cX6_setRoom 25 = .ok (.bipush 21, 2) := by decide +kernel
theorem dX6_setRoom_27 : decode cX6_setRoom 27 = .ok (.iload_n 2, 1) := by decide +kernel
theorem dX6_setRoom_28 : decode cX6_setRoom 28 = .ok (.iadd, 1) := by decide +kernel
theorem dX6_setRoom_29 : decode cX6_setRoom 29 = .ok (.iaload, 1) := by decide +kernel
theorem dX6_setRoom_30 : decode cX6_setRoom 30 = .ok (.iload_n 1, 1) := by decide +kernel
theorem dX6_setRoom_31 : decode cX6_setRoom 31 = .ok (.if_icmp .le 6, 3) := by decide +kernel
theorem dX6_setRoom_34 : decode cX6_setRoom 34 = .ok (.bipush (-5), 2) := by decide +kernel
theorem dX6_setRoom_36 : decode cX6_setRoom 36 = .ok (.ireturn, 1) := by decide +kernel
theorem dX6_setRoom_37 : decode cX6_setRoom 37 = .ok (.iinc 2 1, 3) := by decide +kernel
theorem dX6_setRoom_40 : decode cX6_setRoom 40 = .ok (.goto (-25), 3) := by decide +kernel
theorem dX6_setRoom_43 : decode cX6_setRoom 43 = .ok (.aload_n 0, 1) := by decide +kernel
theorem dX6_setRoom_44 : decode cX6_setRoom 44 = .ok (.iconst 0, 1) := by decide +kernel
theorem dX6_setRoom_45 : decode cX6_setRoom 45 = .ok (.iload_n 1, 1) := by decide +kernel
theorem dX6_setRoom_46 : decode cX6_setRoom 46 = .ok (.invokevirtual 99, 3) := by decide +kernel
theorem dX6_setRoom_49 : decode cX6_setRoom 49 = .ok (.ireturn, 1) := by decide +kernel
theorem dX6_ropes_0 : decode cX6_ropes 0 = .ok (.iconst 0, 1) := by decide +kernel
theorem dX6_ropes_1 : decode cX6_ropes 1 = .ok (.istore_n 1, 1) := by decide +kernel
theorem dX6_ropes_2 : decode cX6_ropes 2 = .ok (.iconst 0, 1) := by decide +kernel
theorem dX6_ropes_3 : decode cX6_ropes 3 = .ok (.istore_n 2, 1) := by decide +kernel
theorem dX6_ropes_4 : decode cX6_ropes 4 = .ok (.iload_n 2, 1) := by decide +kernel
theorem dX6_ropes_5 : decode cX6_ropes 5 = .ok (.bipush 70, 2) := by decide +kernel
theorem dX6_ropes_7 : decode cX6_ropes 7 = .ok (.if_icmp .ge 21, 3) := by decide +kernel
theorem dX6_ropes_10 : decode cX6_ropes 10 = .ok (.iload_n 1, 1) := by decide +kernel
theorem dX6_ropes_11 : decode cX6_ropes 11 = .ok (.aload_n 0, 1) := by decide +kernel
theorem dX6_ropes_12 : decode cX6_ropes 12 = .ok (.getfield 7, 3) := by decide +kernel
theorem dX6_ropes_15 : decode cX6_ropes 15 = .ok (.bipush 91, 2) := by decide +kernel
theorem dX6_ropes_17 : decode cX6_ropes 17 = .ok (.iload_n 2, 1) := by decide +kernel
theorem dX6_ropes_18 : decode cX6_ropes 18 = .ok (.iadd, 1) := by decide +kernel
theorem dX6_ropes_19 : decode cX6_ropes 19 = .ok (.iaload, 1) := by decide +kernel
theorem dX6_ropes_20 : decode cX6_ropes 20 = .ok (.iadd, 1) := by decide +kernel
theorem dX6_ropes_21 : decode cX6_ropes 21 = .ok (.istore_n 1, 1) := by decide +kernel
theorem dX6_ropes_22 : decode cX6_ropes 22 = .ok (.iinc 2 1, 3) := by decide +kernel
theorem dX6_ropes_25 : decode cX6_ropes 25 = .ok (.goto (-21), 3) := by decide +kernel
theorem dX6_ropes_28 : decode cX6_ropes 28 = .ok (.iload_n 1, 1) := by decide +kernel
theorem dX6_ropes_29 : decode cX6_ropes 29 = .ok (.ireturn, 1) := by decide +kernel
set_option maxRecDepth 20000 in
theorem ggX6_isEdge_X6_beside : GoodIn wsX6_isEdge wsX6_beside := goodIn_r _ [4] (by decide +kernel) (by decide +kernel)
set_option maxRecDepth 20000 in
theorem gX6_isEdge_X6_beside : GoodIn wsX6_isEdge (va_wsS RX6 55 yX6_beside wsX6_beside) := goodIn_app (goodIn_of _ (by decide +kernel)) ggX6_isEdge_X6_beside
theorem dX6_isEdge_0 : decode cX6_isEdge 0 = .ok (.iload_n 0, 1) := by decide +kernel
theorem dX6_isEdge_1 : decode cX6_isEdge 1 = .ok (.iconst 2, 1) := by decide +kernel
theorem dX6_isEdge_2 : decode cX6_isEdge 2 = .ok (.iload_n 1, 1) := by decide +kernel
theorem dX6_isEdge_3 : decode cX6_isEdge 3 = .ok (.iadd, 1) := by decide +kernel
theorem dX6_isEdge_4 : decode cX6_isEdge 4 = .ok (.invokestatic 55, 3) := by decide +kernel
theorem dX6_isEdge_7 : decode cX6_isEdge 7 = .ok (.bipush (-6), 2) := by decide +kernel
theorem dX6_isEdge_9 : decode cX6_isEdge 9 = .ok (.if_icmp .eq 7, 3) := by decide +kernel
theorem dX6_isEdge_12 : decode cX6_isEdge 12 = .ok (.iconst 1, 1) := by decide +kernel
theorem dX6_isEdge_13 : decode cX6_isEdge 13 = .ok (.goto 4, 3) := by decide +kernel
theorem dX6_isEdge_16 : decode cX6_isEdge 16 = .ok (.iconst 0, 1) := by decide +kernel
theorem dX6_isEdge_17 : decode cX6_isEdge 17 = .ok (.ireturn, 1) := by decide +kernel
set_option maxRecDepth 20000 in
theorem ggX6_rope_X6_isCell : GoodIn wsX6_rope wsX6_isCell := goodIn_r _ [5, 6, 7, 4, 8] (by decide +kernel) (by decide +kernel)
set_option maxRecDepth 20000 in
theorem gX6_rope_X6_isCell : GoodIn wsX6_rope (va_wsS RX6 102 yX6_isCell wsX6_isCell) := goodIn_app (goodIn_of _ (by decide +kernel)) ggX6_rope_X6_isCell
set_option maxRecDepth 20000 in
theorem ggX6_rope_X6_in : GoodIn wsX6_rope wsX6_in := goodIn_r _ [8] (by decide +kernel) (by decide +kernel)
set_option maxRecDepth 20000 in
theorem gX6_rope_X6_in : GoodIn wsX6_rope (va_wsS RX6 47 yX6_in wsX6_in) := goodIn_app (goodIn_of _ (by decide +kernel)) ggX6_rope_X6_in
set_option maxRecDepth 20000 in
theorem ggX6_rope_X6_isEdge : GoodIn wsX6_rope wsX6_isEdge := goodIn_r _ [11, 12, 13, 4, 14] (by decide +kernel) (by decide +kernel)
set_option maxRecDepth 20000 in
theorem gX6_rope_X6_isEdge : GoodIn wsX6_rope (va_wsS RX6 106 yX6_isEdge wsX6_isEdge) := goodIn_app (goodIn_of _ (by decide +kernel)) ggX6_rope_X6_isEdge
set_option maxRecDepth 20000 in
theorem ggX6_rope_X6_ropeAt : GoodIn wsX6_rope wsX6_ropeAt := goodIn_r _ [17] (by decide +kernel) (by decide +kernel)
set_option maxRecDepth 20000 in
theorem gX6_rope_X6_ropeAt : GoodIn wsX6_rope (va_wsS RX6 59 yX6_ropeAt wsX6_ropeAt) := goodIn_app (goodIn_of _ (by decide +kernel)) ggX6_rope_X6_ropeAt
set_option maxRecDepth 20000 in
theorem ggX6_rope_X6_ropes : GoodIn wsX6_rope wsX6_ropes := goodIn_r _ [21, 1, 32, 33, 34, 35, 36, 37, 38, 39, 40, 41, 42, 43, 44, 45, 46, 47] (by decide +kernel) (by decide +kernel)
set_option maxRecDepth 20000 in
theorem gX6_rope_X6_ropes : GoodIn wsX6_rope (wsV RX6 109 RX6 yX6_ropes wsX6_ropes) := goodIn_app (goodIn_of _ (by decide +kernel)) ggX6_rope_X6_ropes
set_option maxRecDepth 20000 in
theorem ggX6_rope_X6_lays : GoodIn wsX6_rope wsX6_lays := goodIn_r _ [25, 1, 26, 27, 28, 4, 29, 30, 31, 32, 33, 34, 35, 36, 37, 38, 39, 40, 41, 42, 43, 44, 45, 46, 47] (by decide +kernel) (by decide +kernel)
set_option maxRecDepth 20000 in
theorem gX6_rope_X6_lays : GoodIn wsX6_rope (wsV RX6 99 RX6 yX6_lays wsX6_lays) := goodIn_app (goodIn_of _ (by decide +kernel)) ggX6_rope_X6_lays
theorem dX6_rope_0 : decode cX6_rope 0 = .ok (.iload_n 1, 1) := by decide +kernel
theorem dX6_rope_1 : decode cX6_rope 1 = .ok (.invokestatic 102, 3) := by decide +kernel
theorem dX6_rope_4 : decode cX6_rope 4 = .ok (.ifCond .ne 5, 3) := by decide +kernel
theorem dX6_rope_7 : decode cX6_rope 7 = .ok (.iconst (-1), 1) := by decide +kernel
theorem dX6_rope_8 : decode cX6_rope 8 = .ok (.ireturn, 1) := by decide +kernel
theorem dX6_rope_9 : decode cX6_rope 9 = .ok (.iload_n 2, 1) := by decide +kernel
theorem dX6_rope_10 : decode cX6_rope 10 = .ok (.iconst 0, 1) := by decide +kernel
theorem dX6_rope_11 : decode cX6_rope 11 = .ok (.iconst 1, 1) := by decide +kernel
theorem dX6_rope_12 : decode cX6_rope 12 = .ok (.invokestatic 47, 3) := by decide +kernel
theorem dX6_rope_15 : decode cX6_rope 15 = .ok (.ifCond .ne 6, 3) := by decide +kernel
theorem dX6_rope_18 : decode cX6_rope 18 = .ok (.bipush (-2), 2) := by decide +kernel
theorem dX6_rope_20 : decode cX6_rope 20 = .ok (.ireturn, 1) := by decide +kernel
theorem dX6_rope_21 : decode cX6_rope 21 = .ok (.iload_n 1, 1) := by decide +kernel
theorem dX6_rope_22 : decode cX6_rope 22 = .ok (.iload_n 2, 1) := by decide +kernel
theorem dX6_rope_23 : decode cX6_rope 23 = .ok (.invokestatic 106, 3) := by decide +kernel
theorem dX6_rope_26 : decode cX6_rope 26 = .ok (.ifCond .eq 27, 3) := by decide +kernel
theorem dX6_rope_29 : decode cX6_rope 29 = .ok (.aload_n 0, 1) := by decide +kernel
theorem dX6_rope_30 : decode cX6_rope 30 = .ok (.getfield 7, 3) := by decide +kernel
theorem dX6_rope_33 : decode cX6_rope 33 = .ok (.iload_n 1, 1) := by decide +kernel
theorem dX6_rope_34 : decode cX6_rope 34 = .ok (.iconst 2, 1) := by decide +kernel
theorem dX6_rope_35 : decode cX6_rope 35 = .ok (.iload_n 2, 1) := by decide +kernel
theorem dX6_rope_36 : decode cX6_rope 36 = .ok (.iadd, 1) := by decide +kernel
theorem dX6_rope_37 : decode cX6_rope 37 = .ok (.invokestatic 59, 3) := by decide +kernel
theorem dX6_rope_40 : decode cX6_rope 40 = .ok (.iaload, 1) := by decide +kernel
theorem dX6_rope_41 : decode cX6_rope 41 = .ok (.iload_n 3, 1) := by decide +kernel
theorem dX6_rope_42 : decode cX6_rope 42 = .ok (.ifCond .eq 7, 3) := by decide +kernel
theorem dX6_rope_45 : decode cX6_rope 45 = .ok (.iconst 1, 1) := by decide +kernel
theorem dX6_rope_46 : decode cX6_rope 46 = .ok (.goto 4, 3) := by decide +kernel
theorem dX6_rope_49 : decode cX6_rope 49 = .ok (.iconst 0, 1) := by decide +kernel
theorem dX6_rope_50 : decode cX6_rope 50 = .ok (.if_icmp .ne 6, 3) := by decide +kernel
theorem dX6_rope_53 : decode cX6_rope 53 = .ok (.bipush (-5), 2) := by decide +kernel
theorem dX6_rope_55 : decode cX6_rope 55 = .ok (.ireturn, 1) := by decide +kernel
theorem dX6_rope_56 : decode cX6_rope 56 = .ok (.iload_n 3, 1) := by decide +kernel
theorem dX6_rope_57 : decode cX6_rope 57 = .ok (.ifCond .eq 15, 3) := by decide +kernel
theorem dX6_rope_60 : decode cX6_rope 60 = .ok (.aload_n 0, 1) := by decide +kernel
theorem dX6_rope_61 : decode cX6_rope 61 = .ok (.invokevirtual 109, 3) := by decide +kernel
theorem dX6_rope_64 : decode cX6_rope 64 = .ok (.bipush 24, 2) := by decide +kernel
theorem dX6_rope_66 : decode cX6_rope 66 = .ok (.if_icmp .ne 6, 3) := by decide +kernel
theorem dX6_rope_69 : decode cX6_rope 69 = .ok (.bipush (-4), 2) := by decide +kernel
theorem dX6_rope_71 : decode cX6_rope 71 = .ok (.ireturn, 1) := by decide +kernel
theorem dX6_rope_72 : decode cX6_rope 72 = .ok (.aload_n 0, 1) := by decide +kernel
theorem dX6_rope_73 : decode cX6_rope 73 = .ok (.iload_n 1, 1) := by decide +kernel
theorem dX6_rope_74 : decode cX6_rope 74 = .ok (.iconst 2, 1) := by decide +kernel
theorem dX6_rope_75 : decode cX6_rope 75 = .ok (.iload_n 2, 1) := by decide +kernel
theorem dX6_rope_76 : decode cX6_rope 76 = .ok (.iadd, 1) := by decide +kernel
theorem dX6_rope_77 : decode cX6_rope 77 = .ok (.invokestatic 59, 3) := by decide +kernel
theorem dX6_rope_80 : decode cX6_rope 80 = .ok (.iload_n 3, 1) := by decide +kernel
theorem dX6_rope_81 : decode cX6_rope 81 = .ok (.ifCond .eq 7, 3) := by decide +kernel
theorem dX6_rope_84 : decode cX6_rope 84 = .ok (.iconst 1, 1) := by decide +kernel
theorem dX6_rope_85 : decode cX6_rope 85 = .ok (.goto 4, 3) := by decide +kernel
theorem dX6_rope_88 : decode cX6_rope 88 = .ok (.iconst 0, 1) := by decide +kernel
theorem dX6_rope_89 : decode cX6_rope 89 = .ok (.invokevirtual 99, 3) := by decide +kernel
theorem dX6_rope_92 : decode cX6_rope 92 = .ok (.istore 4, 2) := by decide +kernel
theorem dX6_rope_94 : decode cX6_rope 94 = .ok (.aload_n 0, 1) := by decide +kernel
theorem dX6_rope_95 : decode cX6_rope 95 = .ok (.invokevirtual 109, 3) := by decide +kernel
theorem dX6_rope_98 : decode cX6_rope 98 = .ok (.ireturn, 1) := by decide +kernel
set_option maxRecDepth 20000 in
theorem ggX6_door_X6_isDoor : GoodIn wsX6_door wsX6_isDoor := goodIn_r _ [5, 6, 7, 4, 8] (by decide +kernel) (by decide +kernel)
set_option maxRecDepth 20000 in
theorem gX6_door_X6_isDoor : GoodIn wsX6_door (va_wsS RX6 112 yX6_isDoor wsX6_isDoor) := goodIn_app (goodIn_of _ (by decide +kernel)) ggX6_door_X6_isDoor
set_option maxRecDepth 20000 in
theorem ggX6_door_X6_isCell : GoodIn wsX6_door wsX6_isCell := goodIn_r _ [11, 6, 7, 4, 8] (by decide +kernel) (by decide +kernel)
set_option maxRecDepth 20000 in
theorem gX6_door_X6_isCell : GoodIn wsX6_door (va_wsS RX6 102 yX6_isCell wsX6_isCell) := goodIn_app (goodIn_of _ (by decide +kernel)) ggX6_door_X6_isCell
set_option maxRecDepth 20000 in
theorem ggX6_door_X6_in : GoodIn wsX6_door wsX6_in := goodIn_r _ [8] (by decide +kernel) (by decide +kernel)
set_option maxRecDepth 20000 in
theorem gX6_door_X6_in : GoodIn wsX6_door (va_wsS RX6 47 yX6_in wsX6_in) := goodIn_app (goodIn_of _ (by decide +kernel)) ggX6_door_X6_in
set_option maxRecDepth 20000 in
theorem ggX6_door_X6_lays : GoodIn wsX6_door wsX6_lays := goodIn_r _ [15, 1, 16, 17, 18, 4, 19, 20, 21, 22, 23, 24, 25, 26, 27, 28, 29, 30, 31, 32, 33, 34, 35, 36, 37] (by decide +kernel) (by decide +kernel)
set_option maxRecDepth 20000 in
theorem gX6_door_X6_lays : GoodIn wsX6_door (wsV RX6 99 RX6 yX6_lays wsX6_lays) := goodIn_app (goodIn_of _ (by decide +kernel)) ggX6_door_X6_lays
theorem dX6_door_0 : decode cX6_door 0 = .ok (.iload_n 1, 1) := by decide +kernel
theorem dX6_door_1 : decode cX6_door 1 = .ok (.invokestatic 112, 3) := by decide +kernel
theorem dX6_door_4 : decode cX6_door 4 = .ok (.ifCond .eq 10, 3) := by decide +kernel
theorem dX6_door_7 : decode cX6_door 7 = .ok (.iload_n 2, 1) := by decide +kernel
theorem dX6_door_8 : decode cX6_door 8 = .ok (.invokestatic 102, 3) := by decide +kernel
theorem dX6_door_11 : decode cX6_door 11 = .ok (.ifCond .ne 5, 3) := by decide +kernel
theorem dX6_door_14 : decode cX6_door 14 = .ok (.iconst (-1), 1) := by decide +kernel
theorem dX6_door_15 : decode cX6_door 15 = .ok (.ireturn, 1) := by decide +kernel
theorem dX6_door_16 : decode cX6_door 16 = .ok (.iload_n 3, 1) := by decide +kernel
theorem dX6_door_17 : decode cX6_door 17 = .ok (.iconst 1, 1) := by decide +kernel
theorem dX6_door_18 : decode cX6_door 18 = .ok (.bipush 9, 2) := by decide +kernel
theorem dX6_door_20 : decode cX6_door 20 = .ok (.invokestatic 47, 3) := by decide +kernel
theorem dX6_door_23 : decode cX6_door 23 = .ok (.ifCond .ne 6, 3) := by decide +kernel
theorem dX6_door_26 : decode cX6_door 26 = .ok (.bipush (-2), 2) := by decide +kernel
theorem dX6_door_28 : decode cX6_door 28 = .ok (.ireturn, 1) := by decide +kernel
theorem dX6_door_29 : decode cX6_door 29 = .ok (.aload_n 0, 1) := by decide +kernel
theorem dX6_door_30 : decode cX6_door 30 = .ok (.iconst 5, 1) := by decide +kernel
theorem dX6_door_31 : decode cX6_door 31 = .ok (.iload_n 1, 1) := by decide +kernel
theorem dX6_door_32 : decode cX6_door 32 = .ok (.iadd, 1) := by decide +kernel
theorem dX6_door_33 : decode cX6_door 33 = .ok (.iload_n 2, 1) := by decide +kernel
theorem dX6_door_34 : decode cX6_door 34 = .ok (.invokevirtual 99, 3) := by decide +kernel
theorem dX6_door_37 : decode cX6_door 37 = .ok (.istore 4, 2) := by decide +kernel
theorem dX6_door_39 : decode cX6_door 39 = .ok (.aload_n 0, 1) := by decide +kernel
theorem dX6_door_40 : decode cX6_door 40 = .ok (.getfield 7, 3) := by decide +kernel
theorem dX6_door_43 : decode cX6_door 43 = .ok (.bipush 9, 2) := by decide +kernel
theorem dX6_door_45 : decode cX6_door 45 = .ok (.iload_n 1, 1) := by decide +kernel
theorem dX6_door_46 : decode cX6_door 46 = .ok (.iadd, 1) := by decide +kernel
theorem dX6_door_47 : decode cX6_door 47 = .ok (.iload_n 3, 1) := by decide +kernel
theorem dX6_door_48 : decode cX6_door 48 = .ok (.iastore, 1) := by decide +kernel
theorem dX6_door_49 : decode cX6_door 49 = .ok (.iload 4, 2) := by decide +kernel
theorem dX6_door_51 : decode cX6_door 51 = .ok (.ireturn, 1) := by decide +kernel
theorem dX6_openSet_0 : decode cX6_openSet 0 = .ok (.aload_n 0, 1) := by decide +kernel
theorem dX6_openSet_1 : decode cX6_openSet 1 = .ok (.getfield 7, 3) := by decide +kernel
theorem dX6_openSet_4 : decode cX6_openSet 4 = .ok (.bipush 13, 2) := by decide +kernel
theorem dX6_openSet_6 : decode cX6_openSet 6 = .ok (.iaload, 1) := by decide +kernel
theorem dX6_openSet_7 : decode cX6_openSet 7 = .ok (.iconst 2, 1) := by decide +kernel
theorem dX6_openSet_8 : decode cX6_openSet 8 = .ok (.aload_n 0, 1) := by decide +kernel
theorem dX6_openSet_9 : decode cX6_openSet 9 = .ok (.getfield 7, 3) := by decide +kernel
theorem dX6_openSet_12 : decode cX6_openSet 12 = .ok (.bipush 14, 2) := by decide +kernel
theorem dX6_openSet_14 : decode cX6_openSet 14 = .ok (.iaload, 1) := by decide +kernel
theorem dX6_openSet_15 : decode cX6_openSet 15 = .ok (.imul, 1) := by decide +kernel
theorem dX6_openSet_16 : decode cX6_openSet 16 = .ok (.iadd, 1) := by decide +kernel
theorem dX6_openSet_17 : decode cX6_openSet 17 = .ok (.iconst 4, 1) := by decide +kernel
theorem dX6_openSet_18 : decode cX6_openSet 18 = .ok (.aload_n 0, 1) := by decide +kernel
theorem dX6_openSet_19 : decode cX6_openSet 19 = .ok (.getfield 7, 3) := by decide +kernel
theorem dX6_openSet_22 : decode cX6_openSet 22 = .ok (.bipush 15, 2) := by decide +kernel
theorem dX6_openSet_24 : decode cX6_openSet 24 = .ok (.iaload, 1) := by decide +kernel
theorem dX6_openSet_25 : decode cX6_openSet 25 = .ok (.imul, 1) := by decide +kernel
theorem dX6_openSet_26 : decode cX6_openSet 26 = .ok (.iadd, 1) := by decide +kernel
theorem dX6_openSet_27 : decode cX6_openSet 27 = .ok (.bipush 8, 2) := by decide +kernel
theorem dX6_openSet_29 : decode cX6_openSet 29 = .ok (.aload_n 0, 1) := by decide +kernel
theorem dX6_openSet_30 : decode cX6_openSet 30 = .ok (.getfield 7, 3) := by decide +kernel
theorem dX6_openSet_33 : decode cX6_openSet 33 = .ok (.bipush 16, 2) := by decide +kernel
theorem dX6_openSet_35 : decode cX6_openSet 35 = .ok (.iaload, 1) := by decide +kernel
theorem dX6_openSet_36 : decode cX6_openSet 36 = .ok (.imul, 1) := by decide +kernel
theorem dX6_openSet_37 : decode cX6_openSet 37 = .ok (.iadd, 1) := by decide +kernel
theorem dX6_openSet_38 : decode cX6_openSet 38 = .ok (.ireturn, 1) := by decide +kernel
theorem dX6_openDoors_0 : decode cX6_openDoors 0 = .ok (.aload_n 0, 1) := by decide +kernel
theorem dX6_openDoors_1 : decode cX6_openDoors 1 = .ok (.getfield 7, 3) := by decide +kernel
theorem dX6_openDoors_4 : decode cX6_openDoors 4 = .ok (.bipush 13, 2) := by decide +kernel
theorem dX6_openDoors_6 : decode cX6_openDoors 6 = .ok (.iaload, 1) := by decide +kernel
theorem dX6_openDoors_7 : decode cX6_openDoors 7 = .ok (.aload_n 0, 1) := by decide +kernel
theorem dX6_openDoors_8 : decode cX6_openDoors 8 = .ok (.getfield 7, 3) := by decide +kernel
theorem dX6_openDoors_11 : decode cX6_openDoors 11 = .ok (.bipush 14, 2) := by decide +kernel
theorem dX6_openDoors_13 : decode cX6_openDoors 13 = .ok (.iaload, 1) := by decide +kernel
theorem dX6_openDoors_14 : decode cX6_openDoors 14 = .ok (.iadd, 1) := by decide +kernel
theorem dX6_openDoors_15 : decode cX6_openDoors 15 = .ok (.aload_n 0, 1) := by decide +kernel
theorem dX6_openDoors_16 : decode cX6_openDoors 16 = .ok (.getfield 7, 3) := by decide +kernel
theorem dX6_openDoors_19 : decode cX6_openDoors 19 = .ok (.bipush 15, 2) := by decide +kernel
theorem dX6_openDoors_21 : decode cX6_openDoors 21 = .ok (.iaload, 1) := by decide +kernel
theorem dX6_openDoors_22 : decode cX6_openDoors 22 = .ok (.iadd, 1) := by decide +kernel
theorem dX6_openDoors_23 : decode cX6_openDoors 23 = .ok (.aload_n 0, 1) := by decide +kernel
theorem dX6_openDoors_24 : decode cX6_openDoors 24 = .ok (.getfield 7, 3) := by decide +kernel
theorem dX6_openDoors_27 : decode cX6_openDoors 27 = .ok (.bipush 16, 2) := by decide +kernel
theorem dX6_openDoors_29 : decode cX6_openDoors 29 = .ok (.iaload, 1) := by decide +kernel
theorem dX6_openDoors_30 : decode cX6_openDoors 30 = .ok (.iadd, 1) := by decide +kernel
theorem dX6_openDoors_31 : decode cX6_openDoors 31 = .ok (.ireturn, 1) := by decide +kernel
set_option maxRecDepth 20000 in
theorem ggX6_open_X6_isDoor : GoodIn wsX6_open wsX6_isDoor := goodIn_r _ [5, 6, 7, 4, 8] (by decide +kernel) (by decide +kernel)
set_option maxRecDepth 20000 in
theorem gX6_open_X6_isDoor : GoodIn wsX6_open (va_wsS RX6 112 yX6_isDoor wsX6_isDoor) := goodIn_app (goodIn_of _ (by decide +kernel)) ggX6_open_X6_isDoor
set_option maxRecDepth 20000 in
theorem ggX6_open_X6_lays : GoodIn wsX6_open wsX6_lays := goodIn_r _ [12, 1, 13, 14, 15, 4, 16, 17, 18, 23, 24, 25, 26, 27, 28, 29, 30, 31, 32, 33, 34, 35, 36, 37, 38] (by decide +kernel) (by decide +kernel)
set_option maxRecDepth 20000 in
theorem gX6_open_X6_lays : GoodIn wsX6_open (wsV RX6 99 RX6 yX6_lays wsX6_lays) := goodIn_app (goodIn_of _ (by decide +kernel)) ggX6_open_X6_lays
set_option maxRecDepth 20000 in
theorem ggX6_open_X6_openDoors : GoodIn wsX6_open wsX6_openDoors := goodIn_r _ [22, 1, 23, 24, 25, 26, 27, 28, 29, 30, 31, 32, 33, 34, 35, 36, 37, 38] (by decide +kernel) (by decide +kernel)
set_option maxRecDepth 20000 in
theorem gX6_open_X6_openDoors : GoodIn wsX6_open (wsV RX6 115 RX6 yX6_openDoors wsX6_openDoors) := goodIn_app (goodIn_of _ (by decide +kernel)) ggX6_open_X6_openDoors
theorem dX6_open_0 : decode cX6_open 0 = .ok (.iload_n 1, 1) := by decide +kernel
theorem dX6_open_1 : decode cX6_open 1 = .ok (.invokestatic 112, 3) := by decide +kernel
theorem dX6_open_4 : decode cX6_open 4 = .ok (.ifCond .ne 5, 3) := by decide +kernel
theorem dX6_open_7 : decode cX6_open 7 = .ok (.iconst (-1), 1) := by decide +kernel
theorem dX6_open_8 : decode cX6_open 8 = .ok (.ireturn, 1) := by decide +kernel
theorem dX6_open_9 : decode cX6_open 9 = .ok (.aload_n 0, 1) := by decide +kernel
theorem dX6_open_10 : decode cX6_open 10 = .ok (.getfield 7, 3) := by decide +kernel
theorem dX6_open_13 : decode cX6_open 13 = .ok (.bipush 13, 2) := by decide +kernel
theorem dX6_open_15 : decode cX6_open 15 = .ok (.iload_n 1, 1) := by decide +kernel
theorem dX6_open_16 : decode cX6_open 16 = .ok (.iadd, 1) := by decide +kernel
theorem dX6_open_17 : decode cX6_open 17 = .ok (.iaload, 1) := by decide +kernel
theorem dX6_open_18 : decode cX6_open 18 = .ok (.iload_n 2, 1) := by decide +kernel
theorem dX6_open_19 : decode cX6_open 19 = .ok (.ifCond .eq 7, 3) := by decide +kernel
theorem dX6_open_22 : decode cX6_open 22 = .ok (.iconst 1, 1) := by decide +kernel
theorem dX6_open_23 : decode cX6_open 23 = .ok (.goto 4, 3) := by decide +kernel
theorem dX6_open_26 : decode cX6_open 26 = .ok (.iconst 0, 1) := by decide +kernel
theorem dX6_open_27 : decode cX6_open 27 = .ok (.if_icmp .ne 6, 3) := by decide +kernel
theorem dX6_open_30 : decode cX6_open 30 = .ok (.bipush (-5), 2) := by decide +kernel
theorem dX6_open_32 : decode cX6_open 32 = .ok (.ireturn, 1) := by decide +kernel
theorem dX6_open_33 : decode cX6_open 33 = .ok (.aload_n 0, 1) := by decide +kernel
theorem dX6_open_34 : decode cX6_open 34 = .ok (.bipush 13, 2) := by decide +kernel
theorem dX6_open_36 : decode cX6_open 36 = .ok (.iload_n 1, 1) := by decide +kernel
theorem dX6_open_37 : decode cX6_open 37 = .ok (.iadd, 1) := by decide +kernel
theorem dX6_open_38 : decode cX6_open 38 = .ok (.iload_n 2, 1) := by decide +kernel
theorem dX6_open_39 : decode cX6_open 39 = .ok (.ifCond .eq 7, 3) := by decide +kernel
theorem dX6_open_42 : decode cX6_open 42 = .ok (.iconst 1, 1) := by decide +kernel
theorem dX6_open_43 : decode cX6_open 43 = .ok (.goto 4, 3) := by decide +kernel
theorem dX6_open_46 : decode cX6_open 46 = .ok (.iconst 0, 1) := by decide +kernel
theorem dX6_open_47 : decode cX6_open 47 = .ok (.invokevirtual 99, 3) := by decide +kernel
theorem dX6_open_50 : decode cX6_open 50 = .ok (.istore_n 3, 1) := by decide +kernel
theorem dX6_open_51 : decode cX6_open 51 = .ok (.aload_n 0, 1) := by decide +kernel
theorem dX6_open_52 : decode cX6_open 52 = .ok (.invokevirtual 115, 3) := by decide +kernel
theorem dX6_open_55 : decode cX6_open 55 = .ok (.ireturn, 1) := by decide +kernel
set_option maxRecDepth 20000 in
theorem ggX6_guard_X6_isCell : GoodIn wsX6_guard wsX6_isCell := goodIn_r _ [5, 6, 7, 4, 8] (by decide +kernel) (by decide +kernel)
set_option maxRecDepth 20000 in
theorem gX6_guard_X6_isCell : GoodIn wsX6_guard (va_wsS RX6 102 yX6_isCell wsX6_isCell) := goodIn_app (goodIn_of _ (by decide +kernel)) ggX6_guard_X6_isCell
set_option maxRecDepth 20000 in
theorem ggX6_guard_X6_in : GoodIn wsX6_guard wsX6_in := goodIn_r _ [8] (by decide +kernel) (by decide +kernel)
set_option maxRecDepth 20000 in
theorem gX6_guard_X6_in : GoodIn wsX6_guard (va_wsS RX6 47 yX6_in wsX6_in) := goodIn_app (goodIn_of _ (by decide +kernel)) ggX6_guard_X6_in
set_option maxRecDepth 20000 in
theorem ggX6_guard_X6_lays : GoodIn wsX6_guard wsX6_lays := goodIn_r _ [12, 13, 14, 15, 16, 4, 17, 18, 19, 53, 54, 55, 56, 57, 58, 59, 60, 61, 62, 63, 64, 65, 66, 67, 68] (by decide +kernel) (by decide +kernel)
set_option maxRecDepth 20000 in
theorem gX6_guard_X6_lays : GoodIn wsX6_guard (wsV RX6 99 RX6 yX6_lays wsX6_lays) := goodIn_app (goodIn_of _ (by decide +kernel)) ggX6_guard_X6_lays
set_option maxRecDepth 20000 in
theorem ggX6_guard_X6_layWays : GoodIn wsX6_guard wsX6_layWays := goodIn_r _ [23, 1, 24, 25, 26, 27, 28, 29, 4, 30, 13, 31, 32, 33, 34, 35, 36, 37, 38, 39, 40, 41, 42, 43, 44, 45, 46, 47, 48, 49, 50, 51, 52, 53, 54, 55, 56, 57, 58, 59, 60, 61, 62, 63, 64, 65, 66, 67, 68] (by decide +kernel) (by decide +kernel)
set_option maxRecDepth 20000 in
theorem gX6_guard_X6_layWays : GoodIn wsX6_guard (wsV RX6 118 RX6 yX6_layWays wsX6_layWays) := goodIn_app (goodIn_of _ (by decide +kernel)) ggX6_guard_X6_layWays
theorem dX6_guard_0 : decode cX6_guard 0 = .ok (.iload_n 1, 1) := by decide +kernel
theorem dX6_guard_1 : decode cX6_guard 1 = .ok (.invokestatic 102, 3) := by decide +kernel
theorem dX6_guard_4 : decode cX6_guard 4 = .ok (.ifCond .ne 5, 3) := by decide +kernel
theorem dX6_guard_7 : decode cX6_guard 7 = .ok (.iconst (-1), 1) := by decide +kernel
theorem dX6_guard_8 : decode cX6_guard 8 = .ok (.ireturn, 1) := by decide +kernel
theorem dX6_guard_9 : decode cX6_guard 9 = .ok (.iload_n 2, 1) := by decide +kernel
theorem dX6_guard_10 : decode cX6_guard 10 = .ok (.iconst (-1), 1) := by decide +kernel
theorem dX6_guard_11 : decode cX6_guard 11 = .ok (.iconst 3, 1) := by decide +kernel
theorem dX6_guard_12 : decode cX6_guard 12 = .ok (.invokestatic 47, 3) := by decide +kernel
theorem dX6_guard_15 : decode cX6_guard 15 = .ok (.ifCond .ne 6, 3) := by decide +kernel
theorem dX6_guard_18 : decode cX6_guard 18 = .ok (.bipush (-2), 2) := by decide +kernel
theorem dX6_guard_20 : decode cX6_guard 20 = .ok (.ireturn, 1) := by decide +kernel
theorem dX6_guard_21 : decode cX6_guard 21 = .ok (.aload_n 0, 1) := by decide +kernel
theorem dX6_guard_22 : decode cX6_guard 22 = .ok (.bipush 56, 2) := by decide +kernel
theorem dX6_guard_24 : decode cX6_guard 24 = .ok (.iload_n 1, 1) := by decide +kernel
theorem dX6_guard_25 : decode cX6_guard 25 = .ok (.iadd, 1) := by decide +kernel
theorem dX6_guard_26 : decode cX6_guard 26 = .ok (.iload_n 2, 1) := by decide +kernel
theorem dX6_guard_27 : decode cX6_guard 27 = .ok (.invokevirtual 99, 3) := by decide +kernel
theorem dX6_guard_30 : decode cX6_guard 30 = .ok (.istore_n 3, 1) := by decide +kernel
theorem dX6_guard_31 : decode cX6_guard 31 = .ok (.aload_n 0, 1) := by decide +kernel
theorem dX6_guard_32 : decode cX6_guard 32 = .ok (.invokevirtual 118, 3) := by decide +kernel
theorem dX6_guard_35 : decode cX6_guard 35 = .ok (.aload_n 0, 1) := by decide +kernel
theorem dX6_guard_36 : decode cX6_guard 36 = .ok (.getfield 32, 3) := by decide +kernel
theorem dX6_guard_39 : decode cX6_guard 39 = .ok (.iload_n 1, 1) := by decide +kernel
theorem dX6_guard_40 : decode cX6_guard 40 = .ok (.iaload, 1) := by decide +kernel
theorem dX6_guard_41 : decode cX6_guard 41 = .ok (.ireturn, 1) := by decide +kernel
set_option maxRecDepth 20000 in
theorem ggX6_enter_X6_isCell : GoodIn wsX6_enter wsX6_isCell := goodIn_r _ [5, 6, 7, 4, 8] (by decide +kernel) (by decide +kernel)
set_option maxRecDepth 20000 in
theorem gX6_enter_X6_isCell : GoodIn wsX6_enter (va_wsS RX6 102 yX6_isCell wsX6_isCell) := goodIn_app (goodIn_of _ (by decide +kernel)) ggX6_enter_X6_isCell
set_option maxRecDepth 20000 in
theorem ggX6_enter_X6_in : GoodIn wsX6_enter wsX6_in := goodIn_r _ [8] (by decide +kernel) (by decide +kernel)
set_option maxRecDepth 20000 in
theorem gX6_enter_X6_in : GoodIn wsX6_enter (va_wsS RX6 47 yX6_in wsX6_in) := goodIn_app (goodIn_of _ (by decide +kernel)) ggX6_enter_X6_in
set_option maxRecDepth 20000 in
theorem ggX6_enter_X6_record : GoodIn wsX6_enter wsX6_record := goodIn_r _ [12, 13, 14, 1, 15, 16, 17, 18, 19, 20, 21, 22, 23, 24, 25, 26, 27, 28, 29, 30] (by decide +kernel) (by decide +kernel)
set_option maxRecDepth 20000 in
theorem gX6_enter_X6_record : GoodIn wsX6_enter (wsV RX6 96 RX6 yX6_record wsX6_record) := goodIn_app (goodIn_of _ (by decide +kernel)) ggX6_enter_X6_record
theorem dX6_enter_0 : decode cX6_enter 0 = .ok (.iload_n 1, 1) := by decide +kernel
theorem dX6_enter_1 : decode cX6_enter 1 = .ok (.invokestatic 102, 3) := by decide +kernel
theorem dX6_enter_4 : decode cX6_enter 4 = .ok (.ifCond .ne 5, 3) := by decide +kernel
theorem dX6_enter_7 : decode cX6_enter 7 = .ok (.iconst (-1), 1) := by decide +kernel
theorem dX6_enter_8 : decode cX6_enter 8 = .ok (.ireturn, 1) := by decide +kernel
theorem dX6_enter_9 : decode cX6_enter 9 = .ok (.iload_n 2, 1) := by decide +kernel
theorem dX6_enter_10 : decode cX6_enter 10 = .ok (.iconst 1, 1) := by decide +kernel
theorem dX6_enter_11 : decode cX6_enter 11 = .ok (.bipush 20, 2) := by decide +kernel
theorem dX6_enter_13 : decode cX6_enter 13 = .ok (.invokestatic 47, 3) := by decide +kernel
theorem dX6_enter_16 : decode cX6_enter 16 = .ok (.ifCond .ne 6, 3) := by decide +kernel
theorem dX6_enter_19 : decode cX6_enter 19 = .ok (.bipush (-2), 2) := by decide +kernel
theorem dX6_enter_21 : decode cX6_enter 21 = .ok (.ireturn, 1) := by decide +kernel
theorem dX6_enter_22 : decode cX6_enter 22 = .ok (.aload_n 0, 1) := by decide +kernel
theorem dX6_enter_23 : decode cX6_enter 23 = .ok (.getfield 7, 3) := by decide +kernel
theorem dX6_enter_26 : decode cX6_enter 26 = .ok (.bipush 21, 2) := by decide +kernel
theorem dX6_enter_28 : decode cX6_enter 28 = .ok (.iload_n 1, 1) := by decide +kernel
theorem dX6_enter_29 : decode cX6_enter 29 = .ok (.iadd, 1) := by decide +kernel
theorem dX6_enter_30 : decode cX6_enter 30 = .ok (.iaload, 1) := by decide +kernel
theorem dX6_enter_31 : decode cX6_enter 31 = .ok (.iload_n 2, 1) := by decide +kernel
theorem dX6_enter_32 : decode cX6_enter 32 = .ok (.iadd, 1) := by decide +kernel
theorem dX6_enter_33 : decode cX6_enter 33 = .ok (.aload_n 0, 1) := by decide +kernel
theorem dX6_enter_34 : decode cX6_enter 34 = .ok (.getfield 7, 3) := by decide +kernel
theorem dX6_enter_37 : decode cX6_enter 37 = .ok (.iconst 0, 1) := by decide +kernel
theorem dX6_enter_38 : decode cX6_enter 38 = .ok (.iaload, 1) := by decide +kernel
theorem dX6_enter_39 : decode cX6_enter 39 = .ok (.if_icmp .le 6, 3) := by decide +kernel
theorem dX6_enter_42 : decode cX6_enter 42 = .ok (.bipush (-4), 2) := by decide +kernel
theorem dX6_enter_44 : decode cX6_enter 44 = .ok (.ireturn, 1) := by decide +kernel
theorem dX6_enter_45 : decode cX6_enter 45 = .ok (.aload_n 0, 1) := by decide +kernel
theorem dX6_enter_46 : decode cX6_enter 46 = .ok (.invokevirtual 96, 3) := by decide +kernel
theorem dX6_enter_49 : decode cX6_enter 49 = .ok (.aload_n 0, 1) := by decide +kernel
theorem dX6_enter_50 : decode cX6_enter 50 = .ok (.getfield 7, 3) := by decide +kernel
theorem dX6_enter_53 : decode cX6_enter 53 = .ok (.bipush 21, 2) := by decide +kernel
theorem dX6_enter_55 : decode cX6_enter 55 = .ok (.iload_n 1, 1) := by decide +kernel
end
section
theorem dX6_enter_56 : decode cX6_enter 56 = .ok (.iadd, 1) := by decide +kernel
theorem dX6_enter_57 : decode cX6_enter 57 = .ok (.dup2, 1) := by decide +kernel
theorem dX6_enter_58 : decode cX6_enter 58 = .ok (.iaload, 1) := by decide +kernel
theorem dX6_enter_59 : decode cX6_enter 59 = .ok (.iload_n 2, 1) := by decide +kernel
theorem dX6_enter_60 : decode cX6_enter 60 = .ok (.iadd, 1) := by decide +kernel
theorem dX6_enter_61 : decode cX6_enter 61 = .ok (.iastore, 1) := by decide +kernel
theorem dX6_enter_62 : decode cX6_enter 62 = .ok (.aload_n 0, 1) := by decide +kernel
theorem dX6_enter_63 : decode cX6_enter 63 = .ok (.getfield 7, 3) := by decide +kernel
theorem dX6_enter_66 : decode cX6_enter 66 = .ok (.iconst 2, 1) := by decide +kernel
theorem dX6_enter_67 : decode cX6_enter 67 = .ok (.dup2, 1) := by decide +kernel
theorem dX6_enter_68 : decode cX6_enter 68 = .ok (.iaload, 1) := by decide +kernel
theorem dX6_enter_69 : decode cX6_enter 69 = .ok (.iload_n 2, 1) := by decide +kernel
theorem dX6_enter_70 : decode cX6_enter 70 = .ok (.iadd, 1) := by decide +kernel
theorem dX6_enter_71 : decode cX6_enter 71 = .ok (.iastore, 1) := by decide +kernel
theorem dX6_enter_72 : decode cX6_enter 72 = .ok (.aload_n 0, 1) := by decide +kernel
theorem dX6_enter_73 : decode cX6_enter 73 = .ok (.getfield 7, 3) := by decide +kernel
theorem dX6_enter_76 : decode cX6_enter 76 = .ok (.bipush 21, 2) := by decide +kernel
theorem dX6_enter_78 : decode cX6_enter 78 = .ok (.iload_n 1, 1) := by decide +kernel
theorem dX6_enter_79 : decode cX6_enter 79 = .ok (.iadd, 1) := by decide +kernel
theorem dX6_enter_80 : decode cX6_enter 80 = .ok (.iaload, 1) := by decide +kernel
theorem dX6_enter_81 : decode cX6_enter 81 = .ok (.ireturn, 1) := by decide +kernel
set_option maxRecDepth 20000 in
theorem ggX6_pass_X6_in : GoodIn wsX6_pass wsX6_in := goodIn_r _ [5] (by decide +kernel) (by decide +kernel)
set_option maxRecDepth 20000 in
theorem gX6_pass_X6_in : GoodIn wsX6_pass (va_wsS RX6 47 yX6_in wsX6_in) := goodIn_app (goodIn_of _ (by decide +kernel)) ggX6_pass_X6_in
set_option maxRecDepth 20000 in
theorem ggX6_pass_X6_record : GoodIn wsX6_pass wsX6_record := goodIn_r _ [9, 10, 11, 1, 63, 64, 65, 66, 67, 68, 69, 70, 71, 72, 73, 74, 75, 76, 77, 78] (by decide +kernel) (by decide +kernel)
set_option maxRecDepth 20000 in
theorem gX6_pass_X6_record : GoodIn wsX6_pass (wsV RX6 96 RX6 yX6_record wsX6_record) := goodIn_app (goodIn_of _ (by decide +kernel)) ggX6_pass_X6_record
set_option maxRecDepth 20000 in
theorem ggX6_pass_X6_layWays : GoodIn wsX6_pass wsX6_layWays := goodIn_r _ [15, 16, 17, 18, 19, 20, 21, 22, 4, 23, 1, 24, 25, 26, 27, 28, 29, 30, 31, 32, 33, 34, 35, 36, 37, 38, 39, 40, 41, 42, 43, 44, 45, 63, 64, 65, 66, 67, 68, 69, 70, 71, 72, 73, 74, 75, 76, 77, 78] (by decide +kernel) (by decide +kernel)
set_option maxRecDepth 20000 in
theorem gX6_pass_X6_layWays : GoodIn wsX6_pass (wsV RX6 118 RX6 yX6_layWays wsX6_layWays) := goodIn_app (goodIn_of _ (by decide +kernel)) ggX6_pass_X6_layWays
set_option maxRecDepth 20000 in
theorem ggX6_pass_X6_out : GoodIn wsX6_pass wsX6_out := goodIn_r _ [49, 1, 63, 64, 65, 66, 67, 68, 69, 70, 71, 72, 73, 74, 75, 76, 77, 78] (by decide +kernel) (by decide +kernel)
set_option maxRecDepth 20000 in
theorem gX6_pass_X6_out : GoodIn wsX6_pass (wsV RX6 121 RX6 yX6_out wsX6_out) := goodIn_app (goodIn_of _ (by decide +kernel)) ggX6_pass_X6_out
set_option maxRecDepth 20000 in
theorem ggX6_pass_X6_minute : GoodIn wsX6_pass wsX6_minute := goodIn_r _ [53, 1, 54, 17, 55, 56, 57, 4, 58, 59, 60, 61, 62, 19, 63, 64, 65, 66, 67, 68, 69, 70, 71, 72, 73, 74, 75, 76, 77, 78] (by decide +kernel) (by decide +kernel)
set_option maxRecDepth 20000 in
theorem gX6_pass_X6_minute : GoodIn wsX6_pass (wsV RX6 93 RX6 yX6_minute wsX6_minute) := goodIn_app (goodIn_of _ (by decide +kernel)) ggX6_pass_X6_minute
theorem dX6_pass_0 : decode cX6_pass 0 = .ok (.iload_n 1, 1) := by decide +kernel
theorem dX6_pass_1 : decode cX6_pass 1 = .ok (.iconst 1, 1) := by decide +kernel
theorem dX6_pass_2 : decode cX6_pass 2 = .ok (.bipush 99, 2) := by decide +kernel
theorem dX6_pass_4 : decode cX6_pass 4 = .ok (.invokestatic 47, 3) := by decide +kernel
theorem dX6_pass_7 : decode cX6_pass 7 = .ok (.ifCond .ne 6, 3) := by decide +kernel
theorem dX6_pass_10 : decode cX6_pass 10 = .ok (.bipush (-2), 2) := by decide +kernel
theorem dX6_pass_12 : decode cX6_pass 12 = .ok (.ireturn, 1) := by decide +kernel
theorem dX6_pass_13 : decode cX6_pass 13 = .ok (.aload_n 0, 1) := by decide +kernel
theorem dX6_pass_14 : decode cX6_pass 14 = .ok (.getfield 7, 3) := by decide +kernel
theorem dX6_pass_17 : decode cX6_pass 17 = .ok (.iconst 1, 1) := by decide +kernel
theorem dX6_pass_18 : decode cX6_pass 18 = .ok (.iaload, 1) := by decide +kernel
theorem dX6_pass_19 : decode cX6_pass 19 = .ok (.iload_n 1, 1) := by decide +kernel
theorem dX6_pass_20 : decode cX6_pass 20 = .ok (.iadd, 1) := by decide +kernel
theorem dX6_pass_21 : decode cX6_pass 21 = .ok (.sipush 9999, 3) := by decide +kernel
theorem dX6_pass_24 : decode cX6_pass 24 = .ok (.if_icmp .le 6, 3) := by decide +kernel
theorem dX6_pass_27 : decode cX6_pass 27 = .ok (.bipush (-4), 2) := by decide +kernel
theorem dX6_pass_29 : decode cX6_pass 29 = .ok (.ireturn, 1) := by decide +kernel
theorem dX6_pass_30 : decode cX6_pass 30 = .ok (.aload_n 0, 1) := by decide +kernel
theorem dX6_pass_31 : decode cX6_pass 31 = .ok (.invokevirtual 96, 3) := by decide +kernel
theorem dX6_pass_34 : decode cX6_pass 34 = .ok (.aload_n 0, 1) := by decide +kernel
theorem dX6_pass_35 : decode cX6_pass 35 = .ok (.invokevirtual 118, 3) := by decide +kernel
theorem dX6_pass_38 : decode cX6_pass 38 = .ok (.aload_n 0, 1) := by decide +kernel
theorem dX6_pass_39 : decode cX6_pass 39 = .ok (.invokevirtual 121, 3) := by decide +kernel
theorem dX6_pass_42 : decode cX6_pass 42 = .ok (.istore_n 2, 1) := by decide +kernel
theorem dX6_pass_43 : decode cX6_pass 43 = .ok (.iconst 0, 1) := by decide +kernel
theorem dX6_pass_44 : decode cX6_pass 44 = .ok (.istore_n 3, 1) := by decide +kernel
theorem dX6_pass_45 : decode cX6_pass 45 = .ok (.iload_n 3, 1) := by decide +kernel
theorem dX6_pass_46 : decode cX6_pass 46 = .ok (.iload_n 1, 1) := by decide +kernel
theorem dX6_pass_47 : decode cX6_pass 47 = .ok (.if_icmp .ge 13, 3) := by decide +kernel
theorem dX6_pass_50 : decode cX6_pass 50 = .ok (.aload_n 0, 1) := by decide +kernel
theorem dX6_pass_51 : decode cX6_pass 51 = .ok (.invokevirtual 93, 3) := by decide +kernel
theorem dX6_pass_54 : decode cX6_pass 54 = .ok (.iinc 3 1, 3) := by decide +kernel
theorem dX6_pass_57 : decode cX6_pass 57 = .ok (.goto (-12), 3) := by decide +kernel
theorem dX6_pass_60 : decode cX6_pass 60 = .ok (.aload_n 0, 1) := by decide +kernel
theorem dX6_pass_61 : decode cX6_pass 61 = .ok (.invokevirtual 121, 3) := by decide +kernel
theorem dX6_pass_64 : decode cX6_pass 64 = .ok (.iload_n 2, 1) := by decide +kernel
theorem dX6_pass_65 : decode cX6_pass 65 = .ok (.isub, 1) := by decide +kernel
theorem dX6_pass_66 : decode cX6_pass 66 = .ok (.ireturn, 1) := by decide +kernel
set_option maxRecDepth 20000 in
theorem ggX6_ropesOf_X6_hasRope : GoodIn wsX6_ropesOf wsX6_hasRope := goodIn_r _ [5, 6, 7, 8, 4, 9, 10, 11, 12, 13, 14, 15, 16, 17, 18, 19, 20, 21, 22, 23, 24, 25, 26, 27, 28] (by decide +kernel) (by decide +kernel)
set_option maxRecDepth 20000 in
theorem gX6_ropesOf_X6_hasRope : GoodIn wsX6_ropesOf (wsV RX6 124 RX6 yX6_hasRope wsX6_hasRope) := goodIn_app (goodIn_of _ (by decide +kernel)) ggX6_ropesOf_X6_hasRope
theorem dX6_ropesOf_0 : decode cX6_ropesOf 0 = .ok (.iconst 0, 1) := by decide +kernel
theorem dX6_ropesOf_1 : decode cX6_ropesOf 1 = .ok (.istore_n 2, 1) := by decide +kernel
theorem dX6_ropesOf_2 : decode cX6_ropesOf 2 = .ok (.iconst 0, 1) := by decide +kernel
theorem dX6_ropesOf_3 : decode cX6_ropesOf 3 = .ok (.istore_n 3, 1) := by decide +kernel
theorem dX6_ropesOf_4 : decode cX6_ropesOf 4 = .ok (.iload_n 3, 1) := by decide +kernel
theorem dX6_ropesOf_5 : decode cX6_ropesOf 5 = .ok (.iconst 4, 1) := by decide +kernel
theorem dX6_ropesOf_6 : decode cX6_ropesOf 6 = .ok (.if_icmp .ge 28, 3) := by decide +kernel
theorem dX6_ropesOf_9 : decode cX6_ropesOf 9 = .ok (.iload_n 2, 1) := by decide +kernel
theorem dX6_ropesOf_10 : decode cX6_ropesOf 10 = .ok (.aload_n 0, 1) := by decide +kernel
theorem dX6_ropesOf_11 : decode cX6_ropesOf 11 = .ok (.iload_n 1, 1) := by decide +kernel
theorem dX6_ropesOf_12 : decode cX6_ropesOf 12 = .ok (.iload_n 3, 1) := by decide +kernel
theorem dX6_ropesOf_13 : decode cX6_ropesOf 13 = .ok (.invokevirtual 124, 3) := by decide +kernel
theorem dX6_ropesOf_16 : decode cX6_ropesOf 16 = .ok (.ifCond .eq 9, 3) := by decide +kernel
theorem dX6_ropesOf_19 : decode cX6_ropesOf 19 = .ok (.iconst 1, 1) := by decide +kernel
theorem dX6_ropesOf_20 : decode cX6_ropesOf 20 = .ok (.iload_n 3, 1) := by decide +kernel
theorem dX6_ropesOf_21 : decode cX6_ropesOf 21 = .ok (.ishl, 1) := by decide +kernel
theorem dX6_ropesOf_22 : decode cX6_ropesOf 22 = .ok (.goto 4, 3) := by decide +kernel
theorem dX6_ropesOf_25 : decode cX6_ropesOf 25 = .ok (.iconst 0, 1) := by decide +kernel
theorem dX6_ropesOf_26 : decode cX6_ropesOf 26 = .ok (.ior, 1) := by decide +kernel
theorem dX6_ropesOf_27 : decode cX6_ropesOf 27 = .ok (.istore_n 2, 1) := by decide +kernel
theorem dX6_ropesOf_28 : decode cX6_ropesOf 28 = .ok (.iinc 3 1, 3) := by decide +kernel
theorem dX6_ropesOf_31 : decode cX6_ropesOf 31 = .ok (.goto (-27), 3) := by decide +kernel
theorem dX6_ropesOf_34 : decode cX6_ropesOf 34 = .ok (.iload_n 2, 1) := by decide +kernel
theorem dX6_ropesOf_35 : decode cX6_ropesOf 35 = .ok (.ireturn, 1) := by decide +kernel
set_option maxRecDepth 20000 in
theorem ggX6_cell_X6_isCell : GoodIn wsX6_cell wsX6_isCell := goodIn_r _ [8, 9, 10, 7, 11] (by decide +kernel) (by decide +kernel)
set_option maxRecDepth 20000 in
theorem gX6_cell_X6_isCell : GoodIn wsX6_cell (va_wsS RX6 102 yX6_isCell wsX6_isCell) := goodIn_app (goodIn_of _ (by decide +kernel)) ggX6_cell_X6_isCell
set_option maxRecDepth 20000 in
theorem ggX6_cell_X6_layWays : GoodIn wsX6_cell wsX6_layWays := goodIn_r _ [15, 2, 3, 16, 4, 17, 18, 19, 7, 20, 1, 21, 22, 23, 24, 25, 26, 27, 28, 29, 30, 31, 32, 33, 34, 35, 36, 37, 38, 39, 40, 41, 42, 51, 52, 53, 54, 55, 56, 57, 58, 59, 60, 61, 62, 63, 64, 65, 66] (by decide +kernel) (by decide +kernel)
set_option maxRecDepth 20000 in
theorem gX6_cell_X6_layWays : GoodIn wsX6_cell (wsV RX6 118 RX6 yX6_layWays wsX6_layWays) := goodIn_app (goodIn_of _ (by decide +kernel)) ggX6_cell_X6_layWays
set_option maxRecDepth 20000 in
theorem ggX6_cell_X6_ropesOf : GoodIn wsX6_cell wsX6_ropesOf := goodIn_r _ [46, 47, 48, 49, 7, 50, 1, 25, 26, 27, 28, 29, 30, 51, 52, 53, 54, 55, 56, 57, 58, 59, 60, 61, 62, 63, 64, 65, 66] (by decide +kernel) (by decide +kernel)
set_option maxRecDepth 20000 in
theorem gX6_cell_X6_ropesOf : GoodIn wsX6_cell (wsV RX6 127 RX6 yX6_ropesOf wsX6_ropesOf) := goodIn_app (goodIn_of _ (by decide +kernel)) ggX6_cell_X6_ropesOf
theorem dX6_cell_0 : decode cX6_cell 0 = .ok (.iload_n 1, 1) := by decide +kernel
theorem dX6_cell_1 : decode cX6_cell 1 = .ok (.invokestatic 102, 3) := by decide +kernel
theorem dX6_cell_4 : decode cX6_cell 4 = .ok (.ifCond .ne 5, 3) := by decide +kernel
theorem dX6_cell_7 : decode cX6_cell 7 = .ok (.iconst (-1), 1) := by decide +kernel
theorem dX6_cell_8 : decode cX6_cell 8 = .ok (.ireturn, 1) := by decide +kernel
theorem dX6_cell_9 : decode cX6_cell 9 = .ok (.aload_n 0, 1) := by decide +kernel
theorem dX6_cell_10 : decode cX6_cell 10 = .ok (.invokevirtual 118, 3) := by decide +kernel
theorem dX6_cell_13 : decode cX6_cell 13 = .ok (.iload_n 2, 1) := by decide +kernel
theorem dX6_cell_14 : decode cX6_cell 14 = .ok (.tableswitch 102 0 5 #[38, 48, 55, 62, 69, 96], 38) := by decide +kernel
theorem dX6_cell_52 : decode cX6_cell 52 = .ok (.aload_n 0, 1) := by decide +kernel
theorem dX6_cell_53 : decode cX6_cell 53 = .ok (.getfield 7, 3) := by decide +kernel
theorem dX6_cell_56 : decode cX6_cell 56 = .ok (.bipush 21, 2) := by decide +kernel
theorem dX6_cell_58 : decode cX6_cell 58 = .ok (.iload_n 1, 1) := by decide +kernel
theorem dX6_cell_59 : decode cX6_cell 59 = .ok (.iadd, 1) := by decide +kernel
theorem dX6_cell_60 : decode cX6_cell 60 = .ok (.iaload, 1) := by decide +kernel
theorem dX6_cell_61 : decode cX6_cell 61 = .ok (.ireturn, 1) := by decide +kernel
theorem dX6_cell_62 : decode cX6_cell 62 = .ok (.aload_n 0, 1) := by decide +kernel
theorem dX6_cell_63 : decode cX6_cell 63 = .ok (.getfield 32, 3) := by decide +kernel
theorem dX6_cell_66 : decode cX6_cell 66 = .ok (.iload_n 1, 1) := by decide +kernel
theorem dX6_cell_67 : decode cX6_cell 67 = .ok (.iaload, 1) := by decide +kernel
theorem dX6_cell_68 : decode cX6_cell 68 = .ok (.ireturn, 1) := by decide +kernel
theorem dX6_cell_69 : decode cX6_cell 69 = .ok (.aload_n 0, 1) := by decide +kernel
theorem dX6_cell_70 : decode cX6_cell 70 = .ok (.getfield 35, 3) := by decide +kernel
theorem dX6_cell_73 : decode cX6_cell 73 = .ok (.iload_n 1, 1) := by decide +kernel
theorem dX6_cell_74 : decode cX6_cell 74 = .ok (.iaload, 1) := by decide +kernel
theorem dX6_cell_75 : decode cX6_cell 75 = .ok (.ireturn, 1) := by decide +kernel
theorem dX6_cell_76 : decode cX6_cell 76 = .ok (.aload_n 0, 1) := by decide +kernel
theorem dX6_cell_77 : decode cX6_cell 77 = .ok (.getfield 38, 3) := by decide +kernel
theorem dX6_cell_80 : decode cX6_cell 80 = .ok (.iload_n 1, 1) := by decide +kernel
theorem dX6_cell_81 : decode cX6_cell 81 = .ok (.iaload, 1) := by decide +kernel
theorem dX6_cell_82 : decode cX6_cell 82 = .ok (.ireturn, 1) := by decide +kernel
theorem dX6_cell_83 : decode cX6_cell 83 = .ok (.aload_n 0, 1) := by decide +kernel
theorem dX6_cell_84 : decode cX6_cell 84 = .ok (.getfield 7, 3) := by decide +kernel
theorem dX6_cell_87 : decode cX6_cell 87 = .ok (.bipush 56, 2) := by decide +kernel
theorem dX6_cell_89 : decode cX6_cell 89 = .ok (.iload_n 1, 1) := by decide +kernel
theorem dX6_cell_90 : decode cX6_cell 90 = .ok (.iadd, 1) := by decide +kernel
theorem dX6_cell_91 : decode cX6_cell 91 = .ok (.iaload, 1) := by decide +kernel
theorem dX6_cell_92 : decode cX6_cell 92 = .ok (.ifCond .ge 8, 3) := by decide +kernel
theorem dX6_cell_95 : decode cX6_cell 95 = .ok (.bipush (-6), 2) := by decide +kernel
theorem dX6_cell_97 : decode cX6_cell 97 = .ok (.goto 12, 3) := by decide +kernel
theorem dX6_cell_100 : decode cX6_cell 100 = .ok (.aload_n 0, 1) := by decide +kernel
theorem dX6_cell_101 : decode cX6_cell 101 = .ok (.getfield 7, 3) := by decide +kernel
theorem dX6_cell_104 : decode cX6_cell 104 = .ok (.bipush 56, 2) := by decide +kernel
theorem dX6_cell_106 : decode cX6_cell 106 = .ok (.iload_n 1, 1) := by decide +kernel
theorem dX6_cell_107 : decode cX6_cell 107 = .ok (.iadd, 1) := by decide +kernel
theorem dX6_cell_108 : decode cX6_cell 108 = .ok (.iaload, 1) := by decide +kernel
theorem dX6_cell_109 : decode cX6_cell 109 = .ok (.ireturn, 1) := by decide +kernel
theorem dX6_cell_110 : decode cX6_cell 110 = .ok (.aload_n 0, 1) := by decide +kernel
theorem dX6_cell_111 : decode cX6_cell 111 = .ok (.iload_n 1, 1) := by decide +kernel
theorem dX6_cell_112 : decode cX6_cell 112 = .ok (.invokevirtual 127, 3) := by decide +kernel
theorem dX6_cell_115 : decode cX6_cell 115 = .ok (.ireturn, 1) := by decide +kernel
theorem dX6_cell_116 : decode cX6_cell 116 = .ok (.bipush (-2), 2) := by decide +kernel
theorem dX6_cell_118 : decode cX6_cell 118 = .ok (.ireturn, 1) := by decide +kernel
set_option maxRecDepth 20000 in
theorem ggX6_goalOfMany_X6_layWays : GoodIn wsX6_goalOfMany wsX6_layWays := goodIn_r _ [7, 1, 8, 9, 10, 11, 12, 13, 6, 14, 2, 15, 16, 17, 18, 19, 20, 21, 22, 23, 24, 25, 26, 27, 28, 29, 30, 31, 32, 33, 34, 35, 36, 37, 38, 39, 40, 41, 42, 43, 44, 45, 46, 47, 48, 49, 50, 51, 52] (by decide +kernel) (by decide +kernel)
set_option maxRecDepth 20000 in
theorem gX6_goalOfMany_X6_layWays : GoodIn wsX6_goalOfMany (wsV RX6 118 RX6 yX6_layWays wsX6_layWays) := goodIn_app (goodIn_of _ (by decide +kernel)) ggX6_goalOfMany_X6_layWays
theorem dX6_goalOfMany_0 : decode cX6_goalOfMany 0 = .ok (.aload_n 0, 1) := by decide +kernel
theorem dX6_goalOfMany_1 : decode cX6_goalOfMany 1 = .ok (.invokevirtual 118, 3) := by decide +kernel
theorem dX6_goalOfMany_4 : decode cX6_goalOfMany 4 = .ok (.iconst 0, 1) := by decide +kernel
theorem dX6_goalOfMany_5 : decode cX6_goalOfMany 5 = .ok (.istore_n 3, 1) := by decide +kernel
theorem dX6_goalOfMany_6 : decode cX6_goalOfMany 6 = .ok (.iconst 0, 1) := by decide +kernel
theorem dX6_goalOfMany_7 : decode cX6_goalOfMany 7 = .ok (.istore 4, 2) := by decide +kernel
theorem dX6_goalOfMany_9 : decode cX6_goalOfMany 9 = .ok (.iload 4, 2) := by decide +kernel
theorem dX6_goalOfMany_11 : decode cX6_goalOfMany 11 = .ok (.bipush 35, 2) := by decide +kernel
theorem dX6_goalOfMany_13 : decode cX6_goalOfMany 13 = .ok (.if_icmp .ge 45, 3) := by decide +kernel
theorem dX6_goalOfMany_16 : decode cX6_goalOfMany 16 = .ok (.iload_n 3, 1) := by decide +kernel
theorem dX6_goalOfMany_17 : decode cX6_goalOfMany 17 = .ok (.aload_n 0, 1) := by decide +kernel
theorem dX6_goalOfMany_18 : decode cX6_goalOfMany 18 = .ok (.getfield 32, 3) := by decide +kernel
theorem dX6_goalOfMany_21 : decode cX6_goalOfMany 21 = .ok (.iload 4, 2) := by decide +kernel
theorem dX6_goalOfMany_23 : decode cX6_goalOfMany 23 = .ok (.iaload, 1) := by decide +kernel
theorem dX6_goalOfMany_24 : decode cX6_goalOfMany 24 = .ok (.iload_n 1, 1) := by decide +kernel
theorem dX6_goalOfMany_25 : decode cX6_goalOfMany 25 = .ok (.if_icmp .eq 7, 3) := by decide +kernel
theorem dX6_goalOfMany_28 : decode cX6_goalOfMany 28 = .ok (.iconst 0, 1) := by decide +kernel
theorem dX6_goalOfMany_29 : decode cX6_goalOfMany 29 = .ok (.goto 21, 3) := by decide +kernel
theorem dX6_goalOfMany_32 : decode cX6_goalOfMany 32 = .ok (.iload_n 2, 1) := by decide +kernel
theorem dX6_goalOfMany_33 : decode cX6_goalOfMany 33 = .ok (.ifCond .eq 7, 3) := by decide +kernel
theorem dX6_goalOfMany_36 : decode cX6_goalOfMany 36 = .ok (.iconst 1, 1) := by decide +kernel
theorem dX6_goalOfMany_37 : decode cX6_goalOfMany 37 = .ok (.goto 13, 3) := by decide +kernel
theorem dX6_goalOfMany_40 : decode cX6_goalOfMany 40 = .ok (.aload_n 0, 1) := by decide +kernel
theorem dX6_goalOfMany_41 : decode cX6_goalOfMany 41 = .ok (.getfield 7, 3) := by decide +kernel
theorem dX6_goalOfMany_44 : decode cX6_goalOfMany 44 = .ok (.bipush 21, 2) := by decide +kernel
theorem dX6_goalOfMany_46 : decode cX6_goalOfMany 46 = .ok (.iload 4, 2) := by decide +kernel
theorem dX6_goalOfMany_48 : decode cX6_goalOfMany 48 = .ok (.iadd, 1) := by decide +kernel
theorem dX6_goalOfMany_49 : decode cX6_goalOfMany 49 = .ok (.iaload, 1) := by decide +kernel
theorem dX6_goalOfMany_50 : decode cX6_goalOfMany 50 = .ok (.iadd, 1) := by decide +kernel
theorem dX6_goalOfMany_51 : decode cX6_goalOfMany 51 = .ok (.istore_n 3, 1) := by decide +kernel
theorem dX6_goalOfMany_52 : decode cX6_goalOfMany 52 = .ok (.iinc 4 1, 3) := by decide +kernel
theorem dX6_goalOfMany_55 : decode cX6_goalOfMany 55 = .ok (.goto (-46), 3) := by decide +kernel
theorem dX6_goalOfMany_58 : decode cX6_goalOfMany 58 = .ok (.iload_n 3, 1) := by decide +kernel
theorem dX6_goalOfMany_59 : decode cX6_goalOfMany 59 = .ok (.ireturn, 1) := by decide +kernel
set_option maxRecDepth 20000 in
theorem ggX6_doorOf_X6_isDoor : GoodIn wsX6_doorOf wsX6_isDoor := goodIn_r _ [5, 6, 7, 4, 8] (by decide +kernel) (by decide +kernel)
set_option maxRecDepth 20000 in
theorem gX6_doorOf_X6_isDoor : GoodIn wsX6_doorOf (va_wsS RX6 112 yX6_isDoor wsX6_isDoor) := goodIn_app (goodIn_of _ (by decide +kernel)) ggX6_doorOf_X6_isDoor
set_option maxRecDepth 20000 in
theorem ggX6_doorOf_X6_goalOfMany : GoodIn wsX6_doorOf wsX6_goalOfMany := goodIn_r _ [12, 13, 1, 14, 15, 16, 4, 17, 18, 19, 20, 21, 22, 23, 24, 25, 26, 27, 28, 29, 30, 31, 32, 33, 34, 35, 36, 37, 38, 39, 40, 41, 42, 43, 44, 45, 46, 47, 48, 49, 50, 51, 52, 53, 54, 55, 56, 57, 58, 59, 60, 61, 62] (by decide +kernel) (by decide +kernel)
set_option maxRecDepth 20000 in
theorem gX6_doorOf_X6_goalOfMany : GoodIn wsX6_doorOf (wsV RX6 130 RX6 yX6_goalOfMany wsX6_goalOfMany) := goodIn_app (goodIn_of _ (by decide +kernel)) ggX6_doorOf_X6_goalOfMany
theorem dX6_doorOf_0 : decode cX6_doorOf 0 = .ok (.iload_n 1, 1) := by decide +kernel
theorem dX6_doorOf_1 : decode cX6_doorOf 1 = .ok (.invokestatic 112, 3) := by decide +kernel
theorem dX6_doorOf_4 : decode cX6_doorOf 4 = .ok (.ifCond .ne 5, 3) := by decide +kernel
theorem dX6_doorOf_7 : decode cX6_doorOf 7 = .ok (.iconst (-1), 1) := by decide +kernel
theorem dX6_doorOf_8 : decode cX6_doorOf 8 = .ok (.ireturn, 1) := by decide +kernel
theorem dX6_doorOf_9 : decode cX6_doorOf 9 = .ok (.iload_n 2, 1) := by decide +kernel
theorem dX6_doorOf_10 : decode cX6_doorOf 10 = .ok (.tableswitch 67 0 5 #[38, 38, 38, 38, 51, 51], 38) := by decide +kernel
theorem dX6_doorOf_48 : decode cX6_doorOf 48 = .ok (.aload_n 0, 1) := by decide +kernel
theorem dX6_doorOf_49 : decode cX6_doorOf 49 = .ok (.getfield 7, 3) := by decide +kernel
theorem dX6_doorOf_52 : decode cX6_doorOf 52 = .ok (.iconst 5, 1) := by decide +kernel
theorem dX6_doorOf_53 : decode cX6_doorOf 53 = .ok (.iconst 4, 1) := by decide +kernel
theorem dX6_doorOf_54 : decode cX6_doorOf 54 = .ok (.iload_n 2, 1) := by decide +kernel
theorem dX6_doorOf_55 : decode cX6_doorOf 55 = .ok (.imul, 1) := by decide +kernel
theorem dX6_doorOf_56 : decode cX6_doorOf 56 = .ok (.iadd, 1) := by decide +kernel
theorem dX6_doorOf_57 : decode cX6_doorOf 57 = .ok (.iload_n 1, 1) := by decide +kernel
theorem dX6_doorOf_58 : decode cX6_doorOf 58 = .ok (.iadd, 1) := by decide +kernel
theorem dX6_doorOf_59 : decode cX6_doorOf 59 = .ok (.iaload, 1) := by decide +kernel
theorem dX6_doorOf_60 : decode cX6_doorOf 60 = .ok (.ireturn, 1) := by decide +kernel
theorem dX6_doorOf_61 : decode cX6_doorOf 61 = .ok (.aload_n 0, 1) := by decide +kernel
theorem dX6_doorOf_62 : decode cX6_doorOf 62 = .ok (.iload_n 1, 1) := by decide +kernel
theorem dX6_doorOf_63 : decode cX6_doorOf 63 = .ok (.iload_n 2, 1) := by decide +kernel
theorem dX6_doorOf_64 : decode cX6_doorOf 64 = .ok (.iconst 4, 1) := by decide +kernel
theorem dX6_doorOf_65 : decode cX6_doorOf 65 = .ok (.if_icmp .ne 7, 3) := by decide +kernel
theorem dX6_doorOf_68 : decode cX6_doorOf 68 = .ok (.iconst 1, 1) := by decide +kernel
theorem dX6_doorOf_69 : decode cX6_doorOf 69 = .ok (.goto 4, 3) := by decide +kernel
theorem dX6_doorOf_72 : decode cX6_doorOf 72 = .ok (.iconst 0, 1) := by decide +kernel
theorem dX6_doorOf_73 : decode cX6_doorOf 73 = .ok (.invokevirtual 130, 3) := by decide +kernel
theorem dX6_doorOf_76 : decode cX6_doorOf 76 = .ok (.ireturn, 1) := by decide +kernel
theorem dX6_doorOf_77 : decode cX6_doorOf 77 = .ok (.bipush (-2), 2) := by decide +kernel
theorem dX6_doorOf_79 : decode cX6_doorOf 79 = .ok (.ireturn, 1) := by decide +kernel
theorem dX6_uneven_0 : decode cX6_uneven 0 = .ok (.iconst (-1), 1) := by decide +kernel
theorem dX6_uneven_1 : decode cX6_uneven 1 = .ok (.istore_n 1, 1) := by decide +kernel
theorem dX6_uneven_2 : decode cX6_uneven 2 = .ok (.iconst (-1), 1) := by decide +kernel
theorem dX6_uneven_3 : decode cX6_uneven 3 = .ok (.istore_n 2, 1) := by decide +kernel
theorem dX6_uneven_4 : decode cX6_uneven 4 = .ok (.iconst 0, 1) := by decide +kernel
theorem dX6_uneven_5 : decode cX6_uneven 5 = .ok (.istore_n 3, 1) := by decide +kernel
theorem dX6_uneven_6 : decode cX6_uneven 6 = .ok (.iload_n 3, 1) := by decide +kernel
theorem dX6_uneven_7 : decode cX6_uneven 7 = .ok (.iconst 4, 1) := by decide +kernel
theorem dX6_uneven_8 : decode cX6_uneven 8 = .ok (.if_icmp .ge 80, 3) := by decide +kernel
theorem dX6_uneven_11 : decode cX6_uneven 11 = .ok (.aload_n 0, 1) := by decide +kernel
theorem dX6_uneven_12 : decode cX6_uneven 12 = .ok (.getfield 7, 3) := by decide +kernel
theorem dX6_uneven_15 : decode cX6_uneven 15 = .ok (.bipush 13, 2) := by decide +kernel
theorem dX6_uneven_17 : decode cX6_uneven 17 = .ok (.iload_n 3, 1) := by decide +kernel
theorem dX6_uneven_18 : decode cX6_uneven 18 = .ok (.iadd, 1) := by decide +kernel
theorem dX6_uneven_19 : decode cX6_uneven 19 = .ok (.iaload, 1) := by decide +kernel
theorem dX6_uneven_20 : decode cX6_uneven 20 = .ok (.iconst 1, 1) := by decide +kernel
theorem dX6_uneven_21 : decode cX6_uneven 21 = .ok (.if_icmp .ne 61, 3) := by decide +kernel
theorem dX6_uneven_24 : decode cX6_uneven 24 = .ok (.iload_n 1, 1) := by decide +kernel
theorem dX6_uneven_25 : decode cX6_uneven 25 = .ok (.aload_n 0, 1) := by decide +kernel
theorem dX6_uneven_26 : decode cX6_uneven 26 = .ok (.getfield 7, 3) := by decide +kernel
theorem dX6_uneven_29 : decode cX6_uneven 29 = .ok (.bipush 17, 2) := by decide +kernel
theorem dX6_uneven_31 : decode cX6_uneven 31 = .ok (.iload_n 3, 1) := by decide +kernel
theorem dX6_uneven_32 : decode cX6_uneven 32 = .ok (.iadd, 1) := by decide +kernel
theorem dX6_uneven_33 : decode cX6_uneven 33 = .ok (.iaload, 1) := by decide +kernel
theorem dX6_uneven_34 : decode cX6_uneven 34 = .ok (.if_icmp .ge 15, 3) := by decide +kernel
theorem dX6_uneven_37 : decode cX6_uneven 37 = .ok (.aload_n 0, 1) := by decide +kernel
theorem dX6_uneven_38 : decode cX6_uneven 38 = .ok (.getfield 7, 3) := by decide +kernel
theorem dX6_uneven_41 : decode cX6_uneven 41 = .ok (.bipush 17, 2) := by decide +kernel
theorem dX6_uneven_43 : decode cX6_uneven 43 = .ok (.iload_n 3, 1) := by decide +kernel
theorem dX6_uneven_44 : decode cX6_uneven 44 = .ok (.iadd, 1) := by decide +kernel
theorem dX6_uneven_45 : decode cX6_uneven 45 = .ok (.iaload, 1) := by decide +kernel
theorem dX6_uneven_46 : decode cX6_uneven 46 = .ok (.goto 4, 3) := by decide +kernel
theorem dX6_uneven_49 : decode cX6_uneven 49 = .ok (.iload_n 1, 1) := by decide +kernel
theorem dX6_uneven_50 : decode cX6_uneven 50 = .ok (.istore_n 1, 1) := by decide +kernel
theorem dX6_uneven_51 : decode cX6_uneven 51 = .ok (.iload_n 2, 1) := by decide +kernel
theorem dX6_uneven_52 : decode cX6_uneven 52 = .ok (.ifCond .lt 16, 3) := by decide +kernel
theorem dX6_uneven_55 : decode cX6_uneven 55 = .ok (.aload_n 0, 1) := by decide +kernel
theorem dX6_uneven_56 : decode cX6_uneven 56 = .ok (.getfield 7, 3) := by decide +kernel
theorem dX6_uneven_59 : decode cX6_uneven 59 = .ok (.bipush 17, 2) := by decide +kernel
theorem dX6_uneven_61 : decode cX6_uneven 61 = .ok (.iload_n 3, 1) := by decide +kernel
theorem dX6_uneven_62 : decode cX6_uneven 62 = .ok (.iadd, 1) := by decide +kernel
theorem dX6_uneven_63 : decode cX6_uneven 63 = .ok (.iaload, 1) := by decide +kernel
theorem dX6_uneven_64 : decode cX6_uneven 64 = .ok (.iload_n 2, 1) := by decide +kernel
theorem dX6_uneven_65 : decode cX6_uneven 65 = .ok (.if_icmp .ge 15, 3) := by decide +kernel
theorem dX6_uneven_68 : decode cX6_uneven 68 = .ok (.aload_n 0, 1) := by decide +kernel
theorem dX6_uneven_69 : decode cX6_uneven 69 = .ok (.getfield 7, 3) := by decide +kernel
theorem dX6_uneven_72 : decode cX6_uneven 72 = .ok (.bipush 17, 2) := by decide +kernel
theorem dX6_uneven_74 : decode cX6_uneven 74 = .ok (.iload_n 3, 1) := by decide +kernel
theorem dX6_uneven_75 : decode cX6_uneven 75 = .ok (.iadd, 1) := by decide +kernel
theorem dX6_uneven_76 : decode cX6_uneven 76 = .ok (.iaload, 1) := by decide +kernel
theorem dX6_uneven_77 : decode cX6_uneven 77 = .ok (.goto 4, 3) := by decide +kernel
theorem dX6_uneven_80 : decode cX6_uneven 80 = .ok (.iload_n 2, 1) := by decide +kernel
theorem dX6_uneven_81 : decode cX6_uneven 81 = .ok (.istore_n 2, 1) := by decide +kernel
theorem dX6_uneven_82 : decode cX6_uneven 82 = .ok (.iinc 3 1, 3) := by decide +kernel
theorem dX6_uneven_85 : decode cX6_uneven 85 = .ok (.goto (-79), 3) := by decide +kernel
theorem dX6_uneven_88 : decode cX6_uneven 88 = .ok (.iload_n 1, 1) := by decide +kernel
theorem dX6_uneven_89 : decode cX6_uneven 89 = .ok (.iload_n 2, 1) := by decide +kernel
theorem dX6_uneven_90 : decode cX6_uneven 90 = .ok (.isub, 1) := by decide +kernel
theorem dX6_uneven_91 : decode cX6_uneven 91 = .ok (.ireturn, 1) := by decide +kernel
theorem dX6_guards_0 : decode cX6_guards 0 = .ok (.iconst 0, 1) := by decide +kernel
theorem dX6_guards_1 : decode cX6_guards 1 = .ok (.istore_n 1, 1) := by decide +kernel
theorem dX6_guards_2 : decode cX6_guards 2 = .ok (.iconst 0, 1) := by decide +kernel
theorem dX6_guards_3 : decode cX6_guards 3 = .ok (.istore_n 2, 1) := by decide +kernel
theorem dX6_guards_4 : decode cX6_guards 4 = .ok (.iload_n 2, 1) := by decide +kernel
theorem dX6_guards_5 : decode cX6_guards 5 = .ok (.bipush 35, 2) := by decide +kernel
theorem dX6_guards_7 : decode cX6_guards 7 = .ok (.if_icmp .ge 29, 3) := by decide +kernel
theorem dX6_guards_10 : decode cX6_guards 10 = .ok (.iload_n 1, 1) := by decide +kernel
theorem dX6_guards_11 : decode cX6_guards 11 = .ok (.aload_n 0, 1) := by decide +kernel
theorem dX6_guards_12 : decode cX6_guards 12 = .ok (.getfield 7, 3) := by decide +kernel
theorem dX6_guards_15 : decode cX6_guards 15 = .ok (.bipush 56, 2) := by decide +kernel
theorem dX6_guards_17 : decode cX6_guards 17 = .ok (.iload_n 2, 1) := by decide +kernel
theorem dX6_guards_18 : decode cX6_guards 18 = .ok (.iadd, 1) := by decide +kernel
theorem dX6_guards_19 : decode cX6_guards 19 = .ok (.iaload, 1) := by decide +kernel
theorem dX6_guards_20 : decode cX6_guards 20 = .ok (.ifCond .ge 7, 3) := by decide +kernel
theorem dX6_guards_23 : decode cX6_guards 23 = .ok (.iconst 0, 1) := by decide +kernel
theorem dX6_guards_24 : decode cX6_guards 24 = .ok (.goto 4, 3) := by decide +kernel
theorem dX6_guards_27 : decode cX6_guards 27 = .ok (.iconst 1, 1) := by decide +kernel
theorem dX6_guards_28 : decode cX6_guards 28 = .ok (.iadd, 1) := by decide +kernel
theorem dX6_guards_29 : decode cX6_guards 29 = .ok (.istore_n 1, 1) := by decide +kernel
theorem dX6_guards_30 : decode cX6_guards 30 = .ok (.iinc 2 1, 3) := by decide +kernel
theorem dX6_guards_33 : decode cX6_guards 33 = .ok (.goto (-29), 3) := by decide +kernel
theorem dX6_guards_36 : decode cX6_guards 36 = .ok (.iload_n 1, 1) := by decide +kernel
theorem dX6_guards_37 : decode cX6_guards 37 = .ok (.ireturn, 1) := by decide +kernel
set_option maxRecDepth 20000 in
theorem ggX6_count_X6_people : GoodIn wsX6_count wsX6_people := goodIn_r _ [8, 1, 67, 68, 69, 70, 71, 72, 73, 74, 75, 76, 77, 78, 79, 80, 81, 82] (by decide +kernel) (by decide +kernel)
set_option maxRecDepth 20000 in
theorem gX6_count_X6_people : GoodIn wsX6_count (wsV RX6 86 RX6 yX6_people wsX6_people) := goodIn_app (goodIn_of _ (by decide +kernel)) ggX6_count_X6_people
set_option maxRecDepth 20000 in
theorem ggX6_count_X6_out : GoodIn wsX6_count wsX6_out := goodIn_r _ [12, 1, 67, 68, 69, 70, 71, 72, 73, 74, 75, 76, 77, 78, 79, 80, 81, 82] (by decide +kernel) (by decide +kernel)
set_option maxRecDepth 20000 in
theorem gX6_count_X6_out : GoodIn wsX6_count (wsV RX6 121 RX6 yX6_out wsX6_out) := goodIn_app (goodIn_of _ (by decide +kernel)) ggX6_count_X6_out
set_option maxRecDepth 20000 in
theorem ggX6_count_X6_ropes : GoodIn wsX6_count wsX6_ropes := goodIn_r _ [16, 1, 67, 68, 69, 70, 71, 72, 73, 74, 75, 76, 77, 78, 79, 80, 81, 82] (by decide +kernel) (by decide +kernel)
set_option maxRecDepth 20000 in
theorem gX6_count_X6_ropes : GoodIn wsX6_count (wsV RX6 109 RX6 yX6_ropes wsX6_ropes) := goodIn_app (goodIn_of _ (by decide +kernel)) ggX6_count_X6_ropes
set_option maxRecDepth 20000 in
theorem ggX6_count_X6_openSet : GoodIn wsX6_count wsX6_openSet := goodIn_r _ [20, 1, 67, 68, 69, 70, 71, 72, 73, 74, 75, 76, 77, 78, 79, 80, 81, 82] (by decide +kernel) (by decide +kernel)
set_option maxRecDepth 20000 in
theorem gX6_count_X6_openSet : GoodIn wsX6_count (wsV RX6 134 RX6 yX6_openSet wsX6_openSet) := goodIn_app (goodIn_of _ (by decide +kernel)) ggX6_count_X6_openSet
set_option maxRecDepth 20000 in
theorem ggX6_count_X6_layWays : GoodIn wsX6_count wsX6_layWays := goodIn_r _ [24, 25, 26, 27, 28, 29, 30, 31, 7, 32, 1, 33, 34, 35, 36, 37, 38, 39, 40, 41, 42, 43, 44, 45, 46, 47, 48, 49, 50, 51, 52, 53, 54, 67, 68, 69, 70, 71, 72, 73, 74, 75, 76, 77, 78, 79, 80, 81, 82] (by decide +kernel) (by decide +kernel)
set_option maxRecDepth 20000 in
theorem gX6_count_X6_layWays : GoodIn wsX6_count (wsV RX6 118 RX6 yX6_layWays wsX6_layWays) := goodIn_app (goodIn_of _ (by decide +kernel)) ggX6_count_X6_layWays
set_option maxRecDepth 20000 in
theorem ggX6_count_X6_shutIn : GoodIn wsX6_count wsX6_shutIn := goodIn_r _ [58, 25, 1, 67, 68, 69, 70, 71, 72, 73, 74, 75, 76, 77, 78, 79, 80, 81, 82] (by decide +kernel) (by decide +kernel)
set_option maxRecDepth 20000 in
theorem gX6_count_X6_shutIn : GoodIn wsX6_count (wsV RX6 90 RX6 yX6_shutIn wsX6_shutIn) := goodIn_app (goodIn_of _ (by decide +kernel)) ggX6_count_X6_shutIn
set_option maxRecDepth 20000 in
theorem ggX6_count_X6_uneven : GoodIn wsX6_count wsX6_uneven := goodIn_r _ [62, 1, 67, 68, 69, 70, 71, 72, 73, 74, 75, 76, 77, 78, 79, 80, 81, 82] (by decide +kernel) (by decide +kernel)
set_option maxRecDepth 20000 in
theorem gX6_count_X6_uneven : GoodIn wsX6_count (wsV RX6 137 RX6 yX6_uneven wsX6_uneven) := goodIn_app (goodIn_of _ (by decide +kernel)) ggX6_count_X6_uneven
set_option maxRecDepth 20000 in
theorem ggX6_count_X6_guards : GoodIn wsX6_count wsX6_guards := goodIn_r _ [66, 1, 67, 68, 69, 70, 71, 72, 73, 74, 75, 76, 77, 78, 79, 80, 81, 82] (by decide +kernel) (by decide +kernel)
set_option maxRecDepth 20000 in
theorem gX6_count_X6_guards : GoodIn wsX6_count (wsV RX6 140 RX6 yX6_guards wsX6_guards) := goodIn_app (goodIn_of _ (by decide +kernel)) ggX6_count_X6_guards
theorem dX6_count_0 : decode cX6_count 0 = .ok (.iload_n 1, 1) := by decide +kernel
theorem dX6_count_1 : decode cX6_count 1 = .ok (.tableswitch 145 0 13 #[71, 71, 78, 83, 90, 95, 95, 106, 111, 116, 125, 130, 135, 140], 71) := by decide +kernel
theorem dX6_count_72 : decode cX6_count 72 = .ok (.aload_n 0, 1) := by decide +kernel
theorem dX6_count_73 : decode cX6_count 73 = .ok (.getfield 7, 3) := by decide +kernel
theorem dX6_count_76 : decode cX6_count 76 = .ok (.iload_n 1, 1) := by decide +kernel
theorem dX6_count_77 : decode cX6_count 77 = .ok (.iaload, 1) := by decide +kernel
theorem dX6_count_78 : decode cX6_count 78 = .ok (.ireturn, 1) := by decide +kernel
theorem dX6_count_79 : decode cX6_count 79 = .ok (.aload_n 0, 1) := by decide +kernel
theorem dX6_count_80 : decode cX6_count 80 = .ok (.invokevirtual 86, 3) := by decide +kernel
theorem dX6_count_83 : decode cX6_count 83 = .ok (.ireturn, 1) := by decide +kernel
theorem dX6_count_84 : decode cX6_count 84 = .ok (.aload_n 0, 1) := by decide +kernel
theorem dX6_count_85 : decode cX6_count 85 = .ok (.getfield 7, 3) := by decide +kernel
theorem dX6_count_88 : decode cX6_count 88 = .ok (.iconst 2, 1) := by decide +kernel
theorem dX6_count_89 : decode cX6_count 89 = .ok (.iaload, 1) := by decide +kernel
theorem dX6_count_90 : decode cX6_count 90 = .ok (.ireturn, 1) := by decide +kernel
theorem dX6_count_91 : decode cX6_count 91 = .ok (.aload_n 0, 1) := by decide +kernel
theorem dX6_count_92 : decode cX6_count 92 = .ok (.invokevirtual 121, 3) := by decide +kernel
theorem dX6_count_95 : decode cX6_count 95 = .ok (.ireturn, 1) := by decide +kernel
theorem dX6_count_96 : decode cX6_count 96 = .ok (.aload_n 0, 1) := by decide +kernel
theorem dX6_count_97 : decode cX6_count 97 = .ok (.getfield 7, 3) := by decide +kernel
theorem dX6_count_100 : decode cX6_count 100 = .ok (.iconst 3, 1) := by decide +kernel
theorem dX6_count_101 : decode cX6_count 101 = .ok (.iload_n 1, 1) := by decide +kernel
theorem dX6_count_102 : decode cX6_count 102 = .ok (.iadd, 1) := by decide +kernel
theorem dX6_count_103 : decode cX6_count 103 = .ok (.iconst 5, 1) := by decide +kernel
theorem dX6_count_104 : decode cX6_count 104 = .ok (.isub, 1) := by decide +kernel
theorem dX6_count_105 : decode cX6_count 105 = .ok (.iaload, 1) := by decide +kernel
theorem dX6_count_106 : decode cX6_count 106 = .ok (.ireturn, 1) := by decide +kernel
theorem dX6_count_107 : decode cX6_count 107 = .ok (.aload_n 0, 1) := by decide +kernel
theorem dX6_count_108 : decode cX6_count 108 = .ok (.invokevirtual 109, 3) := by decide +kernel
theorem dX6_count_111 : decode cX6_count 111 = .ok (.ireturn, 1) := by decide +kernel
theorem dX6_count_112 : decode cX6_count 112 = .ok (.aload_n 0, 1) := by decide +kernel
theorem dX6_count_113 : decode cX6_count 113 = .ok (.invokevirtual 134, 3) := by decide +kernel
theorem dX6_count_116 : decode cX6_count 116 = .ok (.ireturn, 1) := by decide +kernel
theorem dX6_count_117 : decode cX6_count 117 = .ok (.aload_n 0, 1) := by decide +kernel
theorem dX6_count_118 : decode cX6_count 118 = .ok (.invokevirtual 118, 3) := by decide +kernel
theorem dX6_count_121 : decode cX6_count 121 = .ok (.aload_n 0, 1) := by decide +kernel
theorem dX6_count_122 : decode cX6_count 122 = .ok (.invokevirtual 90, 3) := by decide +kernel
theorem dX6_count_125 : decode cX6_count 125 = .ok (.ireturn, 1) := by decide +kernel
theorem dX6_count_126 : decode cX6_count 126 = .ok (.aload_n 0, 1) := by decide +kernel
theorem dX6_count_127 : decode cX6_count 127 = .ok (.invokevirtual 137, 3) := by decide +kernel
theorem dX6_count_130 : decode cX6_count 130 = .ok (.ireturn, 1) := by decide +kernel
theorem dX6_count_131 : decode cX6_count 131 = .ok (.aload_n 0, 1) := by decide +kernel
theorem dX6_count_132 : decode cX6_count 132 = .ok (.invokevirtual 140, 3) := by decide +kernel
theorem dX6_count_135 : decode cX6_count 135 = .ok (.ireturn, 1) := by decide +kernel
theorem dX6_count_136 : decode cX6_count 136 = .ok (.aload_n 0, 1) := by decide +kernel
theorem dX6_count_137 : decode cX6_count 137 = .ok (.getfield 143, 3) := by decide +kernel
theorem dX6_count_140 : decode cX6_count 140 = .ok (.ireturn, 1) := by decide +kernel
theorem dX6_count_141 : decode cX6_count 141 = .ok (.aload_n 0, 1) := by decide +kernel
theorem dX6_count_142 : decode cX6_count 142 = .ok (.getfield 51, 3) := by decide +kernel
theorem dX6_count_145 : decode cX6_count 145 = .ok (.ireturn, 1) := by decide +kernel
theorem dX6_count_146 : decode cX6_count 146 = .ok (.bipush (-2), 2) := by decide +kernel
theorem dX6_count_148 : decode cX6_count 148 = .ok (.ireturn, 1) := by decide +kernel
set_option maxRecDepth 20000 in
theorem ggX6_distance_X6_isCell : GoodIn wsX6_distance wsX6_isCell := goodIn_r _ [5, 6, 7, 4, 8] (by decide +kernel) (by decide +kernel)
set_option maxRecDepth 20000 in
theorem gX6_distance_X6_isCell : GoodIn wsX6_distance (va_wsS RX6 102 yX6_isCell wsX6_isCell) := goodIn_app (goodIn_of _ (by decide +kernel)) ggX6_distance_X6_isCell
set_option maxRecDepth 20000 in
theorem ggX6_distance_X6_isDoor : GoodIn wsX6_distance wsX6_isDoor := goodIn_r _ [11, 6, 7, 4, 8] (by decide +kernel) (by decide +kernel)
set_option maxRecDepth 20000 in
theorem gX6_distance_X6_isDoor : GoodIn wsX6_distance (va_wsS RX6 112 yX6_isDoor wsX6_isDoor) := goodIn_app (goodIn_of _ (by decide +kernel)) ggX6_distance_X6_isDoor
set_option maxRecDepth 20000 in
theorem ggX6_distance_X6_layFar : GoodIn wsX6_distance wsX6_layFar := goodIn_r _ [15, 1, 16, 17, 18, 19, 4, 20, 21, 22, 23, 24, 25, 26, 27, 28, 29, 30, 31, 32, 33, 34, 35, 36, 37, 38, 39, 40, 41, 42] (by decide +kernel) (by decide +kernel)
set_option maxRecDepth 20000 in
theorem gX6_distance_X6_layFar : GoodIn wsX6_distance (wsV RX6 69 RX6 yX6_layFar wsX6_layFar) := goodIn_app (goodIn_of _ (by decide +kernel)) ggX6_distance_X6_layFar
theorem dX6_distance_0 : decode cX6_distance 0 = .ok (.iload_n 1, 1) := by decide +kernel
theorem dX6_distance_1 : decode cX6_distance 1 = .ok (.invokestatic 102, 3) := by decide +kernel
theorem dX6_distance_4 : decode cX6_distance 4 = .ok (.ifCond .eq 10, 3) := by decide +kernel
theorem dX6_distance_7 : decode cX6_distance 7 = .ok (.iload_n 2, 1) := by decide +kernel
theorem dX6_distance_8 : decode cX6_distance 8 = .ok (.invokestatic 112, 3) := by decide +kernel
theorem dX6_distance_11 : decode cX6_distance 11 = .ok (.ifCond .ne 5, 3) := by decide +kernel
theorem dX6_distance_14 : decode cX6_distance 14 = .ok (.iconst (-1), 1) := by decide +kernel
theorem dX6_distance_15 : decode cX6_distance 15 = .ok (.ireturn, 1) := by decide +kernel
theorem dX6_distance_16 : decode cX6_distance 16 = .ok (.aload_n 0, 1) := by decide +kernel
theorem dX6_distance_17 : decode cX6_distance 17 = .ok (.iload_n 2, 1) := by decide +kernel
theorem dX6_distance_18 : decode cX6_distance 18 = .ok (.invokevirtual 69, 3) := by decide +kernel
theorem dX6_distance_21 : decode cX6_distance 21 = .ok (.aload_n 0, 1) := by decide +kernel
theorem dX6_distance_22 : decode cX6_distance 22 = .ok (.getfield 29, 3) := by decide +kernel
theorem dX6_distance_25 : decode cX6_distance 25 = .ok (.bipush 35, 2) := by decide +kernel
theorem dX6_distance_27 : decode cX6_distance 27 = .ok (.iload_n 2, 1) := by decide +kernel
theorem dX6_distance_28 : decode cX6_distance 28 = .ok (.imul, 1) := by decide +kernel
theorem dX6_distance_29 : decode cX6_distance 29 = .ok (.iload_n 1, 1) := by decide +kernel
theorem dX6_distance_30 : decode cX6_distance 30 = .ok (.iadd, 1) := by decide +kernel
theorem dX6_distance_31 : decode cX6_distance 31 = .ok (.iaload, 1) := by decide +kernel
theorem dX6_distance_32 : decode cX6_distance 32 = .ok (.bipush 100, 2) := by decide +kernel
theorem dX6_distance_34 : decode cX6_distance 34 = .ok (.if_icmp .ge 17, 3) := by decide +kernel
theorem dX6_distance_37 : decode cX6_distance 37 = .ok (.aload_n 0, 1) := by decide +kernel
theorem dX6_distance_38 : decode cX6_distance 38 = .ok (.getfield 29, 3) := by decide +kernel
theorem dX6_distance_41 : decode cX6_distance 41 = .ok (.bipush 35, 2) := by decide +kernel
theorem dX6_distance_43 : decode cX6_distance 43 = .ok (.iload_n 2, 1) := by decide +kernel
theorem dX6_distance_44 : decode cX6_distance 44 = .ok (.imul, 1) := by decide +kernel
theorem dX6_distance_45 : decode cX6_distance 45 = .ok (.iload_n 1, 1) := by decide +kernel
theorem dX6_distance_46 : decode cX6_distance 46 = .ok (.iadd, 1) := by decide +kernel
theorem dX6_distance_47 : decode cX6_distance 47 = .ok (.iaload, 1) := by decide +kernel
theorem dX6_distance_48 : decode cX6_distance 48 = .ok (.goto 5, 3) := by decide +kernel
theorem dX6_distance_51 : decode cX6_distance 51 = .ok (.bipush (-6), 2) := by decide +kernel
theorem dX6_distance_53 : decode cX6_distance 53 = .ok (.ireturn, 1) := by decide +kernel
set_option maxRecDepth 20000 in
theorem ggX6_untilOut_X6_putAside : GoodIn wsX6_untilOut wsX6_putAside := goodIn_r _ [5, 6, 7, 71, 72, 73, 74, 75, 76, 77, 78, 79, 80, 81, 82, 83, 84, 85, 86] (by decide +kernel) (by decide +kernel)
set_option maxRecDepth 20000 in
theorem gX6_untilOut_X6_putAside : GoodIn wsX6_untilOut (wsV RX6 146 RX6 yX6_putAside wsX6_putAside) := goodIn_app (goodIn_of _ (by decide +kernel)) ggX6_untilOut_X6_putAside
set_option maxRecDepth 20000 in
theorem ggX6_untilOut_X6_layWays : GoodIn wsX6_untilOut wsX6_layWays := goodIn_r _ [11, 12, 13, 14, 15, 16, 17, 18, 4, 19, 7, 20, 21, 22, 23, 24, 25, 26, 27, 28, 29, 30, 31, 32, 33, 34, 35, 36, 37, 38, 39, 40, 41, 71, 72, 73, 74, 75, 76, 77, 78, 79, 80, 81, 82, 83, 84, 85, 86] (by decide +kernel) (by decide +kernel)
set_option maxRecDepth 20000 in
theorem gX6_untilOut_X6_layWays : GoodIn wsX6_untilOut (wsV RX6 118 RX6 yX6_layWays wsX6_layWays) := goodIn_app (goodIn_of _ (by decide +kernel)) ggX6_untilOut_X6_layWays
set_option maxRecDepth 20000 in
theorem ggX6_untilOut_X6_emptied : GoodIn wsX6_untilOut wsX6_emptied := goodIn_r _ [45, 46, 47, 48, 4, 49, 7, 50, 51, 52, 53, 12, 54, 55, 56, 57, 58, 13, 59, 60, 61, 62, 63, 64, 65, 66, 15, 71, 72, 73, 74, 75, 76, 77, 78, 79, 80, 81, 82, 83, 84, 85, 86] (by decide +kernel) (by decide +kernel)
set_option maxRecDepth 20000 in
theorem gX6_untilOut_X6_emptied : GoodIn wsX6_untilOut (wsV RX6 149 RX6 yX6_emptied wsX6_emptied) := goodIn_app (goodIn_of _ (by decide +kernel)) ggX6_untilOut_X6_emptied
set_option maxRecDepth 20000 in
theorem ggX6_untilOut_X6_putBack : GoodIn wsX6_untilOut wsX6_putBack := goodIn_r _ [70, 7, 6, 71, 72, 73, 74, 75, 76, 77, 78, 79, 80, 81, 82, 83, 84, 85, 86] (by decide +kernel) (by decide +kernel)
set_option maxRecDepth 20000 in
theorem gX6_untilOut_X6_putBack : GoodIn wsX6_untilOut (wsV RX6 152 RX6 yX6_putBack wsX6_putBack) := goodIn_app (goodIn_of _ (by decide +kernel)) ggX6_untilOut_X6_putBack
theorem dX6_untilOut_0 : decode cX6_untilOut 0 = .ok (.aload_n 0, 1) := by decide +kernel
theorem dX6_untilOut_1 : decode cX6_untilOut 1 = .ok (.invokevirtual 146, 3) := by decide +kernel
theorem dX6_untilOut_4 : decode cX6_untilOut 4 = .ok (.aload_n 0, 1) := by decide +kernel
theorem dX6_untilOut_5 : decode cX6_untilOut 5 = .ok (.invokevirtual 118, 3) := by decide +kernel
theorem dX6_untilOut_8 : decode cX6_untilOut 8 = .ok (.aload_n 0, 1) := by decide +kernel
theorem dX6_untilOut_9 : decode cX6_untilOut 9 = .ok (.invokevirtual 149, 3) := by decide +kernel
theorem dX6_untilOut_12 : decode cX6_untilOut 12 = .ok (.istore_n 1, 1) := by decide +kernel
theorem dX6_untilOut_13 : decode cX6_untilOut 13 = .ok (.aload_n 0, 1) := by decide +kernel
theorem dX6_untilOut_14 : decode cX6_untilOut 14 = .ok (.invokevirtual 152, 3) := by decide +kernel
theorem dX6_untilOut_17 : decode cX6_untilOut 17 = .ok (.iload_n 1, 1) := by decide +kernel
theorem dX6_untilOut_18 : decode cX6_untilOut 18 = .ok (.ireturn, 1) := by decide +kernel
set_option maxRecDepth 20000 in
theorem ggX6_tries_X6_putAside : GoodIn wsX6_tries wsX6_putAside := goodIn_r _ [7, 8, 1, 76, 77, 78, 79, 80, 81, 82, 83, 84, 85, 86, 87, 88, 89, 90, 91] (by decide +kernel) (by decide +kernel)
set_option maxRecDepth 20000 in
theorem gX6_tries_X6_putAside : GoodIn wsX6_tries (wsV RX6 146 RX6 yX6_putAside wsX6_putAside) := goodIn_app (goodIn_of _ (by decide +kernel)) ggX6_tries_X6_putAside
set_option maxRecDepth 20000 in
theorem ggX6_tries_X6_ropeAt : GoodIn wsX6_tries wsX6_ropeAt := goodIn_r _ [11] (by decide +kernel) (by decide +kernel)
set_option maxRecDepth 20000 in
theorem gX6_tries_X6_ropeAt : GoodIn wsX6_tries (va_wsS RX6 59 yX6_ropeAt wsX6_ropeAt) := goodIn_app (goodIn_of _ (by decide +kernel)) ggX6_tries_X6_ropeAt
set_option maxRecDepth 20000 in
theorem ggX6_tries_X6_layWays : GoodIn wsX6_tries wsX6_layWays := goodIn_r _ [15, 16, 17, 18, 19, 20, 21, 22, 6, 23, 1, 24, 25, 26, 27, 28, 29, 30, 9, 10, 11, 31, 32, 33, 34, 35, 36, 37, 38, 39, 40, 41, 42, 76, 77, 78, 79, 80, 81, 82, 83, 84, 85, 86, 87, 88, 89, 90, 91] (by decide +kernel) (by decide +kernel)
set_option maxRecDepth 20000 in
theorem gX6_tries_X6_layWays : GoodIn wsX6_tries (wsV RX6 118 RX6 yX6_layWays wsX6_layWays) := goodIn_app (goodIn_of _ (by decide +kernel)) ggX6_tries_X6_layWays
set_option maxRecDepth 20000 in
theorem ggX6_tries_X6_shutIn : GoodIn wsX6_tries wsX6_shutIn := goodIn_r _ [46, 16, 1, 76, 77, 78, 79, 80, 81, 82, 83, 84, 85, 86, 87, 88, 89, 90, 91] (by decide +kernel) (by decide +kernel)
set_option maxRecDepth 20000 in
theorem gX6_tries_X6_shutIn : GoodIn wsX6_tries (wsV RX6 90 RX6 yX6_shutIn wsX6_shutIn) := goodIn_app (goodIn_of _ (by decide +kernel)) ggX6_tries_X6_shutIn
set_option maxRecDepth 20000 in
theorem ggX6_tries_X6_emptied : GoodIn wsX6_tries wsX6_emptied := goodIn_r _ [50, 51, 52, 53, 6, 54, 1, 43, 44, 45, 46, 16, 55, 56, 57, 58, 59, 17, 60, 61, 62, 63, 64, 65, 66, 67, 19, 76, 77, 78, 79, 80, 81, 82, 83, 84, 85, 86, 87, 88, 89, 90, 91] (by decide +kernel) (by decide +kernel)
set_option maxRecDepth 20000 in
theorem gX6_tries_X6_emptied : GoodIn wsX6_tries (wsV RX6 149 RX6 yX6_emptied wsX6_emptied) := goodIn_app (goodIn_of _ (by decide +kernel)) ggX6_tries_X6_emptied
set_option maxRecDepth 20000 in
theorem ggX6_tries_X6_uneven : GoodIn wsX6_tries wsX6_uneven := goodIn_r _ [71, 1, 76, 77, 78, 79, 80, 81, 82, 83, 84, 85, 86, 87, 88, 89, 90, 91] (by decide +kernel) (by decide +kernel)
set_option maxRecDepth 20000 in
theorem gX6_tries_X6_uneven : GoodIn wsX6_tries (wsV RX6 137 RX6 yX6_uneven wsX6_uneven) := goodIn_app (goodIn_of _ (by decide +kernel)) ggX6_tries_X6_uneven
set_option maxRecDepth 20000 in
theorem ggX6_tries_X6_putBack : GoodIn wsX6_tries wsX6_putBack := goodIn_r _ [75, 1, 8, 76, 77, 78, 79, 80, 81, 82, 83, 84, 85, 86, 87, 88, 89, 90, 91] (by decide +kernel) (by decide +kernel)
set_option maxRecDepth 20000 in
theorem gX6_tries_X6_putBack : GoodIn wsX6_tries (wsV RX6 152 RX6 yX6_putBack wsX6_putBack) := goodIn_app (goodIn_of _ (by decide +kernel)) ggX6_tries_X6_putBack
theorem dX6_tries_0 : decode cX6_tries 0 = .ok (.aload_n 0, 1) := by decide +kernel
theorem dX6_tries_1 : decode cX6_tries 1 = .ok (.invokevirtual 146, 3) := by decide +kernel
theorem dX6_tries_4 : decode cX6_tries 4 = .ok (.aload_n 0, 1) := by decide +kernel
theorem dX6_tries_5 : decode cX6_tries 5 = .ok (.getfield 7, 3) := by decide +kernel
theorem dX6_tries_8 : decode cX6_tries 8 = .ok (.iload_n 1, 1) := by decide +kernel
theorem dX6_tries_9 : decode cX6_tries 9 = .ok (.iconst 2, 1) := by decide +kernel
theorem dX6_tries_10 : decode cX6_tries 10 = .ok (.iload_n 2, 1) := by decide +kernel
theorem dX6_tries_11 : decode cX6_tries 11 = .ok (.iadd, 1) := by decide +kernel
theorem dX6_tries_12 : decode cX6_tries 12 = .ok (.invokestatic 59, 3) := by decide +kernel
theorem dX6_tries_15 : decode cX6_tries 15 = .ok (.dup2, 1) := by decide +kernel
theorem dX6_tries_16 : decode cX6_tries 16 = .ok (.iaload, 1) := by decide +kernel
theorem dX6_tries_17 : decode cX6_tries 17 = .ok (.iconst 1, 1) := by decide +kernel
theorem dX6_tries_18 : decode cX6_tries 18 = .ok (.ixor, 1) := by decide +kernel
theorem dX6_tries_19 : decode cX6_tries 19 = .ok (.iastore, 1) := by decide +kernel
theorem dX6_tries_20 : decode cX6_tries 20 = .ok (.aload_n 0, 1) := by decide +kernel
theorem dX6_tries_21 : decode cX6_tries 21 = .ok (.invokevirtual 118, 3) := by decide +kernel
theorem dX6_tries_24 : decode cX6_tries 24 = .ok (.aload_n 0, 1) := by decide +kernel
theorem dX6_tries_25 : decode cX6_tries 25 = .ok (.getfield 44, 3) := by decide +kernel
theorem dX6_tries_28 : decode cX6_tries 28 = .ok (.iconst 2, 1) := by decide +kernel
theorem dX6_tries_29 : decode cX6_tries 29 = .ok (.aload_n 0, 1) := by decide +kernel
theorem dX6_tries_30 : decode cX6_tries 30 = .ok (.invokevirtual 90, 3) := by decide +kernel
theorem dX6_tries_33 : decode cX6_tries 33 = .ok (.iastore, 1) := by decide +kernel
theorem dX6_tries_34 : decode cX6_tries 34 = .ok (.aload_n 0, 1) := by decide +kernel
theorem dX6_tries_35 : decode cX6_tries 35 = .ok (.getfield 44, 3) := by decide +kernel
theorem dX6_tries_38 : decode cX6_tries 38 = .ok (.iconst 0, 1) := by decide +kernel
theorem dX6_tries_39 : decode cX6_tries 39 = .ok (.aload_n 0, 1) := by decide +kernel
theorem dX6_tries_40 : decode cX6_tries 40 = .ok (.invokevirtual 149, 3) := by decide +kernel
theorem dX6_tries_43 : decode cX6_tries 43 = .ok (.iastore, 1) := by decide +kernel
theorem dX6_tries_44 : decode cX6_tries 44 = .ok (.aload_n 0, 1) := by decide +kernel
theorem dX6_tries_45 : decode cX6_tries 45 = .ok (.getfield 44, 3) := by decide +kernel
theorem dX6_tries_48 : decode cX6_tries 48 = .ok (.iconst 1, 1) := by decide +kernel
theorem dX6_tries_49 : decode cX6_tries 49 = .ok (.aload_n 0, 1) := by decide +kernel
theorem dX6_tries_50 : decode cX6_tries 50 = .ok (.invokevirtual 137, 3) := by decide +kernel
theorem dX6_tries_53 : decode cX6_tries 53 = .ok (.iastore, 1) := by decide +kernel
theorem dX6_tries_54 : decode cX6_tries 54 = .ok (.aload_n 0, 1) := by decide +kernel
theorem dX6_tries_55 : decode cX6_tries 55 = .ok (.invokevirtual 152, 3) := by decide +kernel
theorem dX6_tries_58 : decode cX6_tries 58 = .ok (.return_, 1) := by decide +kernel
set_option maxRecDepth 20000 in
theorem ggX6_ifRope_X6_isCell : GoodIn wsX6_ifRope wsX6_isCell := goodIn_r _ [5, 6, 7, 4, 8] (by decide +kernel) (by decide +kernel)
set_option maxRecDepth 20000 in
theorem gX6_ifRope_X6_isCell : GoodIn wsX6_ifRope (va_wsS RX6 102 yX6_isCell wsX6_isCell) := goodIn_app (goodIn_of _ (by decide +kernel)) ggX6_ifRope_X6_isCell
set_option maxRecDepth 20000 in
theorem ggX6_ifRope_X6_in : GoodIn wsX6_ifRope wsX6_in := goodIn_r _ [8] (by decide +kernel) (by decide +kernel)
set_option maxRecDepth 20000 in
theorem gX6_ifRope_X6_in : GoodIn wsX6_ifRope (va_wsS RX6 47 yX6_in wsX6_in) := goodIn_app (goodIn_of _ (by decide +kernel)) ggX6_ifRope_X6_in
set_option maxRecDepth 20000 in
theorem ggX6_ifRope_X6_isEdge : GoodIn wsX6_ifRope wsX6_isEdge := goodIn_r _ [11, 12, 13, 4, 14] (by decide +kernel) (by decide +kernel)
set_option maxRecDepth 20000 in
theorem gX6_ifRope_X6_isEdge : GoodIn wsX6_ifRope (va_wsS RX6 106 yX6_isEdge wsX6_isEdge) := goodIn_app (goodIn_of _ (by decide +kernel)) ggX6_ifRope_X6_isEdge
set_option maxRecDepth 20000 in
theorem ggX6_ifRope_X6_tries : GoodIn wsX6_ifRope wsX6_tries := goodIn_r _ [18, 19, 1, 20, 21, 22, 4, 23, 24, 25, 26, 27, 28, 29, 30, 31, 32, 33, 34, 35, 36, 37, 38, 39, 40, 41, 42, 43, 12, 13, 14, 44, 45, 46, 47, 48, 49, 50, 51, 52, 53, 54, 55, 56, 57, 58, 59, 60, 61, 62, 63, 64, 65, 66, 67, 68, 69, 70, 71, 72, 73, 74, 75, 76, 77, 78, 79, 80, 81, 82, 83, 84, 85, 86, 87, 88, 89, 90, 91, 92, 93, 94, 95, 96, 97, 98, 99, 100, 101, 102, 103, 104] (by decide +kernel) (by decide +kernel)
set_option maxRecDepth 20000 in
theorem gX6_ifRope_X6_tries : GoodIn wsX6_ifRope (wsV RX6 155 RX6 yX6_tries wsX6_tries) := goodIn_app (goodIn_of _ (by decide +kernel)) ggX6_ifRope_X6_tries
theorem dX6_ifRope_0 : decode cX6_ifRope 0 = .ok (.iload_n 1, 1) := by decide +kernel
theorem dX6_ifRope_1 : decode cX6_ifRope 1 = .ok (.invokestatic 102, 3) := by decide +kernel
theorem dX6_ifRope_4 : decode cX6_ifRope 4 = .ok (.ifCond .ne 5, 3) := by decide +kernel
theorem dX6_ifRope_7 : decode cX6_ifRope 7 = .ok (.iconst (-1), 1) := by decide +kernel
theorem dX6_ifRope_8 : decode cX6_ifRope 8 = .ok (.ireturn, 1) := by decide +kernel
theorem dX6_ifRope_9 : decode cX6_ifRope 9 = .ok (.iload_n 2, 1) := by decide +kernel
theorem dX6_ifRope_10 : decode cX6_ifRope 10 = .ok (.iconst 0, 1) := by decide +kernel
theorem dX6_ifRope_11 : decode cX6_ifRope 11 = .ok (.iconst 1, 1) := by decide +kernel
theorem dX6_ifRope_12 : decode cX6_ifRope 12 = .ok (.invokestatic 47, 3) := by decide +kernel
theorem dX6_ifRope_15 : decode cX6_ifRope 15 = .ok (.ifCond .eq 12, 3) := by decide +kernel
theorem dX6_ifRope_18 : decode cX6_ifRope 18 = .ok (.iload_n 3, 1) := by decide +kernel
theorem dX6_ifRope_19 : decode cX6_ifRope 19 = .ok (.iconst 0, 1) := by decide +kernel
theorem dX6_ifRope_20 : decode cX6_ifRope 20 = .ok (.iconst 2, 1) := by decide +kernel
theorem dX6_ifRope_21 : decode cX6_ifRope 21 = .ok (.invokestatic 47, 3) := by decide +kernel
theorem dX6_ifRope_24 : decode cX6_ifRope 24 = .ok (.ifCond .ne 6, 3) := by decide +kernel
theorem dX6_ifRope_27 : decode cX6_ifRope 27 = .ok (.bipush (-2), 2) := by decide +kernel
theorem dX6_ifRope_29 : decode cX6_ifRope 29 = .ok (.ireturn, 1) := by decide +kernel
theorem dX6_ifRope_30 : decode cX6_ifRope 30 = .ok (.iload_n 1, 1) := by decide +kernel
theorem dX6_ifRope_31 : decode cX6_ifRope 31 = .ok (.iload_n 2, 1) := by decide +kernel
theorem dX6_ifRope_32 : decode cX6_ifRope 32 = .ok (.invokestatic 106, 3) := by decide +kernel
theorem dX6_ifRope_35 : decode cX6_ifRope 35 = .ok (.ifCond .ne 6, 3) := by decide +kernel
theorem dX6_ifRope_38 : decode cX6_ifRope 38 = .ok (.bipush (-5), 2) := by decide +kernel
theorem dX6_ifRope_40 : decode cX6_ifRope 40 = .ok (.ireturn, 1) := by decide +kernel
theorem dX6_ifRope_41 : decode cX6_ifRope 41 = .ok (.aload_n 0, 1) := by decide +kernel
theorem dX6_ifRope_42 : decode cX6_ifRope 42 = .ok (.iload_n 1, 1) := by decide +kernel
theorem dX6_ifRope_43 : decode cX6_ifRope 43 = .ok (.iload_n 2, 1) := by decide +kernel
theorem dX6_ifRope_44 : decode cX6_ifRope 44 = .ok (.invokevirtual 155, 3) := by decide +kernel
theorem dX6_ifRope_47 : decode cX6_ifRope 47 = .ok (.aload_n 0, 1) := by decide +kernel
theorem dX6_ifRope_48 : decode cX6_ifRope 48 = .ok (.getfield 44, 3) := by decide +kernel
theorem dX6_ifRope_51 : decode cX6_ifRope 51 = .ok (.iload_n 3, 1) := by decide +kernel
theorem dX6_ifRope_52 : decode cX6_ifRope 52 = .ok (.iaload, 1) := by decide +kernel
theorem dX6_ifRope_53 : decode cX6_ifRope 53 = .ok (.ireturn, 1) := by decide +kernel
set_option maxRecDepth 20000 in
theorem ggX6_bestRope_X6_in : GoodIn wsX6_bestRope wsX6_in := goodIn_r _ [6] (by decide +kernel) (by decide +kernel)
set_option maxRecDepth 20000 in
theorem gX6_bestRope_X6_in : GoodIn wsX6_bestRope (va_wsS RX6 47 yX6_in wsX6_in) := goodIn_app (goodIn_of _ (by decide +kernel)) ggX6_bestRope_X6_in
set_option maxRecDepth 20000 in
theorem ggX6_bestRope_X6_layWays : GoodIn wsX6_bestRope wsX6_layWays := goodIn_r _ [10, 11, 12, 13, 14, 15, 16, 17, 5, 18, 1, 19, 20, 21, 22, 23, 24, 25, 26, 27, 28, 29, 30, 31, 32, 33, 34, 35, 36, 37, 38, 39, 40, 86, 87, 88, 89, 90, 91, 92, 93, 94, 95, 96, 97, 98, 99, 100, 101] (by decide +kernel) (by decide +kernel)
set_option maxRecDepth 20000 in
theorem gX6_bestRope_X6_layWays : GoodIn wsX6_bestRope (wsV RX6 118 RX6 yX6_layWays wsX6_layWays) := goodIn_app (goodIn_of _ (by decide +kernel)) ggX6_bestRope_X6_layWays
set_option maxRecDepth 20000 in
theorem ggX6_bestRope_X6_shutIn : GoodIn wsX6_bestRope wsX6_shutIn := goodIn_r _ [44, 11, 1, 86, 87, 88, 89, 90, 91, 92, 93, 94, 95, 96, 97, 98, 99, 100, 101] (by decide +kernel) (by decide +kernel)
set_option maxRecDepth 20000 in
theorem gX6_bestRope_X6_shutIn : GoodIn wsX6_bestRope (wsV RX6 90 RX6 yX6_shutIn wsX6_shutIn) := goodIn_app (goodIn_of _ (by decide +kernel)) ggX6_bestRope_X6_shutIn
set_option maxRecDepth 20000 in
theorem ggX6_bestRope_X6_isEdge : GoodIn wsX6_bestRope wsX6_isEdge := goodIn_r _ [47, 23, 24, 5, 25] (by decide +kernel) (by decide +kernel)
set_option maxRecDepth 20000 in
theorem gX6_bestRope_X6_isEdge : GoodIn wsX6_bestRope (va_wsS RX6 106 yX6_isEdge wsX6_isEdge) := goodIn_app (goodIn_of _ (by decide +kernel)) ggX6_bestRope_X6_isEdge
set_option maxRecDepth 20000 in
theorem ggX6_bestRope_X6_tries : GoodIn wsX6_bestRope wsX6_tries := goodIn_r _ [51, 1, 2, 52, 53, 54, 5, 55, 56, 26, 27, 28, 7, 8, 9, 10, 11, 12, 13, 14, 15, 16, 17, 18, 19, 20, 21, 22, 23, 24, 25, 29, 30, 31, 32, 33, 34, 35, 36, 37, 38, 39, 40, 41, 42, 43, 44, 57, 58, 59, 60, 61, 62, 63, 64, 65, 66, 67, 68, 69, 70, 71, 72, 73, 74, 75, 76, 77, 78, 79, 80, 81, 82, 83, 84, 85, 86, 87, 88, 89, 90, 91, 92, 93, 94, 95, 96, 97, 98, 99, 100, 101] (by decide +kernel) (by decide +kernel)
set_option maxRecDepth 20000 in
theorem gX6_bestRope_X6_tries : GoodIn wsX6_bestRope (wsV RX6 155 RX6 yX6_tries wsX6_tries) := goodIn_app (goodIn_of _ (by decide +kernel)) ggX6_bestRope_X6_tries
theorem dX6_bestRope_0 : decode cX6_bestRope 0 = .ok (.iload_n 1, 1) := by decide +kernel
theorem dX6_bestRope_1 : decode cX6_bestRope 1 = .ok (.iconst 0, 1) := by decide +kernel
theorem dX6_bestRope_2 : decode cX6_bestRope 2 = .ok (.iconst 2, 1) := by decide +kernel
theorem dX6_bestRope_3 : decode cX6_bestRope 3 = .ok (.invokestatic 47, 3) := by decide +kernel
theorem dX6_bestRope_6 : decode cX6_bestRope 6 = .ok (.ifCond .ne 6, 3) := by decide +kernel
theorem dX6_bestRope_9 : decode cX6_bestRope 9 = .ok (.bipush (-2), 2) := by decide +kernel
theorem dX6_bestRope_11 : decode cX6_bestRope 11 = .ok (.ireturn, 1) := by decide +kernel
theorem dX6_bestRope_12 : decode cX6_bestRope 12 = .ok (.aload_n 0, 1) := by decide +kernel
theorem dX6_bestRope_13 : decode cX6_bestRope 13 = .ok (.invokevirtual 118, 3) := by decide +kernel
theorem dX6_bestRope_16 : decode cX6_bestRope 16 = .ok (.aload_n 0, 1) := by decide +kernel
theorem dX6_bestRope_17 : decode cX6_bestRope 17 = .ok (.invokevirtual 90, 3) := by decide +kernel
theorem dX6_bestRope_20 : decode cX6_bestRope 20 = .ok (.istore_n 2, 1) := by decide +kernel
theorem dX6_bestRope_21 : decode cX6_bestRope 21 = .ok (.bipush (-6), 2) := by decide +kernel
theorem dX6_bestRope_23 : decode cX6_bestRope 23 = .ok (.istore_n 3, 1) := by decide +kernel
theorem dX6_bestRope_24 : decode cX6_bestRope 24 = .ok (.iconst 0, 1) := by decide +kernel
theorem dX6_bestRope_25 : decode cX6_bestRope 25 = .ok (.istore 4, 2) := by decide +kernel
theorem dX6_bestRope_27 : decode cX6_bestRope 27 = .ok (.iconst 0, 1) := by decide +kernel
theorem dX6_bestRope_28 : decode cX6_bestRope 28 = .ok (.istore 5, 2) := by decide +kernel
theorem dX6_bestRope_30 : decode cX6_bestRope 30 = .ok (.iconst 0, 1) := by decide +kernel
theorem dX6_bestRope_31 : decode cX6_bestRope 31 = .ok (.istore 6, 2) := by decide +kernel
theorem dX6_bestRope_33 : decode cX6_bestRope 33 = .ok (.iload 6, 2) := by decide +kernel
theorem dX6_bestRope_35 : decode cX6_bestRope 35 = .ok (.bipush 70, 2) := by decide +kernel
theorem dX6_bestRope_37 : decode cX6_bestRope 37 = .ok (.if_icmp .ge 175, 3) := by decide +kernel
theorem dX6_bestRope_40 : decode cX6_bestRope 40 = .ok (.iload 6, 2) := by decide +kernel
theorem dX6_bestRope_42 : decode cX6_bestRope 42 = .ok (.iconst 2, 1) := by decide +kernel
theorem dX6_bestRope_43 : decode cX6_bestRope 43 = .ok (.idiv, 1) := by decide +kernel
theorem dX6_bestRope_44 : decode cX6_bestRope 44 = .ok (.iload 6, 2) := by decide +kernel
theorem dX6_bestRope_46 : decode cX6_bestRope 46 = .ok (.iconst 2, 1) := by decide +kernel
theorem dX6_bestRope_47 : decode cX6_bestRope 47 = .ok (.irem, 1) := by decide +kernel
theorem dX6_bestRope_48 : decode cX6_bestRope 48 = .ok (.invokestatic 106, 3) := by decide +kernel
theorem dX6_bestRope_51 : decode cX6_bestRope 51 = .ok (.ifCond .eq 155, 3) := by decide +kernel
theorem dX6_bestRope_54 : decode cX6_bestRope 54 = .ok (.aload_n 0, 1) := by decide +kernel
theorem dX6_bestRope_55 : decode cX6_bestRope 55 = .ok (.getfield 7, 3) := by decide +kernel
theorem dX6_bestRope_58 : decode cX6_bestRope 58 = .ok (.bipush 91, 2) := by decide +kernel
theorem dX6_bestRope_60 : decode cX6_bestRope 60 = .ok (.iload 6, 2) := by decide +kernel
theorem dX6_bestRope_62 : decode cX6_bestRope 62 = .ok (.iadd, 1) := by decide +kernel
theorem dX6_bestRope_63 : decode cX6_bestRope 63 = .ok (.iaload, 1) := by decide +kernel
theorem dX6_bestRope_64 : decode cX6_bestRope 64 = .ok (.ifCond .ne 142, 3) := by decide +kernel
theorem dX6_bestRope_67 : decode cX6_bestRope 67 = .ok (.aload_n 0, 1) := by decide +kernel
theorem dX6_bestRope_68 : decode cX6_bestRope 68 = .ok (.iload 6, 2) := by decide +kernel
theorem dX6_bestRope_70 : decode cX6_bestRope 70 = .ok (.iconst 2, 1) := by decide +kernel
theorem dX6_bestRope_71 : decode cX6_bestRope 71 = .ok (.idiv, 1) := by decide +kernel
theorem dX6_bestRope_72 : decode cX6_bestRope 72 = .ok (.iload 6, 2) := by decide +kernel
theorem dX6_bestRope_74 : decode cX6_bestRope 74 = .ok (.iconst 2, 1) := by decide +kernel
theorem dX6_bestRope_75 : decode cX6_bestRope 75 = .ok (.irem, 1) := by decide +kernel
theorem dX6_bestRope_76 : decode cX6_bestRope 76 = .ok (.invokevirtual 155, 3) := by decide +kernel
theorem dX6_bestRope_79 : decode cX6_bestRope 79 = .ok (.aload_n 0, 1) := by decide +kernel
theorem dX6_bestRope_80 : decode cX6_bestRope 80 = .ok (.getfield 44, 3) := by decide +kernel
theorem dX6_bestRope_83 : decode cX6_bestRope 83 = .ok (.iconst 2, 1) := by decide +kernel
theorem dX6_bestRope_84 : decode cX6_bestRope 84 = .ok (.iaload, 1) := by decide +kernel
theorem dX6_bestRope_85 : decode cX6_bestRope 85 = .ok (.iload_n 2, 1) := by decide +kernel
theorem dX6_bestRope_86 : decode cX6_bestRope 86 = .ok (.if_icmp .gt 18, 3) := by decide +kernel
theorem dX6_bestRope_89 : decode cX6_bestRope 89 = .ok (.aload_n 0, 1) := by decide +kernel
theorem dX6_bestRope_90 : decode cX6_bestRope 90 = .ok (.getfield 44, 3) := by decide +kernel
theorem dX6_bestRope_93 : decode cX6_bestRope 93 = .ok (.iconst 0, 1) := by decide +kernel
theorem dX6_bestRope_94 : decode cX6_bestRope 94 = .ok (.iaload, 1) := by decide +kernel
theorem dX6_bestRope_95 : decode cX6_bestRope 95 = .ok (.bipush (-6), 2) := by decide +kernel
theorem dX6_bestRope_97 : decode cX6_bestRope 97 = .ok (.if_icmp .eq 7, 3) := by decide +kernel
theorem dX6_bestRope_100 : decode cX6_bestRope 100 = .ok (.iconst 1, 1) := by decide +kernel
theorem dX6_bestRope_101 : decode cX6_bestRope 101 = .ok (.goto 4, 3) := by decide +kernel
theorem dX6_bestRope_104 : decode cX6_bestRope 104 = .ok (.iconst 0, 1) := by decide +kernel
theorem dX6_bestRope_105 : decode cX6_bestRope 105 = .ok (.istore 7, 2) := by decide +kernel
theorem dX6_bestRope_107 : decode cX6_bestRope 107 = .ok (.iload 7, 2) := by decide +kernel
theorem dX6_bestRope_109 : decode cX6_bestRope 109 = .ok (.ifCond .eq 46, 3) := by decide +kernel
theorem dX6_bestRope_112 : decode cX6_bestRope 112 = .ok (.iload_n 3, 1) := by decide +kernel
theorem dX6_bestRope_113 : decode cX6_bestRope 113 = .ok (.bipush (-6), 2) := by decide +kernel
theorem dX6_bestRope_115 : decode cX6_bestRope 115 = .ok (.if_icmp .eq 36, 3) := by decide +kernel
theorem dX6_bestRope_118 : decode cX6_bestRope 118 = .ok (.aload_n 0, 1) := by decide +kernel
theorem dX6_bestRope_119 : decode cX6_bestRope 119 = .ok (.getfield 44, 3) := by decide +kernel
theorem dX6_bestRope_122 : decode cX6_bestRope 122 = .ok (.iconst 1, 1) := by decide +kernel
theorem dX6_bestRope_123 : decode cX6_bestRope 123 = .ok (.iaload, 1) := by decide +kernel
theorem dX6_bestRope_124 : decode cX6_bestRope 124 = .ok (.iload 4, 2) := by decide +kernel
theorem dX6_bestRope_126 : decode cX6_bestRope 126 = .ok (.if_icmp .lt 25, 3) := by decide +kernel
theorem dX6_bestRope_129 : decode cX6_bestRope 129 = .ok (.aload_n 0, 1) := by decide +kernel
theorem dX6_bestRope_130 : decode cX6_bestRope 130 = .ok (.getfield 44, 3) := by decide +kernel
theorem dX6_bestRope_133 : decode cX6_bestRope 133 = .ok (.iconst 1, 1) := by decide +kernel
theorem dX6_bestRope_134 : decode cX6_bestRope 134 = .ok (.iaload, 1) := by decide +kernel
theorem dX6_bestRope_135 : decode cX6_bestRope 135 = .ok (.iload 4, 2) := by decide +kernel
theorem dX6_bestRope_137 : decode cX6_bestRope 137 = .ok (.if_icmp .ne 18, 3) := by decide +kernel
theorem dX6_bestRope_140 : decode cX6_bestRope 140 = .ok (.aload_n 0, 1) := by decide +kernel
theorem dX6_bestRope_141 : decode cX6_bestRope 141 = .ok (.getfield 44, 3) := by decide +kernel
theorem dX6_bestRope_144 : decode cX6_bestRope 144 = .ok (.iconst 0, 1) := by decide +kernel
theorem dX6_bestRope_145 : decode cX6_bestRope 145 = .ok (.iaload, 1) := by decide +kernel
theorem dX6_bestRope_146 : decode cX6_bestRope 146 = .ok (.iload 5, 2) := by decide +kernel
theorem dX6_bestRope_148 : decode cX6_bestRope 148 = .ok (.if_icmp .ge 7, 3) := by decide +kernel
theorem dX6_bestRope_151 : decode cX6_bestRope 151 = .ok (.iconst 1, 1) := by decide +kernel
theorem dX6_bestRope_152 : decode cX6_bestRope 152 = .ok (.goto 4, 3) := by decide +kernel
theorem dX6_bestRope_155 : decode cX6_bestRope 155 = .ok (.iconst 0, 1) := by decide +kernel
theorem dX6_bestRope_156 : decode cX6_bestRope 156 = .ok (.istore 8, 2) := by decide +kernel
theorem dX6_bestRope_158 : decode cX6_bestRope 158 = .ok (.iload 8, 2) := by decide +kernel
theorem dX6_bestRope_160 : decode cX6_bestRope 160 = .ok (.ifCond .eq 8, 3) := by decide +kernel
theorem dX6_bestRope_163 : decode cX6_bestRope 163 = .ok (.iload 6, 2) := by decide +kernel
theorem dX6_bestRope_165 : decode cX6_bestRope 165 = .ok (.goto 4, 3) := by decide +kernel
theorem dX6_bestRope_168 : decode cX6_bestRope 168 = .ok (.iload_n 3, 1) := by decide +kernel
theorem dX6_bestRope_169 : decode cX6_bestRope 169 = .ok (.istore_n 3, 1) := by decide +kernel
theorem dX6_bestRope_170 : decode cX6_bestRope 170 = .ok (.iload 8, 2) := by decide +kernel
theorem dX6_bestRope_172 : decode cX6_bestRope 172 = .ok (.ifCond .eq 12, 3) := by decide +kernel
theorem dX6_bestRope_175 : decode cX6_bestRope 175 = .ok (.aload_n 0, 1) := by decide +kernel
theorem dX6_bestRope_176 : decode cX6_bestRope 176 = .ok (.getfield 44, 3) := by decide +kernel
theorem dX6_bestRope_179 : decode cX6_bestRope 179 = .ok (.iconst 1, 1) := by decide +kernel
theorem dX6_bestRope_180 : decode cX6_bestRope 180 = .ok (.iaload, 1) := by decide +kernel
theorem dX6_bestRope_181 : decode cX6_bestRope 181 = .ok (.goto 5, 3) := by decide +kernel
theorem dX6_bestRope_184 : decode cX6_bestRope 184 = .ok (.iload 4, 2) := by decide +kernel
theorem dX6_bestRope_186 : decode cX6_bestRope 186 = .ok (.istore 4, 2) := by decide +kernel
theorem dX6_bestRope_188 : decode cX6_bestRope 188 = .ok (.iload 8, 2) := by decide +kernel
theorem dX6_bestRope_190 : decode cX6_bestRope 190 = .ok (.ifCond .eq 12, 3) := by decide +kernel
theorem dX6_bestRope_193 : decode cX6_bestRope 193 = .ok (.aload_n 0, 1) := by decide +kernel
theorem dX6_bestRope_194 : decode cX6_bestRope 194 = .ok (.getfield 44, 3) := by decide +kernel
theorem dX6_bestRope_197 : decode cX6_bestRope 197 = .ok (.iconst 0, 1) := by decide +kernel
theorem dX6_bestRope_198 : decode cX6_bestRope 198 = .ok (.iaload, 1) := by decide +kernel
theorem dX6_bestRope_199 : decode cX6_bestRope 199 = .ok (.goto 5, 3) := by decide +kernel
theorem dX6_bestRope_202 : decode cX6_bestRope 202 = .ok (.iload 5, 2) := by decide +kernel
theorem dX6_bestRope_204 : decode cX6_bestRope 204 = .ok (.istore 5, 2) := by decide +kernel
theorem dX6_bestRope_206 : decode cX6_bestRope 206 = .ok (.iinc 6 1, 3) := by decide +kernel
theorem dX6_bestRope_209 : decode cX6_bestRope 209 = .ok (.goto (-176), 3) := by decide +kernel
theorem dX6_bestRope_212 : decode cX6_bestRope 212 = .ok (.iload_n 3, 1) := by decide +kernel
theorem dX6_bestRope_213 : decode cX6_bestRope 213 = .ok (.bipush (-6), 2) := by decide +kernel
end
section
theorem dX6_bestRope_215 : decode cX6_bestRope 215 = .ok (.if_icmp .ne 8, 3) := by decide +kernel
theorem dX6_bestRope_218 : decode cX6_bestRope 218 = .ok (.bipush (-6), 2) := by decide +kernel
theorem dX6_bestRope_220 : decode cX6_bestRope 220 = .ok (.goto 23, 3) := by decide +kernel
theorem dX6_bestRope_223 : decode cX6_bestRope 223 = .ok (.iload_n 1, 1) := by decide +kernel
theorem dX6_bestRope_224 : decode cX6_bestRope 224 = .ok (.ifCond .ne 7, 3) := by decide +kernel
theorem dX6_bestRope_227 : decode cX6_bestRope 227 = .ok (.iload_n 3, 1) := by decide +kernel
theorem dX6_bestRope_228 : decode cX6_bestRope 228 = .ok (.goto 15, 3) := by decide +kernel
theorem dX6_bestRope_231 : decode cX6_bestRope 231 = .ok (.iload_n 1, 1) := by decide +kernel
theorem dX6_bestRope_232 : decode cX6_bestRope 232 = .ok (.iconst 1, 1) := by decide +kernel
theorem dX6_bestRope_233 : decode cX6_bestRope 233 = .ok (.if_icmp .ne 8, 3) := by decide +kernel
theorem dX6_bestRope_236 : decode cX6_bestRope 236 = .ok (.iload 4, 2) := by decide +kernel
theorem dX6_bestRope_238 : decode cX6_bestRope 238 = .ok (.goto 5, 3) := by decide +kernel
theorem dX6_bestRope_241 : decode cX6_bestRope 241 = .ok (.iload 5, 2) := by decide +kernel
theorem dX6_bestRope_243 : decode cX6_bestRope 243 = .ok (.ireturn, 1) := by decide +kernel
set_option maxRecDepth 20000 in
theorem ggX6_waiting_X6_putAside : GoodIn wsX6_waiting wsX6_putAside := goodIn_r _ [6, 7, 1, 71, 72, 73, 74, 75, 76, 77, 78, 79, 80, 81, 82, 83, 84, 85, 86] (by decide +kernel) (by decide +kernel)
set_option maxRecDepth 20000 in
theorem gX6_waiting_X6_putAside : GoodIn wsX6_waiting (wsV RX6 146 RX6 yX6_putAside wsX6_putAside) := goodIn_app (goodIn_of _ (by decide +kernel)) ggX6_waiting_X6_putAside
set_option maxRecDepth 20000 in
theorem ggX6_waiting_X6_layWays : GoodIn wsX6_waiting wsX6_layWays := goodIn_r _ [11, 12, 13, 14, 15, 16, 17, 18, 5, 19, 1, 20, 21, 22, 23, 24, 25, 26, 27, 28, 29, 30, 31, 32, 33, 34, 35, 36, 37, 38, 39, 40, 41, 71, 72, 73, 74, 75, 76, 77, 78, 79, 80, 81, 82, 83, 84, 85, 86] (by decide +kernel) (by decide +kernel)
set_option maxRecDepth 20000 in
theorem gX6_waiting_X6_layWays : GoodIn wsX6_waiting (wsV RX6 118 RX6 yX6_layWays wsX6_layWays) := goodIn_app (goodIn_of _ (by decide +kernel)) ggX6_waiting_X6_layWays
set_option maxRecDepth 20000 in
theorem ggX6_waiting_X6_emptied : GoodIn wsX6_waiting wsX6_emptied := goodIn_r _ [45, 46, 47, 48, 5, 49, 1, 50, 51, 52, 53, 12, 54, 55, 56, 57, 58, 13, 59, 60, 61, 62, 63, 64, 65, 66, 15, 71, 72, 73, 74, 75, 76, 77, 78, 79, 80, 81, 82, 83, 84, 85, 86] (by decide +kernel) (by decide +kernel)
set_option maxRecDepth 20000 in
theorem gX6_waiting_X6_emptied : GoodIn wsX6_waiting (wsV RX6 149 RX6 yX6_emptied wsX6_emptied) := goodIn_app (goodIn_of _ (by decide +kernel)) ggX6_waiting_X6_emptied
set_option maxRecDepth 20000 in
theorem ggX6_waiting_X6_putBack : GoodIn wsX6_waiting wsX6_putBack := goodIn_r _ [70, 1, 7, 71, 72, 73, 74, 75, 76, 77, 78, 79, 80, 81, 82, 83, 84, 85, 86] (by decide +kernel) (by decide +kernel)
set_option maxRecDepth 20000 in
theorem gX6_waiting_X6_putBack : GoodIn wsX6_waiting (wsV RX6 152 RX6 yX6_putBack wsX6_putBack) := goodIn_app (goodIn_of _ (by decide +kernel)) ggX6_waiting_X6_putBack
theorem dX6_waiting_0 : decode cX6_waiting 0 = .ok (.aload_n 0, 1) := by decide +kernel
theorem dX6_waiting_1 : decode cX6_waiting 1 = .ok (.invokevirtual 146, 3) := by decide +kernel
theorem dX6_waiting_4 : decode cX6_waiting 4 = .ok (.aload_n 0, 1) := by decide +kernel
theorem dX6_waiting_5 : decode cX6_waiting 5 = .ok (.invokevirtual 118, 3) := by decide +kernel
theorem dX6_waiting_8 : decode cX6_waiting 8 = .ok (.aload_n 0, 1) := by decide +kernel
theorem dX6_waiting_9 : decode cX6_waiting 9 = .ok (.getfield 7, 3) := by decide +kernel
theorem dX6_waiting_12 : decode cX6_waiting 12 = .ok (.iconst 3, 1) := by decide +kernel
theorem dX6_waiting_13 : decode cX6_waiting 13 = .ok (.iaload, 1) := by decide +kernel
theorem dX6_waiting_14 : decode cX6_waiting 14 = .ok (.istore_n 1, 1) := by decide +kernel
theorem dX6_waiting_15 : decode cX6_waiting 15 = .ok (.aload_n 0, 1) := by decide +kernel
theorem dX6_waiting_16 : decode cX6_waiting 16 = .ok (.invokevirtual 149, 3) := by decide +kernel
theorem dX6_waiting_19 : decode cX6_waiting 19 = .ok (.istore_n 2, 1) := by decide +kernel
theorem dX6_waiting_20 : decode cX6_waiting 20 = .ok (.aload_n 0, 1) := by decide +kernel
theorem dX6_waiting_21 : decode cX6_waiting 21 = .ok (.getfield 7, 3) := by decide +kernel
theorem dX6_waiting_24 : decode cX6_waiting 24 = .ok (.iconst 3, 1) := by decide +kernel
theorem dX6_waiting_25 : decode cX6_waiting 25 = .ok (.iaload, 1) := by decide +kernel
theorem dX6_waiting_26 : decode cX6_waiting 26 = .ok (.iload_n 1, 1) := by decide +kernel
theorem dX6_waiting_27 : decode cX6_waiting 27 = .ok (.isub, 1) := by decide +kernel
theorem dX6_waiting_28 : decode cX6_waiting 28 = .ok (.istore_n 3, 1) := by decide +kernel
theorem dX6_waiting_29 : decode cX6_waiting 29 = .ok (.aload_n 0, 1) := by decide +kernel
theorem dX6_waiting_30 : decode cX6_waiting 30 = .ok (.invokevirtual 152, 3) := by decide +kernel
theorem dX6_waiting_33 : decode cX6_waiting 33 = .ok (.iload_n 3, 1) := by decide +kernel
theorem dX6_waiting_34 : decode cX6_waiting 34 = .ok (.ireturn, 1) := by decide +kernel
set_option maxRecDepth 20000 in
theorem ggX6_put_X6_in : GoodIn wsX6_put wsX6_in := goodIn_r _ [7] (by decide +kernel) (by decide +kernel)
set_option maxRecDepth 20000 in
theorem gX6_put_X6_in : GoodIn wsX6_put (va_wsS RX6 47 yX6_in wsX6_in) := goodIn_app (goodIn_of _ (by decide +kernel)) ggX6_put_X6_in
theorem dX6_put_0 : decode cX6_put 0 = .ok (.iconst 0, 1) := by decide +kernel
theorem dX6_put_1 : decode cX6_put 1 = .ok (.istore_n 3, 1) := by decide +kernel
theorem dX6_put_2 : decode cX6_put 2 = .ok (.iconst 0, 1) := by decide +kernel
theorem dX6_put_3 : decode cX6_put 3 = .ok (.istore 4, 2) := by decide +kernel
theorem dX6_put_5 : decode cX6_put 5 = .ok (.iconst 0, 1) := by decide +kernel
theorem dX6_put_6 : decode cX6_put 6 = .ok (.istore 5, 2) := by decide +kernel
theorem dX6_put_8 : decode cX6_put 8 = .ok (.iload 5, 2) := by decide +kernel
theorem dX6_put_10 : decode cX6_put 10 = .ok (.bipush 8, 2) := by decide +kernel
theorem dX6_put_12 : decode cX6_put 12 = .ok (.if_icmp .ge 89, 3) := by decide +kernel
theorem dX6_put_15 : decode cX6_put 15 = .ok (.lload_n 1, 1) := by decide +kernel
theorem dX6_put_16 : decode cX6_put 16 = .ok (.bipush 8, 2) := by decide +kernel
theorem dX6_put_18 : decode cX6_put 18 = .ok (.iload 5, 2) := by decide +kernel
theorem dX6_put_20 : decode cX6_put 20 = .ok (.imul, 1) := by decide +kernel
theorem dX6_put_21 : decode cX6_put 21 = .ok (.lushr, 1) := by decide +kernel
theorem dX6_put_22 : decode cX6_put 22 = .ok (.ldc2_w 159, 3) := by decide +kernel
theorem dX6_put_25 : decode cX6_put 25 = .ok (.land, 1) := by decide +kernel
theorem dX6_put_26 : decode cX6_put 26 = .ok (.l2i, 1) := by decide +kernel
theorem dX6_put_27 : decode cX6_put 27 = .ok (.istore 6, 2) := by decide +kernel
theorem dX6_put_29 : decode cX6_put 29 = .ok (.iload 5, 2) := by decide +kernel
theorem dX6_put_31 : decode cX6_put 31 = .ok (.ifCond .le 19, 3) := by decide +kernel
theorem dX6_put_34 : decode cX6_put 34 = .ok (.lload_n 1, 1) := by decide +kernel
theorem dX6_put_35 : decode cX6_put 35 = .ok (.bipush 8, 2) := by decide +kernel
theorem dX6_put_37 : decode cX6_put 37 = .ok (.iload 5, 2) := by decide +kernel
theorem dX6_put_39 : decode cX6_put 39 = .ok (.imul, 1) := by decide +kernel
theorem dX6_put_40 : decode cX6_put 40 = .ok (.lushr, 1) := by decide +kernel
theorem dX6_put_41 : decode cX6_put 41 = .ok (.lconst 0, 1) := by decide +kernel
theorem dX6_put_42 : decode cX6_put 42 = .ok (.lcmp, 1) := by decide +kernel
theorem dX6_put_43 : decode cX6_put 43 = .ok (.ifCond .ne 7, 3) := by decide +kernel
theorem dX6_put_46 : decode cX6_put 46 = .ok (.iconst 1, 1) := by decide +kernel
theorem dX6_put_47 : decode cX6_put 47 = .ok (.goto 4, 3) := by decide +kernel
theorem dX6_put_50 : decode cX6_put 50 = .ok (.iconst 0, 1) := by decide +kernel
theorem dX6_put_51 : decode cX6_put 51 = .ok (.istore 7, 2) := by decide +kernel
theorem dX6_put_53 : decode cX6_put 53 = .ok (.iload 4, 2) := by decide +kernel
theorem dX6_put_55 : decode cX6_put 55 = .ok (.ifCond .ne 20, 3) := by decide +kernel
theorem dX6_put_58 : decode cX6_put 58 = .ok (.iload 7, 2) := by decide +kernel
theorem dX6_put_60 : decode cX6_put 60 = .ok (.ifCond .ne 19, 3) := by decide +kernel
theorem dX6_put_63 : decode cX6_put 63 = .ok (.iload 6, 2) := by decide +kernel
theorem dX6_put_65 : decode cX6_put 65 = .ok (.bipush 33, 2) := by decide +kernel
theorem dX6_put_67 : decode cX6_put 67 = .ok (.bipush 126, 2) := by decide +kernel
theorem dX6_put_69 : decode cX6_put 69 = .ok (.invokestatic 47, 3) := by decide +kernel
theorem dX6_put_72 : decode cX6_put 72 = .ok (.ifCond .ne 7, 3) := by decide +kernel
theorem dX6_put_75 : decode cX6_put 75 = .ok (.iconst 1, 1) := by decide +kernel
theorem dX6_put_76 : decode cX6_put 76 = .ok (.goto 4, 3) := by decide +kernel
theorem dX6_put_79 : decode cX6_put 79 = .ok (.iconst 0, 1) := by decide +kernel
theorem dX6_put_80 : decode cX6_put 80 = .ok (.istore 4, 2) := by decide +kernel
theorem dX6_put_82 : decode cX6_put 82 = .ok (.iload_n 3, 1) := by decide +kernel
theorem dX6_put_83 : decode cX6_put 83 = .ok (.iload 7, 2) := by decide +kernel
theorem dX6_put_85 : decode cX6_put 85 = .ok (.ifCond .eq 7, 3) := by decide +kernel
theorem dX6_put_88 : decode cX6_put 88 = .ok (.iconst 0, 1) := by decide +kernel
theorem dX6_put_89 : decode cX6_put 89 = .ok (.goto 4, 3) := by decide +kernel
theorem dX6_put_92 : decode cX6_put 92 = .ok (.iconst 1, 1) := by decide +kernel
theorem dX6_put_93 : decode cX6_put 93 = .ok (.iadd, 1) := by decide +kernel
theorem dX6_put_94 : decode cX6_put 94 = .ok (.istore_n 3, 1) := by decide +kernel
theorem dX6_put_95 : decode cX6_put 95 = .ok (.iinc 5 1, 3) := by decide +kernel
theorem dX6_put_98 : decode cX6_put 98 = .ok (.goto (-90), 3) := by decide +kernel
theorem dX6_put_101 : decode cX6_put 101 = .ok (.iload 4, 2) := by decide +kernel
theorem dX6_put_103 : decode cX6_put 103 = .ok (.ifCond .eq 6, 3) := by decide +kernel
theorem dX6_put_106 : decode cX6_put 106 = .ok (.bipush (-2), 2) := by decide +kernel
theorem dX6_put_108 : decode cX6_put 108 = .ok (.ireturn, 1) := by decide +kernel
theorem dX6_put_109 : decode cX6_put 109 = .ok (.aload_n 0, 1) := by decide +kernel
theorem dX6_put_110 : decode cX6_put 110 = .ok (.getfield 143, 3) := by decide +kernel
theorem dX6_put_113 : decode cX6_put 113 = .ok (.iload_n 3, 1) := by decide +kernel
theorem dX6_put_114 : decode cX6_put 114 = .ok (.iadd, 1) := by decide +kernel
theorem dX6_put_115 : decode cX6_put 115 = .ok (.bipush 60, 2) := by decide +kernel
theorem dX6_put_117 : decode cX6_put 117 = .ok (.if_icmp .le 6, 3) := by decide +kernel
theorem dX6_put_120 : decode cX6_put 120 = .ok (.bipush (-4), 2) := by decide +kernel
theorem dX6_put_122 : decode cX6_put 122 = .ok (.ireturn, 1) := by decide +kernel
theorem dX6_put_123 : decode cX6_put 123 = .ok (.iconst 0, 1) := by decide +kernel
theorem dX6_put_124 : decode cX6_put 124 = .ok (.istore 5, 2) := by decide +kernel
theorem dX6_put_126 : decode cX6_put 126 = .ok (.iload 5, 2) := by decide +kernel
theorem dX6_put_128 : decode cX6_put 128 = .ok (.iload_n 3, 1) := by decide +kernel
theorem dX6_put_129 : decode cX6_put 129 = .ok (.if_icmp .ge 37, 3) := by decide +kernel
theorem dX6_put_132 : decode cX6_put 132 = .ok (.aload_n 0, 1) := by decide +kernel
theorem dX6_put_133 : decode cX6_put 133 = .ok (.getfield 26, 3) := by decide +kernel
theorem dX6_put_136 : decode cX6_put 136 = .ok (.aload_n 0, 1) := by decide +kernel
theorem dX6_put_137 : decode cX6_put 137 = .ok (.getfield 143, 3) := by decide +kernel
theorem dX6_put_140 : decode cX6_put 140 = .ok (.iload_n 3, 1) := by decide +kernel
theorem dX6_put_141 : decode cX6_put 141 = .ok (.iadd, 1) := by decide +kernel
theorem dX6_put_142 : decode cX6_put 142 = .ok (.iconst 1, 1) := by decide +kernel
theorem dX6_put_143 : decode cX6_put 143 = .ok (.isub, 1) := by decide +kernel
theorem dX6_put_144 : decode cX6_put 144 = .ok (.iload 5, 2) := by decide +kernel
theorem dX6_put_146 : decode cX6_put 146 = .ok (.isub, 1) := by decide +kernel
theorem dX6_put_147 : decode cX6_put 147 = .ok (.lload_n 1, 1) := by decide +kernel
theorem dX6_put_148 : decode cX6_put 148 = .ok (.bipush 8, 2) := by decide +kernel
theorem dX6_put_150 : decode cX6_put 150 = .ok (.iload 5, 2) := by decide +kernel
theorem dX6_put_152 : decode cX6_put 152 = .ok (.imul, 1) := by decide +kernel
theorem dX6_put_153 : decode cX6_put 153 = .ok (.lushr, 1) := by decide +kernel
theorem dX6_put_154 : decode cX6_put 154 = .ok (.ldc2_w 159, 3) := by decide +kernel
theorem dX6_put_157 : decode cX6_put 157 = .ok (.land, 1) := by decide +kernel
theorem dX6_put_158 : decode cX6_put 158 = .ok (.l2i, 1) := by decide +kernel
theorem dX6_put_159 : decode cX6_put 159 = .ok (.iastore, 1) := by decide +kernel
theorem dX6_put_160 : decode cX6_put 160 = .ok (.iinc 5 1, 3) := by decide +kernel
theorem dX6_put_163 : decode cX6_put 163 = .ok (.goto (-37), 3) := by decide +kernel
theorem dX6_put_166 : decode cX6_put 166 = .ok (.aload_n 0, 1) := by decide +kernel
theorem dX6_put_167 : decode cX6_put 167 = .ok (.dup, 1) := by decide +kernel
theorem dX6_put_168 : decode cX6_put 168 = .ok (.getfield 143, 3) := by decide +kernel
theorem dX6_put_171 : decode cX6_put 171 = .ok (.iload_n 3, 1) := by decide +kernel
theorem dX6_put_172 : decode cX6_put 172 = .ok (.iadd, 1) := by decide +kernel
theorem dX6_put_173 : decode cX6_put 173 = .ok (.putfield 143, 3) := by decide +kernel
theorem dX6_put_176 : decode cX6_put 176 = .ok (.aload_n 0, 1) := by decide +kernel
theorem dX6_put_177 : decode cX6_put 177 = .ok (.getfield 143, 3) := by decide +kernel
theorem dX6_put_180 : decode cX6_put 180 = .ok (.ireturn, 1) := by decide +kernel
theorem dX6_wipe_0 : decode cX6_wipe 0 = .ok (.aload_n 0, 1) := by decide +kernel
theorem dX6_wipe_1 : decode cX6_wipe 1 = .ok (.getfield 143, 3) := by decide +kernel
theorem dX6_wipe_4 : decode cX6_wipe 4 = .ok (.istore_n 1, 1) := by decide +kernel
theorem dX6_wipe_5 : decode cX6_wipe 5 = .ok (.aload_n 0, 1) := by decide +kernel
theorem dX6_wipe_6 : decode cX6_wipe 6 = .ok (.iconst 0, 1) := by decide +kernel
theorem dX6_wipe_7 : decode cX6_wipe 7 = .ok (.putfield 143, 3) := by decide +kernel
theorem dX6_wipe_10 : decode cX6_wipe 10 = .ok (.iload_n 1, 1) := by decide +kernel
theorem dX6_wipe_11 : decode cX6_wipe 11 = .ok (.ireturn, 1) := by decide +kernel
set_option maxRecDepth 20000 in
theorem ggX6_isNext_X6_in : GoodIn wsX6_isNext wsX6_in := goodIn_r _ [8] (by decide +kernel) (by decide +kernel)
set_option maxRecDepth 20000 in
theorem gX6_isNext_X6_in : GoodIn wsX6_isNext (va_wsS RX6 47 yX6_in wsX6_in) := goodIn_app (goodIn_of _ (by decide +kernel)) ggX6_isNext_X6_in
theorem dX6_isNext_0 : decode cX6_isNext 0 = .ok (.aload_n 0, 1) := by decide +kernel
theorem dX6_isNext_1 : decode cX6_isNext 1 = .ok (.getfield 161, 3) := by decide +kernel
theorem dX6_isNext_4 : decode cX6_isNext 4 = .ok (.ifCond .ne 35, 3) := by decide +kernel
theorem dX6_isNext_7 : decode cX6_isNext 7 = .ok (.aload_n 0, 1) := by decide +kernel
theorem dX6_isNext_8 : decode cX6_isNext 8 = .ok (.getfield 165, 3) := by decide +kernel
theorem dX6_isNext_11 : decode cX6_isNext 11 = .ok (.aload_n 0, 1) := by decide +kernel
theorem dX6_isNext_12 : decode cX6_isNext 12 = .ok (.getfield 143, 3) := by decide +kernel
theorem dX6_isNext_15 : decode cX6_isNext 15 = .ok (.if_icmp .ge 24, 3) := by decide +kernel
theorem dX6_isNext_18 : decode cX6_isNext 18 = .ok (.aload_n 0, 1) := by decide +kernel
theorem dX6_isNext_19 : decode cX6_isNext 19 = .ok (.getfield 26, 3) := by decide +kernel
theorem dX6_isNext_22 : decode cX6_isNext 22 = .ok (.aload_n 0, 1) := by decide +kernel
theorem dX6_isNext_23 : decode cX6_isNext 23 = .ok (.getfield 165, 3) := by decide +kernel
theorem dX6_isNext_26 : decode cX6_isNext 26 = .ok (.iaload, 1) := by decide +kernel
theorem dX6_isNext_27 : decode cX6_isNext 27 = .ok (.iload_n 1, 1) := by decide +kernel
theorem dX6_isNext_28 : decode cX6_isNext 28 = .ok (.iload_n 2, 1) := by decide +kernel
theorem dX6_isNext_29 : decode cX6_isNext 29 = .ok (.invokestatic 47, 3) := by decide +kernel
theorem dX6_isNext_32 : decode cX6_isNext 32 = .ok (.ifCond .eq 7, 3) := by decide +kernel
theorem dX6_isNext_35 : decode cX6_isNext 35 = .ok (.iconst 1, 1) := by decide +kernel
theorem dX6_isNext_36 : decode cX6_isNext 36 = .ok (.goto 4, 3) := by decide +kernel
theorem dX6_isNext_39 : decode cX6_isNext 39 = .ok (.iconst 0, 1) := by decide +kernel
theorem dX6_isNext_40 : decode cX6_isNext 40 = .ok (.ireturn, 1) := by decide +kernel
set_option maxRecDepth 20000 in
theorem ggX6_takes_X6_in : GoodIn wsX6_takes wsX6_in := goodIn_r _ [8] (by decide +kernel) (by decide +kernel)
set_option maxRecDepth 20000 in
theorem gX6_takes_X6_in : GoodIn wsX6_takes (va_wsS RX6 47 yX6_in wsX6_in) := goodIn_app (goodIn_of _ (by decide +kernel)) ggX6_takes_X6_in
theorem dX6_takes_0 : decode cX6_takes 0 = .ok (.aload_n 0, 1) := by decide +kernel
theorem dX6_takes_1 : decode cX6_takes 1 = .ok (.getfield 165, 3) := by decide +kernel
theorem dX6_takes_4 : decode cX6_takes 4 = .ok (.aload_n 0, 1) := by decide +kernel
theorem dX6_takes_5 : decode cX6_takes 5 = .ok (.getfield 143, 3) := by decide +kernel
theorem dX6_takes_8 : decode cX6_takes 8 = .ok (.if_icmp .ge 15, 3) := by decide +kernel
theorem dX6_takes_11 : decode cX6_takes 11 = .ok (.aload_n 0, 1) := by decide +kernel
theorem dX6_takes_12 : decode cX6_takes 12 = .ok (.getfield 26, 3) := by decide +kernel
theorem dX6_takes_15 : decode cX6_takes 15 = .ok (.aload_n 0, 1) := by decide +kernel
theorem dX6_takes_16 : decode cX6_takes 16 = .ok (.getfield 165, 3) := by decide +kernel
theorem dX6_takes_19 : decode cX6_takes 19 = .ok (.iaload, 1) := by decide +kernel
theorem dX6_takes_20 : decode cX6_takes 20 = .ok (.goto 4, 3) := by decide +kernel
theorem dX6_takes_23 : decode cX6_takes 23 = .ok (.iconst 0, 1) := by decide +kernel
theorem dX6_takes_24 : decode cX6_takes 24 = .ok (.istore_n 3, 1) := by decide +kernel
theorem dX6_takes_25 : decode cX6_takes 25 = .ok (.aload_n 0, 1) := by decide +kernel
theorem dX6_takes_26 : decode cX6_takes 26 = .ok (.aload_n 0, 1) := by decide +kernel
theorem dX6_takes_27 : decode cX6_takes 27 = .ok (.getfield 161, 3) := by decide +kernel
theorem dX6_takes_30 : decode cX6_takes 30 = .ok (.ifCond .ne 12, 3) := by decide +kernel
theorem dX6_takes_33 : decode cX6_takes 33 = .ok (.iload_n 3, 1) := by decide +kernel
theorem dX6_takes_34 : decode cX6_takes 34 = .ok (.iload_n 1, 1) := by decide +kernel
theorem dX6_takes_35 : decode cX6_takes 35 = .ok (.iload_n 2, 1) := by decide +kernel
theorem dX6_takes_36 : decode cX6_takes 36 = .ok (.invokestatic 47, 3) := by decide +kernel
theorem dX6_takes_39 : decode cX6_takes 39 = .ok (.ifCond .ne 7, 3) := by decide +kernel
theorem dX6_takes_42 : decode cX6_takes 42 = .ok (.iconst 1, 1) := by decide +kernel
theorem dX6_takes_43 : decode cX6_takes 43 = .ok (.goto 4, 3) := by decide +kernel
theorem dX6_takes_46 : decode cX6_takes 46 = .ok (.iconst 0, 1) := by decide +kernel
theorem dX6_takes_47 : decode cX6_takes 47 = .ok (.putfield 161, 3) := by decide +kernel
theorem dX6_takes_50 : decode cX6_takes 50 = .ok (.aload_n 0, 1) := by decide +kernel
theorem dX6_takes_51 : decode cX6_takes 51 = .ok (.dup, 1) := by decide +kernel
theorem dX6_takes_52 : decode cX6_takes 52 = .ok (.getfield 165, 3) := by decide +kernel
theorem dX6_takes_55 : decode cX6_takes 55 = .ok (.aload_n 0, 1) := by decide +kernel
theorem dX6_takes_56 : decode cX6_takes 56 = .ok (.getfield 161, 3) := by decide +kernel
theorem dX6_takes_59 : decode cX6_takes 59 = .ok (.ifCond .eq 7, 3) := by decide +kernel
theorem dX6_takes_62 : decode cX6_takes 62 = .ok (.iconst 0, 1) := by decide +kernel
theorem dX6_takes_63 : decode cX6_takes 63 = .ok (.goto 4, 3) := by decide +kernel
theorem dX6_takes_66 : decode cX6_takes 66 = .ok (.iconst 1, 1) := by decide +kernel
theorem dX6_takes_67 : decode cX6_takes 67 = .ok (.iadd, 1) := by decide +kernel
theorem dX6_takes_68 : decode cX6_takes 68 = .ok (.putfield 165, 3) := by decide +kernel
theorem dX6_takes_71 : decode cX6_takes 71 = .ok (.iload_n 3, 1) := by decide +kernel
theorem dX6_takes_72 : decode cX6_takes 72 = .ok (.iload_n 1, 1) := by decide +kernel
theorem dX6_takes_73 : decode cX6_takes 73 = .ok (.isub, 1) := by decide +kernel
theorem dX6_takes_74 : decode cX6_takes 74 = .ok (.ireturn, 1) := by decide +kernel
set_option maxRecDepth 20000 in
theorem ggX6_takesMany_X6_takes : GoodIn wsX6_takesMany wsX6_takes := goodIn_r _ [5, 6, 7, 8, 9, 10, 11, 4, 12, 17, 18, 19, 20, 21, 22, 23, 24, 25, 26, 27, 28, 29, 30, 31, 32] (by decide +kernel) (by decide +kernel)
set_option maxRecDepth 20000 in
theorem gX6_takesMany_X6_takes : GoodIn wsX6_takesMany (wsV RX6 168 RX6 yX6_takes wsX6_takes) := goodIn_app (goodIn_of _ (by decide +kernel)) ggX6_takesMany_X6_takes
set_option maxRecDepth 20000 in
theorem ggX6_takesMany_X6_isNext : GoodIn wsX6_takesMany wsX6_isNext := goodIn_r _ [16, 9, 6, 7, 8, 10, 11, 4, 12, 17, 18, 19, 20, 21, 22, 23, 24, 25, 26, 27, 28, 29, 30, 31, 32] (by decide +kernel) (by decide +kernel)
set_option maxRecDepth 20000 in
theorem gX6_takesMany_X6_isNext : GoodIn wsX6_takesMany (wsV RX6 171 RX6 yX6_isNext wsX6_isNext) := goodIn_app (goodIn_of _ (by decide +kernel)) ggX6_takesMany_X6_isNext
theorem dX6_takesMany_0 : decode cX6_takesMany 0 = .ok (.iconst 1, 1) := by decide +kernel
theorem dX6_takesMany_1 : decode cX6_takesMany 1 = .ok (.aload_n 0, 1) := by decide +kernel
theorem dX6_takesMany_2 : decode cX6_takesMany 2 = .ok (.bipush 49, 2) := by decide +kernel
theorem dX6_takesMany_4 : decode cX6_takesMany 4 = .ok (.bipush 57, 2) := by decide +kernel
theorem dX6_takesMany_6 : decode cX6_takesMany 6 = .ok (.invokevirtual 168, 3) := by decide +kernel
theorem dX6_takesMany_9 : decode cX6_takesMany 9 = .ok (.iadd, 1) := by decide +kernel
theorem dX6_takesMany_10 : decode cX6_takesMany 10 = .ok (.istore_n 1, 1) := by decide +kernel
theorem dX6_takesMany_11 : decode cX6_takesMany 11 = .ok (.iload_n 1, 1) := by decide +kernel
theorem dX6_takesMany_12 : decode cX6_takesMany 12 = .ok (.iconst 1, 1) := by decide +kernel
theorem dX6_takesMany_13 : decode cX6_takesMany 13 = .ok (.if_icmp .ne 14, 3) := by decide +kernel
theorem dX6_takesMany_16 : decode cX6_takesMany 16 = .ok (.aload_n 0, 1) := by decide +kernel
theorem dX6_takesMany_17 : decode cX6_takesMany 17 = .ok (.bipush 48, 2) := by decide +kernel
theorem dX6_takesMany_19 : decode cX6_takesMany 19 = .ok (.bipush 57, 2) := by decide +kernel
theorem dX6_takesMany_21 : decode cX6_takesMany 21 = .ok (.invokevirtual 171, 3) := by decide +kernel
theorem dX6_takesMany_24 : decode cX6_takesMany 24 = .ok (.ifCond .ne 19, 3) := by decide +kernel
theorem dX6_takesMany_27 : decode cX6_takesMany 27 = .ok (.iload_n 1, 1) := by decide +kernel
theorem dX6_takesMany_28 : decode cX6_takesMany 28 = .ok (.iconst 2, 1) := by decide +kernel
theorem dX6_takesMany_29 : decode cX6_takesMany 29 = .ok (.if_icmp .ne 18, 3) := by decide +kernel
theorem dX6_takesMany_32 : decode cX6_takesMany 32 = .ok (.aload_n 0, 1) := by decide +kernel
theorem dX6_takesMany_33 : decode cX6_takesMany 33 = .ok (.bipush 48, 2) := by decide +kernel
theorem dX6_takesMany_35 : decode cX6_takesMany 35 = .ok (.bipush 48, 2) := by decide +kernel
theorem dX6_takesMany_37 : decode cX6_takesMany 37 = .ok (.invokevirtual 171, 3) := by decide +kernel
theorem dX6_takesMany_40 : decode cX6_takesMany 40 = .ok (.ifCond .eq 7, 3) := by decide +kernel
theorem dX6_takesMany_43 : decode cX6_takesMany 43 = .ok (.iconst 1, 1) := by decide +kernel
theorem dX6_takesMany_44 : decode cX6_takesMany 44 = .ok (.goto 4, 3) := by decide +kernel
theorem dX6_takesMany_47 : decode cX6_takesMany 47 = .ok (.iconst 0, 1) := by decide +kernel
theorem dX6_takesMany_48 : decode cX6_takesMany 48 = .ok (.istore_n 2, 1) := by decide +kernel
theorem dX6_takesMany_49 : decode cX6_takesMany 49 = .ok (.iload_n 2, 1) := by decide +kernel
theorem dX6_takesMany_50 : decode cX6_takesMany 50 = .ok (.ifCond .eq 19, 3) := by decide +kernel
theorem dX6_takesMany_53 : decode cX6_takesMany 53 = .ok (.bipush 10, 2) := by decide +kernel
theorem dX6_takesMany_55 : decode cX6_takesMany 55 = .ok (.iload_n 1, 1) := by decide +kernel
theorem dX6_takesMany_56 : decode cX6_takesMany 56 = .ok (.imul, 1) := by decide +kernel
theorem dX6_takesMany_57 : decode cX6_takesMany 57 = .ok (.aload_n 0, 1) := by decide +kernel
theorem dX6_takesMany_58 : decode cX6_takesMany 58 = .ok (.bipush 48, 2) := by decide +kernel
theorem dX6_takesMany_60 : decode cX6_takesMany 60 = .ok (.bipush 57, 2) := by decide +kernel
theorem dX6_takesMany_62 : decode cX6_takesMany 62 = .ok (.invokevirtual 168, 3) := by decide +kernel
theorem dX6_takesMany_65 : decode cX6_takesMany 65 = .ok (.iadd, 1) := by decide +kernel
theorem dX6_takesMany_66 : decode cX6_takesMany 66 = .ok (.goto 4, 3) := by decide +kernel
theorem dX6_takesMany_69 : decode cX6_takesMany 69 = .ok (.iload_n 1, 1) := by decide +kernel
theorem dX6_takesMany_70 : decode cX6_takesMany 70 = .ok (.ireturn, 1) := by decide +kernel
set_option maxRecDepth 20000 in
theorem ggX6_reads_X6_takes : GoodIn wsX6_reads wsX6_takes := goodIn_r _ [9, 1, 4, 10, 2, 11, 12, 8, 13, 22, 23, 24, 25, 26, 27, 28, 29, 30, 31, 32, 33, 34, 35, 36, 37] (by decide +kernel) (by decide +kernel)
set_option maxRecDepth 20000 in
theorem gX6_reads_X6_takes : GoodIn wsX6_reads (wsV RX6 168 RX6 yX6_takes wsX6_takes) := goodIn_app (goodIn_of _ (by decide +kernel)) ggX6_reads_X6_takes
set_option maxRecDepth 20000 in
theorem ggX6_reads_X6_takesMany : GoodIn wsX6_reads wsX6_takesMany := goodIn_r _ [17, 5, 6, 7, 8, 9, 1, 4, 10, 2, 11, 12, 13, 18, 19, 20, 21, 22, 23, 24, 25, 26, 27, 28, 29, 30, 31, 32, 33, 34, 35, 36, 37] (by decide +kernel) (by decide +kernel)
set_option maxRecDepth 20000 in
theorem gX6_reads_X6_takesMany : GoodIn wsX6_reads (wsV RX6 174 RX6 yX6_takesMany wsX6_takesMany) := goodIn_app (goodIn_of _ (by decide +kernel)) ggX6_reads_X6_takesMany
theorem dX6_reads_0 : decode cX6_reads 0 = .ok (.aload_n 0, 1) := by decide +kernel
theorem dX6_reads_1 : decode cX6_reads 1 = .ok (.iconst 0, 1) := by decide +kernel
theorem dX6_reads_2 : decode cX6_reads 2 = .ok (.putfield 165, 3) := by decide +kernel
theorem dX6_reads_5 : decode cX6_reads 5 = .ok (.aload_n 0, 1) := by decide +kernel
theorem dX6_reads_6 : decode cX6_reads 6 = .ok (.iconst 0, 1) := by decide +kernel
theorem dX6_reads_7 : decode cX6_reads 7 = .ok (.putfield 161, 3) := by decide +kernel
theorem dX6_reads_10 : decode cX6_reads 10 = .ok (.iconst 0, 1) := by decide +kernel
theorem dX6_reads_11 : decode cX6_reads 11 = .ok (.istore_n 2, 1) := by decide +kernel
theorem dX6_reads_12 : decode cX6_reads 12 = .ok (.iconst 1, 1) := by decide +kernel
theorem dX6_reads_13 : decode cX6_reads 13 = .ok (.istore_n 3, 1) := by decide +kernel
theorem dX6_reads_14 : decode cX6_reads 14 = .ok (.iload_n 3, 1) := by decide +kernel
theorem dX6_reads_15 : decode cX6_reads 15 = .ok (.ifCond .eq 169, 3) := by decide +kernel
theorem dX6_reads_18 : decode cX6_reads 18 = .ok (.aload_n 0, 1) := by decide +kernel
theorem dX6_reads_19 : decode cX6_reads 19 = .ok (.bipush 97, 2) := by decide +kernel
theorem dX6_reads_21 : decode cX6_reads 21 = .ok (.bipush 103, 2) := by decide +kernel
theorem dX6_reads_23 : decode cX6_reads 23 = .ok (.invokevirtual 168, 3) := by decide +kernel
theorem dX6_reads_26 : decode cX6_reads 26 = .ok (.istore 4, 2) := by decide +kernel
theorem dX6_reads_28 : decode cX6_reads 28 = .ok (.bipush 7, 2) := by decide +kernel
theorem dX6_reads_30 : decode cX6_reads 30 = .ok (.aload_n 0, 1) := by decide +kernel
theorem dX6_reads_31 : decode cX6_reads 31 = .ok (.bipush 49, 2) := by decide +kernel
theorem dX6_reads_33 : decode cX6_reads 33 = .ok (.bipush 53, 2) := by decide +kernel
theorem dX6_reads_35 : decode cX6_reads 35 = .ok (.invokevirtual 168, 3) := by decide +kernel
theorem dX6_reads_38 : decode cX6_reads 38 = .ok (.imul, 1) := by decide +kernel
theorem dX6_reads_39 : decode cX6_reads 39 = .ok (.iload 4, 2) := by decide +kernel
theorem dX6_reads_41 : decode cX6_reads 41 = .ok (.iadd, 1) := by decide +kernel
theorem dX6_reads_42 : decode cX6_reads 42 = .ok (.istore 5, 2) := by decide +kernel
theorem dX6_reads_44 : decode cX6_reads 44 = .ok (.aload_n 0, 1) := by decide +kernel
theorem dX6_reads_45 : decode cX6_reads 45 = .ok (.bipush 58, 2) := by decide +kernel
theorem dX6_reads_47 : decode cX6_reads 47 = .ok (.bipush 58, 2) := by decide +kernel
theorem dX6_reads_49 : decode cX6_reads 49 = .ok (.invokevirtual 168, 3) := by decide +kernel
theorem dX6_reads_52 : decode cX6_reads 52 = .ok (.istore 6, 2) := by decide +kernel
theorem dX6_reads_54 : decode cX6_reads 54 = .ok (.aload_n 0, 1) := by decide +kernel
theorem dX6_reads_55 : decode cX6_reads 55 = .ok (.invokevirtual 174, 3) := by decide +kernel
theorem dX6_reads_58 : decode cX6_reads 58 = .ok (.istore 7, 2) := by decide +kernel
theorem dX6_reads_60 : decode cX6_reads 60 = .ok (.iload_n 1, 1) := by decide +kernel
theorem dX6_reads_61 : decode cX6_reads 61 = .ok (.ifCond .eq 69, 3) := by decide +kernel
theorem dX6_reads_64 : decode cX6_reads 64 = .ok (.aload_n 0, 1) := by decide +kernel
theorem dX6_reads_65 : decode cX6_reads 65 = .ok (.getfield 7, 3) := by decide +kernel
theorem dX6_reads_68 : decode cX6_reads 68 = .ok (.iconst 0, 1) := by decide +kernel
theorem dX6_reads_69 : decode cX6_reads 69 = .ok (.iaload, 1) := by decide +kernel
theorem dX6_reads_70 : decode cX6_reads 70 = .ok (.aload_n 0, 1) := by decide +kernel
theorem dX6_reads_71 : decode cX6_reads 71 = .ok (.getfield 7, 3) := by decide +kernel
theorem dX6_reads_74 : decode cX6_reads 74 = .ok (.bipush 21, 2) := by decide +kernel
theorem dX6_reads_76 : decode cX6_reads 76 = .ok (.iload 5, 2) := by decide +kernel
theorem dX6_reads_78 : decode cX6_reads 78 = .ok (.iadd, 1) := by decide +kernel
theorem dX6_reads_79 : decode cX6_reads 79 = .ok (.iaload, 1) := by decide +kernel
theorem dX6_reads_80 : decode cX6_reads 80 = .ok (.isub, 1) := by decide +kernel
theorem dX6_reads_81 : decode cX6_reads 81 = .ok (.istore 8, 2) := by decide +kernel
theorem dX6_reads_83 : decode cX6_reads 83 = .ok (.iload 7, 2) := by decide +kernel
theorem dX6_reads_85 : decode cX6_reads 85 = .ok (.iload 8, 2) := by decide +kernel
theorem dX6_reads_87 : decode cX6_reads 87 = .ok (.if_icmp .ge 8, 3) := by decide +kernel
theorem dX6_reads_90 : decode cX6_reads 90 = .ok (.iload 7, 2) := by decide +kernel
theorem dX6_reads_92 : decode cX6_reads 92 = .ok (.goto 5, 3) := by decide +kernel
theorem dX6_reads_95 : decode cX6_reads 95 = .ok (.iload 8, 2) := by decide +kernel
theorem dX6_reads_97 : decode cX6_reads 97 = .ok (.istore 9, 2) := by decide +kernel
theorem dX6_reads_99 : decode cX6_reads 99 = .ok (.aload_n 0, 1) := by decide +kernel
theorem dX6_reads_100 : decode cX6_reads 100 = .ok (.getfield 7, 3) := by decide +kernel
theorem dX6_reads_103 : decode cX6_reads 103 = .ok (.bipush 21, 2) := by decide +kernel
theorem dX6_reads_105 : decode cX6_reads 105 = .ok (.iload 5, 2) := by decide +kernel
theorem dX6_reads_107 : decode cX6_reads 107 = .ok (.iadd, 1) := by decide +kernel
theorem dX6_reads_108 : decode cX6_reads 108 = .ok (.dup2, 1) := by decide +kernel
theorem dX6_reads_109 : decode cX6_reads 109 = .ok (.iaload, 1) := by decide +kernel
theorem dX6_reads_110 : decode cX6_reads 110 = .ok (.iload 9, 2) := by decide +kernel
theorem dX6_reads_112 : decode cX6_reads 112 = .ok (.iadd, 1) := by decide +kernel
theorem dX6_reads_113 : decode cX6_reads 113 = .ok (.iastore, 1) := by decide +kernel
theorem dX6_reads_114 : decode cX6_reads 114 = .ok (.aload_n 0, 1) := by decide +kernel
theorem dX6_reads_115 : decode cX6_reads 115 = .ok (.getfield 7, 3) := by decide +kernel
theorem dX6_reads_118 : decode cX6_reads 118 = .ok (.iconst 2, 1) := by decide +kernel
theorem dX6_reads_119 : decode cX6_reads 119 = .ok (.dup2, 1) := by decide +kernel
theorem dX6_reads_120 : decode cX6_reads 120 = .ok (.iaload, 1) := by decide +kernel
theorem dX6_reads_121 : decode cX6_reads 121 = .ok (.iload 9, 2) := by decide +kernel
theorem dX6_reads_123 : decode cX6_reads 123 = .ok (.iadd, 1) := by decide +kernel
theorem dX6_reads_124 : decode cX6_reads 124 = .ok (.iastore, 1) := by decide +kernel
theorem dX6_reads_125 : decode cX6_reads 125 = .ok (.iload_n 2, 1) := by decide +kernel
theorem dX6_reads_126 : decode cX6_reads 126 = .ok (.iload 9, 2) := by decide +kernel
theorem dX6_reads_128 : decode cX6_reads 128 = .ok (.iadd, 1) := by decide +kernel
theorem dX6_reads_129 : decode cX6_reads 129 = .ok (.istore_n 2, 1) := by decide +kernel
theorem dX6_reads_130 : decode cX6_reads 130 = .ok (.aload_n 0, 1) := by decide +kernel
theorem dX6_reads_131 : decode cX6_reads 131 = .ok (.getfield 161, 3) := by decide +kernel
theorem dX6_reads_134 : decode cX6_reads 134 = .ok (.ifCond .ne 18, 3) := by decide +kernel
theorem dX6_reads_137 : decode cX6_reads 137 = .ok (.aload_n 0, 1) := by decide +kernel
theorem dX6_reads_138 : decode cX6_reads 138 = .ok (.getfield 165, 3) := by decide +kernel
theorem dX6_reads_141 : decode cX6_reads 141 = .ok (.aload_n 0, 1) := by decide +kernel
theorem dX6_reads_142 : decode cX6_reads 142 = .ok (.getfield 143, 3) := by decide +kernel
theorem dX6_reads_145 : decode cX6_reads 145 = .ok (.if_icmp .ge 7, 3) := by decide +kernel
theorem dX6_reads_148 : decode cX6_reads 148 = .ok (.iconst 1, 1) := by decide +kernel
theorem dX6_reads_149 : decode cX6_reads 149 = .ok (.goto 4, 3) := by decide +kernel
theorem dX6_reads_152 : decode cX6_reads 152 = .ok (.iconst 0, 1) := by decide +kernel
theorem dX6_reads_153 : decode cX6_reads 153 = .ok (.istore_n 3, 1) := by decide +kernel
theorem dX6_reads_154 : decode cX6_reads 154 = .ok (.iload_n 3, 1) := by decide +kernel
theorem dX6_reads_155 : decode cX6_reads 155 = .ok (.ifCond .eq 26, 3) := by decide +kernel
theorem dX6_reads_158 : decode cX6_reads 158 = .ok (.aload_n 0, 1) := by decide +kernel
theorem dX6_reads_159 : decode cX6_reads 159 = .ok (.bipush 44, 2) := by decide +kernel
theorem dX6_reads_161 : decode cX6_reads 161 = .ok (.bipush 44, 2) := by decide +kernel
theorem dX6_reads_163 : decode cX6_reads 163 = .ok (.invokevirtual 168, 3) := by decide +kernel
theorem dX6_reads_166 : decode cX6_reads 166 = .ok (.istore 8, 2) := by decide +kernel
theorem dX6_reads_168 : decode cX6_reads 168 = .ok (.aload_n 0, 1) := by decide +kernel
theorem dX6_reads_169 : decode cX6_reads 169 = .ok (.getfield 161, 3) := by decide +kernel
theorem dX6_reads_172 : decode cX6_reads 172 = .ok (.ifCond .ne 7, 3) := by decide +kernel
theorem dX6_reads_175 : decode cX6_reads 175 = .ok (.iconst 1, 1) := by decide +kernel
theorem dX6_reads_176 : decode cX6_reads 176 = .ok (.goto 4, 3) := by decide +kernel
theorem dX6_reads_179 : decode cX6_reads 179 = .ok (.iconst 0, 1) := by decide +kernel
theorem dX6_reads_180 : decode cX6_reads 180 = .ok (.istore_n 3, 1) := by decide +kernel
theorem dX6_reads_181 : decode cX6_reads 181 = .ok (.goto (-167), 3) := by decide +kernel
theorem dX6_reads_184 : decode cX6_reads 184 = .ok (.iload_n 2, 1) := by decide +kernel
theorem dX6_reads_185 : decode cX6_reads 185 = .ok (.ireturn, 1) := by decide +kernel
set_option maxRecDepth 20000 in
theorem ggX6_fault_X6_reads : GoodIn wsX6_fault wsX6_reads := goodIn_r _ [7, 2, 1, 8, 9, 10, 11, 12, 6, 13, 14, 15, 16, 17, 18, 19, 20, 21, 22, 23, 24, 25, 26, 27, 28, 29, 30, 31, 32, 33, 34, 35, 36, 37, 38, 39, 40, 41] (by decide +kernel) (by decide +kernel)
set_option maxRecDepth 20000 in
theorem gX6_fault_X6_reads : GoodIn wsX6_fault (wsV RX6 177 RX6 yX6_reads wsX6_reads) := goodIn_app (goodIn_of _ (by decide +kernel)) ggX6_fault_X6_reads
theorem dX6_fault_0 : decode cX6_fault 0 = .ok (.aload_n 0, 1) := by decide +kernel
theorem dX6_fault_1 : decode cX6_fault 1 = .ok (.iconst 0, 1) := by decide +kernel
theorem dX6_fault_2 : decode cX6_fault 2 = .ok (.invokevirtual 177, 3) := by decide +kernel
theorem dX6_fault_5 : decode cX6_fault 5 = .ok (.istore_n 1, 1) := by decide +kernel
theorem dX6_fault_6 : decode cX6_fault 6 = .ok (.aload_n 0, 1) := by decide +kernel
theorem dX6_fault_7 : decode cX6_fault 7 = .ok (.getfield 161, 3) := by decide +kernel
theorem dX6_fault_10 : decode cX6_fault 10 = .ok (.ifCond .eq 10, 3) := by decide +kernel
theorem dX6_fault_13 : decode cX6_fault 13 = .ok (.aload_n 0, 1) := by decide +kernel
theorem dX6_fault_14 : decode cX6_fault 14 = .ok (.getfield 165, 3) := by decide +kernel
theorem dX6_fault_17 : decode cX6_fault 17 = .ok (.goto 5, 3) := by decide +kernel
theorem dX6_fault_20 : decode cX6_fault 20 = .ok (.bipush (-6), 2) := by decide +kernel
theorem dX6_fault_22 : decode cX6_fault 22 = .ok (.ireturn, 1) := by decide +kernel
set_option maxRecDepth 20000 in
theorem ggX6_read_X6_reads : GoodIn wsX6_read wsX6_reads := goodIn_r _ [7, 8, 1, 9, 2, 10, 11, 12, 6, 13, 14, 15, 16, 17, 18, 19, 20, 21, 22, 23, 24, 25, 32, 33, 34, 35, 36, 37, 38, 39, 40, 41, 42, 43, 44, 45, 46, 47] (by decide +kernel) (by decide +kernel)
set_option maxRecDepth 20000 in
theorem gX6_read_X6_reads : GoodIn wsX6_read (wsV RX6 177 RX6 yX6_reads wsX6_reads) := goodIn_app (goodIn_of _ (by decide +kernel)) ggX6_read_X6_reads
set_option maxRecDepth 20000 in
theorem ggX6_read_X6_record : GoodIn wsX6_read wsX6_record := goodIn_r _ [29, 30, 31, 9, 32, 33, 34, 35, 36, 37, 38, 39, 40, 41, 42, 43, 44, 45, 46, 47] (by decide +kernel) (by decide +kernel)
set_option maxRecDepth 20000 in
theorem gX6_read_X6_record : GoodIn wsX6_read (wsV RX6 96 RX6 yX6_record wsX6_record) := goodIn_app (goodIn_of _ (by decide +kernel)) ggX6_read_X6_record
theorem dX6_read_0 : decode cX6_read 0 = .ok (.aload_n 0, 1) := by decide +kernel
theorem dX6_read_1 : decode cX6_read 1 = .ok (.iconst 0, 1) := by decide +kernel
theorem dX6_read_2 : decode cX6_read 2 = .ok (.invokevirtual 177, 3) := by decide +kernel
theorem dX6_read_5 : decode cX6_read 5 = .ok (.istore_n 1, 1) := by decide +kernel
theorem dX6_read_6 : decode cX6_read 6 = .ok (.aload_n 0, 1) := by decide +kernel
theorem dX6_read_7 : decode cX6_read 7 = .ok (.getfield 161, 3) := by decide +kernel
theorem dX6_read_10 : decode cX6_read 10 = .ok (.ifCond .eq 6, 3) := by decide +kernel
theorem dX6_read_13 : decode cX6_read 13 = .ok (.bipush (-3), 2) := by decide +kernel
theorem dX6_read_15 : decode cX6_read 15 = .ok (.ireturn, 1) := by decide +kernel
theorem dX6_read_16 : decode cX6_read 16 = .ok (.aload_n 0, 1) := by decide +kernel
theorem dX6_read_17 : decode cX6_read 17 = .ok (.invokevirtual 96, 3) := by decide +kernel
theorem dX6_read_20 : decode cX6_read 20 = .ok (.aload_n 0, 1) := by decide +kernel
theorem dX6_read_21 : decode cX6_read 21 = .ok (.iconst 1, 1) := by decide +kernel
theorem dX6_read_22 : decode cX6_read 22 = .ok (.invokevirtual 177, 3) := by decide +kernel
theorem dX6_read_25 : decode cX6_read 25 = .ok (.istore_n 2, 1) := by decide +kernel
theorem dX6_read_26 : decode cX6_read 26 = .ok (.aload_n 0, 1) := by decide +kernel
theorem dX6_read_27 : decode cX6_read 27 = .ok (.iconst 0, 1) := by decide +kernel
theorem dX6_read_28 : decode cX6_read 28 = .ok (.putfield 143, 3) := by decide +kernel
theorem dX6_read_31 : decode cX6_read 31 = .ok (.iload_n 2, 1) := by decide +kernel
theorem dX6_read_32 : decode cX6_read 32 = .ok (.ireturn, 1) := by decide +kernel
theorem dX6_undo_0 : decode cX6_undo 0 = .ok (.aload_n 0, 1) := by decide +kernel
theorem dX6_undo_1 : decode cX6_undo 1 = .ok (.getfield 51, 3) := by decide +kernel
theorem dX6_undo_4 : decode cX6_undo 4 = .ok (.ifCond .ne 6, 3) := by decide +kernel
theorem dX6_undo_7 : decode cX6_undo 7 = .ok (.bipush (-5), 2) := by decide +kernel
theorem dX6_undo_9 : decode cX6_undo 9 = .ok (.ireturn, 1) := by decide +kernel
theorem dX6_undo_10 : decode cX6_undo 10 = .ok (.aload_n 0, 1) := by decide +kernel
theorem dX6_undo_11 : decode cX6_undo 11 = .ok (.dup, 1) := by decide +kernel
theorem dX6_undo_12 : decode cX6_undo 12 = .ok (.getfield 51, 3) := by decide +kernel
theorem dX6_undo_15 : decode cX6_undo 15 = .ok (.iconst 1, 1) := by decide +kernel
theorem dX6_undo_16 : decode cX6_undo 16 = .ok (.isub, 1) := by decide +kernel
theorem dX6_undo_17 : decode cX6_undo 17 = .ok (.putfield 51, 3) := by decide +kernel
theorem dX6_undo_20 : decode cX6_undo 20 = .ok (.iconst 0, 1) := by decide +kernel
theorem dX6_undo_21 : decode cX6_undo 21 = .ok (.istore_n 1, 1) := by decide +kernel
theorem dX6_undo_22 : decode cX6_undo 22 = .ok (.iload_n 1, 1) := by decide +kernel
theorem dX6_undo_23 : decode cX6_undo 23 = .ok (.sipush 161, 3) := by decide +kernel
theorem dX6_undo_26 : decode cX6_undo 26 = .ok (.if_icmp .ge 30, 3) := by decide +kernel
theorem dX6_undo_29 : decode cX6_undo 29 = .ok (.aload_n 0, 1) := by decide +kernel
theorem dX6_undo_30 : decode cX6_undo 30 = .ok (.getfield 7, 3) := by decide +kernel
theorem dX6_undo_33 : decode cX6_undo 33 = .ok (.iload_n 1, 1) := by decide +kernel
theorem dX6_undo_34 : decode cX6_undo 34 = .ok (.aload_n 0, 1) := by decide +kernel
theorem dX6_undo_35 : decode cX6_undo 35 = .ok (.getfield 16, 3) := by decide +kernel
theorem dX6_undo_38 : decode cX6_undo 38 = .ok (.sipush 161, 3) := by decide +kernel
theorem dX6_undo_41 : decode cX6_undo 41 = .ok (.aload_n 0, 1) := by decide +kernel
theorem dX6_undo_42 : decode cX6_undo 42 = .ok (.getfield 51, 3) := by decide +kernel
theorem dX6_undo_45 : decode cX6_undo 45 = .ok (.imul, 1) := by decide +kernel
theorem dX6_undo_46 : decode cX6_undo 46 = .ok (.iload_n 1, 1) := by decide +kernel
theorem dX6_undo_47 : decode cX6_undo 47 = .ok (.iadd, 1) := by decide +kernel
theorem dX6_undo_48 : decode cX6_undo 48 = .ok (.iaload, 1) := by decide +kernel
theorem dX6_undo_49 : decode cX6_undo 49 = .ok (.iastore, 1) := by decide +kernel
theorem dX6_undo_50 : decode cX6_undo 50 = .ok (.iinc 1 1, 3) := by decide +kernel
theorem dX6_undo_53 : decode cX6_undo 53 = .ok (.goto (-31), 3) := by decide +kernel
theorem dX6_undo_56 : decode cX6_undo 56 = .ok (.aload_n 0, 1) := by decide +kernel
theorem dX6_undo_57 : decode cX6_undo 57 = .ok (.getfield 51, 3) := by decide +kernel
theorem dX6_undo_60 : decode cX6_undo 60 = .ok (.ireturn, 1) := by decide +kernel
set_option maxRecDepth 20000 in
theorem ggX6_save_X6_in : GoodIn wsX6_save wsX6_in := goodIn_r _ [7] (by decide +kernel) (by decide +kernel)
set_option maxRecDepth 20000 in
theorem gX6_save_X6_in : GoodIn wsX6_save (va_wsS RX6 47 yX6_in wsX6_in) := goodIn_app (goodIn_of _ (by decide +kernel)) ggX6_save_X6_in
set_option maxRecDepth 20000 in
theorem ggX6_save_X6_people : GoodIn wsX6_save wsX6_people := goodIn_r _ [11, 2, 12, 13, 14, 15, 16, 17, 18, 19, 20, 21, 22, 23, 24, 25, 26, 27] (by decide +kernel) (by decide +kernel)
set_option maxRecDepth 20000 in
theorem gX6_save_X6_people : GoodIn wsX6_save (wsV RX6 86 RX6 yX6_people wsX6_people) := goodIn_app (goodIn_of _ (by decide +kernel)) ggX6_save_X6_people
theorem dX6_save_0 : decode cX6_save 0 = .ok (.iload_n 1, 1) := by decide +kernel
theorem dX6_save_1 : decode cX6_save 1 = .ok (.iconst 0, 1) := by decide +kernel
theorem dX6_save_2 : decode cX6_save 2 = .ok (.iconst 1, 1) := by decide +kernel
theorem dX6_save_3 : decode cX6_save 3 = .ok (.invokestatic 47, 3) := by decide +kernel
theorem dX6_save_6 : decode cX6_save 6 = .ok (.ifCond .ne 6, 3) := by decide +kernel
theorem dX6_save_9 : decode cX6_save 9 = .ok (.bipush (-2), 2) := by decide +kernel
theorem dX6_save_11 : decode cX6_save 11 = .ok (.ireturn, 1) := by decide +kernel
theorem dX6_save_12 : decode cX6_save 12 = .ok (.iconst 0, 1) := by decide +kernel
theorem dX6_save_13 : decode cX6_save 13 = .ok (.istore_n 2, 1) := by decide +kernel
theorem dX6_save_14 : decode cX6_save 14 = .ok (.iload_n 2, 1) := by decide +kernel
theorem dX6_save_15 : decode cX6_save 15 = .ok (.sipush 161, 3) := by decide +kernel
theorem dX6_save_18 : decode cX6_save 18 = .ok (.if_icmp .ge 27, 3) := by decide +kernel
theorem dX6_save_21 : decode cX6_save 21 = .ok (.aload_n 0, 1) := by decide +kernel
theorem dX6_save_22 : decode cX6_save 22 = .ok (.getfield 19, 3) := by decide +kernel
theorem dX6_save_25 : decode cX6_save 25 = .ok (.sipush 161, 3) := by decide +kernel
theorem dX6_save_28 : decode cX6_save 28 = .ok (.iload_n 1, 1) := by decide +kernel
theorem dX6_save_29 : decode cX6_save 29 = .ok (.imul, 1) := by decide +kernel
theorem dX6_save_30 : decode cX6_save 30 = .ok (.iload_n 2, 1) := by decide +kernel
theorem dX6_save_31 : decode cX6_save 31 = .ok (.iadd, 1) := by decide +kernel
theorem dX6_save_32 : decode cX6_save 32 = .ok (.aload_n 0, 1) := by decide +kernel
theorem dX6_save_33 : decode cX6_save 33 = .ok (.getfield 7, 3) := by decide +kernel
theorem dX6_save_36 : decode cX6_save 36 = .ok (.iload_n 2, 1) := by decide +kernel
theorem dX6_save_37 : decode cX6_save 37 = .ok (.iaload, 1) := by decide +kernel
theorem dX6_save_38 : decode cX6_save 38 = .ok (.iastore, 1) := by decide +kernel
theorem dX6_save_39 : decode cX6_save 39 = .ok (.iinc 2 1, 3) := by decide +kernel
theorem dX6_save_42 : decode cX6_save 42 = .ok (.goto (-28), 3) := by decide +kernel
theorem dX6_save_45 : decode cX6_save 45 = .ok (.aload_n 0, 1) := by decide +kernel
theorem dX6_save_46 : decode cX6_save 46 = .ok (.getfield 22, 3) := by decide +kernel
theorem dX6_save_49 : decode cX6_save 49 = .ok (.iload_n 1, 1) := by decide +kernel
theorem dX6_save_50 : decode cX6_save 50 = .ok (.iconst 1, 1) := by decide +kernel
theorem dX6_save_51 : decode cX6_save 51 = .ok (.bastore, 1) := by decide +kernel
theorem dX6_save_52 : decode cX6_save 52 = .ok (.aload_n 0, 1) := by decide +kernel
theorem dX6_save_53 : decode cX6_save 53 = .ok (.invokevirtual 86, 3) := by decide +kernel
theorem dX6_save_56 : decode cX6_save 56 = .ok (.ireturn, 1) := by decide +kernel
set_option maxRecDepth 20000 in
theorem ggX6_restore_X6_in : GoodIn wsX6_restore wsX6_in := goodIn_r _ [7] (by decide +kernel) (by decide +kernel)
set_option maxRecDepth 20000 in
theorem gX6_restore_X6_in : GoodIn wsX6_restore (va_wsS RX6 47 yX6_in wsX6_in) := goodIn_app (goodIn_of _ (by decide +kernel)) ggX6_restore_X6_in
set_option maxRecDepth 20000 in
theorem ggX6_restore_X6_record : GoodIn wsX6_restore wsX6_record := goodIn_r _ [11, 12, 13, 2, 18, 19, 20, 21, 22, 23, 24, 25, 26, 27, 28, 29, 30, 31, 32, 33] (by decide +kernel) (by decide +kernel)
set_option maxRecDepth 20000 in
theorem gX6_restore_X6_record : GoodIn wsX6_restore (wsV RX6 96 RX6 yX6_record wsX6_record) := goodIn_app (goodIn_of _ (by decide +kernel)) ggX6_restore_X6_record
set_option maxRecDepth 20000 in
theorem ggX6_restore_X6_people : GoodIn wsX6_restore wsX6_people := goodIn_r _ [17, 2, 18, 19, 20, 21, 22, 23, 24, 25, 26, 27, 28, 29, 30, 31, 32, 33] (by decide +kernel) (by decide +kernel)
set_option maxRecDepth 20000 in
theorem gX6_restore_X6_people : GoodIn wsX6_restore (wsV RX6 86 RX6 yX6_people wsX6_people) := goodIn_app (goodIn_of _ (by decide +kernel)) ggX6_restore_X6_people
theorem dX6_restore_0 : decode cX6_restore 0 = .ok (.iload_n 1, 1) := by decide +kernel
theorem dX6_restore_1 : decode cX6_restore 1 = .ok (.iconst 0, 1) := by decide +kernel
theorem dX6_restore_2 : decode cX6_restore 2 = .ok (.iconst 1, 1) := by decide +kernel
theorem dX6_restore_3 : decode cX6_restore 3 = .ok (.invokestatic 47, 3) := by decide +kernel
theorem dX6_restore_6 : decode cX6_restore 6 = .ok (.ifCond .ne 6, 3) := by decide +kernel
theorem dX6_restore_9 : decode cX6_restore 9 = .ok (.bipush (-2), 2) := by decide +kernel
theorem dX6_restore_11 : decode cX6_restore 11 = .ok (.ireturn, 1) := by decide +kernel
theorem dX6_restore_12 : decode cX6_restore 12 = .ok (.aload_n 0, 1) := by decide +kernel
theorem dX6_restore_13 : decode cX6_restore 13 = .ok (.getfield 22, 3) := by decide +kernel
theorem dX6_restore_16 : decode cX6_restore 16 = .ok (.iload_n 1, 1) := by decide +kernel
theorem dX6_restore_17 : decode cX6_restore 17 = .ok (.baload, 1) := by decide +kernel
theorem dX6_restore_18 : decode cX6_restore 18 = .ok (.ifCond .ne 6, 3) := by decide +kernel
theorem dX6_restore_21 : decode cX6_restore 21 = .ok (.bipush (-5), 2) := by decide +kernel
theorem dX6_restore_23 : decode cX6_restore 23 = .ok (.ireturn, 1) := by decide +kernel
theorem dX6_restore_24 : decode cX6_restore 24 = .ok (.aload_n 0, 1) := by decide +kernel
theorem dX6_restore_25 : decode cX6_restore 25 = .ok (.invokevirtual 96, 3) := by decide +kernel
theorem dX6_restore_28 : decode cX6_restore 28 = .ok (.iconst 0, 1) := by decide +kernel
theorem dX6_restore_29 : decode cX6_restore 29 = .ok (.istore_n 2, 1) := by decide +kernel
theorem dX6_restore_30 : decode cX6_restore 30 = .ok (.iload_n 2, 1) := by decide +kernel
theorem dX6_restore_31 : decode cX6_restore 31 = .ok (.sipush 161, 3) := by decide +kernel
theorem dX6_restore_34 : decode cX6_restore 34 = .ok (.if_icmp .ge 27, 3) := by decide +kernel
theorem dX6_restore_37 : decode cX6_restore 37 = .ok (.aload_n 0, 1) := by decide +kernel
theorem dX6_restore_38 : decode cX6_restore 38 = .ok (.getfield 7, 3) := by decide +kernel
theorem dX6_restore_41 : decode cX6_restore 41 = .ok (.iload_n 2, 1) := by decide +kernel
theorem dX6_restore_42 : decode cX6_restore 42 = .ok (.aload_n 0, 1) := by decide +kernel
theorem dX6_restore_43 : decode cX6_restore 43 = .ok (.getfield 19, 3) := by decide +kernel
theorem dX6_restore_46 : decode cX6_restore 46 = .ok (.sipush 161, 3) := by decide +kernel
theorem dX6_restore_49 : decode cX6_restore 49 = .ok (.iload_n 1, 1) := by decide +kernel
theorem dX6_restore_50 : decode cX6_restore 50 = .ok (.imul, 1) := by decide +kernel
theorem dX6_restore_51 : decode cX6_restore 51 = .ok (.iload_n 2, 1) := by decide +kernel
theorem dX6_restore_52 : decode cX6_restore 52 = .ok (.iadd, 1) := by decide +kernel
theorem dX6_restore_53 : decode cX6_restore 53 = .ok (.iaload, 1) := by decide +kernel
theorem dX6_restore_54 : decode cX6_restore 54 = .ok (.iastore, 1) := by decide +kernel
theorem dX6_restore_55 : decode cX6_restore 55 = .ok (.iinc 2 1, 3) := by decide +kernel
theorem dX6_restore_58 : decode cX6_restore 58 = .ok (.goto (-28), 3) := by decide +kernel
theorem dX6_restore_61 : decode cX6_restore 61 = .ok (.aload_n 0, 1) := by decide +kernel
theorem dX6_restore_62 : decode cX6_restore 62 = .ok (.invokevirtual 86, 3) := by decide +kernel
theorem dX6_restore_65 : decode cX6_restore 65 = .ok (.ireturn, 1) := by decide +kernel
end
