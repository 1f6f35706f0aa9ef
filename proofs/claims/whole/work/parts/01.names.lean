-- ===== PART A: goes FIRST, ahead of the names: the tables' words, and 'selects' of the private methods out of them =====
/-- a private method of a class that the tables say can be made, by its rows of tables_1 -/
def lw_okq (q : MethodName × Nat) : Prop := (q.1.cls ≠ "java/lang/invoke/MethodHandle" ∧ q.1.cls ≠ "java/lang/invoke/VarHandle") ∧ Cond.instantiable q.1.cls q.2 ∈ tables_1 ∧ Cond.privateMethod q.1 ∈ tables_1 ∧ Cond.instanceMethod q.1 ∈ tables_1
theorem lw_p0 : lw_okq (⟨"WordHouse", "refused", "(I)I"⟩, 10) := ⟨⟨by decide +kernel, by decide +kernel⟩, List.mem_of_getElem? (i := 21) (by decide +kernel), List.mem_of_getElem? (i := 302) (by decide +kernel), List.mem_of_getElem? (i := 303) (by decide +kernel)⟩
theorem lw_p1 : lw_okq (⟨"WordHouse$Reader", "step", "()V"⟩, 14) := ⟨⟨by decide +kernel, by decide +kernel⟩, List.mem_of_getElem? (i := 132) (by decide +kernel), List.mem_of_getElem? (i := 320) (by decide +kernel), List.mem_of_getElem? (i := 321) (by decide +kernel)⟩
theorem lw_p2 : lw_okq (⟨"WordHouse$Reader", "readWord", "()V"⟩, 14) := ⟨⟨by decide +kernel, by decide +kernel⟩, List.mem_of_getElem? (i := 132) (by decide +kernel), List.mem_of_getElem? (i := 324) (by decide +kernel), List.mem_of_getElem? (i := 325) (by decide +kernel)⟩
theorem lw_p3 : lw_okq (⟨"WordHouse$Reader", "readWhole", "()V"⟩, 14) := ⟨⟨by decide +kernel, by decide +kernel⟩, List.mem_of_getElem? (i := 132) (by decide +kernel), List.mem_of_getElem? (i := 328) (by decide +kernel), List.mem_of_getElem? (i := 329) (by decide +kernel)⟩
theorem lw_p4 : lw_okq (⟨"WordHouse$Reader", "readMark", "()V"⟩, 14) := ⟨⟨by decide +kernel, by decide +kernel⟩, List.mem_of_getElem? (i := 132) (by decide +kernel), List.mem_of_getElem? (i := 332) (by decide +kernel), List.mem_of_getElem? (i := 333) (by decide +kernel)⟩
theorem lw_p5 : lw_okq (⟨"WordHouse$Reader", "readLine", "()Z"⟩, 14) := ⟨⟨by decide +kernel, by decide +kernel⟩, List.mem_of_getElem? (i := 132) (by decide +kernel), List.mem_of_getElem? (i := 336) (by decide +kernel), List.mem_of_getElem? (i := 337) (by decide +kernel)⟩
theorem lw_p6 : lw_okq (⟨"WordHouse$Reader", "lineSort", "()I"⟩, 14) := ⟨⟨by decide +kernel, by decide +kernel⟩, List.mem_of_getElem? (i := 132) (by decide +kernel), List.mem_of_getElem? (i := 340) (by decide +kernel), List.mem_of_getElem? (i := 341) (by decide +kernel)⟩
theorem lw_p7 : lw_okq (⟨"WordHouse$Reader", "fail", "(I)Z"⟩, 14) := ⟨⟨by decide +kernel, by decide +kernel⟩, List.mem_of_getElem? (i := 132) (by decide +kernel), List.mem_of_getElem? (i := 352) (by decide +kernel), List.mem_of_getElem? (i := 353) (by decide +kernel)⟩
theorem lw_p8 : lw_okq (⟨"WordHouse$Reader", "isFull", "(I)Z"⟩, 14) := ⟨⟨by decide +kernel, by decide +kernel⟩, List.mem_of_getElem? (i := 132) (by decide +kernel), List.mem_of_getElem? (i := 356) (by decide +kernel), List.mem_of_getElem? (i := 357) (by decide +kernel)⟩
theorem lw_p9 : lw_okq (⟨"WordHouse$Reader", "readHouse", "()Z"⟩, 14) := ⟨⟨by decide +kernel, by decide +kernel⟩, List.mem_of_getElem? (i := 132) (by decide +kernel), List.mem_of_getElem? (i := 360) (by decide +kernel), List.mem_of_getElem? (i := 361) (by decide +kernel)⟩
theorem lw_p10 : lw_okq (⟨"WordHouse$Reader", "passWord", "(J)Z"⟩, 14) := ⟨⟨by decide +kernel, by decide +kernel⟩, List.mem_of_getElem? (i := 132) (by decide +kernel), List.mem_of_getElem? (i := 365) (by decide +kernel), List.mem_of_getElem? (i := 366) (by decide +kernel)⟩
theorem lw_p11 : lw_okq (⟨"WordHouse$Reader", "isWord", "(J)Z"⟩, 14) := ⟨⟨by decide +kernel, by decide +kernel⟩, List.mem_of_getElem? (i := 132) (by decide +kernel), List.mem_of_getElem? (i := 369) (by decide +kernel), List.mem_of_getElem? (i := 370) (by decide +kernel)⟩
theorem lw_p12 : lw_okq (⟨"WordHouse$Reader", "isWhole", "(II)Z"⟩, 14) := ⟨⟨by decide +kernel, by decide +kernel⟩, List.mem_of_getElem? (i := 132) (by decide +kernel), List.mem_of_getElem? (i := 373) (by decide +kernel), List.mem_of_getElem? (i := 374) (by decide +kernel)⟩
theorem lw_p13 : lw_okq (⟨"WordHouse$Reader", "readEntry", "()Z"⟩, 14) := ⟨⟨by decide +kernel, by decide +kernel⟩, List.mem_of_getElem? (i := 132) (by decide +kernel), List.mem_of_getElem? (i := 378) (by decide +kernel), List.mem_of_getElem? (i := 379) (by decide +kernel)⟩
theorem lw_p14 : lw_okq (⟨"WordHouse$Reader", "isNewName", "()Z"⟩, 14) := ⟨⟨by decide +kernel, by decide +kernel⟩, List.mem_of_getElem? (i := 132) (by decide +kernel), List.mem_of_getElem? (i := 382) (by decide +kernel), List.mem_of_getElem? (i := 383) (by decide +kernel)⟩
theorem lw_p15 : lw_okq (⟨"WordHouse$Reader", "isName", "()Z"⟩, 14) := ⟨⟨by decide +kernel, by decide +kernel⟩, List.mem_of_getElem? (i := 132) (by decide +kernel), List.mem_of_getElem? (i := 386) (by decide +kernel), List.mem_of_getElem? (i := 387) (by decide +kernel)⟩
def lw_privs_1 : List (MethodName × Nat) := [(⟨"WordHouse", "refused", "(I)I"⟩, 10), (⟨"WordHouse$Reader", "step", "()V"⟩, 14), (⟨"WordHouse$Reader", "readWord", "()V"⟩, 14), (⟨"WordHouse$Reader", "readWhole", "()V"⟩, 14), (⟨"WordHouse$Reader", "readMark", "()V"⟩, 14), (⟨"WordHouse$Reader", "readLine", "()Z"⟩, 14), (⟨"WordHouse$Reader", "lineSort", "()I"⟩, 14), (⟨"WordHouse$Reader", "fail", "(I)Z"⟩, 14), (⟨"WordHouse$Reader", "isFull", "(I)Z"⟩, 14), (⟨"WordHouse$Reader", "readHouse", "()Z"⟩, 14), (⟨"WordHouse$Reader", "passWord", "(J)Z"⟩, 14), (⟨"WordHouse$Reader", "isWord", "(J)Z"⟩, 14), (⟨"WordHouse$Reader", "isWhole", "(II)Z"⟩, 14), (⟨"WordHouse$Reader", "readEntry", "()Z"⟩, 14), (⟨"WordHouse$Reader", "isNewName", "()Z"⟩, 14), (⟨"WordHouse$Reader", "isName", "()Z"⟩, 14)]
theorem lw_r1 : ∀ q ∈ lw_privs_1, lw_okq q := List.forall_mem_cons.mpr ⟨lw_p0, List.forall_mem_cons.mpr ⟨lw_p1, List.forall_mem_cons.mpr ⟨lw_p2, List.forall_mem_cons.mpr ⟨lw_p3, List.forall_mem_cons.mpr ⟨lw_p4, List.forall_mem_cons.mpr ⟨lw_p5, List.forall_mem_cons.mpr ⟨lw_p6, List.forall_mem_cons.mpr ⟨lw_p7, List.forall_mem_cons.mpr ⟨lw_p8, List.forall_mem_cons.mpr ⟨lw_p9, List.forall_mem_cons.mpr ⟨lw_p10, List.forall_mem_cons.mpr ⟨lw_p11, List.forall_mem_cons.mpr ⟨lw_p12, List.forall_mem_cons.mpr ⟨lw_p13, List.forall_mem_cons.mpr ⟨lw_p14, List.forall_mem_cons.mpr ⟨lw_p15, fun _ h => absurd h List.not_mem_nil⟩⟩⟩⟩⟩⟩⟩⟩⟩⟩⟩⟩⟩⟩⟩⟩
theorem lw_p16 : lw_okq (⟨"WordHouse$Reader", "findEntry", "()I"⟩, 14) := ⟨⟨by decide +kernel, by decide +kernel⟩, List.mem_of_getElem? (i := 132) (by decide +kernel), List.mem_of_getElem? (i := 390) (by decide +kernel), List.mem_of_getElem? (i := 391) (by decide +kernel)⟩
theorem lw_p17 : lw_okq (⟨"WordHouse$Reader", "findSpeaker", "()I"⟩, 14) := ⟨⟨by decide +kernel, by decide +kernel⟩, List.mem_of_getElem? (i := 132) (by decide +kernel), List.mem_of_getElem? (i := 394) (by decide +kernel), List.mem_of_getElem? (i := 395) (by decide +kernel)⟩
theorem lw_p18 : lw_okq (⟨"WordHouse$Reader", "readMeans", "()Z"⟩, 14) := ⟨⟨by decide +kernel, by decide +kernel⟩, List.mem_of_getElem? (i := 132) (by decide +kernel), List.mem_of_getElem? (i := 403) (by decide +kernel), List.mem_of_getElem? (i := 404) (by decide +kernel)⟩
theorem lw_p19 : lw_okq (⟨"WordHouse$Reader", "entryHere", "()I"⟩, 14) := ⟨⟨by decide +kernel, by decide +kernel⟩, List.mem_of_getElem? (i := 132) (by decide +kernel), List.mem_of_getElem? (i := 407) (by decide +kernel), List.mem_of_getElem? (i := 408) (by decide +kernel)⟩
theorem lw_p20 : lw_okq (⟨"WordHouse$Reader", "readRhymes", "()Z"⟩, 14) := ⟨⟨by decide +kernel, by decide +kernel⟩, List.mem_of_getElem? (i := 132) (by decide +kernel), List.mem_of_getElem? (i := 422) (by decide +kernel), List.mem_of_getElem? (i := 423) (by decide +kernel)⟩
theorem lw_p21 : lw_okq (⟨"WordHouse$Reader", "readSpeaker", "()Z"⟩, 14) := ⟨⟨by decide +kernel, by decide +kernel⟩, List.mem_of_getElem? (i := 132) (by decide +kernel), List.mem_of_getElem? (i := 430) (by decide +kernel), List.mem_of_getElem? (i := 431) (by decide +kernel)⟩
theorem lw_p22 : lw_okq (⟨"WordHouse$Reader", "kindHere", "()I"⟩, 14) := ⟨⟨by decide +kernel, by decide +kernel⟩, List.mem_of_getElem? (i := 132) (by decide +kernel), List.mem_of_getElem? (i := 434) (by decide +kernel), List.mem_of_getElem? (i := 435) (by decide +kernel)⟩
theorem lw_p23 : lw_okq (⟨"WordHouse$Reader", "readSays", "()Z"⟩, 14) := ⟨⟨by decide +kernel, by decide +kernel⟩, List.mem_of_getElem? (i := 132) (by decide +kernel), List.mem_of_getElem? (i := 445) (by decide +kernel), List.mem_of_getElem? (i := 446) (by decide +kernel)⟩
theorem lw_p24 : lw_okq (⟨"WordHouse$Reader", "speakerHere", "()I"⟩, 14) := ⟨⟨by decide +kernel, by decide +kernel⟩, List.mem_of_getElem? (i := 132) (by decide +kernel), List.mem_of_getElem? (i := 449) (by decide +kernel), List.mem_of_getElem? (i := 450) (by decide +kernel)⟩
theorem lw_p25 : lw_okq (⟨"WordHouse$Reader", "readUnsure", "()Z"⟩, 14) := ⟨⟨by decide +kernel, by decide +kernel⟩, List.mem_of_getElem? (i := 132) (by decide +kernel), List.mem_of_getElem? (i := 462) (by decide +kernel), List.mem_of_getElem? (i := 463) (by decide +kernel)⟩
theorem lw_p26 : lw_okq (⟨"WordHouse$Reader", "readLeft", "()Z"⟩, 14) := ⟨⟨by decide +kernel, by decide +kernel⟩, List.mem_of_getElem? (i := 132) (by decide +kernel), List.mem_of_getElem? (i := 474) (by decide +kernel), List.mem_of_getElem? (i := 475) (by decide +kernel)⟩
theorem lw_p27 : lw_okq (⟨"WordHouse", "setsThatFit", "()I"⟩, 10) := ⟨⟨by decide +kernel, by decide +kernel⟩, List.mem_of_getElem? (i := 21) (by decide +kernel), List.mem_of_getElem? (i := 491) (by decide +kernel), List.mem_of_getElem? (i := 492) (by decide +kernel)⟩
theorem lw_p28 : lw_okq (⟨"WordHouse", "misfits", "(I)I"⟩, 10) := ⟨⟨by decide +kernel, by decide +kernel⟩, List.mem_of_getElem? (i := 21) (by decide +kernel), List.mem_of_getElem? (i := 495) (by decide +kernel), List.mem_of_getElem? (i := 496) (by decide +kernel)⟩
theorem lw_p29 : lw_okq (⟨"WordHouse$Told", "explainedAmong", "(II)I"⟩, 20) := ⟨⟨by decide +kernel, by decide +kernel⟩, List.mem_of_getElem? (i := 29) (by decide +kernel), List.mem_of_getElem? (i := 531) (by decide +kernel), List.mem_of_getElem? (i := 532) (by decide +kernel)⟩
theorem lw_p30 : lw_okq (⟨"WordHouse", "granted", "(I)I"⟩, 10) := ⟨⟨by decide +kernel, by decide +kernel⟩, List.mem_of_getElem? (i := 21) (by decide +kernel), List.mem_of_getElem? (i := 548) (by decide +kernel), List.mem_of_getElem? (i := 549) (by decide +kernel)⟩
theorem lw_p31 : lw_okq (⟨"WordHouse$Told", "allMeanings", "(I)I"⟩, 20) := ⟨⟨by decide +kernel, by decide +kernel⟩, List.mem_of_getElem? (i := 29) (by decide +kernel), List.mem_of_getElem? (i := 578) (by decide +kernel), List.mem_of_getElem? (i := 579) (by decide +kernel)⟩
def lw_privs_2 : List (MethodName × Nat) := [(⟨"WordHouse$Reader", "findEntry", "()I"⟩, 14), (⟨"WordHouse$Reader", "findSpeaker", "()I"⟩, 14), (⟨"WordHouse$Reader", "readMeans", "()Z"⟩, 14), (⟨"WordHouse$Reader", "entryHere", "()I"⟩, 14), (⟨"WordHouse$Reader", "readRhymes", "()Z"⟩, 14), (⟨"WordHouse$Reader", "readSpeaker", "()Z"⟩, 14), (⟨"WordHouse$Reader", "kindHere", "()I"⟩, 14), (⟨"WordHouse$Reader", "readSays", "()Z"⟩, 14), (⟨"WordHouse$Reader", "speakerHere", "()I"⟩, 14), (⟨"WordHouse$Reader", "readUnsure", "()Z"⟩, 14), (⟨"WordHouse$Reader", "readLeft", "()Z"⟩, 14), (⟨"WordHouse", "setsThatFit", "()I"⟩, 10), (⟨"WordHouse", "misfits", "(I)I"⟩, 10), (⟨"WordHouse$Told", "explainedAmong", "(II)I"⟩, 20), (⟨"WordHouse", "granted", "(I)I"⟩, 10), (⟨"WordHouse$Told", "allMeanings", "(I)I"⟩, 20)]
theorem lw_r2 : ∀ q ∈ lw_privs_2, lw_okq q := List.forall_mem_cons.mpr ⟨lw_p16, List.forall_mem_cons.mpr ⟨lw_p17, List.forall_mem_cons.mpr ⟨lw_p18, List.forall_mem_cons.mpr ⟨lw_p19, List.forall_mem_cons.mpr ⟨lw_p20, List.forall_mem_cons.mpr ⟨lw_p21, List.forall_mem_cons.mpr ⟨lw_p22, List.forall_mem_cons.mpr ⟨lw_p23, List.forall_mem_cons.mpr ⟨lw_p24, List.forall_mem_cons.mpr ⟨lw_p25, List.forall_mem_cons.mpr ⟨lw_p26, List.forall_mem_cons.mpr ⟨lw_p27, List.forall_mem_cons.mpr ⟨lw_p28, List.forall_mem_cons.mpr ⟨lw_p29, List.forall_mem_cons.mpr ⟨lw_p30, List.forall_mem_cons.mpr ⟨lw_p31, fun _ h => absurd h List.not_mem_nil⟩⟩⟩⟩⟩⟩⟩⟩⟩⟩⟩⟩⟩⟩⟩⟩
theorem lw_p32 : lw_okq (⟨"WordHouse", "isHouse", "()Z"⟩, 10) := ⟨⟨by decide +kernel, by decide +kernel⟩, List.mem_of_getElem? (i := 21) (by decide +kernel), List.mem_of_getElem? (i := 626) (by decide +kernel), List.mem_of_getElem? (i := 627) (by decide +kernel)⟩
theorem lw_p33 : lw_okq (⟨"WordHouse", "yearsUntilOut", "(I)I"⟩, 10) := ⟨⟨by decide +kernel, by decide +kernel⟩, List.mem_of_getElem? (i := 21) (by decide +kernel), List.mem_of_getElem? (i := 653) (by decide +kernel), List.mem_of_getElem? (i := 654) (by decide +kernel)⟩
theorem lw_p34 : lw_okq (⟨"WordHouse", "goingWith", "(I)I"⟩, 10) := ⟨⟨by decide +kernel, by decide +kernel⟩, List.mem_of_getElem? (i := 21) (by decide +kernel), List.mem_of_getElem? (i := 665) (by decide +kernel), List.mem_of_getElem? (i := 666) (by decide +kernel)⟩
theorem lw_p35 : lw_okq (⟨"WordHouse", "leastToKeep", "(I)I"⟩, 10) := ⟨⟨by decide +kernel, by decide +kernel⟩, List.mem_of_getElem? (i := 21) (by decide +kernel), List.mem_of_getElem? (i := 684) (by decide +kernel), List.mem_of_getElem? (i := 685) (by decide +kernel)⟩
theorem lw_p36 : lw_okq (⟨"WordHouse", "isKeptBy", "(II)Z"⟩, 10) := ⟨⟨by decide +kernel, by decide +kernel⟩, List.mem_of_getElem? (i := 21) (by decide +kernel), List.mem_of_getElem? (i := 688) (by decide +kernel), List.mem_of_getElem? (i := 689) (by decide +kernel)⟩
theorem lw_p37 : lw_okq (⟨"WordHouse", "fewestToPoint", "()I"⟩, 10) := ⟨⟨by decide +kernel, by decide +kernel⟩, List.mem_of_getElem? (i := 21) (by decide +kernel), List.mem_of_getElem? (i := 708) (by decide +kernel), List.mem_of_getElem? (i := 709) (by decide +kernel)⟩
theorem lw_p38 : lw_okq (⟨"WordHouse", "fewestToFell", "()I"⟩, 10) := ⟨⟨by decide +kernel, by decide +kernel⟩, List.mem_of_getElem? (i := 21) (by decide +kernel), List.mem_of_getElem? (i := 724) (by decide +kernel), List.mem_of_getElem? (i := 725) (by decide +kernel)⟩
theorem lw_p39 : lw_okq (⟨"WordHouse$Told", "withRhymes", "(I)I"⟩, 20) := ⟨⟨by decide +kernel, by decide +kernel⟩, List.mem_of_getElem? (i := 29) (by decide +kernel), List.mem_of_getElem? (i := 762) (by decide +kernel), List.mem_of_getElem? (i := 763) (by decide +kernel)⟩
theorem lw_p40 : lw_okq (⟨"WordHouse", "bestToAsk", "()I"⟩, 10) := ⟨⟨by decide +kernel, by decide +kernel⟩, List.mem_of_getElem? (i := 21) (by decide +kernel), List.mem_of_getElem? (i := 797) (by decide +kernel), List.mem_of_getElem? (i := 798) (by decide +kernel)⟩
theorem lw_p41 : lw_okq (⟨"WordHouse", "mostLeftBy", "(I)I"⟩, 10) := ⟨⟨by decide +kernel, by decide +kernel⟩, List.mem_of_getElem? (i := 21) (by decide +kernel), List.mem_of_getElem? (i := 801) (by decide +kernel), List.mem_of_getElem? (i := 802) (by decide +kernel)⟩
theorem lw_p42 : lw_okq (⟨"WordHouse", "inkRefusal", "(I)I"⟩, 10) := ⟨⟨by decide +kernel, by decide +kernel⟩, List.mem_of_getElem? (i := 21) (by decide +kernel), List.mem_of_getElem? (i := 818) (by decide +kernel), List.mem_of_getElem? (i := 819) (by decide +kernel)⟩
theorem lw_p43 : lw_okq (⟨"WordHouse", "denied", "(I)Z"⟩, 10) := ⟨⟨by decide +kernel, by decide +kernel⟩, List.mem_of_getElem? (i := 21) (by decide +kernel), List.mem_of_getElem? (i := 908) (by decide +kernel), List.mem_of_getElem? (i := 909) (by decide +kernel)⟩
theorem lw_p44 : lw_okq (⟨"WordHouse", "allowed", "()Z"⟩, 10) := ⟨⟨by decide +kernel, by decide +kernel⟩, List.mem_of_getElem? (i := 21) (by decide +kernel), List.mem_of_getElem? (i := 913) (by decide +kernel), List.mem_of_getElem? (i := 914) (by decide +kernel)⟩
theorem lw_p45 : lw_okq (⟨"java/lang/Throwable", "fillInStackTrace", "(I)Ljava/lang/Throwable;"⟩, 6) := ⟨⟨by decide +kernel, by decide +kernel⟩, List.mem_of_getElem? (i := 1005) (by decide +kernel), List.mem_of_getElem? (i := 1003) (by decide +kernel), List.mem_of_getElem? (i := 1004) (by decide +kernel)⟩
theorem lw_p46 : lw_okq (⟨"WordHouseModel", "refused", "(I)I"⟩, 30) := ⟨⟨by decide +kernel, by decide +kernel⟩, List.mem_of_getElem? (i := 1030) (by decide +kernel), List.mem_of_getElem? (i := 1139) (by decide +kernel), List.mem_of_getElem? (i := 1140) (by decide +kernel)⟩
theorem lw_p47 : lw_okq (⟨"WordHouseModel", "goesOn", "()V"⟩, 30) := ⟨⟨by decide +kernel, by decide +kernel⟩, List.mem_of_getElem? (i := 1030) (by decide +kernel), List.mem_of_getElem? (i := 1240) (by decide +kernel), List.mem_of_getElem? (i := 1241) (by decide +kernel)⟩
def lw_privs_3 : List (MethodName × Nat) := [(⟨"WordHouse", "isHouse", "()Z"⟩, 10), (⟨"WordHouse", "yearsUntilOut", "(I)I"⟩, 10), (⟨"WordHouse", "goingWith", "(I)I"⟩, 10), (⟨"WordHouse", "leastToKeep", "(I)I"⟩, 10), (⟨"WordHouse", "isKeptBy", "(II)Z"⟩, 10), (⟨"WordHouse", "fewestToPoint", "()I"⟩, 10), (⟨"WordHouse", "fewestToFell", "()I"⟩, 10), (⟨"WordHouse$Told", "withRhymes", "(I)I"⟩, 20), (⟨"WordHouse", "bestToAsk", "()I"⟩, 10), (⟨"WordHouse", "mostLeftBy", "(I)I"⟩, 10), (⟨"WordHouse", "inkRefusal", "(I)I"⟩, 10), (⟨"WordHouse", "denied", "(I)Z"⟩, 10), (⟨"WordHouse", "allowed", "()Z"⟩, 10), (⟨"java/lang/Throwable", "fillInStackTrace", "(I)Ljava/lang/Throwable;"⟩, 6), (⟨"WordHouseModel", "refused", "(I)I"⟩, 30), (⟨"WordHouseModel", "goesOn", "()V"⟩, 30)]
theorem lw_r3 : ∀ q ∈ lw_privs_3, lw_okq q := List.forall_mem_cons.mpr ⟨lw_p32, List.forall_mem_cons.mpr ⟨lw_p33, List.forall_mem_cons.mpr ⟨lw_p34, List.forall_mem_cons.mpr ⟨lw_p35, List.forall_mem_cons.mpr ⟨lw_p36, List.forall_mem_cons.mpr ⟨lw_p37, List.forall_mem_cons.mpr ⟨lw_p38, List.forall_mem_cons.mpr ⟨lw_p39, List.forall_mem_cons.mpr ⟨lw_p40, List.forall_mem_cons.mpr ⟨lw_p41, List.forall_mem_cons.mpr ⟨lw_p42, List.forall_mem_cons.mpr ⟨lw_p43, List.forall_mem_cons.mpr ⟨lw_p44, List.forall_mem_cons.mpr ⟨lw_p45, List.forall_mem_cons.mpr ⟨lw_p46, List.forall_mem_cons.mpr ⟨lw_p47, fun _ h => absurd h List.not_mem_nil⟩⟩⟩⟩⟩⟩⟩⟩⟩⟩⟩⟩⟩⟩⟩⟩
theorem lw_p48 : lw_okq (⟨"WordHouseModel", "byteAt", "(I)I"⟩, 30) := ⟨⟨by decide +kernel, by decide +kernel⟩, List.mem_of_getElem? (i := 1030) (by decide +kernel), List.mem_of_getElem? (i := 1244) (by decide +kernel), List.mem_of_getElem? (i := 1245) (by decide +kernel)⟩
theorem lw_p49 : lw_okq (⟨"WordHouseModel", "readAll", "()V"⟩, 30) := ⟨⟨by decide +kernel, by decide +kernel⟩, List.mem_of_getElem? (i := 1030) (by decide +kernel), List.mem_of_getElem? (i := 1255) (by decide +kernel), List.mem_of_getElem? (i := 1256) (by decide +kernel)⟩
theorem lw_p50 : lw_okq (⟨"WordHouseModel", "readLine", "()V"⟩, 30) := ⟨⟨by decide +kernel, by decide +kernel⟩, List.mem_of_getElem? (i := 1030) (by decide +kernel), List.mem_of_getElem? (i := 1259) (by decide +kernel), List.mem_of_getElem? (i := 1260) (by decide +kernel)⟩
theorem lw_p51 : lw_okq (⟨"WordHouseModel", "isWord", "(Ljava/lang/String;)Z"⟩, 30) := ⟨⟨by decide +kernel, by decide +kernel⟩, List.mem_of_getElem? (i := 1030) (by decide +kernel), List.mem_of_getElem? (i := 1264) (by decide +kernel), List.mem_of_getElem? (i := 1265) (by decide +kernel)⟩
theorem lw_p52 : lw_okq (⟨"WordHouseModel", "readHouse", "()V"⟩, 30) := ⟨⟨by decide +kernel, by decide +kernel⟩, List.mem_of_getElem? (i := 1030) (by decide +kernel), List.mem_of_getElem? (i := 1319) (by decide +kernel), List.mem_of_getElem? (i := 1320) (by decide +kernel)⟩
theorem lw_p53 : lw_okq (⟨"WordHouseModel", "flaw", "(I)V"⟩, 30) := ⟨⟨by decide +kernel, by decide +kernel⟩, List.mem_of_getElem? (i := 1030) (by decide +kernel), List.mem_of_getElem? (i := 1323) (by decide +kernel), List.mem_of_getElem? (i := 1324) (by decide +kernel)⟩
theorem lw_p54 : lw_okq (⟨"WordHouseModel", "readPart", "(Ljava/lang/String;II)I"⟩, 30) := ⟨⟨by decide +kernel, by decide +kernel⟩, List.mem_of_getElem? (i := 1030) (by decide +kernel), List.mem_of_getElem? (i := 1328) (by decide +kernel), List.mem_of_getElem? (i := 1329) (by decide +kernel)⟩
theorem lw_p55 : lw_okq (⟨"WordHouseModel", "readWhole", "(II)I"⟩, 30) := ⟨⟨by decide +kernel, by decide +kernel⟩, List.mem_of_getElem? (i := 1030) (by decide +kernel), List.mem_of_getElem? (i := 1332) (by decide +kernel), List.mem_of_getElem? (i := 1333) (by decide +kernel)⟩
theorem lw_p56 : lw_okq (⟨"WordHouseModel", "readEntry", "()V"⟩, 30) := ⟨⟨by decide +kernel, by decide +kernel⟩, List.mem_of_getElem? (i := 1030) (by decide +kernel), List.mem_of_getElem? (i := 1341) (by decide +kernel), List.mem_of_getElem? (i := 1342) (by decide +kernel)⟩
theorem lw_p57 : lw_okq (⟨"WordHouseModel", "lineBegins", "(II)V"⟩, 30) := ⟨⟨by decide +kernel, by decide +kernel⟩, List.mem_of_getElem? (i := 1030) (by decide +kernel), List.mem_of_getElem? (i := 1345) (by decide +kernel), List.mem_of_getElem? (i := 1346) (by decide +kernel)⟩
theorem lw_p58 : lw_okq (⟨"WordHouseModel", "readFresh", "()J"⟩, 30) := ⟨⟨by decide +kernel, by decide +kernel⟩, List.mem_of_getElem? (i := 1030) (by decide +kernel), List.mem_of_getElem? (i := 1349) (by decide +kernel), List.mem_of_getElem? (i := 1350) (by decide +kernel)⟩
theorem lw_p59 : lw_okq (⟨"WordHouseModel", "isName", "()Z"⟩, 30) := ⟨⟨by decide +kernel, by decide +kernel⟩, List.mem_of_getElem? (i := 1030) (by decide +kernel), List.mem_of_getElem? (i := 1353) (by decide +kernel), List.mem_of_getElem? (i := 1354) (by decide +kernel)⟩
theorem lw_p60 : lw_okq (⟨"WordHouseModel", "names", "(JII)V"⟩, 30) := ⟨⟨by decide +kernel, by decide +kernel⟩, List.mem_of_getElem? (i := 1030) (by decide +kernel), List.mem_of_getElem? (i := 1368) (by decide +kernel), List.mem_of_getElem? (i := 1369) (by decide +kernel)⟩
theorem lw_p61 : lw_okq (⟨"WordHouseModel", "readMeans", "()V"⟩, 30) := ⟨⟨by decide +kernel, by decide +kernel⟩, List.mem_of_getElem? (i := 1030) (by decide +kernel), List.mem_of_getElem? (i := 1372) (by decide +kernel), List.mem_of_getElem? (i := 1373) (by decide +kernel)⟩
theorem lw_p62 : lw_okq (⟨"WordHouseModel", "knownOne", "(I)I"⟩, 30) := ⟨⟨by decide +kernel, by decide +kernel⟩, List.mem_of_getElem? (i := 1030) (by decide +kernel), List.mem_of_getElem? (i := 1376) (by decide +kernel), List.mem_of_getElem? (i := 1377) (by decide +kernel)⟩
theorem lw_p63 : lw_okq (⟨"WordHouseModel", "eats", "(C)Z"⟩, 30) := ⟨⟨by decide +kernel, by decide +kernel⟩, List.mem_of_getElem? (i := 1030) (by decide +kernel), List.mem_of_getElem? (i := 1383) (by decide +kernel), List.mem_of_getElem? (i := 1384) (by decide +kernel)⟩
def lw_privs_4 : List (MethodName × Nat) := [(⟨"WordHouseModel", "byteAt", "(I)I"⟩, 30), (⟨"WordHouseModel", "readAll", "()V"⟩, 30), (⟨"WordHouseModel", "readLine", "()V"⟩, 30), (⟨"WordHouseModel", "isWord", "(Ljava/lang/String;)Z"⟩, 30), (⟨"WordHouseModel", "readHouse", "()V"⟩, 30), (⟨"WordHouseModel", "flaw", "(I)V"⟩, 30), (⟨"WordHouseModel", "readPart", "(Ljava/lang/String;II)I"⟩, 30), (⟨"WordHouseModel", "readWhole", "(II)I"⟩, 30), (⟨"WordHouseModel", "readEntry", "()V"⟩, 30), (⟨"WordHouseModel", "lineBegins", "(II)V"⟩, 30), (⟨"WordHouseModel", "readFresh", "()J"⟩, 30), (⟨"WordHouseModel", "isName", "()Z"⟩, 30), (⟨"WordHouseModel", "names", "(JII)V"⟩, 30), (⟨"WordHouseModel", "readMeans", "()V"⟩, 30), (⟨"WordHouseModel", "knownOne", "(I)I"⟩, 30), (⟨"WordHouseModel", "eats", "(C)Z"⟩, 30)]
theorem lw_r4 : ∀ q ∈ lw_privs_4, lw_okq q := List.forall_mem_cons.mpr ⟨lw_p48, List.forall_mem_cons.mpr ⟨lw_p49, List.forall_mem_cons.mpr ⟨lw_p50, List.forall_mem_cons.mpr ⟨lw_p51, List.forall_mem_cons.mpr ⟨lw_p52, List.forall_mem_cons.mpr ⟨lw_p53, List.forall_mem_cons.mpr ⟨lw_p54, List.forall_mem_cons.mpr ⟨lw_p55, List.forall_mem_cons.mpr ⟨lw_p56, List.forall_mem_cons.mpr ⟨lw_p57, List.forall_mem_cons.mpr ⟨lw_p58, List.forall_mem_cons.mpr ⟨lw_p59, List.forall_mem_cons.mpr ⟨lw_p60, List.forall_mem_cons.mpr ⟨lw_p61, List.forall_mem_cons.mpr ⟨lw_p62, List.forall_mem_cons.mpr ⟨lw_p63, fun _ h => absurd h List.not_mem_nil⟩⟩⟩⟩⟩⟩⟩⟩⟩⟩⟩⟩⟩⟩⟩⟩
theorem lw_p64 : lw_okq (⟨"WordHouseModel", "readRhymes", "()V"⟩, 30) := ⟨⟨by decide +kernel, by decide +kernel⟩, List.mem_of_getElem? (i := 1030) (by decide +kernel), List.mem_of_getElem? (i := 1387) (by decide +kernel), List.mem_of_getElem? (i := 1388) (by decide +kernel)⟩
theorem lw_p65 : lw_okq (⟨"WordHouseModel", "readKnown", "(I)I"⟩, 30) := ⟨⟨by decide +kernel, by decide +kernel⟩, List.mem_of_getElem? (i := 1030) (by decide +kernel), List.mem_of_getElem? (i := 1391) (by decide +kernel), List.mem_of_getElem? (i := 1392) (by decide +kernel)⟩
theorem lw_p66 : lw_okq (⟨"WordHouseModel", "readSpeaker", "()V"⟩, 30) := ⟨⟨by decide +kernel, by decide +kernel⟩, List.mem_of_getElem? (i := 1030) (by decide +kernel), List.mem_of_getElem? (i := 1395) (by decide +kernel), List.mem_of_getElem? (i := 1396) (by decide +kernel)⟩
theorem lw_p67 : lw_okq (⟨"WordHouseModel", "readSays", "()V"⟩, 30) := ⟨⟨by decide +kernel, by decide +kernel⟩, List.mem_of_getElem? (i := 1030) (by decide +kernel), List.mem_of_getElem? (i := 1402) (by decide +kernel), List.mem_of_getElem? (i := 1403) (by decide +kernel)⟩
theorem lw_p68 : lw_okq (⟨"WordHouseModel", "readUnsure", "()V"⟩, 30) := ⟨⟨by decide +kernel, by decide +kernel⟩, List.mem_of_getElem? (i := 1030) (by decide +kernel), List.mem_of_getElem? (i := 1411) (by decide +kernel), List.mem_of_getElem? (i := 1412) (by decide +kernel)⟩
theorem lw_p69 : lw_okq (⟨"WordHouseModel", "readLeft", "()V"⟩, 30) := ⟨⟨by decide +kernel, by decide +kernel⟩, List.mem_of_getElem? (i := 1030) (by decide +kernel), List.mem_of_getElem? (i := 1419) (by decide +kernel), List.mem_of_getElem? (i := 1420) (by decide +kernel)⟩
theorem lw_p70 : lw_okq (⟨"WordHouseModel", "asTold", "()V"⟩, 30) := ⟨⟨by decide +kernel, by decide +kernel⟩, List.mem_of_getElem? (i := 1030) (by decide +kernel), List.mem_of_getElem? (i := 1424) (by decide +kernel), List.mem_of_getElem? (i := 1425) (by decide +kernel)⟩
theorem lw_p71 : lw_okq (⟨"WordHouseModel", "all", "()I"⟩, 30) := ⟨⟨by decide +kernel, by decide +kernel⟩, List.mem_of_getElem? (i := 1030) (by decide +kernel), List.mem_of_getElem? (i := 1428) (by decide +kernel), List.mem_of_getElem? (i := 1429) (by decide +kernel)⟩
theorem lw_p72 : lw_okq (⟨"WordHouseModel", "good", "(I)I"⟩, 30) := ⟨⟨by decide +kernel, by decide +kernel⟩, List.mem_of_getElem? (i := 1030) (by decide +kernel), List.mem_of_getElem? (i := 1432) (by decide +kernel), List.mem_of_getElem? (i := 1433) (by decide +kernel)⟩
theorem lw_p73 : lw_okq (⟨"WordHouseModel", "isEntry", "(I)Z"⟩, 30) := ⟨⟨by decide +kernel, by decide +kernel⟩, List.mem_of_getElem? (i := 1030) (by decide +kernel), List.mem_of_getElem? (i := 1448) (by decide +kernel), List.mem_of_getElem? (i := 1449) (by decide +kernel)⟩
theorem lw_p74 : lw_okq (⟨"WordHouseModel", "explainedBy", "(I)I"⟩, 30) := ⟨⟨by decide +kernel, by decide +kernel⟩, List.mem_of_getElem? (i := 1030) (by decide +kernel), List.mem_of_getElem? (i := 1452) (by decide +kernel), List.mem_of_getElem? (i := 1453) (by decide +kernel)⟩
theorem lw_p75 : lw_okq (⟨"WordHouseModel", "isSpeaker", "(I)Z"⟩, 30) := ⟨⟨by decide +kernel, by decide +kernel⟩, List.mem_of_getElem? (i := 1030) (by decide +kernel), List.mem_of_getElem? (i := 1464) (by decide +kernel), List.mem_of_getElem? (i := 1465) (by decide +kernel)⟩
theorem lw_p76 : lw_okq (⟨"WordHouseModel", "refusesYear", "(ZI)I"⟩, 30) := ⟨⟨by decide +kernel, by decide +kernel⟩, List.mem_of_getElem? (i := 1030) (by decide +kernel), List.mem_of_getElem? (i := 1472) (by decide +kernel), List.mem_of_getElem? (i := 1473) (by decide +kernel)⟩
theorem lw_p77 : lw_okq (⟨"WordHouseModel", "saidBy", "(II)I"⟩, 30) := ⟨⟨by decide +kernel, by decide +kernel⟩, List.mem_of_getElem? (i := 1030) (by decide +kernel), List.mem_of_getElem? (i := 1476) (by decide +kernel), List.mem_of_getElem? (i := 1477) (by decide +kernel)⟩
theorem lw_p78 : lw_okq (⟨"WordHouseModel", "timesOf", "(I)I"⟩, 30) := ⟨⟨by decide +kernel, by decide +kernel⟩, List.mem_of_getElem? (i := 1030) (by decide +kernel), List.mem_of_getElem? (i := 1480) (by decide +kernel), List.mem_of_getElem? (i := 1481) (by decide +kernel)⟩
theorem lw_p79 : lw_okq (⟨"WordHouseModel", "works", "()V"⟩, 30) := ⟨⟨by decide +kernel, by decide +kernel⟩, List.mem_of_getElem? (i := 1030) (by decide +kernel), List.mem_of_getElem? (i := 1488) (by decide +kernel), List.mem_of_getElem? (i := 1489) (by decide +kernel)⟩
def lw_privs_5 : List (MethodName × Nat) := [(⟨"WordHouseModel", "readRhymes", "()V"⟩, 30), (⟨"WordHouseModel", "readKnown", "(I)I"⟩, 30), (⟨"WordHouseModel", "readSpeaker", "()V"⟩, 30), (⟨"WordHouseModel", "readSays", "()V"⟩, 30), (⟨"WordHouseModel", "readUnsure", "()V"⟩, 30), (⟨"WordHouseModel", "readLeft", "()V"⟩, 30), (⟨"WordHouseModel", "asTold", "()V"⟩, 30), (⟨"WordHouseModel", "all", "()I"⟩, 30), (⟨"WordHouseModel", "good", "(I)I"⟩, 30), (⟨"WordHouseModel", "isEntry", "(I)Z"⟩, 30), (⟨"WordHouseModel", "explainedBy", "(I)I"⟩, 30), (⟨"WordHouseModel", "isSpeaker", "(I)Z"⟩, 30), (⟨"WordHouseModel", "refusesYear", "(ZI)I"⟩, 30), (⟨"WordHouseModel", "saidBy", "(II)I"⟩, 30), (⟨"WordHouseModel", "timesOf", "(I)I"⟩, 30), (⟨"WordHouseModel", "works", "()V"⟩, 30)]
theorem lw_r5 : ∀ q ∈ lw_privs_5, lw_okq q := List.forall_mem_cons.mpr ⟨lw_p64, List.forall_mem_cons.mpr ⟨lw_p65, List.forall_mem_cons.mpr ⟨lw_p66, List.forall_mem_cons.mpr ⟨lw_p67, List.forall_mem_cons.mpr ⟨lw_p68, List.forall_mem_cons.mpr ⟨lw_p69, List.forall_mem_cons.mpr ⟨lw_p70, List.forall_mem_cons.mpr ⟨lw_p71, List.forall_mem_cons.mpr ⟨lw_p72, List.forall_mem_cons.mpr ⟨lw_p73, List.forall_mem_cons.mpr ⟨lw_p74, List.forall_mem_cons.mpr ⟨lw_p75, List.forall_mem_cons.mpr ⟨lw_p76, List.forall_mem_cons.mpr ⟨lw_p77, List.forall_mem_cons.mpr ⟨lw_p78, List.forall_mem_cons.mpr ⟨lw_p79, fun _ h => absurd h List.not_mem_nil⟩⟩⟩⟩⟩⟩⟩⟩⟩⟩⟩⟩⟩⟩⟩⟩
theorem lw_p80 : lw_okq (⟨"WordHouseModel", "used", "(II)I"⟩, 30) := ⟨⟨by decide +kernel, by decide +kernel⟩, List.mem_of_getElem? (i := 1030) (by decide +kernel), List.mem_of_getElem? (i := 1492) (by decide +kernel), List.mem_of_getElem? (i := 1493) (by decide +kernel)⟩
theorem lw_p81 : lw_okq (⟨"WordHouseModel", "isPaid", "(II)Z"⟩, 30) := ⟨⟨by decide +kernel, by decide +kernel⟩, List.mem_of_getElem? (i := 1030) (by decide +kernel), List.mem_of_getElem? (i := 1500) (by decide +kernel), List.mem_of_getElem? (i := 1501) (by decide +kernel)⟩
theorem lw_p82 : lw_okq (⟨"WordHouseModel", "debts", "(I)I"⟩, 30) := ⟨⟨by decide +kernel, by decide +kernel⟩, List.mem_of_getElem? (i := 1030) (by decide +kernel), List.mem_of_getElem? (i := 1512) (by decide +kernel), List.mem_of_getElem? (i := 1513) (by decide +kernel)⟩
theorem lw_p83 : lw_okq (⟨"WordHouseModel", "aYear", "()I"⟩, 30) := ⟨⟨by decide +kernel, by decide +kernel⟩, List.mem_of_getElem? (i := 1030) (by decide +kernel), List.mem_of_getElem? (i := 1520) (by decide +kernel), List.mem_of_getElem? (i := 1521) (by decide +kernel)⟩
theorem lw_p84 : lw_okq (⟨"WordHouseModel", "settled", "(I)I"⟩, 30) := ⟨⟨by decide +kernel, by decide +kernel⟩, List.mem_of_getElem? (i := 1030) (by decide +kernel), List.mem_of_getElem? (i := 1524) (by decide +kernel), List.mem_of_getElem? (i := 1525) (by decide +kernel)⟩
theorem lw_p85 : lw_okq (⟨"WordHouseModel", "isExplained", "(II)Z"⟩, 30) := ⟨⟨by decide +kernel, by decide +kernel⟩, List.mem_of_getElem? (i := 1030) (by decide +kernel), List.mem_of_getElem? (i := 1528) (by decide +kernel), List.mem_of_getElem? (i := 1529) (by decide +kernel)⟩
theorem lw_p86 : lw_okq (⟨"WordHouseModel", "stay", "(I)V"⟩, 30) := ⟨⟨by decide +kernel, by decide +kernel⟩, List.mem_of_getElem? (i := 1030) (by decide +kernel), List.mem_of_getElem? (i := 1532) (by decide +kernel), List.mem_of_getElem? (i := 1533) (by decide +kernel)⟩
theorem lw_p87 : lw_okq (⟨"WordHouseModel", "goesWith", "(I)I"⟩, 30) := ⟨⟨by decide +kernel, by decide +kernel⟩, List.mem_of_getElem? (i := 1030) (by decide +kernel), List.mem_of_getElem? (i := 1548) (by decide +kernel), List.mem_of_getElem? (i := 1549) (by decide +kernel)⟩
theorem lw_p88 : lw_okq (⟨"WordHouseModel", "refusesLodger", "(I)I"⟩, 30) := ⟨⟨by decide +kernel, by decide +kernel⟩, List.mem_of_getElem? (i := 1030) (by decide +kernel), List.mem_of_getElem? (i := 1559) (by decide +kernel), List.mem_of_getElem? (i := 1560) (by decide +kernel)⟩
theorem lw_p89 : lw_okq (⟨"WordHouseModel", "keeps", "(I)I"⟩, 30) := ⟨⟨by decide +kernel, by decide +kernel⟩, List.mem_of_getElem? (i := 1030) (by decide +kernel), List.mem_of_getElem? (i := 1567) (by decide +kernel), List.mem_of_getElem? (i := 1568) (by decide +kernel)⟩
theorem lw_p90 : lw_okq (⟨"WordHouseModel", "grounded", "(I)I"⟩, 30) := ⟨⟨by decide +kernel, by decide +kernel⟩, List.mem_of_getElem? (i := 1030) (by decide +kernel), List.mem_of_getElem? (i := 1579) (by decide +kernel), List.mem_of_getElem? (i := 1580) (by decide +kernel)⟩
theorem lw_p91 : lw_okq (⟨"WordHouseModel", "deepens", "(II)V"⟩, 30) := ⟨⟨by decide +kernel, by decide +kernel⟩, List.mem_of_getElem? (i := 1030) (by decide +kernel), List.mem_of_getElem? (i := 1591) (by decide +kernel), List.mem_of_getElem? (i := 1592) (by decide +kernel)⟩
theorem lw_p92 : lw_okq (⟨"WordHouseModel", "rootsOf", "(I)I"⟩, 30) := ⟨⟨by decide +kernel, by decide +kernel⟩, List.mem_of_getElem? (i := 1030) (by decide +kernel), List.mem_of_getElem? (i := 1603) (by decide +kernel), List.mem_of_getElem? (i := 1604) (by decide +kernel)⟩
theorem lw_p93 : lw_okq (⟨"WordHouseModel", "between", "(II)I"⟩, 30) := ⟨⟨by decide +kernel, by decide +kernel⟩, List.mem_of_getElem? (i := 1030) (by decide +kernel), List.mem_of_getElem? (i := 1615) (by decide +kernel), List.mem_of_getElem? (i := 1616) (by decide +kernel)⟩
theorem lw_p94 : lw_okq (⟨"WordHouseModel", "meanings", "(I)I"⟩, 30) := ⟨⟨by decide +kernel, by decide +kernel⟩, List.mem_of_getElem? (i := 1030) (by decide +kernel), List.mem_of_getElem? (i := 1619) (by decide +kernel), List.mem_of_getElem? (i := 1620) (by decide +kernel)⟩
theorem lw_p95 : lw_okq (⟨"WordHouseModel", "meant", "(II)I"⟩, 30) := ⟨⟨by decide +kernel, by decide +kernel⟩, List.mem_of_getElem? (i := 1030) (by decide +kernel), List.mem_of_getElem? (i := 1623) (by decide +kernel), List.mem_of_getElem? (i := 1624) (by decide +kernel)⟩
def lw_privs_6 : List (MethodName × Nat) := [(⟨"WordHouseModel", "used", "(II)I"⟩, 30), (⟨"WordHouseModel", "isPaid", "(II)Z"⟩, 30), (⟨"WordHouseModel", "debts", "(I)I"⟩, 30), (⟨"WordHouseModel", "aYear", "()I"⟩, 30), (⟨"WordHouseModel", "settled", "(I)I"⟩, 30), (⟨"WordHouseModel", "isExplained", "(II)Z"⟩, 30), (⟨"WordHouseModel", "stay", "(I)V"⟩, 30), (⟨"WordHouseModel", "goesWith", "(I)I"⟩, 30), (⟨"WordHouseModel", "refusesLodger", "(I)I"⟩, 30), (⟨"WordHouseModel", "keeps", "(I)I"⟩, 30), (⟨"WordHouseModel", "grounded", "(I)I"⟩, 30), (⟨"WordHouseModel", "deepens", "(II)V"⟩, 30), (⟨"WordHouseModel", "rootsOf", "(I)I"⟩, 30), (⟨"WordHouseModel", "between", "(II)I"⟩, 30), (⟨"WordHouseModel", "meanings", "(I)I"⟩, 30), (⟨"WordHouseModel", "meant", "(II)I"⟩, 30)]
theorem lw_r6 : ∀ q ∈ lw_privs_6, lw_okq q := List.forall_mem_cons.mpr ⟨lw_p80, List.forall_mem_cons.mpr ⟨lw_p81, List.forall_mem_cons.mpr ⟨lw_p82, List.forall_mem_cons.mpr ⟨lw_p83, List.forall_mem_cons.mpr ⟨lw_p84, List.forall_mem_cons.mpr ⟨lw_p85, List.forall_mem_cons.mpr ⟨lw_p86, List.forall_mem_cons.mpr ⟨lw_p87, List.forall_mem_cons.mpr ⟨lw_p88, List.forall_mem_cons.mpr ⟨lw_p89, List.forall_mem_cons.mpr ⟨lw_p90, List.forall_mem_cons.mpr ⟨lw_p91, List.forall_mem_cons.mpr ⟨lw_p92, List.forall_mem_cons.mpr ⟨lw_p93, List.forall_mem_cons.mpr ⟨lw_p94, List.forall_mem_cons.mpr ⟨lw_p95, fun _ h => absurd h List.not_mem_nil⟩⟩⟩⟩⟩⟩⟩⟩⟩⟩⟩⟩⟩⟩⟩⟩
theorem lw_p96 : lw_okq (⟨"WordHouseModel", "rhymesOver", "(II)I"⟩, 30) := ⟨⟨by decide +kernel, by decide +kernel⟩, List.mem_of_getElem? (i := 1030) (by decide +kernel), List.mem_of_getElem? (i := 1635) (by decide +kernel), List.mem_of_getElem? (i := 1636) (by decide +kernel)⟩
theorem lw_p97 : lw_okq (⟨"WordHouseModel", "fitting", "(I)I"⟩, 30) := ⟨⟨by decide +kernel, by decide +kernel⟩, List.mem_of_getElem? (i := 1030) (by decide +kernel), List.mem_of_getElem? (i := 1647) (by decide +kernel), List.mem_of_getElem? (i := 1648) (by decide +kernel)⟩
theorem lw_p98 : lw_okq (⟨"WordHouseModel", "wrong", "(I)I"⟩, 30) := ⟨⟨by decide +kernel, by decide +kernel⟩, List.mem_of_getElem? (i := 1030) (by decide +kernel), List.mem_of_getElem? (i := 1651) (by decide +kernel), List.mem_of_getElem? (i := 1652) (by decide +kernel)⟩
theorem lw_p99 : lw_okq (⟨"WordHouseModel", "asks", "()I"⟩, 30) := ⟨⟨by decide +kernel, by decide +kernel⟩, List.mem_of_getElem? (i := 1030) (by decide +kernel), List.mem_of_getElem? (i := 1671) (by decide +kernel), List.mem_of_getElem? (i := 1672) (by decide +kernel)⟩
theorem lw_p100 : lw_okq (⟨"WordHouseModel", "refusesInk", "(I)I"⟩, 30) := ⟨⟨by decide +kernel, by decide +kernel⟩, List.mem_of_getElem? (i := 1030) (by decide +kernel), List.mem_of_getElem? (i := 1687) (by decide +kernel), List.mem_of_getElem? (i := 1688) (by decide +kernel)⟩
theorem lw_p101 : lw_okq (⟨"WordHouseModel", "lost", "(I)I"⟩, 30) := ⟨⟨by decide +kernel, by decide +kernel⟩, List.mem_of_getElem? (i := 1030) (by decide +kernel), List.mem_of_getElem? (i := 1691) (by decide +kernel), List.mem_of_getElem? (i := 1692) (by decide +kernel)⟩
theorem lw_p102 : lw_okq (⟨"WordHouseModel", "partOf", "(I)J"⟩, 30) := ⟨⟨by decide +kernel, by decide +kernel⟩, List.mem_of_getElem? (i := 1030) (by decide +kernel), List.mem_of_getElem? (i := 1713) (by decide +kernel), List.mem_of_getElem? (i := 1714) (by decide +kernel)⟩
theorem lw_p103 : lw_okq (⟨"WordHouseModel", "whole", "()J"⟩, 30) := ⟨⟨by decide +kernel, by decide +kernel⟩, List.mem_of_getElem? (i := 1030) (by decide +kernel), List.mem_of_getElem? (i := 1717) (by decide +kernel), List.mem_of_getElem? (i := 1718) (by decide +kernel)⟩
theorem lw_p104 : lw_okq (⟨"WordHouseModel", "fraction", "(JJZ)J"⟩, 30) := ⟨⟨by decide +kernel, by decide +kernel⟩, List.mem_of_getElem? (i := 1030) (by decide +kernel), List.mem_of_getElem? (i := 1722) (by decide +kernel), List.mem_of_getElem? (i := 1723) (by decide +kernel)⟩
theorem lw_p105 : lw_okq (⟨"WordHouseModel", "refusesSeed", "(II)I"⟩, 30) := ⟨⟨by decide +kernel, by decide +kernel⟩, List.mem_of_getElem? (i := 1030) (by decide +kernel), List.mem_of_getElem? (i := 1741) (by decide +kernel), List.mem_of_getElem? (i := 1742) (by decide +kernel)⟩
theorem lw_p106 : lw_okq (⟨"WordHouseModel", "aMoodyYear", "()I"⟩, 30) := ⟨⟨by decide +kernel, by decide +kernel⟩, List.mem_of_getElem? (i := 1030) (by decide +kernel), List.mem_of_getElem? (i := 1746) (by decide +kernel), List.mem_of_getElem? (i := 1747) (by decide +kernel)⟩
theorem lw_p107 : lw_okq (⟨"WordHouseModel", "goesBy", "(Z)I"⟩, 30) := ⟨⟨by decide +kernel, by decide +kernel⟩, List.mem_of_getElem? (i := 1030) (by decide +kernel), List.mem_of_getElem? (i := 1761) (by decide +kernel), List.mem_of_getElem? (i := 1762) (by decide +kernel)⟩
theorem lw_p108 : lw_okq (⟨"WordHouseModel", "remembers", "()V"⟩, 30) := ⟨⟨by decide +kernel, by decide +kernel⟩, List.mem_of_getElem? (i := 1030) (by decide +kernel), List.mem_of_getElem? (i := 1765) (by decide +kernel), List.mem_of_getElem? (i := 1766) (by decide +kernel)⟩
theorem lw_p109 : lw_okq (⟨"WordHouseModel", "remains", "()V"⟩, 30) := ⟨⟨by decide +kernel, by decide +kernel⟩, List.mem_of_getElem? (i := 1030) (by decide +kernel), List.mem_of_getElem? (i := 1769) (by decide +kernel), List.mem_of_getElem? (i := 1770) (by decide +kernel)⟩
theorem lw_p110 : lw_okq (⟨"WordHouseModel", "denied", "(I)Z"⟩, 30) := ⟨⟨by decide +kernel, by decide +kernel⟩, List.mem_of_getElem? (i := 1030) (by decide +kernel), List.mem_of_getElem? (i := 1789) (by decide +kernel), List.mem_of_getElem? (i := 1790) (by decide +kernel)⟩
theorem lw_p111 : lw_okq (⟨"WordHouseModel", "granted", "()Z"⟩, 30) := ⟨⟨by decide +kernel, by decide +kernel⟩, List.mem_of_getElem? (i := 1030) (by decide +kernel), List.mem_of_getElem? (i := 1793) (by decide +kernel), List.mem_of_getElem? (i := 1794) (by decide +kernel)⟩
def lw_privs_7 : List (MethodName × Nat) := [(⟨"WordHouseModel", "rhymesOver", "(II)I"⟩, 30), (⟨"WordHouseModel", "fitting", "(I)I"⟩, 30), (⟨"WordHouseModel", "wrong", "(I)I"⟩, 30), (⟨"WordHouseModel", "asks", "()I"⟩, 30), (⟨"WordHouseModel", "refusesInk", "(I)I"⟩, 30), (⟨"WordHouseModel", "lost", "(I)I"⟩, 30), (⟨"WordHouseModel", "partOf", "(I)J"⟩, 30), (⟨"WordHouseModel", "whole", "()J"⟩, 30), (⟨"WordHouseModel", "fraction", "(JJZ)J"⟩, 30), (⟨"WordHouseModel", "refusesSeed", "(II)I"⟩, 30), (⟨"WordHouseModel", "aMoodyYear", "()I"⟩, 30), (⟨"WordHouseModel", "goesBy", "(Z)I"⟩, 30), (⟨"WordHouseModel", "remembers", "()V"⟩, 30), (⟨"WordHouseModel", "remains", "()V"⟩, 30), (⟨"WordHouseModel", "denied", "(I)Z"⟩, 30), (⟨"WordHouseModel", "granted", "()Z"⟩, 30)]
theorem lw_r7 : ∀ q ∈ lw_privs_7, lw_okq q := List.forall_mem_cons.mpr ⟨lw_p96, List.forall_mem_cons.mpr ⟨lw_p97, List.forall_mem_cons.mpr ⟨lw_p98, List.forall_mem_cons.mpr ⟨lw_p99, List.forall_mem_cons.mpr ⟨lw_p100, List.forall_mem_cons.mpr ⟨lw_p101, List.forall_mem_cons.mpr ⟨lw_p102, List.forall_mem_cons.mpr ⟨lw_p103, List.forall_mem_cons.mpr ⟨lw_p104, List.forall_mem_cons.mpr ⟨lw_p105, List.forall_mem_cons.mpr ⟨lw_p106, List.forall_mem_cons.mpr ⟨lw_p107, List.forall_mem_cons.mpr ⟨lw_p108, List.forall_mem_cons.mpr ⟨lw_p109, List.forall_mem_cons.mpr ⟨lw_p110, List.forall_mem_cons.mpr ⟨lw_p111, fun _ h => absurd h List.not_mem_nil⟩⟩⟩⟩⟩⟩⟩⟩⟩⟩⟩⟩⟩⟩⟩⟩
def lw_privs : List (MethodName × Nat) := lw_privs_1 ++ (lw_privs_2 ++ (lw_privs_3 ++ (lw_privs_4 ++ (lw_privs_5 ++ (lw_privs_6 ++ (lw_privs_7))))))
def lw_tbl : List Cond := k2_sels lw_privs ++ tables_1
theorem lw_privs_ok : ∀ q ∈ lw_privs, lw_okq q := by
  show ∀ q ∈ lw_privs_1 ++ (lw_privs_2 ++ (lw_privs_3 ++ (lw_privs_4 ++ (lw_privs_5 ++ (lw_privs_6 ++ (lw_privs_7)))))), lw_okq q
  exact List.forall_mem_append.mpr ⟨lw_r1, List.forall_mem_append.mpr ⟨lw_r2, List.forall_mem_append.mpr ⟨lw_r3, List.forall_mem_append.mpr ⟨lw_r4, List.forall_mem_append.mpr ⟨lw_r5, List.forall_mem_append.mpr ⟨lw_r6, lw_r7⟩⟩⟩⟩⟩⟩
def RX0 : String := "WordHouse$Past"
def TX0 : u_T := fun k => match k with
  | 0 => ("WordHouse$Past", "acts", "[LWordHouse$State;", true)
  | 1 => ("WordHouse$Past", "first", "I", false)
  | 2 => ("WordHouse$Past", "count", "I", false)
  | 3 => ("WordHouse$Past", "images", "[LWordHouse$State;", true)
  | _ => ("WordHouse$Past", "imaged", "I", false)
def tyX0 : Nat → FieldType := fun k => match k with
  | 0 => .array (.object "WordHouse$State")
  | 1 => .int
  | 2 => .int
  | 3 => .array (.object "WordHouse$State")
  | _ => .int
abbrev wsX00 : List Cond := u_ws RX0 TX0 5
theorem nmX0 : ∀ a, a < 5 → ∀ b, b < 5 → a ≠ b → (TX0 a).2.1 ≠ (TX0 b).2.1 := by decide +kernel
theorem tyX0_ok : ∀ k, k < 5 → parseFieldDescriptor (TX0 k).2.2.1 = some (tyX0 k) := by decide +kernel
abbrev cX0_init : ByteArray := prog_2_method_1_code
def yX0_init : MethodName := ⟨RX0, "<init>", "()V"⟩
abbrev cX0_clear : ByteArray := prog_2_method_2_code
def yX0_clear : MethodName := ⟨RX0, "clear", "()V"⟩
abbrev cX0_remember : ByteArray := prog_2_method_3_code
def yX0_remember : MethodName := ⟨RX0, "remember", "(LWordHouse$State;)V"⟩
abbrev cX0_takeBack : ByteArray := prog_2_method_4_code
def yX0_takeBack : MethodName := ⟨RX0, "takeBack", "(LWordHouse$State;)Z"⟩
abbrev cX0_keepImage : ByteArray := prog_2_method_5_code
def yX0_keepImage : MethodName := ⟨RX0, "keepImage", "(LWordHouse$State;)I"⟩
abbrev cX0_returnTo : ByteArray := prog_2_method_6_code
def yX0_returnTo : MethodName := ⟨RX0, "returnTo", "(ILWordHouse$State;)Z"⟩
abbrev cX0_undoable : ByteArray := prog_2_method_7_code
def yX0_undoable : MethodName := ⟨RX0, "undoable", "()I"⟩
abbrev cX0_images : ByteArray := prog_2_method_8_code
def yX0_images : MethodName := ⟨RX0, "images", "()I"⟩
def RX1 : String := "WordHouse$Reader"
def TX1 : u_T := fun k => match k with
  | 0 => ("WordHouse$Reader", "tape", "[B", true)
  | 1 => ("WordHouse$Reader", "fed", "I", false)
  | 2 => ("WordHouse$Reader", "length", "I", false)
  | 3 => ("WordHouse$Reader", "next", "I", false)
  | 4 => ("WordHouse$Reader", "token", "I", false)
  | 5 => ("WordHouse$Reader", "at", "I", false)
  | 6 => ("WordHouse$Reader", "word", "J", false)
  | 7 => ("WordHouse$Reader", "whole", "I", false)
  | 8 => ("WordHouse$Reader", "entryNames", "[J", true)
  | 9 => ("WordHouse$Reader", "speakerNames", "[J", true)
  | 10 => ("WordHouse$Reader", "told", "LWordHouse$Told;", false)
  | 11 => ("WordHouse$Reader", "housed", "Z", false)
  | 12 => ("WordHouse$Reader", "fault", "I", false)
  | _ => ("WordHouse$Reader", "place", "I", false)
def tyX1 : Nat → FieldType := fun k => match k with
  | 0 => .array .byte
  | 1 => .int
  | 2 => .int
  | 3 => .int
  | 4 => .int
  | 5 => .int
  | 6 => .long
  | 7 => .int
  | 8 => .array .long
  | 9 => .array .long
  | 10 => .object "WordHouse$Told"
  | 11 => .boolean
  | 12 => .int
  | _ => .int
abbrev wsX10 : List Cond := u_ws RX1 TX1 14
theorem nmX1 : ∀ a, a < 14 → ∀ b, b < 14 → a ≠ b → (TX1 a).2.1 ≠ (TX1 b).2.1 := by decide +kernel
theorem tyX1_ok : ∀ k, k < 14 → parseFieldDescriptor (TX1 k).2.2.1 = some (tyX1 k) := by decide +kernel
abbrev cX1_init : ByteArray := prog_3_method_1_code
def yX1_init : MethodName := ⟨RX1, "<init>", "(LWordHouse$Told;)V"⟩
abbrev cX1_hasRoom : ByteArray := prog_3_method_2_code
def yX1_hasRoom : MethodName := ⟨RX1, "hasRoom", "(I)Z"⟩
abbrev cX1_put : ByteArray := prog_3_method_3_code
def yX1_put : MethodName := ⟨RX1, "put", "(I)V"⟩
abbrev cX1_fed : ByteArray := prog_3_method_4_code
def yX1_fed : MethodName := ⟨RX1, "fed", "()I"⟩
abbrev cX1_faultMet : ByteArray := prog_3_method_5_code
def yX1_faultMet : MethodName := ⟨RX1, "faultMet", "()I"⟩
abbrev cX1_faultPlace : ByteArray := prog_3_method_6_code
def yX1_faultPlace : MethodName := ⟨RX1, "faultPlace", "()I"⟩
abbrev cX1_read : ByteArray := prog_3_method_7_code
def yX1_read : MethodName := ⟨RX1, "read", "(ILWordHouse$Told;)Z"⟩
abbrev cX1_readLine : ByteArray := prog_3_method_8_code
def yX1_readLine : MethodName := ⟨RX1, "readLine", "()Z"⟩
abbrev cX1_lineSort : ByteArray := prog_3_method_9_code
def yX1_lineSort : MethodName := ⟨RX1, "lineSort", "()I"⟩
abbrev cX1_isFull : ByteArray := prog_3_method_10_code
def yX1_isFull : MethodName := ⟨RX1, "isFull", "(I)Z"⟩
abbrev cX1_readHouse : ByteArray := prog_3_method_11_code
def yX1_readHouse : MethodName := ⟨RX1, "readHouse", "()Z"⟩
abbrev cX1_readEntry : ByteArray := prog_3_method_12_code
def yX1_readEntry : MethodName := ⟨RX1, "readEntry", "()Z"⟩
abbrev cX1_readMeans : ByteArray := prog_3_method_13_code
def yX1_readMeans : MethodName := ⟨RX1, "readMeans", "()Z"⟩
abbrev cX1_readRhymes : ByteArray := prog_3_method_14_code
def yX1_readRhymes : MethodName := ⟨RX1, "readRhymes", "()Z"⟩
abbrev cX1_readSpeaker : ByteArray := prog_3_method_15_code
def yX1_readSpeaker : MethodName := ⟨RX1, "readSpeaker", "()Z"⟩
abbrev cX1_kindHere : ByteArray := prog_3_method_16_code
def yX1_kindHere : MethodName := ⟨RX1, "kindHere", "()I"⟩
abbrev cX1_readSays : ByteArray := prog_3_method_17_code
def yX1_readSays : MethodName := ⟨RX1, "readSays", "()Z"⟩
abbrev cX1_readUnsure : ByteArray := prog_3_method_18_code
def yX1_readUnsure : MethodName := ⟨RX1, "readUnsure", "()Z"⟩
abbrev cX1_readLeft : ByteArray := prog_3_method_19_code
def yX1_readLeft : MethodName := ⟨RX1, "readLeft", "()Z"⟩
abbrev cX1_fail : ByteArray := prog_3_method_20_code
def yX1_fail : MethodName := ⟨RX1, "fail", "(I)Z"⟩
abbrev cX1_isWord : ByteArray := prog_3_method_21_code
def yX1_isWord : MethodName := ⟨RX1, "isWord", "(J)Z"⟩
abbrev cX1_passWord : ByteArray := prog_3_method_22_code
def yX1_passWord : MethodName := ⟨RX1, "passWord", "(J)Z"⟩
abbrev cX1_isWhole : ByteArray := prog_3_method_23_code
def yX1_isWhole : MethodName := ⟨RX1, "isWhole", "(II)Z"⟩
abbrev cX1_isName : ByteArray := prog_3_method_24_code
def yX1_isName : MethodName := ⟨RX1, "isName", "()Z"⟩
abbrev cX1_isNewName : ByteArray := prog_3_method_25_code
def yX1_isNewName : MethodName := ⟨RX1, "isNewName", "()Z"⟩
abbrev cX1_entryHere : ByteArray := prog_3_method_26_code
def yX1_entryHere : MethodName := ⟨RX1, "entryHere", "()I"⟩
abbrev cX1_speakerHere : ByteArray := prog_3_method_27_code
def yX1_speakerHere : MethodName := ⟨RX1, "speakerHere", "()I"⟩
abbrev cX1_findEntry : ByteArray := prog_3_method_28_code
def yX1_findEntry : MethodName := ⟨RX1, "findEntry", "()I"⟩
abbrev cX1_findSpeaker : ByteArray := prog_3_method_29_code
def yX1_findSpeaker : MethodName := ⟨RX1, "findSpeaker", "()I"⟩
abbrev cX1_step : ByteArray := prog_3_method_30_code
def yX1_step : MethodName := ⟨RX1, "step", "()V"⟩
abbrev cX1_readMark : ByteArray := prog_3_method_31_code
def yX1_readMark : MethodName := ⟨RX1, "readMark", "()V"⟩
abbrev cX1_readWord : ByteArray := prog_3_method_32_code
def yX1_readWord : MethodName := ⟨RX1, "readWord", "()V"⟩
abbrev cX1_readWhole : ByteArray := prog_3_method_33_code
def yX1_readWhole : MethodName := ⟨RX1, "readWhole", "()V"⟩
def RX2 : String := "WordHouse$State"
def TX2 : u_T := fun k => match k with
  | 0 => ("WordHouse$State", "in", "I", false)
  | 1 => ("WordHouse$State", "gone", "I", false)
  | 2 => ("WordHouse$State", "seed", "I", false)
  | 3 => ("WordHouse$State", "behind", "[I", true)
  | _ => ("WordHouse$State", "said", "[I", true)
def tyX2 : Nat → FieldType := fun k => match k with
  | 0 => .int
  | 1 => .int
  | 2 => .int
  | 3 => .array .int
  | _ => .array .int
abbrev wsX20 : List Cond := u_ws RX2 TX2 5
theorem nmX2 : ∀ a, a < 5 → ∀ b, b < 5 → a ≠ b → (TX2 a).2.1 ≠ (TX2 b).2.1 := by decide +kernel
theorem tyX2_ok : ∀ k, k < 5 → parseFieldDescriptor (TX2 k).2.2.1 = some (tyX2 k) := by decide +kernel
abbrev cX2_init : ByteArray := prog_4_method_1_code
def yX2_init : MethodName := ⟨RX2, "<init>", "()V"⟩
abbrev cX2_begin : ByteArray := prog_4_method_2_code
def yX2_begin : MethodName := ⟨RX2, "begin", "(I)V"⟩
abbrev cX2_copyFrom : ByteArray := prog_4_method_3_code
def yX2_copyFrom : MethodName := ⟨RX2, "copyFrom", "(LWordHouse$State;)V"⟩
abbrev cX2_keepOnly : ByteArray := prog_4_method_4_code
def yX2_keepOnly : MethodName := ⟨RX2, "keepOnly", "(I)I"⟩
def RX3 : String := "WordHouse$Told"
def TX3 : u_T := fun k => match k with
  | 0 => ("WordHouse$Told", "grace", "I", false)
  | 1 => ("WordHouse$Told", "mood", "I", false)
  | 2 => ("WordHouse$Told", "entries", "I", false)
  | 3 => ("WordHouse$Told", "rent", "[I", true)
  | 4 => ("WordHouse$Told", "meanings", "I", false)
  | 5 => ("WordHouse$Told", "meaningsOf", "[I", true)
  | 6 => ("WordHouse$Told", "meaning", "[I", true)
  | 7 => ("WordHouse$Told", "rhymes", "I", false)
  | 8 => ("WordHouse$Told", "rhymesWith", "[I", true)
  | 9 => ("WordHouse$Told", "speakers", "I", false)
  | 10 => ("WordHouse$Told", "kind", "[I", true)
  | 11 => ("WordHouse$Told", "sayings", "I", false)
  | 12 => ("WordHouse$Told", "sayer", "[I", true)
  | 13 => ("WordHouse$Told", "sayingOf", "[I", true)
  | 14 => ("WordHouse$Told", "times", "[I", true)
  | 15 => ("WordHouse$Told", "unsures", "I", false)
  | 16 => ("WordHouse$Told", "unsureOf", "[I", true)
  | 17 => ("WordHouse$Told", "otherTimes", "[I", true)
  | 18 => ("WordHouse$Told", "leavers", "I", false)
  | _ => ("WordHouse$Told", "leftIn", "[I", true)
def tyX3 : Nat → FieldType := fun k => match k with
  | 0 => .int
  | 1 => .int
  | 2 => .int
  | 3 => .array .int
  | 4 => .int
  | 5 => .array .int
  | 6 => .array .int
  | 7 => .int
  | 8 => .array .int
  | 9 => .int
  | 10 => .array .int
  | 11 => .int
  | 12 => .array .int
  | 13 => .array .int
  | 14 => .array .int
  | 15 => .int
  | 16 => .array .int
  | 17 => .array .int
  | 18 => .int
  | _ => .array .int
abbrev wsX30 : List Cond := u_ws RX3 TX3 20
theorem nmX3 : ∀ a, a < 20 → ∀ b, b < 20 → a ≠ b → (TX3 a).2.1 ≠ (TX3 b).2.1 := by decide +kernel
theorem tyX3_ok : ∀ k, k < 20 → parseFieldDescriptor (TX3 k).2.2.1 = some (tyX3 k) := by decide +kernel
abbrev cX3_init : ByteArray := prog_5_method_1_code
def yX3_init : MethodName := ⟨RX3, "<init>", "()V"⟩
abbrev cX3_clear : ByteArray := prog_5_method_2_code
def yX3_clear : MethodName := ⟨RX3, "clear", "()V"⟩
abbrev cX3_addEntry : ByteArray := prog_5_method_3_code
def yX3_addEntry : MethodName := ⟨RX3, "addEntry", "(I)V"⟩
abbrev cX3_addMeaning : ByteArray := prog_5_method_4_code
def yX3_addMeaning : MethodName := ⟨RX3, "addMeaning", "(II)V"⟩
abbrev cX3_addRhyme : ByteArray := prog_5_method_5_code
def yX3_addRhyme : MethodName := ⟨RX3, "addRhyme", "(II)V"⟩
abbrev cX3_addSpeaker : ByteArray := prog_5_method_6_code
def yX3_addSpeaker : MethodName := ⟨RX3, "addSpeaker", "(I)V"⟩
abbrev cX3_addSaying : ByteArray := prog_5_method_7_code
def yX3_addSaying : MethodName := ⟨RX3, "addSaying", "(III)V"⟩
abbrev cX3_addUnsure : ByteArray := prog_5_method_8_code
def yX3_addUnsure : MethodName := ⟨RX3, "addUnsure", "(II)V"⟩
abbrev cX3_addLeaver : ByteArray := prog_5_method_9_code
def yX3_addLeaver : MethodName := ⟨RX3, "addLeaver", "(II)V"⟩
abbrev cX3_isEntry : ByteArray := prog_5_method_10_code
def yX3_isEntry : MethodName := ⟨RX3, "isEntry", "(I)Z"⟩
abbrev cX3_isMeaning : ByteArray := prog_5_method_11_code
def yX3_isMeaning : MethodName := ⟨RX3, "isMeaning", "(II)Z"⟩
abbrev cX3_isSpeaker : ByteArray := prog_5_method_12_code
def yX3_isSpeaker : MethodName := ⟨RX3, "isSpeaker", "(I)Z"⟩
abbrev cX3_isSaying : ByteArray := prog_5_method_13_code
def yX3_isSaying : MethodName := ⟨RX3, "isSaying", "(I)Z"⟩
abbrev cX3_findSaying : ByteArray := prog_5_method_14_code
def yX3_findSaying : MethodName := ⟨RX3, "findSaying", "(II)I"⟩
abbrev cX3_saidBy : ByteArray := prog_5_method_15_code
def yX3_saidBy : MethodName := ⟨RX3, "saidBy", "(I)I"⟩
abbrev cX3_timesIn : ByteArray := prog_5_method_16_code
def yX3_timesIn : MethodName := ⟨RX3, "timesIn", "(III)I"⟩
abbrev cX3_leaversIn : ByteArray := prog_5_method_17_code
def yX3_leaversIn : MethodName := ⟨RX3, "leaversIn", "(I)I"⟩
abbrev cX3_isExplained : ByteArray := prog_5_method_18_code
def yX3_isExplained : MethodName := ⟨RX3, "isExplained", "(II)Z"⟩
abbrev cX3_explainedAmong : ByteArray := prog_5_method_19_code
def yX3_explainedAmong : MethodName := ⟨RX3, "explainedAmong", "(II)I"⟩
abbrev cX3_supported : ByteArray := prog_5_method_20_code
def yX3_supported : MethodName := ⟨RX3, "supported", "(I)I"⟩
abbrev cX3_grounded : ByteArray := prog_5_method_21_code
def yX3_grounded : MethodName := ⟨RX3, "grounded", "(II)I"⟩
abbrev cX3_depthOf : ByteArray := prog_5_method_22_code
def yX3_depthOf : MethodName := ⟨RX3, "depthOf", "(II)I"⟩
abbrev cX3_explainedBy : ByteArray := prog_5_method_23_code
def yX3_explainedBy : MethodName := ⟨RX3, "explainedBy", "(I)I"⟩
abbrev cX3_allMeanings : ByteArray := prog_5_method_24_code
def yX3_allMeanings : MethodName := ⟨RX3, "allMeanings", "(I)I"⟩
abbrev cX3_rootsOf : ByteArray := prog_5_method_25_code
def yX3_rootsOf : MethodName := ⟨RX3, "rootsOf", "(I)I"⟩
abbrev cX3_distance : ByteArray := prog_5_method_26_code
def yX3_distance : MethodName := ⟨RX3, "distance", "(II)I"⟩
abbrev cX3_withRhymes : ByteArray := prog_5_method_27_code
def yX3_withRhymes : MethodName := ⟨RX3, "withRhymes", "(I)I"⟩
abbrev cX3_rhymesBetween : ByteArray := prog_5_method_28_code
def yX3_rhymesBetween : MethodName := ⟨RX3, "rhymesBetween", "(II)I"⟩
abbrev cX3_familyOf : ByteArray := prog_5_method_29_code
def yX3_familyOf : MethodName := ⟨RX3, "familyOf", "(I)I"⟩
abbrev cX3_likelihood : ByteArray := prog_5_method_30_code
def yX3_likelihood : MethodName := ⟨RX3, "likelihood", "(I)J"⟩
abbrev cX3_certainty : ByteArray := prog_5_method_31_code
def yX3_certainty : MethodName := ⟨RX3, "certainty", "()J"⟩
def RX4 : String := "WordHouse$Years"
def TX4 : u_T := fun k => match k with
  | _ => ("WordHouse$Years", "used", "[I", true)
def tyX4 : Nat → FieldType := fun k => match k with
  | _ => .array .int
abbrev wsX40 : List Cond := u_ws RX4 TX4 1
theorem nmX4 : ∀ a, a < 1 → ∀ b, b < 1 → a ≠ b → (TX4 a).2.1 ≠ (TX4 b).2.1 := by decide +kernel
theorem tyX4_ok : ∀ k, k < 1 → parseFieldDescriptor (TX4 k).2.2.1 = some (tyX4 k) := by decide +kernel
abbrev cX4_init : ByteArray := prog_6_method_1_code
def yX4_init : MethodName := ⟨RX4, "<init>", "()V"⟩
abbrev cX4_count : ByteArray := prog_6_method_2_code
def yX4_count : MethodName := ⟨RX4, "count", "(LWordHouse$Told;LWordHouse$State;III)V"⟩
abbrev cX4_used : ByteArray := prog_6_method_3_code
def yX4_used : MethodName := ⟨RX4, "used", "(I)I"⟩
abbrev cX4_canPay : ByteArray := prog_6_method_4_code
def yX4_canPay : MethodName := ⟨RX4, "canPay", "(LWordHouse$Told;II)Z"⟩
abbrev cX4_unpaidAmong : ByteArray := prog_6_method_5_code
def yX4_unpaidAmong : MethodName := ⟨RX4, "unpaidAmong", "(LWordHouse$Told;I)I"⟩
abbrev cX4_pass : ByteArray := prog_6_method_6_code
def yX4_pass : MethodName := ⟨RX4, "pass", "(LWordHouse$Told;LWordHouse$State;II)I"⟩
abbrev cX4_passMoody : ByteArray := prog_6_method_7_code
def yX4_passMoody : MethodName := ⟨RX4, "passMoody", "(LWordHouse$Told;LWordHouse$State;)I"⟩
def RX5 : String := "WordHouse"
def TX5 : u_T := fun k => match k with
  | 0 => ("WordHouse", "reader", "LWordHouse$Reader;", true)
  | 1 => ("WordHouse", "years", "LWordHouse$Years;", true)
  | 2 => ("WordHouse", "past", "LWordHouse$Past;", true)
  | 3 => ("WordHouse", "now", "LWordHouse$State;", true)
  | 4 => ("WordHouse", "trial", "LWordHouse$State;", true)
  | 5 => ("WordHouse", "told", "LWordHouse$Told;", false)
  | 6 => ("WordHouse", "spare", "LWordHouse$Told;", false)
  | 7 => ("WordHouse", "fitting", "I", false)
  | 8 => ("WordHouse", "misjudged", "I", false)
  | _ => ("WordHouse", "trouble", "I", false)
def tyX5 : Nat → FieldType := fun k => match k with
  | 0 => .object "WordHouse$Reader"
  | 1 => .object "WordHouse$Years"
  | 2 => .object "WordHouse$Past"
  | 3 => .object "WordHouse$State"
  | 4 => .object "WordHouse$State"
  | 5 => .object "WordHouse$Told"
  | 6 => .object "WordHouse$Told"
  | 7 => .int
  | 8 => .int
  | _ => .int
abbrev wsX50 : List Cond := u_ws RX5 TX5 10
theorem nmX5 : ∀ a, a < 10 → ∀ b, b < 10 → a ≠ b → (TX5 a).2.1 ≠ (TX5 b).2.1 := by decide +kernel
theorem tyX5_ok : ∀ k, k < 10 → parseFieldDescriptor (TX5 k).2.2.1 = some (tyX5 k) := by decide +kernel
abbrev cX5_init : ByteArray := prog_1_method_1_code
def yX5_init : MethodName := ⟨RX5, "<init>", "()V"⟩
abbrev cX5_feed : ByteArray := prog_1_method_2_code
def yX5_feed : MethodName := ⟨RX5, "feed", "(IIIII)I"⟩
abbrev cX5_house : ByteArray := prog_1_method_3_code
def yX5_house : MethodName := ⟨RX5, "house", "(I)I"⟩
abbrev cX5_fault : ByteArray := prog_1_method_4_code
def yX5_fault : MethodName := ⟨RX5, "fault", "()I"⟩
abbrev cX5_where : ByteArray := prog_1_method_5_code
def yX5_where : MethodName := ⟨RX5, "where", "()I"⟩
abbrev cX5_entry : ByteArray := prog_1_method_6_code
def yX5_entry : MethodName := ⟨RX5, "entry", "(II)I"⟩
abbrev cX5_meaning : ByteArray := prog_1_method_7_code
def yX5_meaning : MethodName := ⟨RX5, "meaning", "(II)I"⟩
abbrev cX5_speaker : ByteArray := prog_1_method_8_code
def yX5_speaker : MethodName := ⟨RX5, "speaker", "(II)I"⟩
abbrev cX5_saysIn : ByteArray := prog_1_method_9_code
def yX5_saysIn : MethodName := ⟨RX5, "saysIn", "(III)I"⟩
abbrev cX5_uses : ByteArray := prog_1_method_10_code
def yX5_uses : MethodName := ⟨RX5, "uses", "(II)I"⟩
abbrev cX5_pays : ByteArray := prog_1_method_11_code
def yX5_pays : MethodName := ⟨RX5, "pays", "(II)I"⟩
abbrev cX5_lodgers : ByteArray := prog_1_method_12_code
def yX5_lodgers : MethodName := ⟨RX5, "lodgers", "()I"⟩
abbrev cX5_debtors : ByteArray := prog_1_method_13_code
def yX5_debtors : MethodName := ⟨RX5, "debtors", "()I"⟩
abbrev cX5_after : ByteArray := prog_1_method_14_code
def yX5_after : MethodName := ⟨RX5, "after", "(I)I"⟩
abbrev cX5_outIn : ByteArray := prog_1_method_15_code
def yX5_outIn : MethodName := ⟨RX5, "outIn", "(I)I"⟩
abbrev cX5_emptyIn : ByteArray := prog_1_method_16_code
def yX5_emptyIn : MethodName := ⟨RX5, "emptyIn", "()I"⟩
abbrev cX5_pillar : ByteArray := prog_1_method_17_code
def yX5_pillar : MethodName := ⟨RX5, "pillar", "()I"⟩
abbrev cX5_goWith : ByteArray := prog_1_method_18_code
def yX5_goWith : MethodName := ⟨RX5, "goWith", "(I)I"⟩
abbrev cX5_keep : ByteArray := prog_1_method_19_code
def yX5_keep : MethodName := ⟨RX5, "keep", "(I)I"⟩
abbrev cX5_dearest : ByteArray := prog_1_method_20_code
def yX5_dearest : MethodName := ⟨RX5, "dearest", "()I"⟩
abbrev cX5_rings : ByteArray := prog_1_method_21_code
def yX5_rings : MethodName := ⟨RX5, "rings", "()I"⟩
abbrev cX5_point : ByteArray := prog_1_method_22_code
def yX5_point : MethodName := ⟨RX5, "point", "()I"⟩
abbrev cX5_depth : ByteArray := prog_1_method_23_code
def yX5_depth : MethodName := ⟨RX5, "depth", "(I)I"⟩
abbrev cX5_fell : ByteArray := prog_1_method_24_code
def yX5_fell : MethodName := ⟨RX5, "fell", "()I"⟩
abbrev cX5_roots : ByteArray := prog_1_method_25_code
def yX5_roots : MethodName := ⟨RX5, "roots", "(I)I"⟩
abbrev cX5_circular : ByteArray := prog_1_method_26_code
def yX5_circular : MethodName := ⟨RX5, "circular", "(I)I"⟩
abbrev cX5_apart : ByteArray := prog_1_method_27_code
def yX5_apart : MethodName := ⟨RX5, "apart", "(II)I"⟩
abbrev cX5_twins : ByteArray := prog_1_method_28_code
def yX5_twins : MethodName := ⟨RX5, "twins", "()I"⟩
abbrev cX5_chime : ByteArray := prog_1_method_29_code
def yX5_chime : MethodName := ⟨RX5, "chime", "(II)I"⟩
abbrev cX5_families : ByteArray := prog_1_method_30_code
def yX5_families : MethodName := ⟨RX5, "families", "()I"⟩
abbrev cX5_fits : ByteArray := prog_1_method_31_code
def yX5_fits : MethodName := ⟨RX5, "fits", "()I"⟩
abbrev cX5_fitAt : ByteArray := prog_1_method_32_code
def yX5_fitAt : MethodName := ⟨RX5, "fitAt", "(I)I"⟩
abbrev cX5_could : ByteArray := prog_1_method_33_code
def yX5_could : MethodName := ⟨RX5, "could", "()I"⟩
abbrev cX5_surely : ByteArray := prog_1_method_34_code
def yX5_surely : MethodName := ⟨RX5, "surely", "()I"⟩
abbrev cX5_ask : ByteArray := prog_1_method_35_code
def yX5_ask : MethodName := ⟨RX5, "ask", "()I"⟩
abbrev cX5_askLeaves : ByteArray := prog_1_method_36_code
def yX5_askLeaves : MethodName := ⟨RX5, "askLeaves", "()I"⟩
abbrev cX5_judge : ByteArray := prog_1_method_37_code
def yX5_judge : MethodName := ⟨RX5, "judge", "()I"⟩
abbrev cX5_mends : ByteArray := prog_1_method_38_code
def yX5_mends : MethodName := ⟨RX5, "mends", "(IZZZ)I"⟩
abbrev cX5_rests : ByteArray := prog_1_method_39_code
def yX5_rests : MethodName := ⟨RX5, "rests", "(I)I"⟩
abbrev cX5_rest : ByteArray := prog_1_method_40_code
def yX5_rest : MethodName := ⟨RX5, "rest", "(I)I"⟩
abbrev cX5_odds : ByteArray := prog_1_method_41_code
def yX5_odds : MethodName := ⟨RX5, "odds", "(IZ)J"⟩
abbrev cX5_mean : ByteArray := prog_1_method_42_code
def yX5_mean : MethodName := ⟨RX5, "mean", "(IZ)J"⟩
abbrev cX5_stays : ByteArray := prog_1_method_43_code
def yX5_stays : MethodName := ⟨RX5, "stays", "(IZ)J"⟩
abbrev cX5_moody : ByteArray := prog_1_method_44_code
def yX5_moody : MethodName := ⟨RX5, "moody", "(II)I"⟩
abbrev cX5_firstOut : ByteArray := prog_1_method_45_code
def yX5_firstOut : MethodName := ⟨RX5, "firstOut", "(II)I"⟩
abbrev cX5_year : ByteArray := prog_1_method_46_code
def yX5_year : MethodName := ⟨RX5, "year", "()I"⟩
abbrev cX5_moodyYear : ByteArray := prog_1_method_47_code
def yX5_moodyYear : MethodName := ⟨RX5, "moodyYear", "()I"⟩
abbrev cX5_say : ByteArray := prog_1_method_48_code
def yX5_say : MethodName := ⟨RX5, "say", "(II)I"⟩
abbrev cX5_evict : ByteArray := prog_1_method_49_code
def yX5_evict : MethodName := ⟨RX5, "evict", "(I)I"⟩
abbrev cX5_take : ByteArray := prog_1_method_50_code
def yX5_take : MethodName := ⟨RX5, "take", "(I)Z"⟩
abbrev cX5_seed : ByteArray := prog_1_method_51_code
def yX5_seed : MethodName := ⟨RX5, "seed", "(I)Z"⟩
abbrev cX5_undo : ByteArray := prog_1_method_52_code
def yX5_undo : MethodName := ⟨RX5, "undo", "()Z"⟩
abbrev cX5_image : ByteArray := prog_1_method_53_code
def yX5_image : MethodName := ⟨RX5, "image", "()I"⟩
abbrev cX5_back : ByteArray := prog_1_method_54_code
def yX5_back : MethodName := ⟨RX5, "back", "(I)Z"⟩
abbrev cX5_led : ByteArray := prog_1_method_55_code
def yX5_led : MethodName := ⟨RX5, "led", "(I)I"⟩
abbrev cX5_size : ByteArray := prog_1_method_56_code
def yX5_size : MethodName := ⟨RX5, "size", "(I)I"⟩
abbrev cX5_trouble : ByteArray := prog_1_method_57_code
def yX5_trouble : MethodName := ⟨RX5, "trouble", "()I"⟩
abbrev cX5_granted : ByteArray := prog_1_method_58_code
def yX5_granted : MethodName := ⟨RX5, "granted", "(I)I"⟩
abbrev cX5_refused : ByteArray := prog_1_method_59_code
def yX5_refused : MethodName := ⟨RX5, "refused", "(I)I"⟩
abbrev cX5_allowed : ByteArray := prog_1_method_60_code
def yX5_allowed : MethodName := ⟨RX5, "allowed", "()Z"⟩
abbrev cX5_denied : ByteArray := prog_1_method_61_code
def yX5_denied : MethodName := ⟨RX5, "denied", "(I)Z"⟩
abbrev cX5_isHouse : ByteArray := prog_1_method_62_code
def yX5_isHouse : MethodName := ⟨RX5, "isHouse", "()Z"⟩
abbrev cX5_isYear : ByteArray := prog_1_method_63_code
def yX5_isYear : MethodName := ⟨RX5, "isYear", "(I)Z"⟩
abbrev cX5_isForeseen : ByteArray := prog_1_method_64_code
def yX5_isForeseen : MethodName := ⟨RX5, "isForeseen", "(I)Z"⟩
abbrev cX5_isSeed : ByteArray := prog_1_method_65_code
def yX5_isSeed : MethodName := ⟨RX5, "isSeed", "(I)Z"⟩
abbrev cX5_inkRefusal : ByteArray := prog_1_method_66_code
def yX5_inkRefusal : MethodName := ⟨RX5, "inkRefusal", "(I)I"⟩
abbrev cX5_has : ByteArray := prog_1_method_67_code
def yX5_has : MethodName := ⟨RX5, "has", "(II)Z"⟩
abbrev cX5_nthBit : ByteArray := prog_1_method_68_code
def yX5_nthBit : MethodName := ⟨RX5, "nthBit", "(II)I"⟩
abbrev cX5_yearsUntilOut : ByteArray := prog_1_method_69_code
def yX5_yearsUntilOut : MethodName := ⟨RX5, "yearsUntilOut", "(I)I"⟩
abbrev cX5_goingWith : ByteArray := prog_1_method_70_code
def yX5_goingWith : MethodName := ⟨RX5, "goingWith", "(I)I"⟩
abbrev cX5_leastToKeep : ByteArray := prog_1_method_71_code
def yX5_leastToKeep : MethodName := ⟨RX5, "leastToKeep", "(I)I"⟩
abbrev cX5_isKeptBy : ByteArray := prog_1_method_72_code
def yX5_isKeptBy : MethodName := ⟨RX5, "isKeptBy", "(II)Z"⟩
abbrev cX5_fewestToPoint : ByteArray := prog_1_method_73_code
def yX5_fewestToPoint : MethodName := ⟨RX5, "fewestToPoint", "()I"⟩
abbrev cX5_fewestToFell : ByteArray := prog_1_method_74_code
def yX5_fewestToFell : MethodName := ⟨RX5, "fewestToFell", "()I"⟩
abbrev cX5_setsThatFit : ByteArray := prog_1_method_75_code
def yX5_setsThatFit : MethodName := ⟨RX5, "setsThatFit", "()I"⟩
abbrev cX5_misfits : ByteArray := prog_1_method_76_code
def yX5_misfits : MethodName := ⟨RX5, "misfits", "(I)I"⟩
abbrev cX5_bestToAsk : ByteArray := prog_1_method_77_code
def yX5_bestToAsk : MethodName := ⟨RX5, "bestToAsk", "()I"⟩
abbrev cX5_mostLeftBy : ByteArray := prog_1_method_78_code
def yX5_mostLeftBy : MethodName := ⟨RX5, "mostLeftBy", "(I)I"⟩
abbrev cX5_share : ByteArray := prog_1_method_79_code
def yX5_share : MethodName := ⟨RX5, "share", "(IZZ)I"⟩
abbrev cX5_isRest : ByteArray := prog_1_method_80_code
def yX5_isRest : MethodName := ⟨RX5, "isRest", "(II)Z"⟩
abbrev cX5_ratio : ByteArray := prog_1_method_81_code
def yX5_ratio : MethodName := ⟨RX5, "ratio", "(JJZ)J"⟩
abbrev cX5_commonDivisor : ByteArray := prog_1_method_82_code
def yX5_commonDivisor : MethodName := ⟨RX5, "commonDivisor", "(JJ)J"⟩
def RX6 : String := "WordHouseModel$House"
def TX6 : u_T := fun k => match k with
  | 0 => ("WordHouseModel$House", "grace", "I", false)
  | 1 => ("WordHouseModel$House", "mood", "I", false)
  | 2 => ("WordHouseModel$House", "entries", "I", false)
  | 3 => ("WordHouseModel$House", "meanings", "I", false)
  | 4 => ("WordHouseModel$House", "rhymings", "I", false)
  | 5 => ("WordHouseModel$House", "speakers", "I", false)
  | 6 => ("WordHouseModel$House", "sayings", "I", false)
  | 7 => ("WordHouseModel$House", "unsures", "I", false)
  | 8 => ("WordHouseModel$House", "lefts", "I", false)
  | 9 => ("WordHouseModel$House", "names", "I", false)
  | 10 => ("WordHouseModel$House", "rent", "[I", true)
  | 11 => ("WordHouseModel$House", "many", "[I", true)
  | 12 => ("WordHouseModel$House", "meaning", "[I", true)
  | 13 => ("WordHouseModel$House", "rhymes", "[I", true)
  | 14 => ("WordHouseModel$House", "left", "[I", true)
  | 15 => ("WordHouseModel$House", "kind", "[I", true)
  | 16 => ("WordHouseModel$House", "by", "[I", true)
  | 17 => ("WordHouseModel$House", "of", "[I", true)
  | 18 => ("WordHouseModel$House", "times", "[I", true)
  | 19 => ("WordHouseModel$House", "unsure", "[I", true)
  | 20 => ("WordHouseModel$House", "other", "[I", true)
  | 21 => ("WordHouseModel$House", "name", "[J", true)
  | 22 => ("WordHouseModel$House", "nameSort", "[I", true)
  | _ => ("WordHouseModel$House", "numberOf", "[I", true)
def tyX6 : Nat → FieldType := fun k => match k with
  | 0 => .int
  | 1 => .int
  | 2 => .int
  | 3 => .int
  | 4 => .int
  | 5 => .int
  | 6 => .int
  | 7 => .int
  | 8 => .int
  | 9 => .int
  | 10 => .array .int
  | 11 => .array .int
  | 12 => .array .int
  | 13 => .array .int
  | 14 => .array .int
  | 15 => .array .int
  | 16 => .array .int
  | 17 => .array .int
  | 18 => .array .int
  | 19 => .array .int
  | 20 => .array .int
  | 21 => .array .long
  | 22 => .array .int
  | _ => .array .int
abbrev wsX60 : List Cond := u_ws RX6 TX6 24
theorem nmX6 : ∀ a, a < 24 → ∀ b, b < 24 → a ≠ b → (TX6 a).2.1 ≠ (TX6 b).2.1 := by decide +kernel
theorem tyX6_ok : ∀ k, k < 24 → parseFieldDescriptor (TX6 k).2.2.1 = some (tyX6 k) := by decide +kernel
abbrev cX6_init : ByteArray := prog_9_method_1_code
def yX6_init : MethodName := ⟨RX6, "<init>", "()V"⟩
abbrev cX6_find : ByteArray := prog_9_method_2_code
def yX6_find : MethodName := ⟨RX6, "find", "(J)I"⟩
abbrev cX6_saying : ByteArray := prog_9_method_3_code
def yX6_saying : MethodName := ⟨RX6, "saying", "(II)I"⟩
abbrev cX6_isUnsure : ByteArray := prog_9_method_4_code
def yX6_isUnsure : MethodName := ⟨RX6, "isUnsure", "(I)Z"⟩
def RX7 : String := "WordHouseModel"
def TX7 : u_T := fun k => match k with
  | 0 => ("WordHouseModel", "thrown", "I", false)
  | 1 => ("WordHouseModel", "trouble", "I", false)
  | 2 => ("WordHouseModel", "where", "I", false)
  | 3 => ("WordHouseModel", "house", "LWordHouseModel$House;", false)
  | 4 => ("WordHouseModel", "read", "LWordHouseModel$House;", false)
  | 5 => ("WordHouseModel", "tape", "[B", true)
  | 6 => ("WordHouseModel", "taped", "I", false)
  | 7 => ("WordHouseModel", "size", "I", false)
  | 8 => ("WordHouseModel", "spot", "I", false)
  | 9 => ("WordHouseModel", "sort", "I", false)
  | 10 => ("WordHouseModel", "place", "I", false)
  | 11 => ("WordHouseModel", "number", "I", false)
  | 12 => ("WordHouseModel", "fault", "I", false)
  | 13 => ("WordHouseModel", "wrongAt", "I", false)
  | 14 => ("WordHouseModel", "word", "J", false)
  | 15 => ("WordHouseModel", "v", "[I", true)
  | 16 => ("WordHouseModel", "x", "[I", true)
  | 17 => ("WordHouseModel", "past", "[I", true)
  | 18 => ("WordHouseModel", "kept", "[I", true)
  | 19 => ("WordHouseModel", "acts", "I", false)
  | 20 => ("WordHouseModel", "images", "I", false)
  | 21 => ("WordHouseModel", "others", "I", false)
  | 22 => ("WordHouseModel", "silent", "I", false)
  | 23 => ("WordHouseModel", "deep", "[I", true)
  | 24 => ("WordHouseModel", "fitsNow", "I", false)
  | 25 => ("WordHouseModel", "someNow", "I", false)
  | 26 => ("WordHouseModel", "everyNow", "I", false)
  | 27 => ("WordHouseModel", "otherIn", "[I", true)
  | 28 => ("WordHouseModel", "went", "[I", true)
  | _ => ("WordHouseModel", "askLeft", "I", false)
def tyX7 : Nat → FieldType := fun k => match k with
  | 0 => .int
  | 1 => .int
  | 2 => .int
  | 3 => .object "WordHouseModel$House"
  | 4 => .object "WordHouseModel$House"
  | 5 => .array .byte
  | 6 => .int
  | 7 => .int
  | 8 => .int
  | 9 => .int
  | 10 => .int
  | 11 => .int
  | 12 => .int
  | 13 => .int
  | 14 => .long
  | 15 => .array .int
  | 16 => .array .int
  | 17 => .array .int
  | 18 => .array .int
  | 19 => .int
  | 20 => .int
  | 21 => .int
  | 22 => .int
  | 23 => .array .int
  | 24 => .int
  | 25 => .int
  | 26 => .int
  | 27 => .array .int
  | 28 => .array .int
  | _ => .int
abbrev wsX70 : List Cond := u_ws RX7 TX7 30
theorem nmX7 : ∀ a, a < 30 → ∀ b, b < 30 → a ≠ b → (TX7 a).2.1 ≠ (TX7 b).2.1 := by decide +kernel
theorem tyX7_ok : ∀ k, k < 30 → parseFieldDescriptor (TX7 k).2.2.1 = some (tyX7 k) := by decide +kernel
abbrev cX7_init : ByteArray := prog_8_method_1_code
def yX7_init : MethodName := ⟨RX7, "<init>", "()V"⟩
abbrev cX7_thrown : ByteArray := prog_8_method_2_code
def yX7_thrown : MethodName := ⟨RX7, "thrown", "()I"⟩
abbrev cX7_refused : ByteArray := prog_8_method_3_code
def yX7_refused : MethodName := ⟨RX7, "refused", "(I)I"⟩
abbrev cX7_lost : ByteArray := prog_8_method_4_code
def yX7_lost : MethodName := ⟨RX7, "lost", "(I)I"⟩
abbrev cX7_denied : ByteArray := prog_8_method_5_code
def yX7_denied : MethodName := ⟨RX7, "denied", "(I)Z"⟩
abbrev cX7_good : ByteArray := prog_8_method_6_code
def yX7_good : MethodName := ⟨RX7, "good", "(I)I"⟩
abbrev cX7_granted : ByteArray := prog_8_method_7_code
def yX7_granted : MethodName := ⟨RX7, "granted", "()Z"⟩
abbrev cX7_in : ByteArray := prog_8_method_8_code
def yX7_in : MethodName := ⟨RX7, "in", "(III)Z"⟩
abbrev cX7_bit : ByteArray := prog_8_method_9_code
def yX7_bit : MethodName := ⟨RX7, "bit", "(II)Z"⟩
abbrev cX7_bits : ByteArray := prog_8_method_10_code
def yX7_bits : MethodName := ⟨RX7, "bits", "(I)I"⟩
abbrev cX7_common : ByteArray := prog_8_method_11_code
def yX7_common : MethodName := ⟨RX7, "common", "(JJ)J"⟩
abbrev cX7_fraction : ByteArray := prog_8_method_12_code
def yX7_fraction : MethodName := ⟨RX7, "fraction", "(JJZ)J"⟩
abbrev cX7_byteAt : ByteArray := prog_8_method_13_code
def yX7_byteAt : MethodName := ⟨RX7, "byteAt", "(I)I"⟩
abbrev cX7_isLetter : ByteArray := prog_8_method_14_code
def yX7_isLetter : MethodName := ⟨RX7, "isLetter", "(I)Z"⟩
abbrev cX7_isDigit : ByteArray := prog_8_method_15_code
def yX7_isDigit : MethodName := ⟨RX7, "isDigit", "(I)Z"⟩
abbrev cX7_packed : ByteArray := prog_8_method_16_code
def yX7_packed : MethodName := ⟨RX7, "packed", "(Ljava/lang/String;)J"⟩
abbrev cX7_goesOn : ByteArray := prog_8_method_17_code
def yX7_goesOn : MethodName := ⟨RX7, "goesOn", "()V"⟩
abbrev cX7_flaw : ByteArray := prog_8_method_18_code
def yX7_flaw : MethodName := ⟨RX7, "flaw", "(I)V"⟩
abbrev cX7_isWord : ByteArray := prog_8_method_19_code
def yX7_isWord : MethodName := ⟨RX7, "isWord", "(Ljava/lang/String;)Z"⟩
abbrev cX7_eats : ByteArray := prog_8_method_20_code
def yX7_eats : MethodName := ⟨RX7, "eats", "(C)Z"⟩
abbrev cX7_readWhole : ByteArray := prog_8_method_21_code
def yX7_readWhole : MethodName := ⟨RX7, "readWhole", "(II)I"⟩
abbrev cX7_readPart : ByteArray := prog_8_method_22_code
def yX7_readPart : MethodName := ⟨RX7, "readPart", "(Ljava/lang/String;II)I"⟩
abbrev cX7_isName : ByteArray := prog_8_method_23_code
def yX7_isName : MethodName := ⟨RX7, "isName", "()Z"⟩
abbrev cX7_lineBegins : ByteArray := prog_8_method_24_code
def yX7_lineBegins : MethodName := ⟨RX7, "lineBegins", "(II)V"⟩
abbrev cX7_readFresh : ByteArray := prog_8_method_25_code
def yX7_readFresh : MethodName := ⟨RX7, "readFresh", "()J"⟩
abbrev cX7_names : ByteArray := prog_8_method_26_code
def yX7_names : MethodName := ⟨RX7, "names", "(JII)V"⟩
abbrev cX7_knownOne : ByteArray := prog_8_method_27_code
def yX7_knownOne : MethodName := ⟨RX7, "knownOne", "(I)I"⟩
abbrev cX7_readKnown : ByteArray := prog_8_method_28_code
def yX7_readKnown : MethodName := ⟨RX7, "readKnown", "(I)I"⟩
abbrev cX7_readAll : ByteArray := prog_8_method_29_code
def yX7_readAll : MethodName := ⟨RX7, "readAll", "()V"⟩
abbrev cX7_readLine : ByteArray := prog_8_method_30_code
def yX7_readLine : MethodName := ⟨RX7, "readLine", "()V"⟩
abbrev cX7_readHouse : ByteArray := prog_8_method_31_code
def yX7_readHouse : MethodName := ⟨RX7, "readHouse", "()V"⟩
abbrev cX7_readEntry : ByteArray := prog_8_method_32_code
def yX7_readEntry : MethodName := ⟨RX7, "readEntry", "()V"⟩
abbrev cX7_readMeans : ByteArray := prog_8_method_33_code
def yX7_readMeans : MethodName := ⟨RX7, "readMeans", "()V"⟩
abbrev cX7_readRhymes : ByteArray := prog_8_method_34_code
def yX7_readRhymes : MethodName := ⟨RX7, "readRhymes", "()V"⟩
abbrev cX7_readSpeaker : ByteArray := prog_8_method_35_code
def yX7_readSpeaker : MethodName := ⟨RX7, "readSpeaker", "()V"⟩
abbrev cX7_readSays : ByteArray := prog_8_method_36_code
def yX7_readSays : MethodName := ⟨RX7, "readSays", "()V"⟩
abbrev cX7_readUnsure : ByteArray := prog_8_method_37_code
def yX7_readUnsure : MethodName := ⟨RX7, "readUnsure", "()V"⟩
abbrev cX7_readLeft : ByteArray := prog_8_method_38_code
def yX7_readLeft : MethodName := ⟨RX7, "readLeft", "()V"⟩
abbrev cX7_feed : ByteArray := prog_8_method_39_code
def yX7_feed : MethodName := ⟨RX7, "feed", "(IIIII)I"⟩
abbrev cX7_house : ByteArray := prog_8_method_40_code
def yX7_house : MethodName := ⟨RX7, "house", "(I)I"⟩
abbrev cX7_fault : ByteArray := prog_8_method_41_code
def yX7_fault : MethodName := ⟨RX7, "fault", "()I"⟩
abbrev cX7_where : ByteArray := prog_8_method_42_code
def yX7_where : MethodName := ⟨RX7, "where", "()I"⟩
abbrev cX7_isEntry : ByteArray := prog_8_method_43_code
def yX7_isEntry : MethodName := ⟨RX7, "isEntry", "(I)Z"⟩
abbrev cX7_isSpeaker : ByteArray := prog_8_method_44_code
def yX7_isSpeaker : MethodName := ⟨RX7, "isSpeaker", "(I)Z"⟩
abbrev cX7_works : ByteArray := prog_8_method_45_code
def yX7_works : MethodName := ⟨RX7, "works", "()V"⟩
abbrev cX7_all : ByteArray := prog_8_method_46_code
def yX7_all : MethodName := ⟨RX7, "all", "()I"⟩
abbrev cX7_asTold : ByteArray := prog_8_method_47_code
def yX7_asTold : MethodName := ⟨RX7, "asTold", "()V"⟩
abbrev cX7_timesOf : ByteArray := prog_8_method_48_code
def yX7_timesOf : MethodName := ⟨RX7, "timesOf", "(I)I"⟩
abbrev cX7_saidBy : ByteArray := prog_8_method_49_code
def yX7_saidBy : MethodName := ⟨RX7, "saidBy", "(II)I"⟩
abbrev cX7_used : ByteArray := prog_8_method_50_code
def yX7_used : MethodName := ⟨RX7, "used", "(II)I"⟩
abbrev cX7_isPaid : ByteArray := prog_8_method_51_code
def yX7_isPaid : MethodName := ⟨RX7, "isPaid", "(II)Z"⟩
abbrev cX7_debts : ByteArray := prog_8_method_52_code
def yX7_debts : MethodName := ⟨RX7, "debts", "(I)I"⟩
abbrev cX7_isExplained : ByteArray := prog_8_method_53_code
def yX7_isExplained : MethodName := ⟨RX7, "isExplained", "(II)Z"⟩
abbrev cX7_settled : ByteArray := prog_8_method_54_code
def yX7_settled : MethodName := ⟨RX7, "settled", "(I)I"⟩
abbrev cX7_stay : ByteArray := prog_8_method_55_code
def yX7_stay : MethodName := ⟨RX7, "stay", "(I)V"⟩
abbrev cX7_aYear : ByteArray := prog_8_method_56_code
def yX7_aYear : MethodName := ⟨RX7, "aYear", "()I"⟩
abbrev cX7_aMoodyYear : ByteArray := prog_8_method_57_code
def yX7_aMoodyYear : MethodName := ⟨RX7, "aMoodyYear", "()I"⟩
abbrev cX7_explainedBy : ByteArray := prog_8_method_58_code
def yX7_explainedBy : MethodName := ⟨RX7, "explainedBy", "(I)I"⟩
abbrev cX7_entry : ByteArray := prog_8_method_59_code
def yX7_entry : MethodName := ⟨RX7, "entry", "(II)I"⟩
abbrev cX7_meaning : ByteArray := prog_8_method_60_code
def yX7_meaning : MethodName := ⟨RX7, "meaning", "(II)I"⟩
abbrev cX7_speaker : ByteArray := prog_8_method_61_code
def yX7_speaker : MethodName := ⟨RX7, "speaker", "(II)I"⟩
abbrev cX7_refusesYear : ByteArray := prog_8_method_62_code
def yX7_refusesYear : MethodName := ⟨RX7, "refusesYear", "(ZI)I"⟩
abbrev cX7_saysIn : ByteArray := prog_8_method_63_code
def yX7_saysIn : MethodName := ⟨RX7, "saysIn", "(III)I"⟩
abbrev cX7_uses : ByteArray := prog_8_method_64_code
def yX7_uses : MethodName := ⟨RX7, "uses", "(II)I"⟩
abbrev cX7_pays : ByteArray := prog_8_method_65_code
def yX7_pays : MethodName := ⟨RX7, "pays", "(II)I"⟩
abbrev cX7_lodgers : ByteArray := prog_8_method_66_code
def yX7_lodgers : MethodName := ⟨RX7, "lodgers", "()I"⟩
abbrev cX7_debtors : ByteArray := prog_8_method_67_code
def yX7_debtors : MethodName := ⟨RX7, "debtors", "()I"⟩
abbrev cX7_after : ByteArray := prog_8_method_68_code
def yX7_after : MethodName := ⟨RX7, "after", "(I)I"⟩
abbrev cX7_outIn : ByteArray := prog_8_method_69_code
def yX7_outIn : MethodName := ⟨RX7, "outIn", "(I)I"⟩
abbrev cX7_emptyIn : ByteArray := prog_8_method_70_code
def yX7_emptyIn : MethodName := ⟨RX7, "emptyIn", "()I"⟩
abbrev cX7_goesWith : ByteArray := prog_8_method_71_code
def yX7_goesWith : MethodName := ⟨RX7, "goesWith", "(I)I"⟩
abbrev cX7_pillar : ByteArray := prog_8_method_72_code
def yX7_pillar : MethodName := ⟨RX7, "pillar", "()I"⟩
abbrev cX7_refusesLodger : ByteArray := prog_8_method_73_code
def yX7_refusesLodger : MethodName := ⟨RX7, "refusesLodger", "(I)I"⟩
abbrev cX7_goWith : ByteArray := prog_8_method_74_code
def yX7_goWith : MethodName := ⟨RX7, "goWith", "(I)I"⟩
abbrev cX7_keeps : ByteArray := prog_8_method_75_code
def yX7_keeps : MethodName := ⟨RX7, "keeps", "(I)I"⟩
abbrev cX7_keep : ByteArray := prog_8_method_76_code
def yX7_keep : MethodName := ⟨RX7, "keep", "(I)I"⟩
abbrev cX7_dearest : ByteArray := prog_8_method_77_code
def yX7_dearest : MethodName := ⟨RX7, "dearest", "()I"⟩
abbrev cX7_grounded : ByteArray := prog_8_method_78_code
def yX7_grounded : MethodName := ⟨RX7, "grounded", "(I)I"⟩
abbrev cX7_rings : ByteArray := prog_8_method_79_code
def yX7_rings : MethodName := ⟨RX7, "rings", "()I"⟩
abbrev cX7_point : ByteArray := prog_8_method_80_code
def yX7_point : MethodName := ⟨RX7, "point", "()I"⟩
abbrev cX7_depth : ByteArray := prog_8_method_81_code
def yX7_depth : MethodName := ⟨RX7, "depth", "(I)I"⟩
abbrev cX7_deepens : ByteArray := prog_8_method_82_code
def yX7_deepens : MethodName := ⟨RX7, "deepens", "(II)V"⟩
abbrev cX7_fell : ByteArray := prog_8_method_83_code
def yX7_fell : MethodName := ⟨RX7, "fell", "()I"⟩
abbrev cX7_rootsOf : ByteArray := prog_8_method_84_code
def yX7_rootsOf : MethodName := ⟨RX7, "rootsOf", "(I)I"⟩
abbrev cX7_roots : ByteArray := prog_8_method_85_code
def yX7_roots : MethodName := ⟨RX7, "roots", "(I)I"⟩
abbrev cX7_circular : ByteArray := prog_8_method_86_code
def yX7_circular : MethodName := ⟨RX7, "circular", "(I)I"⟩
abbrev cX7_meant : ByteArray := prog_8_method_87_code
def yX7_meant : MethodName := ⟨RX7, "meant", "(II)I"⟩
abbrev cX7_meanings : ByteArray := prog_8_method_88_code
def yX7_meanings : MethodName := ⟨RX7, "meanings", "(I)I"⟩
abbrev cX7_between : ByteArray := prog_8_method_89_code
def yX7_between : MethodName := ⟨RX7, "between", "(II)I"⟩
abbrev cX7_apart : ByteArray := prog_8_method_90_code
def yX7_apart : MethodName := ⟨RX7, "apart", "(II)I"⟩
abbrev cX7_twins : ByteArray := prog_8_method_91_code
def yX7_twins : MethodName := ⟨RX7, "twins", "()I"⟩
abbrev cX7_rhymesOver : ByteArray := prog_8_method_92_code
def yX7_rhymesOver : MethodName := ⟨RX7, "rhymesOver", "(II)I"⟩
abbrev cX7_chime : ByteArray := prog_8_method_93_code
def yX7_chime : MethodName := ⟨RX7, "chime", "(II)I"⟩
abbrev cX7_families : ByteArray := prog_8_method_94_code
def yX7_families : MethodName := ⟨RX7, "families", "()I"⟩
abbrev cX7_wrong : ByteArray := prog_8_method_95_code
def yX7_wrong : MethodName := ⟨RX7, "wrong", "(I)I"⟩
abbrev cX7_fitting : ByteArray := prog_8_method_96_code
def yX7_fitting : MethodName := ⟨RX7, "fitting", "(I)I"⟩
abbrev cX7_fits : ByteArray := prog_8_method_97_code
def yX7_fits : MethodName := ⟨RX7, "fits", "()I"⟩
abbrev cX7_fitAt : ByteArray := prog_8_method_98_code
def yX7_fitAt : MethodName := ⟨RX7, "fitAt", "(I)I"⟩
abbrev cX7_could : ByteArray := prog_8_method_99_code
def yX7_could : MethodName := ⟨RX7, "could", "()I"⟩
abbrev cX7_surely : ByteArray := prog_8_method_100_code
def yX7_surely : MethodName := ⟨RX7, "surely", "()I"⟩
abbrev cX7_asks : ByteArray := prog_8_method_101_code
def yX7_asks : MethodName := ⟨RX7, "asks", "()I"⟩
abbrev cX7_ask : ByteArray := prog_8_method_102_code
def yX7_ask : MethodName := ⟨RX7, "ask", "()I"⟩
abbrev cX7_askLeaves : ByteArray := prog_8_method_103_code
def yX7_askLeaves : MethodName := ⟨RX7, "askLeaves", "()I"⟩
abbrev cX7_judge : ByteArray := prog_8_method_104_code
def yX7_judge : MethodName := ⟨RX7, "judge", "()I"⟩
abbrev cX7_mended : ByteArray := prog_8_method_105_code
def yX7_mended : MethodName := ⟨RX7, "mended", "(IZZ)I"⟩
abbrev cX7_refusesInk : ByteArray := prog_8_method_106_code
def yX7_refusesInk : MethodName := ⟨RX7, "refusesInk", "(I)I"⟩
abbrev cX7_mends : ByteArray := prog_8_method_107_code
def yX7_mends : MethodName := ⟨RX7, "mends", "(IZZZ)I"⟩
abbrev cX7_isRest : ByteArray := prog_8_method_108_code
def yX7_isRest : MethodName := ⟨RX7, "isRest", "(II)Z"⟩
abbrev cX7_rests : ByteArray := prog_8_method_109_code
def yX7_rests : MethodName := ⟨RX7, "rests", "(I)I"⟩
abbrev cX7_rest : ByteArray := prog_8_method_110_code
def yX7_rest : MethodName := ⟨RX7, "rest", "(I)I"⟩
abbrev cX7_partOf : ByteArray := prog_8_method_111_code
def yX7_partOf : MethodName := ⟨RX7, "partOf", "(I)J"⟩
abbrev cX7_whole : ByteArray := prog_8_method_112_code
def yX7_whole : MethodName := ⟨RX7, "whole", "()J"⟩
abbrev cX7_odds : ByteArray := prog_8_method_113_code
def yX7_odds : MethodName := ⟨RX7, "odds", "(IZ)J"⟩
abbrev cX7_mean : ByteArray := prog_8_method_114_code
def yX7_mean : MethodName := ⟨RX7, "mean", "(IZ)J"⟩
abbrev cX7_stays : ByteArray := prog_8_method_115_code
def yX7_stays : MethodName := ⟨RX7, "stays", "(IZ)J"⟩
abbrev cX7_refusesSeed : ByteArray := prog_8_method_116_code
def yX7_refusesSeed : MethodName := ⟨RX7, "refusesSeed", "(II)I"⟩
abbrev cX7_moody : ByteArray := prog_8_method_117_code
def yX7_moody : MethodName := ⟨RX7, "moody", "(II)I"⟩
abbrev cX7_firstOut : ByteArray := prog_8_method_118_code
def yX7_firstOut : MethodName := ⟨RX7, "firstOut", "(II)I"⟩
abbrev cX7_remembers : ByteArray := prog_8_method_119_code
def yX7_remembers : MethodName := ⟨RX7, "remembers", "()V"⟩
abbrev cX7_remains : ByteArray := prog_8_method_120_code
def yX7_remains : MethodName := ⟨RX7, "remains", "()V"⟩
abbrev cX7_goesBy : ByteArray := prog_8_method_121_code
def yX7_goesBy : MethodName := ⟨RX7, "goesBy", "(Z)I"⟩
abbrev cX7_year : ByteArray := prog_8_method_122_code
def yX7_year : MethodName := ⟨RX7, "year", "()I"⟩
abbrev cX7_moodyYear : ByteArray := prog_8_method_123_code
def yX7_moodyYear : MethodName := ⟨RX7, "moodyYear", "()I"⟩
abbrev cX7_say : ByteArray := prog_8_method_124_code
def yX7_say : MethodName := ⟨RX7, "say", "(II)I"⟩
abbrev cX7_evict : ByteArray := prog_8_method_125_code
def yX7_evict : MethodName := ⟨RX7, "evict", "(I)I"⟩
abbrev cX7_take : ByteArray := prog_8_method_126_code
def yX7_take : MethodName := ⟨RX7, "take", "(I)Z"⟩
abbrev cX7_seed : ByteArray := prog_8_method_127_code
def yX7_seed : MethodName := ⟨RX7, "seed", "(I)Z"⟩
abbrev cX7_undo : ByteArray := prog_8_method_128_code
def yX7_undo : MethodName := ⟨RX7, "undo", "()Z"⟩
abbrev cX7_image : ByteArray := prog_8_method_129_code
def yX7_image : MethodName := ⟨RX7, "image", "()I"⟩
abbrev cX7_back : ByteArray := prog_8_method_130_code
def yX7_back : MethodName := ⟨RX7, "back", "(I)Z"⟩
abbrev cX7_led : ByteArray := prog_8_method_131_code
def yX7_led : MethodName := ⟨RX7, "led", "(I)I"⟩
abbrev cX7_size : ByteArray := prog_8_method_132_code
def yX7_size : MethodName := ⟨RX7, "size", "(I)I"⟩
abbrev cX7_trouble : ByteArray := prog_8_method_133_code
def yX7_trouble : MethodName := ⟨RX7, "trouble", "()I"⟩
def RL : String := "WordHouseLaw"
abbrev cL_led : ByteArray := method_3_code
def yL_led : MethodName := ⟨RL, "led", "(LWordHouse;I[J)I"⟩
abbrev cL_law : ByteArray := code
def yL_law : MethodName := ⟨RL, "law", "([I)Z"⟩
abbrev vwCl : List vw_C := [(RX0, TX0, 5), (RX1, TX1, 14), (RX2, TX2, 5), (RX3, TX3, 20), (RX4, TX4, 1), (RX5, TX5, 10), (RX6, TX6, 24), (RX7, TX7, 30)]
