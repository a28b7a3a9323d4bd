section
-- ===== PART A: goes FIRST, ahead of the names: the tables' words, and 'selects' of the private methods out of them =====
/-- a private method of a class that the tables say can be made, by its rows of tables_1 -/
def lw_okq (q : MethodName × Nat) : Prop := (q.1.cls ≠ "java/lang/invoke/MethodHandle" ∧ q.1.cls ≠ "java/lang/invoke/VarHandle") ∧ Cond.instantiable q.1.cls q.2 ∈ tables_1 ∧ Cond.privateMethod q.1 ∈ tables_1 ∧ Cond.instanceMethod q.1 ∈ tables_1
theorem lw_p0 : lw_okq (⟨"SandNights", "begin", "()V"⟩, 13) := ⟨⟨by decide +kernel, by decide +kernel⟩, List.mem_of_getElem? (i := 21) (by decide +kernel), List.mem_of_getElem? (i := 349) (by decide +kernel), List.mem_of_getElem? (i := 350) (by decide +kernel)⟩
theorem lw_p1 : lw_okq (⟨"SandNights", "putBytes", "(I)V"⟩, 13) := ⟨⟨by decide +kernel, by decide +kernel⟩, List.mem_of_getElem? (i := 21) (by decide +kernel), List.mem_of_getElem? (i := 432) (by decide +kernel), List.mem_of_getElem? (i := 433) (by decide +kernel)⟩
theorem lw_p2 : lw_okq (⟨"SandNights$Reader", "advance", "()V"⟩, 15) := ⟨⟨by decide +kernel, by decide +kernel⟩, List.mem_of_getElem? (i := 29) (by decide +kernel), List.mem_of_getElem? (i := 453) (by decide +kernel), List.mem_of_getElem? (i := 454) (by decide +kernel)⟩
theorem lw_p3 : lw_okq (⟨"SandNights$Reader", "byteAt", "(I)I"⟩, 15) := ⟨⟨by decide +kernel, by decide +kernel⟩, List.mem_of_getElem? (i := 29) (by decide +kernel), List.mem_of_getElem? (i := 457) (by decide +kernel), List.mem_of_getElem? (i := 458) (by decide +kernel)⟩
theorem lw_p4 : lw_okq (⟨"SandNights$Reader", "takeWord", "()V"⟩, 15) := ⟨⟨by decide +kernel, by decide +kernel⟩, List.mem_of_getElem? (i := 29) (by decide +kernel), List.mem_of_getElem? (i := 467) (by decide +kernel), List.mem_of_getElem? (i := 468) (by decide +kernel)⟩
theorem lw_p5 : lw_okq (⟨"SandNights$Reader", "takeNumber", "()V"⟩, 15) := ⟨⟨by decide +kernel, by decide +kernel⟩, List.mem_of_getElem? (i := 29) (by decide +kernel), List.mem_of_getElem? (i := 524) (by decide +kernel), List.mem_of_getElem? (i := 525) (by decide +kernel)⟩
theorem lw_p6 : lw_okq (⟨"SandNights$Reader", "readLine", "()Z"⟩, 15) := ⟨⟨by decide +kernel, by decide +kernel⟩, List.mem_of_getElem? (i := 29) (by decide +kernel), List.mem_of_getElem? (i := 586) (by decide +kernel), List.mem_of_getElem? (i := 587) (by decide +kernel)⟩
theorem lw_p7 : lw_okq (⟨"SandNights$Reader", "readSize", "()Z"⟩, 15) := ⟨⟨by decide +kernel, by decide +kernel⟩, List.mem_of_getElem? (i := 29) (by decide +kernel), List.mem_of_getElem? (i := 590) (by decide +kernel), List.mem_of_getElem? (i := 591) (by decide +kernel)⟩
theorem lw_p8 : lw_okq (⟨"SandNights$Reader", "refuse", "(I)Z"⟩, 15) := ⟨⟨by decide +kernel, by decide +kernel⟩, List.mem_of_getElem? (i := 29) (by decide +kernel), List.mem_of_getElem? (i := 594) (by decide +kernel), List.mem_of_getElem? (i := 595) (by decide +kernel)⟩
theorem lw_p9 : lw_okq (⟨"SandNights$Reader", "isNumber", "(II)Z"⟩, 15) := ⟨⟨by decide +kernel, by decide +kernel⟩, List.mem_of_getElem? (i := 29) (by decide +kernel), List.mem_of_getElem? (i := 598) (by decide +kernel), List.mem_of_getElem? (i := 599) (by decide +kernel)⟩
theorem lw_p10 : lw_okq (⟨"SandNights$Reader", "accept", "(I)Z"⟩, 15) := ⟨⟨by decide +kernel, by decide +kernel⟩, List.mem_of_getElem? (i := 29) (by decide +kernel), List.mem_of_getElem? (i := 602) (by decide +kernel), List.mem_of_getElem? (i := 603) (by decide +kernel)⟩
theorem lw_p11 : lw_okq (⟨"SandNights$Reader", "readHut", "()Z"⟩, 15) := ⟨⟨by decide +kernel, by decide +kernel⟩, List.mem_of_getElem? (i := 29) (by decide +kernel), List.mem_of_getElem? (i := 606) (by decide +kernel), List.mem_of_getElem? (i := 607) (by decide +kernel)⟩
theorem lw_p12 : lw_okq (⟨"SandNights$Reader", "readCell", "(I)I"⟩, 15) := ⟨⟨by decide +kernel, by decide +kernel⟩, List.mem_of_getElem? (i := 29) (by decide +kernel), List.mem_of_getElem? (i := 616) (by decide +kernel), List.mem_of_getElem? (i := 617) (by decide +kernel)⟩
theorem lw_p13 : lw_okq (⟨"SandNights$Reader", "readWalker", "()Z"⟩, 15) := ⟨⟨by decide +kernel, by decide +kernel⟩, List.mem_of_getElem? (i := 29) (by decide +kernel), List.mem_of_getElem? (i := 622) (by decide +kernel), List.mem_of_getElem? (i := 623) (by decide +kernel)⟩
theorem lw_p14 : lw_okq (⟨"SandNights$Reader", "readName", "(I)Z"⟩, 15) := ⟨⟨by decide +kernel, by decide +kernel⟩, List.mem_of_getElem? (i := 29) (by decide +kernel), List.mem_of_getElem? (i := 626) (by decide +kernel), List.mem_of_getElem? (i := 627) (by decide +kernel)⟩
theorem lw_p15 : lw_okq (⟨"SandNights$Reader", "readTide", "()Z"⟩, 15) := ⟨⟨by decide +kernel, by decide +kernel⟩, List.mem_of_getElem? (i := 29) (by decide +kernel), List.mem_of_getElem? (i := 630) (by decide +kernel), List.mem_of_getElem? (i := 631) (by decide +kernel)⟩
def lw_privs_1 : List (MethodName × Nat) := [(⟨"SandNights", "begin", "()V"⟩, 13), (⟨"SandNights", "putBytes", "(I)V"⟩, 13), (⟨"SandNights$Reader", "advance", "()V"⟩, 15), (⟨"SandNights$Reader", "byteAt", "(I)I"⟩, 15), (⟨"SandNights$Reader", "takeWord", "()V"⟩, 15), (⟨"SandNights$Reader", "takeNumber", "()V"⟩, 15), (⟨"SandNights$Reader", "readLine", "()Z"⟩, 15), (⟨"SandNights$Reader", "readSize", "()Z"⟩, 15), (⟨"SandNights$Reader", "refuse", "(I)Z"⟩, 15), (⟨"SandNights$Reader", "isNumber", "(II)Z"⟩, 15), (⟨"SandNights$Reader", "accept", "(I)Z"⟩, 15), (⟨"SandNights$Reader", "readHut", "()Z"⟩, 15), (⟨"SandNights$Reader", "readCell", "(I)I"⟩, 15), (⟨"SandNights$Reader", "readWalker", "()Z"⟩, 15), (⟨"SandNights$Reader", "readName", "(I)Z"⟩, 15), (⟨"SandNights$Reader", "readTide", "()Z"⟩, 15)]
theorem lw_r1 : ∀ q ∈ lw_privs_1, lw_okq q := List.forall_mem_cons.mpr ⟨lw_p0, List.forall_mem_cons.mpr ⟨lw_p1, List.forall_mem_cons.mpr ⟨lw_p2, List.forall_mem_cons.mpr ⟨lw_p3, List.forall_mem_cons.mpr ⟨lw_p4, List.forall_mem_cons.mpr ⟨lw_p5, List.forall_mem_cons.mpr ⟨lw_p6, List.forall_mem_cons.mpr ⟨lw_p7, List.forall_mem_cons.mpr ⟨lw_p8, List.forall_mem_cons.mpr ⟨lw_p9, List.forall_mem_cons.mpr ⟨lw_p10, List.forall_mem_cons.mpr ⟨lw_p11, List.forall_mem_cons.mpr ⟨lw_p12, List.forall_mem_cons.mpr ⟨lw_p13, List.forall_mem_cons.mpr ⟨lw_p14, List.forall_mem_cons.mpr ⟨lw_p15, fun _ h => absurd h List.not_mem_nil⟩⟩⟩⟩⟩⟩⟩⟩⟩⟩⟩⟩⟩⟩⟩⟩
theorem lw_p16 : lw_okq (⟨"SandNights$Reader", "readEither", "(I)Z"⟩, 15) := ⟨⟨by decide +kernel, by decide +kernel⟩, List.mem_of_getElem? (i := 29) (by decide +kernel), List.mem_of_getElem? (i := 634) (by decide +kernel), List.mem_of_getElem? (i := 635) (by decide +kernel)⟩
theorem lw_p17 : lw_okq (⟨"SandNights$Reader", "readBoth", "(I)Z"⟩, 15) := ⟨⟨by decide +kernel, by decide +kernel⟩, List.mem_of_getElem? (i := 29) (by decide +kernel), List.mem_of_getElem? (i := 638) (by decide +kernel), List.mem_of_getElem? (i := 639) (by decide +kernel)⟩
theorem lw_p18 : lw_okq (⟨"SandNights$Reader", "readOne", "(I)Z"⟩, 15) := ⟨⟨by decide +kernel, by decide +kernel⟩, List.mem_of_getElem? (i := 29) (by decide +kernel), List.mem_of_getElem? (i := 642) (by decide +kernel), List.mem_of_getElem? (i := 643) (by decide +kernel)⟩
theorem lw_p19 : lw_okq (⟨"SandNights$Formula", "put", "(I)V"⟩, 4) := ⟨⟨by decide +kernel, by decide +kernel⟩, List.mem_of_getElem? (i := 91) (by decide +kernel), List.mem_of_getElem? (i := 650) (by decide +kernel), List.mem_of_getElem? (i := 651) (by decide +kernel)⟩
theorem lw_p20 : lw_okq (⟨"SandNights$Reader", "readSum", "(I)Z"⟩, 15) := ⟨⟨by decide +kernel, by decide +kernel⟩, List.mem_of_getElem? (i := 29) (by decide +kernel), List.mem_of_getElem? (i := 654) (by decide +kernel), List.mem_of_getElem? (i := 655) (by decide +kernel)⟩
theorem lw_p21 : lw_okq (⟨"SandNights$Reader", "readTerm", "(I)Z"⟩, 15) := ⟨⟨by decide +kernel, by decide +kernel⟩, List.mem_of_getElem? (i := 29) (by decide +kernel), List.mem_of_getElem? (i := 658) (by decide +kernel), List.mem_of_getElem? (i := 659) (by decide +kernel)⟩
theorem lw_p22 : lw_okq (⟨"SandNights$Reader", "readUnit", "(I)Z"⟩, 15) := ⟨⟨by decide +kernel, by decide +kernel⟩, List.mem_of_getElem? (i := 29) (by decide +kernel), List.mem_of_getElem? (i := 662) (by decide +kernel), List.mem_of_getElem? (i := 663) (by decide +kernel)⟩
theorem lw_p23 : lw_okq (⟨"SandNights$Reader", "readWind", "()Z"⟩, 15) := ⟨⟨by decide +kernel, by decide +kernel⟩, List.mem_of_getElem? (i := 29) (by decide +kernel), List.mem_of_getElem? (i := 670) (by decide +kernel), List.mem_of_getElem? (i := 671) (by decide +kernel)⟩
theorem lw_p24 : lw_okq (⟨"SandNights$Reader", "readDraw", "()Z"⟩, 15) := ⟨⟨by decide +kernel, by decide +kernel⟩, List.mem_of_getElem? (i := 29) (by decide +kernel), List.mem_of_getElem? (i := 674) (by decide +kernel), List.mem_of_getElem? (i := 675) (by decide +kernel)⟩
theorem lw_p25 : lw_okq (⟨"SandNights", "isWalker", "(I)Z"⟩, 13) := ⟨⟨by decide +kernel, by decide +kernel⟩, List.mem_of_getElem? (i := 21) (by decide +kernel), List.mem_of_getElem? (i := 686) (by decide +kernel), List.mem_of_getElem? (i := 687) (by decide +kernel)⟩
theorem lw_p26 : lw_okq (⟨"SandNights", "isCell", "(I)Z"⟩, 13) := ⟨⟨by decide +kernel, by decide +kernel⟩, List.mem_of_getElem? (i := 21) (by decide +kernel), List.mem_of_getElem? (i := 699) (by decide +kernel), List.mem_of_getElem? (i := 700) (by decide +kernel)⟩
theorem lw_p27 : lw_okq (⟨"SandNights", "isFree", "(I)Z"⟩, 13) := ⟨⟨by decide +kernel, by decide +kernel⟩, List.mem_of_getElem? (i := 21) (by decide +kernel), List.mem_of_getElem? (i := 707) (by decide +kernel), List.mem_of_getElem? (i := 708) (by decide +kernel)⟩
theorem lw_p28 : lw_okq (⟨"SandNights", "isWet", "(II)Z"⟩, 13) := ⟨⟨by decide +kernel, by decide +kernel⟩, List.mem_of_getElem? (i := 21) (by decide +kernel), List.mem_of_getElem? (i := 712) (by decide +kernel), List.mem_of_getElem? (i := 713) (by decide +kernel)⟩
theorem lw_p29 : lw_okq (⟨"SandNights", "arePair", "(II)Z"⟩, 13) := ⟨⟨by decide +kernel, by decide +kernel⟩, List.mem_of_getElem? (i := 21) (by decide +kernel), List.mem_of_getElem? (i := 728) (by decide +kernel), List.mem_of_getElem? (i := 729) (by decide +kernel)⟩
theorem lw_p30 : lw_okq (⟨"SandNights$Acts", "exchange", "(LSandNights$Sand;)LSandNights$Sand;"⟩, 4) := ⟨⟨by decide +kernel, by decide +kernel⟩, List.mem_of_getElem? (i := 273) (by decide +kernel), List.mem_of_getElem? (i := 791) (by decide +kernel), List.mem_of_getElem? (i := 792) (by decide +kernel)⟩
theorem lw_p31 : lw_okq (⟨"SandNights$Finder", "priceAll", "(LSandNights$Ground;II)V"⟩, 5) := ⟨⟨by decide +kernel, by decide +kernel⟩, List.mem_of_getElem? (i := 296) (by decide +kernel), List.mem_of_getElem? (i := 814) (by decide +kernel), List.mem_of_getElem? (i := 815) (by decide +kernel)⟩
def lw_privs_2 : List (MethodName × Nat) := [(⟨"SandNights$Reader", "readEither", "(I)Z"⟩, 15), (⟨"SandNights$Reader", "readBoth", "(I)Z"⟩, 15), (⟨"SandNights$Reader", "readOne", "(I)Z"⟩, 15), (⟨"SandNights$Formula", "put", "(I)V"⟩, 4), (⟨"SandNights$Reader", "readSum", "(I)Z"⟩, 15), (⟨"SandNights$Reader", "readTerm", "(I)Z"⟩, 15), (⟨"SandNights$Reader", "readUnit", "(I)Z"⟩, 15), (⟨"SandNights$Reader", "readWind", "()Z"⟩, 15), (⟨"SandNights$Reader", "readDraw", "()Z"⟩, 15), (⟨"SandNights", "isWalker", "(I)Z"⟩, 13), (⟨"SandNights", "isCell", "(I)Z"⟩, 13), (⟨"SandNights", "isFree", "(I)Z"⟩, 13), (⟨"SandNights", "isWet", "(II)Z"⟩, 13), (⟨"SandNights", "arePair", "(II)Z"⟩, 13), (⟨"SandNights$Acts", "exchange", "(LSandNights$Sand;)LSandNights$Sand;"⟩, 4), (⟨"SandNights$Finder", "priceAll", "(LSandNights$Ground;II)V"⟩, 5)]
theorem lw_r2 : ∀ q ∈ lw_privs_2, lw_okq q := List.forall_mem_cons.mpr ⟨lw_p16, List.forall_mem_cons.mpr ⟨lw_p17, List.forall_mem_cons.mpr ⟨lw_p18, List.forall_mem_cons.mpr ⟨lw_p19, List.forall_mem_cons.mpr ⟨lw_p20, List.forall_mem_cons.mpr ⟨lw_p21, List.forall_mem_cons.mpr ⟨lw_p22, List.forall_mem_cons.mpr ⟨lw_p23, List.forall_mem_cons.mpr ⟨lw_p24, List.forall_mem_cons.mpr ⟨lw_p25, List.forall_mem_cons.mpr ⟨lw_p26, List.forall_mem_cons.mpr ⟨lw_p27, List.forall_mem_cons.mpr ⟨lw_p28, List.forall_mem_cons.mpr ⟨lw_p29, List.forall_mem_cons.mpr ⟨lw_p30, List.forall_mem_cons.mpr ⟨lw_p31, fun _ h => absurd h List.not_mem_nil⟩⟩⟩⟩⟩⟩⟩⟩⟩⟩⟩⟩⟩⟩⟩⟩
theorem lw_p32 : lw_okq (⟨"SandNights$Finder", "cheapestStep", "(LSandNights$Ground;II)I"⟩, 5) := ⟨⟨by decide +kernel, by decide +kernel⟩, List.mem_of_getElem? (i := 296) (by decide +kernel), List.mem_of_getElem? (i := 821) (by decide +kernel), List.mem_of_getElem? (i := 822) (by decide +kernel)⟩
theorem lw_p33 : lw_okq (⟨"SandNights$Finder", "countNearer", "(LSandNights$Ground;I)I"⟩, 5) := ⟨⟨by decide +kernel, by decide +kernel⟩, List.mem_of_getElem? (i := 296) (by decide +kernel), List.mem_of_getElem? (i := 836) (by decide +kernel), List.mem_of_getElem? (i := 837) (by decide +kernel)⟩
theorem lw_p34 : lw_okq (⟨"SandNights$Ground", "flood", "(III)I"⟩, 10) := ⟨⟨by decide +kernel, by decide +kernel⟩, List.mem_of_getElem? (i := 173) (by decide +kernel), List.mem_of_getElem? (i := 865) (by decide +kernel), List.mem_of_getElem? (i := 866) (by decide +kernel)⟩
theorem lw_p35 : lw_okq (⟨"SandNights$Ground", "guardsOf", "(IIIII)I"⟩, 10) := ⟨⟨by decide +kernel, by decide +kernel⟩, List.mem_of_getElem? (i := 173) (by decide +kernel), List.mem_of_getElem? (i := 896) (by decide +kernel), List.mem_of_getElem? (i := 897) (by decide +kernel)⟩
theorem lw_p36 : lw_okq (⟨"SandNights", "ordersOf", "(II)I"⟩, 13) := ⟨⟨by decide +kernel, by decide +kernel⟩, List.mem_of_getElem? (i := 21) (by decide +kernel), List.mem_of_getElem? (i := 958) (by decide +kernel), List.mem_of_getElem? (i := 959) (by decide +kernel)⟩
theorem lw_p37 : lw_okq (⟨"SandNights$Finder", "caughtFrom", "(LSandNights$Ground;I)I"⟩, 5) := ⟨⟨by decide +kernel, by decide +kernel⟩, List.mem_of_getElem? (i := 296) (by decide +kernel), List.mem_of_getElem? (i := 993) (by decide +kernel), List.mem_of_getElem? (i := 994) (by decide +kernel)⟩
theorem lw_p38 : lw_okq (⟨"SandNights", "staysDry", "(II)Z"⟩, 13) := ⟨⟨by decide +kernel, by decide +kernel⟩, List.mem_of_getElem? (i := 21) (by decide +kernel), List.mem_of_getElem? (i := 1008) (by decide +kernel), List.mem_of_getElem? (i := 1009) (by decide +kernel)⟩
theorem lw_p39 : lw_okq (⟨"SandNights$Sights", "possible", "(LSandNights$Ground;II)I"⟩, 7) := ⟨⟨by decide +kernel, by decide +kernel⟩, List.mem_of_getElem? (i := 320) (by decide +kernel), List.mem_of_getElem? (i := 1057) (by decide +kernel), List.mem_of_getElem? (i := 1058) (by decide +kernel)⟩
theorem lw_p40 : lw_okq (⟨"SandNights$Sights", "counts", "(II)Z"⟩, 7) := ⟨⟨by decide +kernel, by decide +kernel⟩, List.mem_of_getElem? (i := 320) (by decide +kernel), List.mem_of_getElem? (i := 1061) (by decide +kernel), List.mem_of_getElem? (i := 1062) (by decide +kernel)⟩
theorem lw_p41 : lw_okq (⟨"SandNights$Sights", "through", "(II)I"⟩, 7) := ⟨⟨by decide +kernel, by decide +kernel⟩, List.mem_of_getElem? (i := 320) (by decide +kernel), List.mem_of_getElem? (i := 1082) (by decide +kernel), List.mem_of_getElem? (i := 1083) (by decide +kernel)⟩
theorem lw_p42 : lw_okq (⟨"SandNightsModel", "clearBank", "()V"⟩, 68) := ⟨⟨by decide +kernel, by decide +kernel⟩, List.mem_of_getElem? (i := 1109) (by decide +kernel), List.mem_of_getElem? (i := 1115) (by decide +kernel), List.mem_of_getElem? (i := 1116) (by decide +kernel)⟩
theorem lw_p43 : lw_okq (⟨"SandNightsModel", "startAnew", "()V"⟩, 68) := ⟨⟨by decide +kernel, by decide +kernel⟩, List.mem_of_getElem? (i := 1109) (by decide +kernel), List.mem_of_getElem? (i := 1119) (by decide +kernel), List.mem_of_getElem? (i := 1120) (by decide +kernel)⟩
theorem lw_p44 : lw_okq (⟨"SandNightsModel", "lift", "(I)V"⟩, 68) := ⟨⟨by decide +kernel, by decide +kernel⟩, List.mem_of_getElem? (i := 1109) (by decide +kernel), List.mem_of_getElem? (i := 1123) (by decide +kernel), List.mem_of_getElem? (i := 1124) (by decide +kernel)⟩
theorem lw_p45 : lw_okq (⟨"SandNightsModel", "goHome", "()V"⟩, 68) := ⟨⟨by decide +kernel, by decide +kernel⟩, List.mem_of_getElem? (i := 1109) (by decide +kernel), List.mem_of_getElem? (i := 1127) (by decide +kernel), List.mem_of_getElem? (i := 1128) (by decide +kernel)⟩
theorem lw_p46 : lw_okq (⟨"SandNightsModel", "many", "()I"⟩, 68) := ⟨⟨by decide +kernel, by decide +kernel⟩, List.mem_of_getElem? (i := 1109) (by decide +kernel), List.mem_of_getElem? (i := 1131) (by decide +kernel), List.mem_of_getElem? (i := 1132) (by decide +kernel)⟩
theorem lw_p47 : lw_okq (⟨"SandNightsModel", "goOn", "()V"⟩, 68) := ⟨⟨by decide +kernel, by decide +kernel⟩, List.mem_of_getElem? (i := 1109) (by decide +kernel), List.mem_of_getElem? (i := 1345) (by decide +kernel), List.mem_of_getElem? (i := 1346) (by decide +kernel)⟩
def lw_privs_3 : List (MethodName × Nat) := [(⟨"SandNights$Finder", "cheapestStep", "(LSandNights$Ground;II)I"⟩, 5), (⟨"SandNights$Finder", "countNearer", "(LSandNights$Ground;I)I"⟩, 5), (⟨"SandNights$Ground", "flood", "(III)I"⟩, 10), (⟨"SandNights$Ground", "guardsOf", "(IIIII)I"⟩, 10), (⟨"SandNights", "ordersOf", "(II)I"⟩, 13), (⟨"SandNights$Finder", "caughtFrom", "(LSandNights$Ground;I)I"⟩, 5), (⟨"SandNights", "staysDry", "(II)Z"⟩, 13), (⟨"SandNights$Sights", "possible", "(LSandNights$Ground;II)I"⟩, 7), (⟨"SandNights$Sights", "counts", "(II)Z"⟩, 7), (⟨"SandNights$Sights", "through", "(II)I"⟩, 7), (⟨"SandNightsModel", "clearBank", "()V"⟩, 68), (⟨"SandNightsModel", "startAnew", "()V"⟩, 68), (⟨"SandNightsModel", "lift", "(I)V"⟩, 68), (⟨"SandNightsModel", "goHome", "()V"⟩, 68), (⟨"SandNightsModel", "many", "()I"⟩, 68), (⟨"SandNightsModel", "goOn", "()V"⟩, 68)]
theorem lw_r3 : ∀ q ∈ lw_privs_3, lw_okq q := List.forall_mem_cons.mpr ⟨lw_p32, List.forall_mem_cons.mpr ⟨lw_p33, List.forall_mem_cons.mpr ⟨lw_p34, List.forall_mem_cons.mpr ⟨lw_p35, List.forall_mem_cons.mpr ⟨lw_p36, List.forall_mem_cons.mpr ⟨lw_p37, List.forall_mem_cons.mpr ⟨lw_p38, List.forall_mem_cons.mpr ⟨lw_p39, List.forall_mem_cons.mpr ⟨lw_p40, List.forall_mem_cons.mpr ⟨lw_p41, List.forall_mem_cons.mpr ⟨lw_p42, List.forall_mem_cons.mpr ⟨lw_p43, List.forall_mem_cons.mpr ⟨lw_p44, List.forall_mem_cons.mpr ⟨lw_p45, List.forall_mem_cons.mpr ⟨lw_p46, List.forall_mem_cons.mpr ⟨lw_p47, fun _ h => absurd h List.not_mem_nil⟩⟩⟩⟩⟩⟩⟩⟩⟩⟩⟩⟩⟩⟩⟩⟩
theorem lw_p48 : lw_okq (⟨"SandNightsModel", "sign", "(I)I"⟩, 68) := ⟨⟨by decide +kernel, by decide +kernel⟩, List.mem_of_getElem? (i := 1109) (by decide +kernel), List.mem_of_getElem? (i := 1349) (by decide +kernel), List.mem_of_getElem? (i := 1350) (by decide +kernel)⟩
theorem lw_p49 : lw_okq (⟨"SandNightsModel", "isGood", "()Z"⟩, 68) := ⟨⟨by decide +kernel, by decide +kernel⟩, List.mem_of_getElem? (i := 1109) (by decide +kernel), List.mem_of_getElem? (i := 1383) (by decide +kernel), List.mem_of_getElem? (i := 1384) (by decide +kernel)⟩
theorem lw_p50 : lw_okq (⟨"SandNightsModel", "readLine", "()V"⟩, 68) := ⟨⟨by decide +kernel, by decide +kernel⟩, List.mem_of_getElem? (i := 1109) (by decide +kernel), List.mem_of_getElem? (i := 1387) (by decide +kernel), List.mem_of_getElem? (i := 1388) (by decide +kernel)⟩
theorem lw_p51 : lw_okq (⟨"SandNightsModel", "isFull", "()Z"⟩, 68) := ⟨⟨by decide +kernel, by decide +kernel⟩, List.mem_of_getElem? (i := 1109) (by decide +kernel), List.mem_of_getElem? (i := 1391) (by decide +kernel), List.mem_of_getElem? (i := 1392) (by decide +kernel)⟩
theorem lw_p52 : lw_okq (⟨"SandNightsModel", "isWord", "(J)Z"⟩, 68) := ⟨⟨by decide +kernel, by decide +kernel⟩, List.mem_of_getElem? (i := 1109) (by decide +kernel), List.mem_of_getElem? (i := 1395) (by decide +kernel), List.mem_of_getElem? (i := 1396) (by decide +kernel)⟩
theorem lw_p53 : lw_okq (⟨"SandNightsModel", "misplaced", "()V"⟩, 68) := ⟨⟨by decide +kernel, by decide +kernel⟩, List.mem_of_getElem? (i := 1109) (by decide +kernel), List.mem_of_getElem? (i := 1399) (by decide +kernel), List.mem_of_getElem? (i := 1400) (by decide +kernel)⟩
theorem lw_p54 : lw_okq (⟨"SandNightsModel", "fails", "(II)V"⟩, 68) := ⟨⟨by decide +kernel, by decide +kernel⟩, List.mem_of_getElem? (i := 1109) (by decide +kernel), List.mem_of_getElem? (i := 1403) (by decide +kernel), List.mem_of_getElem? (i := 1404) (by decide +kernel)⟩
theorem lw_p55 : lw_okq (⟨"SandNightsModel", "numeral", "(II)I"⟩, 68) := ⟨⟨by decide +kernel, by decide +kernel⟩, List.mem_of_getElem? (i := 1109) (by decide +kernel), List.mem_of_getElem? (i := 1407) (by decide +kernel), List.mem_of_getElem? (i := 1408) (by decide +kernel)⟩
theorem lw_p56 : lw_okq (⟨"SandNightsModel", "after", "(JII)I"⟩, 68) := ⟨⟨by decide +kernel, by decide +kernel⟩, List.mem_of_getElem? (i := 1109) (by decide +kernel), List.mem_of_getElem? (i := 1411) (by decide +kernel), List.mem_of_getElem? (i := 1412) (by decide +kernel)⟩
theorem lw_p57 : lw_okq (⟨"SandNightsModel", "must", "(Z)V"⟩, 68) := ⟨⟨by decide +kernel, by decide +kernel⟩, List.mem_of_getElem? (i := 1109) (by decide +kernel), List.mem_of_getElem? (i := 1415) (by decide +kernel), List.mem_of_getElem? (i := 1416) (by decide +kernel)⟩
theorem lw_p58 : lw_okq (⟨"SandNightsModel", "readHut", "()V"⟩, 68) := ⟨⟨by decide +kernel, by decide +kernel⟩, List.mem_of_getElem? (i := 1109) (by decide +kernel), List.mem_of_getElem? (i := 1419) (by decide +kernel), List.mem_of_getElem? (i := 1420) (by decide +kernel)⟩
theorem lw_p59 : lw_okq (⟨"SandNightsModel", "readCell", "(I)I"⟩, 68) := ⟨⟨by decide +kernel, by decide +kernel⟩, List.mem_of_getElem? (i := 1109) (by decide +kernel), List.mem_of_getElem? (i := 1423) (by decide +kernel), List.mem_of_getElem? (i := 1424) (by decide +kernel)⟩
theorem lw_p60 : lw_okq (⟨"SandNightsModel", "readWalker", "()V"⟩, 68) := ⟨⟨by decide +kernel, by decide +kernel⟩, List.mem_of_getElem? (i := 1109) (by decide +kernel), List.mem_of_getElem? (i := 1430) (by decide +kernel), List.mem_of_getElem? (i := 1431) (by decide +kernel)⟩
theorem lw_p61 : lw_okq (⟨"SandNightsModel", "walkerHere", "()I"⟩, 68) := ⟨⟨by decide +kernel, by decide +kernel⟩, List.mem_of_getElem? (i := 1109) (by decide +kernel), List.mem_of_getElem? (i := 1434) (by decide +kernel), List.mem_of_getElem? (i := 1435) (by decide +kernel)⟩
theorem lw_p62 : lw_okq (⟨"SandNightsModel", "readRule", "(I)V"⟩, 68) := ⟨⟨by decide +kernel, by decide +kernel⟩, List.mem_of_getElem? (i := 1109) (by decide +kernel), List.mem_of_getElem? (i := 1438) (by decide +kernel), List.mem_of_getElem? (i := 1439) (by decide +kernel)⟩
theorem lw_p63 : lw_okq (⟨"SandNightsModel", "e", "()V"⟩, 68) := ⟨⟨by decide +kernel, by decide +kernel⟩, List.mem_of_getElem? (i := 1109) (by decide +kernel), List.mem_of_getElem? (i := 1442) (by decide +kernel), List.mem_of_getElem? (i := 1443) (by decide +kernel)⟩
def lw_privs_4 : List (MethodName × Nat) := [(⟨"SandNightsModel", "sign", "(I)I"⟩, 68), (⟨"SandNightsModel", "isGood", "()Z"⟩, 68), (⟨"SandNightsModel", "readLine", "()V"⟩, 68), (⟨"SandNightsModel", "isFull", "()Z"⟩, 68), (⟨"SandNightsModel", "isWord", "(J)Z"⟩, 68), (⟨"SandNightsModel", "misplaced", "()V"⟩, 68), (⟨"SandNightsModel", "fails", "(II)V"⟩, 68), (⟨"SandNightsModel", "numeral", "(II)I"⟩, 68), (⟨"SandNightsModel", "after", "(JII)I"⟩, 68), (⟨"SandNightsModel", "must", "(Z)V"⟩, 68), (⟨"SandNightsModel", "readHut", "()V"⟩, 68), (⟨"SandNightsModel", "readCell", "(I)I"⟩, 68), (⟨"SandNightsModel", "readWalker", "()V"⟩, 68), (⟨"SandNightsModel", "walkerHere", "()I"⟩, 68), (⟨"SandNightsModel", "readRule", "(I)V"⟩, 68), (⟨"SandNightsModel", "e", "()V"⟩, 68)]
theorem lw_r4 : ∀ q ∈ lw_privs_4, lw_okq q := List.forall_mem_cons.mpr ⟨lw_p48, List.forall_mem_cons.mpr ⟨lw_p49, List.forall_mem_cons.mpr ⟨lw_p50, List.forall_mem_cons.mpr ⟨lw_p51, List.forall_mem_cons.mpr ⟨lw_p52, List.forall_mem_cons.mpr ⟨lw_p53, List.forall_mem_cons.mpr ⟨lw_p54, List.forall_mem_cons.mpr ⟨lw_p55, List.forall_mem_cons.mpr ⟨lw_p56, List.forall_mem_cons.mpr ⟨lw_p57, List.forall_mem_cons.mpr ⟨lw_p58, List.forall_mem_cons.mpr ⟨lw_p59, List.forall_mem_cons.mpr ⟨lw_p60, List.forall_mem_cons.mpr ⟨lw_p61, List.forall_mem_cons.mpr ⟨lw_p62, List.forall_mem_cons.mpr ⟨lw_p63, fun _ h => absurd h List.not_mem_nil⟩⟩⟩⟩⟩⟩⟩⟩⟩⟩⟩⟩⟩⟩⟩⟩
theorem lw_p64 : lw_okq (⟨"SandNightsModel", "pushE", "(II)V"⟩, 68) := ⟨⟨by decide +kernel, by decide +kernel⟩, List.mem_of_getElem? (i := 1109) (by decide +kernel), List.mem_of_getElem? (i := 1446) (by decide +kernel), List.mem_of_getElem? (i := 1447) (by decide +kernel)⟩
theorem lw_p65 : lw_okq (⟨"SandNightsModel", "unit", "()Z"⟩, 68) := ⟨⟨by decide +kernel, by decide +kernel⟩, List.mem_of_getElem? (i := 1109) (by decide +kernel), List.mem_of_getElem? (i := 1450) (by decide +kernel), List.mem_of_getElem? (i := 1451) (by decide +kernel)⟩
theorem lw_p66 : lw_okq (⟨"SandNightsModel", "isSignHere", "(I)Z"⟩, 68) := ⟨⟨by decide +kernel, by decide +kernel⟩, List.mem_of_getElem? (i := 1109) (by decide +kernel), List.mem_of_getElem? (i := 1454) (by decide +kernel), List.mem_of_getElem? (i := 1455) (by decide +kernel)⟩
theorem lw_p67 : lw_okq (⟨"SandNightsModel", "wordHere", "()I"⟩, 68) := ⟨⟨by decide +kernel, by decide +kernel⟩, List.mem_of_getElem? (i := 1109) (by decide +kernel), List.mem_of_getElem? (i := 1458) (by decide +kernel), List.mem_of_getElem? (i := 1459) (by decide +kernel)⟩
theorem lw_p68 : lw_okq (⟨"SandNightsModel", "emit", "(II)V"⟩, 68) := ⟨⟨by decide +kernel, by decide +kernel⟩, List.mem_of_getElem? (i := 1109) (by decide +kernel), List.mem_of_getElem? (i := 1462) (by decide +kernel), List.mem_of_getElem? (i := 1463) (by decide +kernel)⟩
theorem lw_p69 : lw_okq (⟨"SandNightsModel", "behindUnit", "()Z"⟩, 68) := ⟨⟨by decide +kernel, by decide +kernel⟩, List.mem_of_getElem? (i := 1109) (by decide +kernel), List.mem_of_getElem? (i := 1466) (by decide +kernel), List.mem_of_getElem? (i := 1467) (by decide +kernel)⟩
theorem lw_p70 : lw_okq (⟨"SandNightsModel", "rankHere", "()I"⟩, 68) := ⟨⟨by decide +kernel, by decide +kernel⟩, List.mem_of_getElem? (i := 1109) (by decide +kernel), List.mem_of_getElem? (i := 1470) (by decide +kernel), List.mem_of_getElem? (i := 1471) (by decide +kernel)⟩
theorem lw_p71 : lw_okq (⟨"SandNightsModel", "isCompared", "()Z"⟩, 68) := ⟨⟨by decide +kernel, by decide +kernel⟩, List.mem_of_getElem? (i := 1109) (by decide +kernel), List.mem_of_getElem? (i := 1474) (by decide +kernel), List.mem_of_getElem? (i := 1475) (by decide +kernel)⟩
theorem lw_p72 : lw_okq (⟨"SandNightsModel", "isWalker", "(I)Z"⟩, 68) := ⟨⟨by decide +kernel, by decide +kernel⟩, List.mem_of_getElem? (i := 1109) (by decide +kernel), List.mem_of_getElem? (i := 1486) (by decide +kernel), List.mem_of_getElem? (i := 1487) (by decide +kernel)⟩
theorem lw_p73 : lw_okq (⟨"SandNightsModel", "freshOf", "(I)I"⟩, 68) := ⟨⟨by decide +kernel, by decide +kernel⟩, List.mem_of_getElem? (i := 1109) (by decide +kernel), List.mem_of_getElem? (i := 1493) (by decide +kernel), List.mem_of_getElem? (i := 1494) (by decide +kernel)⟩
theorem lw_p74 : lw_okq (⟨"SandNightsModel", "cells", "()I"⟩, 68) := ⟨⟨by decide +kernel, by decide +kernel⟩, List.mem_of_getElem? (i := 1109) (by decide +kernel), List.mem_of_getElem? (i := 1497) (by decide +kernel), List.mem_of_getElem? (i := 1498) (by decide +kernel)⟩
theorem lw_p75 : lw_okq (⟨"SandNightsModel", "isCell", "(I)Z"⟩, 68) := ⟨⟨by decide +kernel, by decide +kernel⟩, List.mem_of_getElem? (i := 1109) (by decide +kernel), List.mem_of_getElem? (i := 1505) (by decide +kernel), List.mem_of_getElem? (i := 1506) (by decide +kernel)⟩
theorem lw_p76 : lw_okq (⟨"SandNightsModel", "walkersAt", "(I)I"⟩, 68) := ⟨⟨by decide +kernel, by decide +kernel⟩, List.mem_of_getElem? (i := 1109) (by decide +kernel), List.mem_of_getElem? (i := 1509) (by decide +kernel), List.mem_of_getElem? (i := 1510) (by decide +kernel)⟩
theorem lw_p77 : lw_okq (⟨"SandNightsModel", "isTide", "(I)Z"⟩, 68) := ⟨⟨by decide +kernel, by decide +kernel⟩, List.mem_of_getElem? (i := 1109) (by decide +kernel), List.mem_of_getElem? (i := 1513) (by decide +kernel), List.mem_of_getElem? (i := 1514) (by decide +kernel)⟩
theorem lw_p78 : lw_okq (⟨"SandNightsModel", "comes", "()I"⟩, 68) := ⟨⟨by decide +kernel, by decide +kernel⟩, List.mem_of_getElem? (i := 1109) (by decide +kernel), List.mem_of_getElem? (i := 1517) (by decide +kernel), List.mem_of_getElem? (i := 1518) (by decide +kernel)⟩
theorem lw_p79 : lw_okq (⟨"SandNightsModel", "asked", "(II)I"⟩, 68) := ⟨⟨by decide +kernel, by decide +kernel⟩, List.mem_of_getElem? (i := 1109) (by decide +kernel), List.mem_of_getElem? (i := 1521) (by decide +kernel), List.mem_of_getElem? (i := 1522) (by decide +kernel)⟩
def lw_privs_5 : List (MethodName × Nat) := [(⟨"SandNightsModel", "pushE", "(II)V"⟩, 68), (⟨"SandNightsModel", "unit", "()Z"⟩, 68), (⟨"SandNightsModel", "isSignHere", "(I)Z"⟩, 68), (⟨"SandNightsModel", "wordHere", "()I"⟩, 68), (⟨"SandNightsModel", "emit", "(II)V"⟩, 68), (⟨"SandNightsModel", "behindUnit", "()Z"⟩, 68), (⟨"SandNightsModel", "rankHere", "()I"⟩, 68), (⟨"SandNightsModel", "isCompared", "()Z"⟩, 68), (⟨"SandNightsModel", "isWalker", "(I)Z"⟩, 68), (⟨"SandNightsModel", "freshOf", "(I)I"⟩, 68), (⟨"SandNightsModel", "cells", "()I"⟩, 68), (⟨"SandNightsModel", "isCell", "(I)Z"⟩, 68), (⟨"SandNightsModel", "walkersAt", "(I)I"⟩, 68), (⟨"SandNightsModel", "isTide", "(I)Z"⟩, 68), (⟨"SandNightsModel", "comes", "()I"⟩, 68), (⟨"SandNightsModel", "asked", "(II)I"⟩, 68)]
theorem lw_r5 : ∀ q ∈ lw_privs_5, lw_okq q := List.forall_mem_cons.mpr ⟨lw_p64, List.forall_mem_cons.mpr ⟨lw_p65, List.forall_mem_cons.mpr ⟨lw_p66, List.forall_mem_cons.mpr ⟨lw_p67, List.forall_mem_cons.mpr ⟨lw_p68, List.forall_mem_cons.mpr ⟨lw_p69, List.forall_mem_cons.mpr ⟨lw_p70, List.forall_mem_cons.mpr ⟨lw_p71, List.forall_mem_cons.mpr ⟨lw_p72, List.forall_mem_cons.mpr ⟨lw_p73, List.forall_mem_cons.mpr ⟨lw_p74, List.forall_mem_cons.mpr ⟨lw_p75, List.forall_mem_cons.mpr ⟨lw_p76, List.forall_mem_cons.mpr ⟨lw_p77, List.forall_mem_cons.mpr ⟨lw_p78, List.forall_mem_cons.mpr ⟨lw_p79, fun _ h => absurd h List.not_mem_nil⟩⟩⟩⟩⟩⟩⟩⟩⟩⟩⟩⟩⟩⟩⟩⟩
theorem lw_p80 : lw_okq (⟨"SandNightsModel", "areTwo", "(II)Z"⟩, 68) := ⟨⟨by decide +kernel, by decide +kernel⟩, List.mem_of_getElem? (i := 1109) (by decide +kernel), List.mem_of_getElem? (i := 1532) (by decide +kernel), List.mem_of_getElem? (i := 1533) (by decide +kernel)⟩
theorem lw_p81 : lw_okq (⟨"SandNightsModel", "isFree", "(I)Z"⟩, 68) := ⟨⟨by decide +kernel, by decide +kernel⟩, List.mem_of_getElem? (i := 1109) (by decide +kernel), List.mem_of_getElem? (i := 1555) (by decide +kernel), List.mem_of_getElem? (i := 1556) (by decide +kernel)⟩
theorem lw_p82 : lw_okq (⟨"SandNightsModel", "stepsBetween", "(II)I"⟩, 68) := ⟨⟨by decide +kernel, by decide +kernel⟩, List.mem_of_getElem? (i := 1109) (by decide +kernel), List.mem_of_getElem? (i := 1559) (by decide +kernel), List.mem_of_getElem? (i := 1560) (by decide +kernel)⟩
theorem lw_p83 : lw_okq (⟨"SandNightsModel", "keepAct", "()V"⟩, 68) := ⟨⟨by decide +kernel, by decide +kernel⟩, List.mem_of_getElem? (i := 1109) (by decide +kernel), List.mem_of_getElem? (i := 1563) (by decide +kernel), List.mem_of_getElem? (i := 1564) (by decide +kernel)⟩
theorem lw_p84 : lw_okq (⟨"SandNightsModel", "ebb", "()I"⟩, 68) := ⟨⟨by decide +kernel, by decide +kernel⟩, List.mem_of_getElem? (i := 1109) (by decide +kernel), List.mem_of_getElem? (i := 1571) (by decide +kernel), List.mem_of_getElem? (i := 1572) (by decide +kernel)⟩
theorem lw_p85 : lw_okq (⟨"SandNightsModel", "exchange", "()V"⟩, 68) := ⟨⟨by decide +kernel, by decide +kernel⟩, List.mem_of_getElem? (i := 1109) (by decide +kernel), List.mem_of_getElem? (i := 1583) (by decide +kernel), List.mem_of_getElem? (i := 1584) (by decide +kernel)⟩
theorem lw_p86 : lw_okq (⟨"SandNightsModel", "weighAlike", "()V"⟩, 68) := ⟨⟨by decide +kernel, by decide +kernel⟩, List.mem_of_getElem? (i := 1109) (by decide +kernel), List.mem_of_getElem? (i := 1599) (by decide +kernel), List.mem_of_getElem? (i := 1600) (by decide +kernel)⟩
theorem lw_p87 : lw_okq (⟨"SandNightsModel", "layFar", "(II)V"⟩, 68) := ⟨⟨by decide +kernel, by decide +kernel⟩, List.mem_of_getElem? (i := 1109) (by decide +kernel), List.mem_of_getElem? (i := 1603) (by decide +kernel), List.mem_of_getElem? (i := 1604) (by decide +kernel)⟩
theorem lw_p88 : lw_okq (⟨"SandNightsModel", "showWay", "(II)V"⟩, 68) := ⟨⟨by decide +kernel, by decide +kernel⟩, List.mem_of_getElem? (i := 1109) (by decide +kernel), List.mem_of_getElem? (i := 1607) (by decide +kernel), List.mem_of_getElem? (i := 1608) (by decide +kernel)⟩
theorem lw_p89 : lw_okq (⟨"SandNightsModel", "partsOf", "(I)I"⟩, 68) := ⟨⟨by decide +kernel, by decide +kernel⟩, List.mem_of_getElem? (i := 1109) (by decide +kernel), List.mem_of_getElem? (i := 1627) (by decide +kernel), List.mem_of_getElem? (i := 1628) (by decide +kernel)⟩
theorem lw_p90 : lw_okq (⟨"SandNightsModel", "stepOn", "(I)V"⟩, 68) := ⟨⟨by decide +kernel, by decide +kernel⟩, List.mem_of_getElem? (i := 1109) (by decide +kernel), List.mem_of_getElem? (i := 1643) (by decide +kernel), List.mem_of_getElem? (i := 1644) (by decide +kernel)⟩
theorem lw_p91 : lw_okq (⟨"SandNightsModel", "guardOf", "(II)I"⟩, 68) := ⟨⟨by decide +kernel, by decide +kernel⟩, List.mem_of_getElem? (i := 1109) (by decide +kernel), List.mem_of_getElem? (i := 1651) (by decide +kernel), List.mem_of_getElem? (i := 1652) (by decide +kernel)⟩
theorem lw_p92 : lw_okq (⟨"SandNightsModel", "isGuarded", "(III)Z"⟩, 68) := ⟨⟨by decide +kernel, by decide +kernel⟩, List.mem_of_getElem? (i := 1109) (by decide +kernel), List.mem_of_getElem? (i := 1655) (by decide +kernel), List.mem_of_getElem? (i := 1656) (by decide +kernel)⟩
theorem lw_p93 : lw_okq (⟨"SandNightsModel", "routeAt", "(II)I"⟩, 68) := ⟨⟨by decide +kernel, by decide +kernel⟩, List.mem_of_getElem? (i := 1109) (by decide +kernel), List.mem_of_getElem? (i := 1663) (by decide +kernel), List.mem_of_getElem? (i := 1664) (by decide +kernel)⟩
theorem lw_p94 : lw_okq (⟨"SandNightsModel", "withAt", "(II)I"⟩, 68) := ⟨⟨by decide +kernel, by decide +kernel⟩, List.mem_of_getElem? (i := 1109) (by decide +kernel), List.mem_of_getElem? (i := 1675) (by decide +kernel), List.mem_of_getElem? (i := 1676) (by decide +kernel)⟩
theorem lw_p95 : lw_okq (⟨"SandNightsModel", "oddsOf", "(III)I"⟩, 68) := ⟨⟨by decide +kernel, by decide +kernel⟩, List.mem_of_getElem? (i := 1109) (by decide +kernel), List.mem_of_getElem? (i := 1688) (by decide +kernel), List.mem_of_getElem? (i := 1689) (by decide +kernel)⟩
def lw_privs_6 : List (MethodName × Nat) := [(⟨"SandNightsModel", "areTwo", "(II)Z"⟩, 68), (⟨"SandNightsModel", "isFree", "(I)Z"⟩, 68), (⟨"SandNightsModel", "stepsBetween", "(II)I"⟩, 68), (⟨"SandNightsModel", "keepAct", "()V"⟩, 68), (⟨"SandNightsModel", "ebb", "()I"⟩, 68), (⟨"SandNightsModel", "exchange", "()V"⟩, 68), (⟨"SandNightsModel", "weighAlike", "()V"⟩, 68), (⟨"SandNightsModel", "layFar", "(II)V"⟩, 68), (⟨"SandNightsModel", "showWay", "(II)V"⟩, 68), (⟨"SandNightsModel", "partsOf", "(I)I"⟩, 68), (⟨"SandNightsModel", "stepOn", "(I)V"⟩, 68), (⟨"SandNightsModel", "guardOf", "(II)I"⟩, 68), (⟨"SandNightsModel", "isGuarded", "(III)Z"⟩, 68), (⟨"SandNightsModel", "routeAt", "(II)I"⟩, 68), (⟨"SandNightsModel", "withAt", "(II)I"⟩, 68), (⟨"SandNightsModel", "oddsOf", "(III)I"⟩, 68)]
theorem lw_r6 : ∀ q ∈ lw_privs_6, lw_okq q := List.forall_mem_cons.mpr ⟨lw_p80, List.forall_mem_cons.mpr ⟨lw_p81, List.forall_mem_cons.mpr ⟨lw_p82, List.forall_mem_cons.mpr ⟨lw_p83, List.forall_mem_cons.mpr ⟨lw_p84, List.forall_mem_cons.mpr ⟨lw_p85, List.forall_mem_cons.mpr ⟨lw_p86, List.forall_mem_cons.mpr ⟨lw_p87, List.forall_mem_cons.mpr ⟨lw_p88, List.forall_mem_cons.mpr ⟨lw_p89, List.forall_mem_cons.mpr ⟨lw_p90, List.forall_mem_cons.mpr ⟨lw_p91, List.forall_mem_cons.mpr ⟨lw_p92, List.forall_mem_cons.mpr ⟨lw_p93, List.forall_mem_cons.mpr ⟨lw_p94, List.forall_mem_cons.mpr ⟨lw_p95, fun _ h => absurd h List.not_mem_nil⟩⟩⟩⟩⟩⟩⟩⟩⟩⟩⟩⟩⟩⟩⟩⟩
theorem lw_p96 : lw_okq (⟨"SandNightsModel", "canWalk", "(II)Z"⟩, 68) := ⟨⟨by decide +kernel, by decide +kernel⟩, List.mem_of_getElem? (i := 1109) (by decide +kernel), List.mem_of_getElem? (i := 1711) (by decide +kernel), List.mem_of_getElem? (i := 1712) (by decide +kernel)⟩
theorem lw_p97 : lw_okq (⟨"SandNightsModel", "mayBe", "(II)Z"⟩, 68) := ⟨⟨by decide +kernel, by decide +kernel⟩, List.mem_of_getElem? (i := 1109) (by decide +kernel), List.mem_of_getElem? (i := 1719) (by decide +kernel), List.mem_of_getElem? (i := 1720) (by decide +kernel)⟩
theorem lw_p98 : lw_okq (⟨"SandNightsModel", "layCaught", "()V"⟩, 68) := ⟨⟨by decide +kernel, by decide +kernel⟩, List.mem_of_getElem? (i := 1109) (by decide +kernel), List.mem_of_getElem? (i := 1731) (by decide +kernel), List.mem_of_getElem? (i := 1732) (by decide +kernel)⟩
theorem lw_p99 : lw_okq (⟨"SandNightsModel", "hunt", "(II)I"⟩, 68) := ⟨⟨by decide +kernel, by decide +kernel⟩, List.mem_of_getElem? (i := 1109) (by decide +kernel), List.mem_of_getElem? (i := 1735) (by decide +kernel), List.mem_of_getElem? (i := 1736) (by decide +kernel)⟩
theorem lw_p100 : lw_okq (⟨"SandNightsModel", "flee", "(II)I"⟩, 68) := ⟨⟨by decide +kernel, by decide +kernel⟩, List.mem_of_getElem? (i := 1109) (by decide +kernel), List.mem_of_getElem? (i := 1739) (by decide +kernel), List.mem_of_getElem? (i := 1740) (by decide +kernel)⟩
theorem lw_p101 : lw_okq (⟨"SandNightsModel", "tell", "(IIIZ)I"⟩, 68) := ⟨⟨by decide +kernel, by decide +kernel⟩, List.mem_of_getElem? (i := 1109) (by decide +kernel), List.mem_of_getElem? (i := 1747) (by decide +kernel), List.mem_of_getElem? (i := 1748) (by decide +kernel)⟩
theorem lw_p102 : lw_okq (⟨"SandNightsModel", "layPaths", "(I)V"⟩, 68) := ⟨⟨by decide +kernel, by decide +kernel⟩, List.mem_of_getElem? (i := 1109) (by decide +kernel), List.mem_of_getElem? (i := 1768) (by decide +kernel), List.mem_of_getElem? (i := 1769) (by decide +kernel)⟩
theorem lw_p103 : lw_okq (⟨"SandNightsModel", "closedAt", "(II)I"⟩, 68) := ⟨⟨by decide +kernel, by decide +kernel⟩, List.mem_of_getElem? (i := 1109) (by decide +kernel), List.mem_of_getElem? (i := 1772) (by decide +kernel), List.mem_of_getElem? (i := 1773) (by decide +kernel)⟩
theorem lw_p104 : lw_okq (⟨"SandNightsModel", "allPaths", "()I"⟩, 68) := ⟨⟨by decide +kernel, by decide +kernel⟩, List.mem_of_getElem? (i := 1109) (by decide +kernel), List.mem_of_getElem? (i := 1776) (by decide +kernel), List.mem_of_getElem? (i := 1777) (by decide +kernel)⟩
theorem lw_p105 : lw_okq (⟨"SandNightsModel", "pathsBy", "(II)I"⟩, 68) := ⟨⟨by decide +kernel, by decide +kernel⟩, List.mem_of_getElem? (i := 1109) (by decide +kernel), List.mem_of_getElem? (i := 1780) (by decide +kernel), List.mem_of_getElem? (i := 1781) (by decide +kernel)⟩
def lw_privs_7 : List (MethodName × Nat) := [(⟨"SandNightsModel", "canWalk", "(II)Z"⟩, 68), (⟨"SandNightsModel", "mayBe", "(II)Z"⟩, 68), (⟨"SandNightsModel", "layCaught", "()V"⟩, 68), (⟨"SandNightsModel", "hunt", "(II)I"⟩, 68), (⟨"SandNightsModel", "flee", "(II)I"⟩, 68), (⟨"SandNightsModel", "tell", "(IIIZ)I"⟩, 68), (⟨"SandNightsModel", "layPaths", "(I)V"⟩, 68), (⟨"SandNightsModel", "closedAt", "(II)I"⟩, 68), (⟨"SandNightsModel", "allPaths", "()I"⟩, 68), (⟨"SandNightsModel", "pathsBy", "(II)I"⟩, 68)]
theorem lw_r7 : ∀ q ∈ lw_privs_7, lw_okq q := List.forall_mem_cons.mpr ⟨lw_p96, List.forall_mem_cons.mpr ⟨lw_p97, List.forall_mem_cons.mpr ⟨lw_p98, List.forall_mem_cons.mpr ⟨lw_p99, List.forall_mem_cons.mpr ⟨lw_p100, List.forall_mem_cons.mpr ⟨lw_p101, List.forall_mem_cons.mpr ⟨lw_p102, List.forall_mem_cons.mpr ⟨lw_p103, List.forall_mem_cons.mpr ⟨lw_p104, List.forall_mem_cons.mpr ⟨lw_p105, fun _ h => absurd h List.not_mem_nil⟩⟩⟩⟩⟩⟩⟩⟩⟩⟩
def lw_privs : List (MethodName × Nat) := lw_privs_1 ++ (lw_privs_2 ++ (lw_privs_3 ++ (lw_privs_4 ++ (lw_privs_5 ++ (lw_privs_6 ++ (lw_privs_7))))))
def lw_tbl : List Cond := k2_sels lw_privs ++ tables_1
theorem lw_privs_ok : ∀ q ∈ lw_privs, lw_okq q := by
  show ∀ q ∈ lw_privs_1 ++ (lw_privs_2 ++ (lw_privs_3 ++ (lw_privs_4 ++ (lw_privs_5 ++ (lw_privs_6 ++ (lw_privs_7)))))), lw_okq q
  exact List.forall_mem_append.mpr ⟨lw_r1, List.forall_mem_append.mpr ⟨lw_r2, List.forall_mem_append.mpr ⟨lw_r3, List.forall_mem_append.mpr ⟨lw_r4, List.forall_mem_append.mpr ⟨lw_r5, List.forall_mem_append.mpr ⟨lw_r6, lw_r7⟩⟩⟩⟩⟩⟩
-- ===== end of PART A; then your names; then what follows =====
end
section
/-! ===== an evaluator of the bytecode over numbers: ints, refs and what is unknown are codes; cells are packed =====
codes: c < 2^32 the int of these bits; 2^32 any int; 2^32+1+i the i-th told int (i < 13); 2^32+14 an int above 0, 2^32+15 one below 0; 2^32+16 null; 2^32+17 nothing known (of a long field); 2^32+18 a long; 2^32+32+k the k-th cell -/
abbrev q_C : Type := Nat × Nat × Nat
noncomputable def q_T (n : Nat) : Type := Nat.rec (motive := fun _ => Type) q_C (fun _ t => t × t) n
noncomputable def q_tg (n : Nat) : q_T n → Nat → q_C := Nat.rec (motive := fun n => q_T n → Nat → q_C) (fun c _ => c) (fun n ih t k => Bool.rec (ih (Prod.snd (α := q_T n) (β := q_T n) t) (Nat.div k 2)) (ih (Prod.fst (α := q_T n) (β := q_T n) t) (Nat.div k 2)) (Nat.beq (Nat.mod k 2) 0)) n
noncomputable def q_ts (n : Nat) : q_T n → Nat → q_C → q_T n := Nat.rec (motive := fun n => q_T n → Nat → q_C → q_T n) (fun _ _ c => c) (fun n ih t k c => Bool.rec (motive := fun _ => q_T (n + 1)) ((Prod.fst (α := q_T n) (β := q_T n) t, ih (Prod.snd (α := q_T n) (β := q_T n) t) (Nat.div k 2) c) : q_T n × q_T n) ((ih (Prod.fst (α := q_T n) (β := q_T n) t) (Nat.div k 2) c, Prod.snd (α := q_T n) (β := q_T n) t) : q_T n × q_T n) (Nat.beq (Nat.mod k 2) 0)) n
noncomputable def q_t0 (n : Nat) : q_T n := Nat.rec (motive := q_T) (0, 0, 0) (fun n t => ((t, t) : q_T n × q_T n)) n
abbrev q_H : Type := Nat × q_T 7
abbrev q_I : Type := Nat × Nat × Instr × Nat × Nat × Nat
abbrev q_R : Type := q_H × List Nat
/-- the j-th of the numbers of 34 bits in N -/
def q_get (N j : Nat) : Nat := Nat.mod (Nat.shiftRight N (Nat.mul 34 j)) 17179869184
def q_set (N j v : Nat) : Nat := Nat.xor N (Nat.shiftLeft (Nat.xor (q_get N j) v) (Nat.mul 34 j))
/-- go on with a number that is worked out -/
noncomputable def q_fr {α : Type} (n : Nat) (k : Nat → α) : α := Nat.rec (k 0) (fun m _ => k (Nat.succ m)) n
noncomputable def q_nth {α : Type} (l : List α) (d : α) : Nat → α := List.rec (fun _ => d) (fun a _ ih k => Nat.rec a (fun k' _ => ih k') k) l
noncomputable def q_ll {α : Type} (l : List (List α)) (d : α) (k : Nat) : α := q_nth (q_nth l [] (Nat.div k 14)) d (Nat.mod k 14)
def q_ex (c : Nat) : Bool := Nat.ble c 4294967295
def q_in (c : Nat) : Bool := Nat.ble c 4294967311
def q_e2 (a b : Nat) : Bool := Nat.ble a 4294967295 && Nat.ble b 4294967295
def q_i2 (a b : Nat) : Bool := Nat.ble a 4294967311 && Nat.ble b 4294967311
def q_w (n : Nat) : Nat := Nat.mod n 4294967296
def q_bi (c : Nat) : Nat := Nat.mod (Nat.add c 2147483648) 4294967296
def q_lo (rg : Nat → Nat × Nat) (c : Nat) : Nat := bif q_ex c then q_bi c else bif Nat.beq c 4294967296 then 0 else bif Nat.beq c 4294967310 then 2147483649 else bif Nat.beq c 4294967311 then 0 else (rg (c - 4294967297)).1
def q_hi (rg : Nat → Nat × Nat) (c : Nat) : Nat := bif q_ex c then q_bi c else bif Nat.beq c 4294967296 then 4294967295 else bif Nat.beq c 4294967310 then 4294967295 else bif Nat.beq c 4294967311 then 2147483647 else (rg (c - 4294967297)).2
/-- is a below b: known only where it is sure -/
def q_lt (rg : Nat → Nat × Nat) (a b : Nat) : Option Bool := bif q_e2 a b then some (Nat.blt (q_bi a) (q_bi b)) else bif q_i2 a b then (bif Nat.blt (q_hi rg a) (q_lo rg b) then some true else bif Nat.ble (q_hi rg b) (q_lo rg a) then some false else none) else none
def q_eq (rg : Nat → Nat × Nat) (a b : Nat) : Option Bool := bif q_e2 a b then some (Nat.beq a b) else bif q_i2 a b then (bif Nat.blt (q_hi rg a) (q_lo rg b) || Nat.blt (q_hi rg b) (q_lo rg a) then some false else none) else none
def q_not (o : Option Bool) : Option Bool := match o with
  | some b => some (!b)
  | none => none
def q_cm (rg : Nat → Nat × Nat) (c : ClassFile.Cond) (a b : Nat) : Option Bool := match c with
  | .eq => q_eq rg a b
  | .ne => q_not (q_eq rg a b)
  | .lt => q_lt rg a b
  | .ge => q_not (q_lt rg a b)
  | .gt => q_lt rg b a
  | .le => q_not (q_lt rg b a)
noncomputable def q_br {α : Type} (o : Option Bool) (t f : Option α) : Option α := match o with
  | some true => t
  | some false => f
  | none => none
noncomputable def q_ar {α : Type} (f : Nat → Nat → Nat) (st : List Nat) (k : List Nat → Option α) : Option α := match st with
  | b :: a :: r => bif q_e2 a b then q_fr (f a b) (fun v => k (v :: r)) else bif q_i2 a b then k (4294967296 :: r) else none
  | _ => none
/-- 'and' of an int that isn't told and a told one -/
def q_ax (rg : Nat → Nat × Nat) (a b : Nat) : Nat := bif Nat.beq b 4294967295 then a else bif Nat.ble 2147483648 (q_lo rg a) && (Nat.ble (q_hi rg a) 2147549183 && Nat.beq b 4294901760) then 0 else bif Nat.ble (q_hi rg a) 2147483647 && Nat.beq b 4294901760 then 4294967311 else bif Nat.ble 2147549184 (q_lo rg a) && Nat.beq b 4294901760 then 4294967310 else 4294967296
noncomputable def q_an {α : Type} (rg : Nat → Nat × Nat) (st : List Nat) (k : List Nat → Option α) : Option α := match st with
  | b :: a :: r => bif q_e2 a b then q_fr (Nat.land a b) (fun v => k (v :: r)) else bif q_i2 a b then q_fr (q_ax rg a b) (fun v => k (v :: r)) else none
  | _ => none
noncomputable def q_jm (cd : List q_I) (t : Nat) : List q_I := List.rec [] (fun e tl ih => Bool.rec ih (e :: tl) (Nat.beq e.1 t)) cd
noncomputable def q_pk (l : List Nat) : Nat := List.rec 0 (fun a _ ih => Nat.add (Nat.succ a) (Nat.shiftLeft ih 34)) l
/-- n args off the stack, the first one first -/
noncomputable def q_pp (n : Nat) : List Nat → List Nat → Option (List Nat × List Nat) := Nat.rec (fun s acc => some (acc, s)) (fun _ ih s acc => match s with
  | [] => none
  | a :: r => bif Nat.beq a 4294967314 then none else ih r (a :: acc)) n
noncomputable def q_len {α : Type} (l : List α) : Nat := List.rec 0 (fun _ _ ih => Nat.succ ih) l
/-- which cell a code names -/
def q_rf (c : Nat) : Nat := Nat.sub c 4294967328
theorem q_rf_eq (c : Nat) : q_rf c = c - 4294967328 := Nat.sub_eq
/-- a cell of a kind at a code -/
noncomputable def q_at {α : Type} (h : q_H) (c : Nat) (k : Nat → Nat → Nat → Nat → Option α) : Option α := bif Nat.ble 4294967328 c && (Nat.blt (q_rf c) h.1 && Nat.ble h.1 128) then q_fr (q_rf c) (fun j => k j (q_tg 7 h.2 j).1 (q_tg 7 h.2 j).2.1 (q_tg 7 h.2 j).2.2) else none
noncomputable def q_up (h : q_H) (j kd ln N : Nat) : q_H := (h.1, q_ts 7 h.2 j (kd, ln, N))
noncomputable def q_nw {α : Type} (h : q_H) (kd ln N : Nat) (k : q_H → Nat → Option α) : Option α := bif Nat.blt h.1 128 then q_fr (Nat.succ h.1) (fun n => k (n, q_ts 7 h.2 h.1 (kd, ln, N)) (Nat.add 4294967328 h.1)) else none
abbrev q_F : Type := Nat → Nat → List q_I → List q_I → Nat → List Nat → q_H → Option q_R
/-- calls that are known already: method, args, the heap before, the heap behind, the answer -/
abbrev q_M : Type := List (Nat × List Nat × q_H × q_R)
noncomputable def q_sm (n : Nat) : q_T n → q_T n → Bool := Nat.rec (motive := fun n => q_T n → q_T n → Bool) (fun (a b : q_C) => Nat.beq a.1 b.1 && (Nat.beq a.2.1 b.2.1 && Nat.beq a.2.2 b.2.2)) (fun n ih a b => ih (Prod.fst (α := q_T n) (β := q_T n) a) (Prod.fst (α := q_T n) (β := q_T n) b) && ih (Prod.snd (α := q_T n) (β := q_T n) a) (Prod.snd (α := q_T n) (β := q_T n) b)) n
noncomputable def q_sl (a : List Nat) : List Nat → Bool := List.rec (fun b => match b with
  | [] => true
  | _ => false) (fun x _ ih b => match b with
  | [] => false
  | y :: t => Nat.beq x y && ih t) a
noncomputable def q_lk (mem : q_M) (i : Nat) (as : List Nat) (h : q_H) : Option q_R := List.rec none (fun e _ ih => bif Nat.beq e.1 i && (q_sl e.2.1 as && (Nat.beq e.2.2.1.1 h.1 && q_sm 7 e.2.2.1.2 h.2)) then some e.2.2.2 else ih) mem
noncomputable def q_cal (cdt : Nat → List q_I) (mem : q_M) (ih : q_F) (d x : Nat) (as : List Nat) (h : q_H) : Option q_R := match q_lk mem x as h with
  | some r => bif Nat.blt 5 d then some r else none
  | none => Nat.rec none (fun d' _ => ih d' x (cdt x) (cdt x) (q_pk as) [] h) d
noncomputable def q_inv (cdt : Nat → List q_I) (mem : q_M) (ih : q_F) (d i : Nat) (cd tl : List q_I) (loc x y z : Nat) (st : List Nat) (h : q_H) (virt : Bool) : Option q_R := bif Nat.beq z 99 then none else match q_pp y st [] with
  | none => none
  | some (as, r) => bif Nat.ble (q_len r) 4 && (bif virt then (match as with
      | [] => false
      | a :: _ => bif Nat.ble 4294967328 a && Nat.blt (q_rf a) h.1 then Nat.beq (q_tg 7 h.2 (q_rf a)).1 (Nat.mul 2 z) else false) else true) then (match q_cal cdt mem ih d x as h with
    | none => none
    | some (h', rt) => ih d i cd tl loc (rt ++ r) h') else none
noncomputable def q_cpy (ih : q_F) (d i : Nat) (cd tl : List q_I) (loc : Nat) (st : List Nat) (h : q_H) : Option q_R := match st with
  | n :: dp :: b :: sp :: a :: r => q_at h a (fun _ ka la Na => q_at h b (fun kb kb2 lb _ => bif Nat.beq ka 1 && (Nat.beq kb2 1 && (Nat.beq la lb && (Nat.beq n la && (Nat.beq sp 0 && (Nat.beq dp 0 && (Nat.ble (q_len r) 4 && (Nat.ble 1 d && Nat.ble la 100000))))))) then ih d i cd tl loc r (q_up h kb kb2 lb Na) else none))
  | _ => none
noncomputable def q_oin (ih : q_F) (d i : Nat) (cd tl : List q_I) (loc : Nat) (st : List Nat) (h : q_H) : Option q_R := match st with
  | a :: r => bif Nat.ble 4294967328 a && (Nat.ble (q_len r) 4 && Nat.ble 1 d) then ih d i cd tl loc r h else none
  | _ => none
noncomputable def q_step (rg : Nat → Nat × Nat) (cdt : Nat → List q_I) (mem : q_M) (ih : q_F) (d i : Nat) (cd : List q_I) (pc : Nat) (ins : Instr) (x y z : Nat) (tl : List q_I) (loc : Nat) (st : List Nat) (h : q_H) : Option q_R := match ins with
  | .iconst _ | .bipush _ | .sipush _ => ih d i cd tl loc (x :: st) h
  | .ldc _ | .ldc_w _ => bif Nat.beq z 99 then none else ih d i cd tl loc (x :: st) h
  | .lconst _ => ih d i cd tl loc (4294967314 :: st) h
  | .aconst_null => ih d i cd tl loc (4294967312 :: st) h
  | .iload _ | .iload_n _ => Nat.rec none (fun c _ => bif q_in c then ih d i cd tl loc (c :: st) h else none) (q_get loc x)
  | .aload _ | .aload_n _ => Nat.rec none (fun c _ => bif Nat.ble 4294967328 c || Nat.beq c 4294967312 then ih d i cd tl loc (c :: st) h else none) (q_get loc x)
  | .istore _ | .istore_n _ => (match st with
    | c :: r => bif q_in c then q_fr (q_set loc x (Nat.succ c)) (fun l => ih d i cd tl l r h) else none
    | _ => none)
  | .astore _ | .astore_n _ => (match st with
    | c :: r => bif Nat.ble 4294967328 c || Nat.beq c 4294967312 then q_fr (q_set loc x (Nat.succ c)) (fun l => ih d i cd tl l r h) else none
    | _ => none)
  | .iinc _ _ => Nat.rec none (fun c _ => bif q_ex c then q_fr (q_set loc x (Nat.succ (q_w (Nat.add c y)))) (fun l => ih d i cd tl l st h) else none) (q_get loc x)
  | .iadd => q_ar (fun a b => q_w (Nat.add a b)) st (fun s => ih d i cd tl loc s h)
  | .isub => q_ar (fun a b => q_w (Nat.sub (Nat.add a 4294967296) b)) st (fun s => ih d i cd tl loc s h)
  | .imul => q_ar (fun a b => q_w (Nat.mul a b)) st (fun s => ih d i cd tl loc s h)
  | .iand => q_an rg st (fun s => ih d i cd tl loc s h)
  | .ior => q_ar Nat.lor st (fun s => ih d i cd tl loc s h)
  | .ixor => q_ar Nat.xor st (fun s => ih d i cd tl loc s h)
  | .ineg => (match st with
    | a :: r => bif q_ex a then q_fr (q_w (Nat.sub 4294967296 a)) (fun v => ih d i cd tl loc (v :: r) h) else none
    | _ => none)
  | .idiv => (match st with
    | b :: a :: r => bif Nat.ble a 2147483647 && (Nat.ble b 2147483647 && Nat.blt 0 b) then q_fr (Nat.div a b) (fun v => ih d i cd tl loc (v :: r) h) else none
    | _ => none)
  | .irem => (match st with
    | b :: a :: r => bif Nat.ble a 2147483647 && (Nat.ble b 2147483647 && Nat.blt 0 b) then q_fr (Nat.mod a b) (fun v => ih d i cd tl loc (v :: r) h) else none
    | _ => none)
  | .ishl => (match st with
    | b :: a :: r => bif Nat.blt b 32 && q_in a then (bif q_ex a then q_fr (q_w (Nat.shiftLeft a b)) (fun v => ih d i cd tl loc (v :: r) h) else ih d i cd tl loc (4294967296 :: r) h) else none
    | _ => none)
  | .ishr => (match st with
    | b :: a :: r => bif Nat.blt b 32 && q_in a then (bif q_ex a then q_fr (bif Nat.ble a 2147483647 then Nat.shiftRight a b else Nat.sub (Nat.add (Nat.shiftRight a b) 4294967296) (Nat.pow 2 (Nat.sub 32 b))) (fun v => ih d i cd tl loc (v :: r) h) else ih d i cd tl loc (4294967296 :: r) h) else none
    | _ => none)
  | .iushr => (match st with
    | b :: a :: r => bif Nat.blt b 32 && q_in a then (bif q_ex a then q_fr (Nat.shiftRight a b) (fun v => ih d i cd tl loc (v :: r) h) else ih d i cd tl loc (4294967296 :: r) h) else none
    | _ => none)
  | .i2b => (match st with
    | a :: r => bif q_in a then ih d i cd tl loc (4294967296 :: r) h else none
    | _ => none)
  | .dup => (match st with
    | a :: r => bif Nat.beq a 4294967314 then none else ih d i cd tl loc (a :: a :: r) h
    | _ => none)
  | .dup2 => (match st with
    | b :: a :: r => bif Nat.beq a 4294967314 || Nat.beq b 4294967314 then none else ih d i cd tl loc (b :: a :: b :: a :: r) h
    | _ => none)
  | .pop => (match st with
    | a :: r => bif Nat.beq a 4294967314 then none else ih d i cd tl loc r h
    | _ => none)
  | .ifCond c _ => (match st with
    | a :: r => q_br (q_cm rg c a 0) (ih d i cd (q_jm cd x) loc r h) (ih d i cd tl loc r h)
    | _ => none)
  | .if_icmp c _ => (match st with
    | b :: a :: r => q_br (q_cm rg c a b) (ih d i cd (q_jm cd x) loc r h) (ih d i cd tl loc r h)
    | _ => none)
  | .ifnull _ => (match st with
    | a :: r => bif Nat.ble 4294967328 a then ih d i cd tl loc r h else none
    | _ => none)
  | .ifnonnull _ => (match st with
    | a :: r => bif Nat.ble 4294967328 a then ih d i cd (q_jm cd x) loc r h else bif Nat.beq a 4294967312 then ih d i cd tl loc r h else none
    | _ => none)
  | .goto _ => ih d i cd (q_jm cd x) loc st h
  | .tableswitch df _ _ offs => (match st with
    | a :: r => bif q_ex a && (Nat.ble x a && Nat.ble a y) then ih d i cd (q_jm cd (Int.toNat (Int.add (Int.ofNat pc) (q_nth offs.toList 0 (Nat.sub a x))))) loc r h else bif q_in a && (Nat.blt (q_hi rg a) (q_bi x) || Nat.blt (q_bi y) (q_lo rg a)) then ih d i cd (q_jm cd (Int.toNat (Int.add (Int.ofNat pc) df))) loc r h else none
    | _ => none)
  | .new _ => q_nw h (Nat.mul 2 x) y z (fun h' c => ih d i cd tl loc (c :: st) h')
  | .newarray _ => (match st with
    | n :: r => bif Nat.ble n 100000 then q_nw h x n 0 (fun h' c => ih d i cd tl loc (c :: r) h') else none
    | _ => none)
  | .anewarray _ => (match st with
    | n :: r => bif Nat.ble n 100000 then q_nw h 9 n 0 (fun h' c => ih d i cd tl loc (c :: r) h') else none
    | _ => none)
  | .arraylength => (match st with
    | a :: r => q_at h a (fun _ kd ln _ => bif Nat.beq (Nat.mod kd 2) 1 && Nat.ble ln 100000 then ih d i cd tl loc (ln :: r) h else none)
    | _ => none)
  | .iaload => (match st with
    | j :: a :: r => q_at h a (fun _ kd ln N => bif Nat.beq kd 1 && Nat.blt j ln then q_fr (q_get N j) (fun v => ih d i cd tl loc (v :: r) h) else none)
    | _ => none)
  | .baload => (match st with
    | j :: a :: r => q_at h a (fun _ kd ln N => bif (Nat.beq kd 3 || Nat.beq kd 5) && Nat.blt j ln then q_fr (q_get N j) (fun v => ih d i cd tl loc (v :: r) h) else none)
    | _ => none)
  | .aaload => (match st with
    | j :: a :: r => q_at h a (fun _ kd ln N => bif Nat.beq kd 9 && Nat.blt j ln then q_fr (q_get N j) (fun v => ih d i cd tl loc ((bif Nat.beq v 0 then 4294967312 else v) :: r) h) else none)
    | _ => none)
  | .iastore => (match st with
    | v :: j :: a :: r => q_at h a (fun k kd ln N => bif Nat.beq kd 1 && (Nat.blt j ln && q_in v) then q_fr (q_set N j v) (fun N' => ih d i cd tl loc r (q_up h k kd ln N')) else none)
    | _ => none)
  | .bastore => (match st with
    | v :: j :: a :: r => q_at h a (fun k kd ln N => bif (Nat.beq kd 3 || (Nat.beq kd 5 && Nat.blt v 2)) && (Nat.blt j ln && q_in v) then q_fr (q_set N j (bif Nat.blt v 2 then v else 4294967296)) (fun N' => ih d i cd tl loc r (q_up h k kd ln N')) else none)
    | _ => none)
  | .aastore => (match st with
    | v :: j :: a :: r => q_at h a (fun k kd ln N => q_at h v (fun _ kv _ _ => bif Nat.beq kd 9 && (Nat.beq kv 10 && Nat.blt j ln) then q_fr (q_set N j v) (fun N' => ih d i cd tl loc r (q_up h k kd ln N')) else none))
    | _ => none)
  | .getfield _ => (match st with
    | a :: r => q_at h a (fun _ kd ln N => bif Nat.beq kd (Nat.mul 2 x) && Nat.blt y ln then q_fr (q_get N y) (fun v => bif Nat.beq v 4294967313 then none else ih d i cd tl loc (v :: r) h) else none)
    | _ => none)
  | .putfield _ => (match st with
    | v :: a :: r => q_at h a (fun k kd ln N => bif Nat.beq kd (Nat.mul 2 x) && (Nat.blt y ln && (bif Nat.beq z 0 then q_in v else bif Nat.beq z 1 then Nat.blt v 2 else bif Nat.beq z 2 then (Nat.ble 4294967328 v || Nat.beq v 4294967312) else Nat.beq v 4294967314)) then q_fr (q_set N y (bif Nat.beq z 3 then 4294967313 else v)) (fun N' => ih d i cd tl loc r (q_up h k kd ln N')) else none)
    | _ => none)
  | .invokevirtual _ => q_inv cdt mem ih d i cd tl loc x y z st h true
  | .invokestatic _ => bif Nat.beq z 77 then q_cpy ih d i cd tl loc st h else q_inv cdt mem ih d i cd tl loc x y z st h false
  | .invokespecial _ => bif Nat.beq z 78 then q_oin ih d i cd tl loc st h else q_inv cdt mem ih d i cd tl loc x y z st h true
  | .ireturn => (match st with
    | [v] => bif (bif Nat.beq x 0 then q_in v else bif Nat.beq x 1 then Nat.blt v 2 else false) then some (h, [v]) else none
    | _ => none)
  | .areturn => (match st with
    | [v] => bif Nat.ble 4294967328 v then some (h, [v]) else none
    | _ => none)
  | .return_ => (match st with
    | [] => some (h, [])
    | _ => none)
  | _ => none
noncomputable def q_run (rg : Nat → Nat × Nat) (cdt : Nat → List q_I) (mem : q_M) (fuel : Nat) : q_F := Nat.rec (fun _ _ _ _ _ _ _ => none) (fun _ ih d i cd rest loc st h => List.rec none (fun e tl _ => q_step rg cdt mem ih d i cd e.1 e.2.2.1 e.2.2.2.1 e.2.2.2.2.1 e.2.2.2.2.2 tl loc st h) rest) fuel
end
section
def q_cd0 : List q_I := [(0, 1, .aload_n 0, 0, 0, 0), (1, 3, .getfield 20, 9, 11, 2), (4, 1, .aload_n 0, 0, 0, 0), (5, 3, .getfield 274, 9, 34, 0), (8, 1, .iaload, 0, 0, 0), (9, 1, .aload_n 0, 0, 0, 0), (10, 3, .getfield 24, 9, 12, 2), (13, 1, .aload_n 0, 0, 0, 0), (14, 3, .getfield 274, 9, 34, 0), (17, 1, .iaload, 0, 0, 0), (18, 1, .imul, 0, 0, 0), (19, 1, .ireturn, 0, 0, 0)]
def q_cd1 : List q_I := [(0, 1, .iload_n 0, 0, 0, 0), (1, 1, .iload_n 1, 1, 0, 0), (2, 1, .ishr, 0, 0, 0), (3, 1, .iconst 1, 1, 0, 0), (4, 1, .iand, 0, 0, 0), (5, 1, .iconst 1, 1, 0, 0), (6, 3, .if_icmp .ne 7, 13, 0, 0), (9, 1, .iconst 1, 1, 0, 0), (10, 3, .goto 4, 14, 0, 0), (13, 1, .iconst 0, 0, 0, 0), (14, 1, .ireturn, 1, 0, 0)]
def q_cd2 : List q_I := [(0, 1, .iload_n 1, 1, 0, 0), (1, 1, .aload_n 0, 0, 0, 0), (2, 3, .getfield 20, 9, 11, 2), (5, 1, .aload_n 0, 0, 0, 0), (6, 3, .getfield 274, 9, 34, 0), (9, 1, .iaload, 0, 0, 0), (10, 1, .irem, 0, 0, 0), (11, 1, .iload_n 2, 2, 0, 0), (12, 1, .aload_n 0, 0, 0, 0), (13, 3, .getfield 20, 9, 11, 2), (16, 1, .aload_n 0, 0, 0, 0), (17, 3, .getfield 274, 9, 34, 0), (20, 1, .iaload, 0, 0, 0), (21, 1, .irem, 0, 0, 0), (22, 1, .isub, 0, 0, 0), (23, 1, .istore_n 3, 3, 0, 0), (24, 1, .iload_n 1, 1, 0, 0), (25, 1, .aload_n 0, 0, 0, 0), (26, 3, .getfield 20, 9, 11, 2), (29, 1, .aload_n 0, 0, 0, 0), (30, 3, .getfield 274, 9, 34, 0), (33, 1, .iaload, 0, 0, 0), (34, 1, .idiv, 0, 0, 0), (35, 1, .iload_n 2, 2, 0, 0), (36, 1, .aload_n 0, 0, 0, 0), (37, 3, .getfield 20, 9, 11, 2), (40, 1, .aload_n 0, 0, 0, 0), (41, 3, .getfield 274, 9, 34, 0), (44, 1, .iaload, 0, 0, 0), (45, 1, .idiv, 0, 0, 0), (46, 1, .isub, 0, 0, 0), (47, 2, .istore 4, 4, 0, 0), (49, 1, .iload_n 3, 3, 0, 0), (50, 3, .ifCond .ge 8, 58, 0, 0), (53, 1, .iload_n 3, 3, 0, 0), (54, 1, .ineg, 0, 0, 0), (55, 3, .goto 4, 59, 0, 0), (58, 1, .iload_n 3, 3, 0, 0), (59, 2, .iload 4, 4, 0, 0), (61, 3, .ifCond .ge 9, 70, 0, 0), (64, 2, .iload 4, 4, 0, 0), (66, 1, .ineg, 0, 0, 0), (67, 3, .goto 5, 72, 0, 0), (70, 2, .iload 4, 4, 0, 0), (72, 1, .iadd, 0, 0, 0), (73, 1, .ireturn, 0, 0, 0)]
def q_cd3 : List q_I := [(0, 1, .iload_n 0, 0, 0, 0), (1, 1, .iload_n 1, 1, 0, 0), (2, 1, .ishr, 0, 0, 0), (3, 1, .iconst 1, 1, 0, 0), (4, 1, .iand, 0, 0, 0), (5, 3, .ifCond .eq 7, 12, 0, 0), (8, 1, .iconst 1, 1, 0, 0), (9, 3, .goto 4, 13, 0, 0), (12, 1, .iconst 0, 0, 0, 0), (13, 1, .ireturn, 1, 0, 0)]
def q_cd4 : List q_I := [(0, 1, .iconst 0, 0, 0, 0), (1, 1, .istore_n 3, 3, 0, 0), (2, 1, .iconst 0, 0, 0, 0), (3, 2, .istore 4, 4, 0, 0), (5, 2, .iload 4, 4, 0, 0), (7, 2, .bipush 25, 25, 0, 0), (9, 3, .if_icmp .ge 44, 53, 0, 0), (12, 1, .iload_n 1, 1, 0, 0), (13, 3, .ifCond .lt 40, 53, 0, 0), (16, 1, .iload_n 1, 1, 0, 0), (17, 2, .iload 4, 4, 0, 0), (19, 1, .iadd, 0, 0, 0), (20, 1, .aload_n 0, 0, 0, 0), (21, 1, .arraylength, 0, 0, 0), (22, 3, .if_icmp .ge 31, 53, 0, 0), (25, 1, .iload_n 3, 3, 0, 0), (26, 1, .iload_n 2, 2, 0, 0), (27, 2, .iload 4, 4, 0, 0), (29, 3, .invokestatic 173, 3, 2, 0), (32, 3, .ifCond .eq 12, 44, 0, 0), (35, 1, .aload_n 0, 0, 0, 0), (36, 1, .iload_n 1, 1, 0, 0), (37, 2, .iload 4, 4, 0, 0), (39, 1, .iadd, 0, 0, 0), (40, 1, .iaload, 0, 0, 0), (41, 3, .goto 4, 45, 0, 0), (44, 1, .iconst 0, 0, 0, 0), (45, 1, .iadd, 0, 0, 0), (46, 1, .istore_n 3, 3, 0, 0), (47, 3, .iinc 4 1, 4, 1, 0), (50, 3, .goto (-45), 5, 0, 0), (53, 1, .iload_n 3, 3, 0, 0), (54, 1, .ireturn, 0, 0, 0)]
def q_cd5 : List q_I := [(0, 1, .aload_n 0, 0, 0, 0), (1, 3, .getfield 33, 9, 15, 2), (4, 1, .aload_n 0, 0, 0, 0), (5, 3, .getfield 274, 9, 34, 0), (8, 1, .iaload, 0, 0, 0), (9, 1, .istore_n 3, 3, 0, 0), (10, 1, .iconst 0, 0, 0, 0), (11, 2, .istore 4, 4, 0, 0), (13, 2, .iload 4, 4, 0, 0), (15, 1, .aload_n 0, 0, 0, 0), (16, 3, .getfield 385, 9, 64, 0), (19, 3, .if_icmp .ge 160, 179, 0, 0), (22, 1, .aload_n 0, 0, 0, 0), (23, 3, .getfield 128, 9, 56, 2), (26, 2, .iload 4, 4, 0, 0), (28, 1, .iaload, 0, 0, 0), (29, 1, .iload_n 1, 1, 0, 0), (30, 3, .if_icmp .ne 143, 173, 0, 0), (33, 1, .aload_n 0, 0, 0, 0), (34, 3, .getfield 140, 9, 60, 2), (37, 2, .iload 4, 4, 0, 0), (39, 1, .iaload, 0, 0, 0), (40, 1, .iload_n 2, 2, 0, 0), (41, 3, .if_icmp .gt 132, 173, 0, 0), (44, 1, .aload_n 0, 0, 0, 0), (45, 3, .getfield 143, 9, 61, 2), (48, 2, .iload 4, 4, 0, 0), (50, 1, .iaload, 0, 0, 0), (51, 3, .ifCond .lt 17, 68, 0, 0), (54, 1, .aload_n 0, 0, 0, 0), (55, 3, .getfield 143, 9, 61, 2), (58, 2, .iload 4, 4, 0, 0), (60, 1, .iaload, 0, 0, 0), (61, 1, .iload_n 2, 2, 0, 0), (62, 3, .if_icmp .gt 6, 68, 0, 0), (65, 3, .goto 108, 173, 0, 0), (68, 1, .iconst 0, 0, 0, 0), (69, 2, .istore 5, 5, 0, 0), (71, 2, .iload 5, 5, 0, 0), (73, 1, .aload_n 0, 0, 0, 0), (74, 3, .invokevirtual 364, 0, 1, 9), (77, 3, .if_icmp .ge 96, 173, 0, 0), (80, 1, .aload_n 0, 0, 0, 0), (81, 3, .getfield 131, 9, 57, 2), (84, 2, .iload 4, 4, 0, 0), (86, 1, .iaload, 0, 0, 0), (87, 3, .ifCond .lt 23, 110, 0, 0), (90, 2, .iload 5, 5, 0, 0), (92, 1, .aload_n 0, 0, 0, 0), (93, 3, .getfield 131, 9, 57, 2), (96, 2, .iload 4, 4, 0, 0), (98, 1, .iaload, 0, 0, 0), (99, 3, .if_icmp .ne 7, 106, 0, 0), (102, 1, .iconst 1, 1, 0, 0), (103, 3, .goto 34, 137, 0, 0), (106, 1, .iconst 0, 0, 0, 0), (107, 3, .goto 30, 137, 0, 0), (110, 2, .iload 5, 5, 0, 0), (112, 1, .aload_n 0, 0, 0, 0), (113, 3, .getfield 20, 9, 11, 2), (116, 1, .aload_n 0, 0, 0, 0), (117, 3, .getfield 274, 9, 34, 0), (120, 1, .iaload, 0, 0, 0), (121, 1, .idiv, 0, 0, 0), (122, 1, .aload_n 0, 0, 0, 0), (123, 3, .getfield 134, 9, 58, 2), (126, 2, .iload 4, 4, 0, 0), (128, 1, .iaload, 0, 0, 0), (129, 3, .if_icmp .ne 7, 136, 0, 0), (132, 1, .iconst 1, 1, 0, 0), (133, 3, .goto 4, 137, 0, 0), (136, 1, .iconst 0, 0, 0, 0), (137, 2, .istore 6, 6, 0, 0), (139, 2, .iload 6, 6, 0, 0), (141, 1, .aload_n 0, 0, 0, 0), (142, 3, .getfield 137, 9, 59, 2), (145, 2, .iload 4, 4, 0, 0), (147, 1, .iaload, 0, 0, 0), (148, 1, .iconst 1, 1, 0, 0), (149, 3, .if_icmp .ne 7, 156, 0, 0), (152, 1, .iconst 1, 1, 0, 0), (153, 3, .goto 4, 157, 0, 0), (156, 1, .iconst 0, 0, 0, 0), (157, 3, .if_icmp .eq 10, 167, 0, 0), (160, 1, .iload_n 3, 3, 0, 0), (161, 1, .iconst 1, 1, 0, 0), (162, 2, .iload 5, 5, 0, 0), (164, 1, .ishl, 0, 0, 0), (165, 1, .ior, 0, 0, 0), (166, 1, .istore_n 3, 3, 0, 0), (167, 3, .iinc 5 1, 5, 1, 0), (170, 3, .goto (-99), 71, 0, 0), (173, 3, .iinc 4 1, 4, 1, 0), (176, 3, .goto (-163), 13, 0, 0), (179, 1, .iload_n 3, 3, 0, 0), (180, 1, .ireturn, 0, 0, 0)]
def q_cd6 : List q_I := [(0, 1, .iconst 0, 0, 0, 0), (1, 1, .istore_n 3, 3, 0, 0), (2, 1, .iload_n 3, 3, 0, 0), (3, 1, .aload_n 0, 0, 0, 0), (4, 3, .invokevirtual 364, 0, 1, 9), (7, 3, .if_icmp .ge 27, 34, 0, 0), (10, 1, .aload_n 0, 0, 0, 0), (11, 3, .getfield 98, 9, 45, 2), (14, 1, .iload_n 3, 3, 0, 0), (15, 1, .iload_n 3, 3, 0, 0), (16, 1, .iload_n 1, 1, 0, 0), (17, 3, .if_icmp .ne 7, 24, 0, 0), (20, 1, .iconst 0, 0, 0, 0), (21, 3, .goto 6, 27, 0, 0), (24, 3, .sipush 10000, 10000, 0, 0), (27, 1, .iastore, 0, 0, 0), (28, 3, .iinc 3 1, 3, 1, 0), (31, 3, .goto (-29), 2, 0, 0), (34, 1, .iconst 1, 1, 0, 0), (35, 1, .istore_n 3, 3, 0, 0), (36, 1, .iload_n 3, 3, 0, 0), (37, 3, .ifCond .eq 129, 166, 0, 0), (40, 1, .iconst 0, 0, 0, 0), (41, 1, .istore_n 3, 3, 0, 0), (42, 1, .iconst 0, 0, 0, 0), (43, 2, .istore 4, 4, 0, 0), (45, 2, .iload 4, 4, 0, 0), (47, 1, .aload_n 0, 0, 0, 0), (48, 3, .invokevirtual 364, 0, 1, 9), (51, 3, .if_icmp .ge 112, 163, 0, 0), (54, 1, .iload_n 2, 2, 0, 0), (55, 2, .iload 4, 4, 0, 0), (57, 3, .invokestatic 300, 1, 2, 0), (60, 3, .ifCond .eq 6, 66, 0, 0), (63, 3, .goto 94, 157, 0, 0), (66, 1, .iconst 0, 0, 0, 0), (67, 2, .istore 5, 5, 0, 0), (69, 2, .iload 5, 5, 0, 0), (71, 1, .aload_n 0, 0, 0, 0), (72, 3, .invokevirtual 364, 0, 1, 9), (75, 3, .if_icmp .ge 82, 157, 0, 0), (78, 1, .iload_n 2, 2, 0, 0), (79, 2, .iload 5, 5, 0, 0), (81, 3, .invokestatic 300, 1, 2, 0), (84, 3, .ifCond .ne 67, 151, 0, 0), (87, 1, .aload_n 0, 0, 0, 0), (88, 2, .iload 4, 4, 0, 0), (90, 2, .iload 5, 5, 0, 0), (92, 3, .invokevirtual 409, 2, 3, 9), (95, 1, .iconst 1, 1, 0, 0), (96, 3, .if_icmp .ne 55, 151, 0, 0), (99, 1, .aload_n 0, 0, 0, 0), (100, 3, .getfield 98, 9, 45, 2), (103, 2, .iload 5, 5, 0, 0), (105, 1, .iaload, 0, 0, 0), (106, 1, .aload_n 0, 0, 0, 0), (107, 3, .getfield 101, 9, 46, 2), (110, 2, .iload 5, 5, 0, 0), (112, 1, .iaload, 0, 0, 0), (113, 1, .iadd, 0, 0, 0), (114, 1, .aload_n 0, 0, 0, 0), (115, 3, .getfield 98, 9, 45, 2), (118, 2, .iload 4, 4, 0, 0), (120, 1, .iaload, 0, 0, 0), (121, 3, .if_icmp .lt 6, 127, 0, 0), (124, 3, .goto 27, 151, 0, 0), (127, 1, .aload_n 0, 0, 0, 0), (128, 3, .getfield 98, 9, 45, 2), (131, 2, .iload 4, 4, 0, 0), (133, 1, .aload_n 0, 0, 0, 0), (134, 3, .getfield 98, 9, 45, 2), (137, 2, .iload 5, 5, 0, 0), (139, 1, .iaload, 0, 0, 0), (140, 1, .aload_n 0, 0, 0, 0), (141, 3, .getfield 101, 9, 46, 2), (144, 2, .iload 5, 5, 0, 0), (146, 1, .iaload, 0, 0, 0), (147, 1, .iadd, 0, 0, 0), (148, 1, .iastore, 0, 0, 0), (149, 1, .iconst 1, 1, 0, 0), (150, 1, .istore_n 3, 3, 0, 0), (151, 3, .iinc 5 1, 5, 1, 0), (154, 3, .goto (-85), 69, 0, 0), (157, 3, .iinc 4 1, 4, 1, 0), (160, 3, .goto (-115), 45, 0, 0), (163, 3, .goto (-127), 36, 0, 0), (166, 1, .return_, 0, 0, 0)]
def q_cd7 : List q_I := [(0, 1, .aload_n 0, 0, 0, 0), (1, 1, .iload_n 2, 2, 0, 0), (2, 1, .aload_n 0, 0, 0, 0), (3, 3, .getfield 33, 9, 15, 2), (6, 1, .aload_n 0, 0, 0, 0), (7, 3, .getfield 274, 9, 34, 0), (10, 1, .iaload, 0, 0, 0), (11, 1, .iload_n 3, 3, 0, 0), (12, 1, .ior, 0, 0, 0), (13, 3, .invokevirtual 424, 6, 3, 9), (16, 1, .aload_n 0, 0, 0, 0), (17, 3, .getfield 98, 9, 45, 2), (20, 1, .iload_n 1, 1, 0, 0), (21, 1, .iaload, 0, 0, 0), (22, 3, .sipush 10000, 10000, 0, 0), (25, 3, .if_icmp .ne 7, 32, 0, 0), (28, 1, .iconst 1, 1, 0, 0), (29, 3, .goto 4, 33, 0, 0), (32, 1, .iconst 0, 0, 0, 0), (33, 1, .ireturn, 1, 0, 0)]
def q_cd8 : List q_I := [(0, 1, .aload_n 0, 0, 0, 0), (1, 3, .getfield 28, 6, 5, 2), (4, 1, .iload_n 1, 1, 0, 0), (5, 2, .bipush 25, 25, 0, 0), (7, 1, .imul, 0, 0, 0), (8, 1, .iload_n 2, 2, 0, 0), (9, 1, .iadd, 0, 0, 0), (10, 1, .iaload, 0, 0, 0), (11, 1, .aload_n 0, 0, 0, 0), (12, 3, .getfield 31, 6, 6, 2), (15, 1, .iload_n 1, 1, 0, 0), (16, 2, .bipush 25, 25, 0, 0), (18, 1, .imul, 0, 0, 0), (19, 1, .iload_n 2, 2, 0, 0), (20, 1, .iadd, 0, 0, 0), (21, 1, .iaload, 0, 0, 0), (22, 1, .imul, 0, 0, 0), (23, 1, .ireturn, 0, 0, 0)]
def q_cd9 : List q_I := [(0, 1, .iload_n 0, 0, 0, 0), (1, 1, .iload_n 1, 1, 0, 0), (2, 3, .if_icmp .lt 7, 9, 0, 0), (5, 1, .iload_n 0, 0, 0, 0), (6, 3, .goto 4, 10, 0, 0), (9, 1, .iload_n 1, 1, 0, 0), (10, 1, .ireturn, 0, 0, 0)]
def q_cd10 : List q_I := [(0, 1, .aload_n 0, 0, 0, 0), (1, 3, .getfield 146, 9, 62, 2), (4, 2, .bipush 25, 25, 0, 0), (6, 1, .iload_n 1, 1, 0, 0), (7, 1, .imul, 0, 0, 0), (8, 1, .iload_n 2, 2, 0, 0), (9, 1, .iadd, 0, 0, 0), (10, 1, .iaload, 0, 0, 0), (11, 1, .aload_n 0, 0, 0, 0), (12, 3, .getfield 149, 9, 63, 2), (15, 2, .bipush 25, 25, 0, 0), (17, 1, .iload_n 1, 1, 0, 0), (18, 1, .imul, 0, 0, 0), (19, 1, .iload_n 2, 2, 0, 0), (20, 1, .iadd, 0, 0, 0), (21, 1, .iaload, 0, 0, 0), (22, 1, .imul, 0, 0, 0), (23, 1, .ireturn, 0, 0, 0)]
def q_cd11 : List q_I := [(0, 1, .aload_n 0, 0, 0, 0), (1, 3, .getfield 36, 9, 16, 2), (4, 1, .aload_n 0, 0, 0, 0), (5, 3, .getfield 274, 9, 34, 0), (8, 1, .iaload, 0, 0, 0), (9, 1, .ireturn, 0, 0, 0)]
def q_cd12 : List q_I := [(0, 1, .iload_n 0, 0, 0, 0), (1, 1, .iload_n 1, 1, 0, 0), (2, 3, .if_icmp .lt 12, 14, 0, 0), (5, 1, .iload_n 0, 0, 0, 0), (6, 1, .iload_n 2, 2, 0, 0), (7, 3, .if_icmp .gt 7, 14, 0, 0), (10, 1, .iconst 1, 1, 0, 0), (11, 3, .goto 4, 15, 0, 0), (14, 1, .iconst 0, 0, 0, 0), (15, 1, .ireturn, 1, 0, 0)]
def q_cd13 : List q_I := [(0, 1, .iload_n 1, 1, 0, 0), (1, 3, .ifCond .lt 18, 19, 0, 0), (4, 1, .iload_n 1, 1, 0, 0), (5, 1, .aload_n 0, 0, 0, 0), (6, 3, .getfield 37, 8, 5, 2), (9, 3, .getfield 187, 3, 5, 0), (12, 3, .if_icmp .ge 7, 19, 0, 0), (15, 1, .iconst 1, 1, 0, 0), (16, 3, .goto 4, 20, 0, 0), (19, 1, .iconst 0, 0, 0, 0), (20, 1, .ireturn, 1, 0, 0)]
def q_cd14 : List q_I := [(0, 1, .iload_n 1, 1, 0, 0), (1, 1, .iconst 0, 0, 0, 0), (2, 1, .aload_n 0, 0, 0, 0), (3, 3, .invokevirtual 364, 0, 1, 9), (6, 1, .iconst 1, 1, 0, 0), (7, 1, .isub, 0, 0, 0), (8, 3, .invokestatic 357, 12, 3, 0), (11, 1, .ireturn, 1, 0, 0)]
def q_cd15 : List q_I := [(0, 1, .aload_n 0, 0, 0, 0), (1, 1, .iload_n 1, 1, 0, 0), (2, 3, .invokevirtual 123, 13, 2, 8), (5, 3, .ifCond .ne 6, 11, 0, 0), (8, 2, .bipush (-2), 4294967294, 0, 0), (10, 1, .ireturn, 0, 0, 0), (11, 1, .iload_n 2, 2, 0, 0), (12, 40, .tableswitch 138 0 5 #[40, 50, 77, 87, 103, 117], 0, 5, 0), (52, 1, .aload_n 0, 0, 0, 0), (53, 3, .getfield 44, 8, 6, 2), (56, 3, .getfield 126, 5, 0, 2), (59, 1, .iload_n 1, 1, 0, 0), (60, 1, .iaload, 0, 0, 0), (61, 1, .ireturn, 0, 0, 0), (62, 1, .aload_n 0, 0, 0, 0), (63, 3, .getfield 44, 8, 6, 2), (66, 3, .getfield 126, 5, 0, 2), (69, 1, .iload_n 1, 1, 0, 0), (70, 1, .iaload, 0, 0, 0), (71, 1, .iconst (-1), 4294967295, 0, 0), (72, 3, .if_icmp .ne 7, 79, 0, 0), (75, 1, .iconst (-1), 4294967295, 0, 0), (76, 3, .goto 12, 88, 0, 0), (79, 1, .aload_n 0, 0, 0, 0), (80, 3, .getfield 44, 8, 6, 2), (83, 3, .getfield 129, 5, 1, 2), (86, 1, .iload_n 1, 1, 0, 0), (87, 1, .iaload, 0, 0, 0), (88, 1, .ireturn, 0, 0, 0), (89, 1, .aload_n 0, 0, 0, 0), (90, 3, .getfield 44, 8, 6, 2), (93, 3, .getfield 132, 5, 2, 2), (96, 1, .iload_n 1, 1, 0, 0), (97, 1, .iaload, 0, 0, 0), (98, 1, .ireturn, 0, 0, 0), (99, 1, .aload_n 0, 0, 0, 0), (100, 3, .getfield 44, 8, 6, 2), (103, 1, .iload_n 1, 1, 0, 0), (104, 1, .aload_n 0, 0, 0, 0), (105, 3, .getfield 27, 8, 3, 2), (108, 3, .getfield 90, 7, 8, 0), (111, 3, .invokevirtual 135, 161, 3, 5), (114, 1, .ireturn, 0, 0, 0), (115, 1, .aload_n 0, 0, 0, 0), (116, 1, .iload_n 1, 1, 0, 0), (117, 3, .invokevirtual 139, 35, 2, 8), (120, 3, .ifCond .eq 7, 127, 0, 0), (123, 1, .iconst 0, 0, 0, 0), (124, 3, .goto 4, 128, 0, 0), (127, 1, .iconst 1, 1, 0, 0), (128, 1, .ireturn, 0, 0, 0), (129, 1, .aload_n 0, 0, 0, 0), (130, 1, .iload_n 1, 1, 0, 0), (131, 1, .aload_n 0, 0, 0, 0), (132, 3, .getfield 44, 8, 6, 2), (135, 3, .getfield 142, 5, 8, 0), (138, 3, .invokevirtual 145, 41, 3, 8), (141, 3, .ifCond .eq 7, 148, 0, 0), (144, 1, .iconst 1, 1, 0, 0), (145, 3, .goto 4, 149, 0, 0), (148, 1, .iconst 0, 0, 0, 0), (149, 1, .ireturn, 0, 0, 0), (150, 2, .bipush (-2), 4294967294, 0, 0), (152, 1, .ireturn, 0, 0, 0)]
def q_cd16 : List q_I := [(0, 1, .iconst 1, 1, 0, 0), (1, 1, .iload_n 0, 0, 0, 0), (2, 1, .ishl, 0, 0, 0), (3, 1, .ireturn, 0, 0, 0)]
def q_cd17 : List q_I := [(0, 1, .aload_n 0, 0, 0, 0), (1, 1, .iload_n 1, 1, 0, 0), (2, 3, .invokevirtual 367, 14, 2, 9), (5, 3, .ifCond .ne 6, 11, 0, 0), (8, 2, .bipush (-2), 4294967294, 0, 0), (10, 1, .ireturn, 0, 0, 0), (11, 1, .iload_n 2, 2, 0, 0), (12, 40, .tableswitch 103 0 5 #[40, 49, 59, 69, 75, 89], 0, 5, 0), (52, 1, .aload_n 0, 0, 0, 0), (53, 3, .getfield 92, 9, 41, 2), (56, 1, .iconst 5, 5, 0, 0), (57, 1, .iload_n 1, 1, 0, 0), (58, 1, .iadd, 0, 0, 0), (59, 1, .iaload, 0, 0, 0), (60, 1, .ireturn, 0, 0, 0), (61, 1, .aload_n 0, 0, 0, 0), (62, 3, .getfield 92, 9, 41, 2), (65, 2, .bipush 30, 30, 0, 0), (67, 1, .iload_n 1, 1, 0, 0), (68, 1, .iadd, 0, 0, 0), (69, 1, .iaload, 0, 0, 0), (70, 1, .ireturn, 0, 0, 0), (71, 1, .aload_n 0, 0, 0, 0), (72, 3, .getfield 92, 9, 41, 2), (75, 2, .bipush 55, 55, 0, 0), (77, 1, .iload_n 1, 1, 0, 0), (78, 1, .iadd, 0, 0, 0), (79, 1, .iaload, 0, 0, 0), (80, 1, .ireturn, 0, 0, 0), (81, 1, .aload_n 0, 0, 0, 0), (82, 1, .iload_n 1, 1, 0, 0), (83, 3, .invokevirtual 394, 162, 2, 9), (86, 1, .ireturn, 0, 0, 0), (87, 1, .aload_n 0, 0, 0, 0), (88, 3, .getfield 33, 9, 15, 2), (91, 1, .aload_n 0, 0, 0, 0), (92, 3, .getfield 274, 9, 34, 0), (95, 1, .iaload, 0, 0, 0), (96, 1, .iload_n 1, 1, 0, 0), (97, 1, .ishr, 0, 0, 0), (98, 1, .iconst 1, 1, 0, 0), (99, 1, .iand, 0, 0, 0), (100, 1, .ireturn, 0, 0, 0), (101, 1, .aload_n 0, 0, 0, 0), (102, 1, .iload_n 1, 1, 0, 0), (103, 3, .invokevirtual 397, 18, 2, 9), (106, 3, .ifCond .eq 7, 113, 0, 0), (109, 1, .iconst 1, 1, 0, 0), (110, 3, .goto 4, 114, 0, 0), (113, 1, .iconst 0, 0, 0, 0), (114, 1, .ireturn, 0, 0, 0), (115, 2, .bipush (-2), 4294967294, 0, 0), (117, 1, .ireturn, 0, 0, 0)]
def q_cd18 : List q_I := [(0, 1, .aload_n 0, 0, 0, 0), (1, 1, .iload_n 1, 1, 0, 0), (2, 3, .putfield 344, 9, 40, 0), (5, 1, .aload_n 0, 0, 0, 0), (6, 3, .getfield 63, 9, 25, 2), (9, 1, .aload_n 0, 0, 0, 0), (10, 3, .getfield 274, 9, 34, 0), (13, 1, .baload, 0, 0, 0), (14, 3, .ifCond .eq 14, 28, 0, 0), (17, 1, .aload_n 0, 0, 0, 0), (18, 3, .invokevirtual 370, 244, 1, 9), (21, 3, .ifCond .eq 7, 28, 0, 0), (24, 1, .iconst 1, 1, 0, 0), (25, 3, .goto 4, 29, 0, 0), (28, 1, .iconst 0, 0, 0, 0), (29, 1, .ireturn, 1, 0, 0)]
def q_cd19 : List q_I := [(0, 1, .aload_n 1, 1, 0, 0), (1, 3, .getfield 34, 3, 7, 0), (4, 2, .istore 4, 4, 0, 0), (6, 1, .iconst 0, 0, 0, 0), (7, 2, .istore 5, 5, 0, 0), (9, 2, .iload 5, 5, 0, 0), (11, 1, .aload_n 0, 0, 0, 0), (12, 3, .getfield 24, 6, 4, 0), (15, 3, .if_icmp .ge 42, 57, 0, 0), (18, 1, .aload_n 0, 0, 0, 0), (19, 3, .getfield 9, 6, 0, 2), (22, 2, .iload 5, 5, 0, 0), (24, 1, .iaload, 0, 0, 0), (25, 1, .iload_n 2, 2, 0, 0), (26, 3, .if_icmp .ne 25, 51, 0, 0), (29, 1, .aload_n 0, 0, 0, 0), (30, 2, .iload 5, 5, 0, 0), (32, 1, .iload_n 3, 3, 0, 0), (33, 3, .invokevirtual 39, 239, 3, 6), (36, 3, .ifCond .eq 15, 51, 0, 0), (39, 2, .iload 4, 4, 0, 0), (41, 1, .aload_n 0, 0, 0, 0), (42, 3, .getfield 15, 6, 1, 2), (45, 2, .iload 5, 5, 0, 0), (47, 1, .iaload, 0, 0, 0), (48, 1, .iand, 0, 0, 0), (49, 2, .istore 4, 4, 0, 0), (51, 3, .iinc 5 1, 5, 1, 0), (54, 3, .goto (-45), 9, 0, 0), (57, 2, .iload 4, 4, 0, 0), (59, 1, .ireturn, 0, 0, 0)]
def q_cd20 : List q_I := [(0, 1, .iconst 0, 0, 0, 0), (1, 2, .istore 5, 5, 0, 0), (3, 2, .iload 5, 5, 0, 0), (5, 2, .bipush 25, 25, 0, 0), (7, 3, .if_icmp .ge 58, 65, 0, 0), (10, 1, .iconst 0, 0, 0, 0), (11, 2, .istore 6, 6, 0, 0), (13, 2, .iload 4, 4, 0, 0), (15, 2, .iload 5, 5, 0, 0), (17, 3, .invokestatic 51, 3, 2, 0), (20, 3, .ifCond .eq 28, 48, 0, 0), (23, 1, .iload_n 3, 3, 0, 0), (24, 3, .ifCond .ge 7, 31, 0, 0), (27, 1, .iconst 1, 1, 0, 0), (28, 3, .goto 18, 46, 0, 0), (31, 1, .aload_n 1, 1, 0, 0), (32, 1, .iload_n 3, 3, 0, 0), (33, 2, .bipush 25, 25, 0, 0), (35, 1, .imul, 0, 0, 0), (36, 1, .aload_n 0, 0, 0, 0), (37, 3, .getfield 54, 3, 0, 2), (40, 2, .iload 5, 5, 0, 0), (42, 1, .iaload, 0, 0, 0), (43, 3, .invokestatic 57, 4, 3, 0), (46, 2, .istore 6, 6, 0, 0), (48, 1, .aload_n 1, 1, 0, 0), (49, 1, .iload_n 2, 2, 0, 0), (50, 2, .bipush 25, 25, 0, 0), (52, 1, .imul, 0, 0, 0), (53, 2, .iload 5, 5, 0, 0), (55, 1, .iadd, 0, 0, 0), (56, 2, .iload 6, 6, 0, 0), (58, 1, .iastore, 0, 0, 0), (59, 3, .iinc 5 1, 5, 1, 0), (62, 3, .goto (-59), 3, 0, 0), (65, 1, .return_, 0, 0, 0)]
def q_cd21 : List q_I := [(0, 1, .iconst 0, 0, 0, 0), (1, 1, .istore_n 2, 2, 0, 0), (2, 1, .iload_n 2, 2, 0, 0), (3, 1, .aload_n 0, 0, 0, 0), (4, 3, .invokevirtual 364, 0, 1, 9), (7, 3, .if_icmp .ge 69, 76, 0, 0), (10, 1, .iconst 0, 0, 0, 0), (11, 1, .istore_n 3, 3, 0, 0), (12, 1, .iconst 0, 0, 0, 0), (13, 2, .istore 4, 4, 0, 0), (15, 2, .iload 4, 4, 0, 0), (17, 1, .aload_n 0, 0, 0, 0), (18, 3, .invokevirtual 364, 0, 1, 9), (21, 3, .if_icmp .ge 42, 63, 0, 0), (24, 1, .iload_n 3, 3, 0, 0), (25, 1, .iload_n 1, 1, 0, 0), (26, 1, .iload_n 2, 2, 0, 0), (27, 3, .invokestatic 300, 1, 2, 0), (30, 3, .ifCond .ne 24, 54, 0, 0), (33, 1, .aload_n 0, 0, 0, 0), (34, 1, .iload_n 2, 2, 0, 0), (35, 2, .iload 4, 4, 0, 0), (37, 3, .invokevirtual 409, 2, 3, 9), (40, 1, .iconst 1, 1, 0, 0), (41, 3, .if_icmp .gt 13, 54, 0, 0), (44, 1, .aload_n 0, 0, 0, 0), (45, 3, .getfield 110, 9, 50, 2), (48, 2, .iload 4, 4, 0, 0), (50, 1, .iaload, 0, 0, 0), (51, 3, .goto 4, 55, 0, 0), (54, 1, .iconst 0, 0, 0, 0), (55, 1, .iadd, 0, 0, 0), (56, 1, .istore_n 3, 3, 0, 0), (57, 3, .iinc 4 1, 4, 1, 0), (60, 3, .goto (-45), 15, 0, 0), (63, 1, .aload_n 0, 0, 0, 0), (64, 3, .getfield 113, 9, 51, 2), (67, 1, .iload_n 2, 2, 0, 0), (68, 1, .iload_n 3, 3, 0, 0), (69, 1, .iastore, 0, 0, 0), (70, 3, .iinc 2 1, 2, 1, 0), (73, 3, .goto (-71), 2, 0, 0), (76, 1, .iconst 0, 0, 0, 0), (77, 1, .istore_n 2, 2, 0, 0), (78, 1, .iload_n 2, 2, 0, 0), (79, 1, .aload_n 0, 0, 0, 0), (80, 3, .invokevirtual 364, 0, 1, 9), (83, 3, .if_icmp .ge 21, 104, 0, 0), (86, 1, .aload_n 0, 0, 0, 0), (87, 3, .getfield 110, 9, 50, 2), (90, 1, .iload_n 2, 2, 0, 0), (91, 1, .aload_n 0, 0, 0, 0), (92, 3, .getfield 113, 9, 51, 2), (95, 1, .iload_n 2, 2, 0, 0), (96, 1, .iaload, 0, 0, 0), (97, 1, .iastore, 0, 0, 0), (98, 3, .iinc 2 1, 2, 1, 0), (101, 3, .goto (-23), 78, 0, 0), (104, 1, .return_, 0, 0, 0)]
def q_cd22 : List q_I := [(0, 1, .iload_n 0, 0, 0, 0), (1, 3, .ifCond .eq 8, 9, 0, 0), (4, 1, .iload_n 0, 0, 0, 0), (5, 1, .iconst 1, 1, 0, 0), (6, 3, .if_icmp .ne 7, 13, 0, 0), (9, 1, .iconst 1, 1, 0, 0), (10, 3, .goto 4, 14, 0, 0), (13, 1, .iconst 0, 0, 0, 0), (14, 1, .ireturn, 1, 0, 0)]
def q_cd23 : List q_I := [(0, 1, .aload_n 0, 0, 0, 0), (1, 3, .getfield 92, 9, 41, 2), (4, 1, .iconst 5, 5, 0, 0), (5, 1, .iload_n 1, 1, 0, 0), (6, 1, .iadd, 0, 0, 0), (7, 1, .iconst (-1), 4294967295, 0, 0), (8, 1, .iastore, 0, 0, 0), (9, 1, .aload_n 0, 0, 0, 0), (10, 3, .getfield 92, 9, 41, 2), (13, 2, .bipush 30, 30, 0, 0), (15, 1, .iload_n 1, 1, 0, 0), (16, 1, .iadd, 0, 0, 0), (17, 1, .iconst (-1), 4294967295, 0, 0), (18, 1, .iastore, 0, 0, 0), (19, 1, .return_, 0, 0, 0)]
def q_cd24 : List q_I := [(0, 1, .iconst 1, 1, 0, 0), (1, 1, .istore_n 2, 2, 0, 0), (2, 1, .iconst 0, 0, 0, 0), (3, 1, .istore_n 3, 3, 0, 0), (4, 1, .iload_n 3, 3, 0, 0), (5, 1, .iload_n 1, 1, 0, 0), (6, 3, .if_icmp .ge 13, 19, 0, 0), (9, 1, .iload_n 2, 2, 0, 0), (10, 1, .iload_n 0, 0, 0, 0), (11, 1, .imul, 0, 0, 0), (12, 1, .istore_n 2, 2, 0, 0), (13, 3, .iinc 3 1, 3, 1, 0), (16, 3, .goto (-12), 4, 0, 0), (19, 1, .iload_n 2, 2, 0, 0), (20, 1, .ireturn, 0, 0, 0)]
def q_cd25 : List q_I := [(0, 1, .iload_n 1, 1, 0, 0), (1, 3, .ifCond .lt 18, 19, 0, 0), (4, 1, .iload_n 1, 1, 0, 0), (5, 1, .aload_n 0, 0, 0, 0), (6, 3, .getfield 27, 8, 3, 2), (9, 3, .getfield 90, 7, 8, 0), (12, 3, .if_icmp .ge 7, 19, 0, 0), (15, 1, .iconst 1, 1, 0, 0), (16, 3, .goto 4, 20, 0, 0), (19, 1, .iconst 0, 0, 0, 0), (20, 1, .ireturn, 1, 0, 0)]
def q_cd26 : List q_I := [(0, 1, .iload_n 1, 1, 0, 0), (1, 1, .aload_n 0, 0, 0, 0), (2, 3, .getfield 40, 3, 9, 0), (5, 1, .iconst (-1), 4294967295, 0, 0), (6, 1, .ixor, 0, 0, 0), (7, 1, .iand, 0, 0, 0), (8, 1, .iconst 1, 1, 0, 0), (9, 1, .ishl, 0, 0, 0), (10, 1, .iload_n 1, 1, 0, 0), (11, 1, .aload_n 0, 0, 0, 0), (12, 3, .getfield 37, 3, 8, 0), (15, 1, .iconst (-1), 4294967295, 0, 0), (16, 1, .ixor, 0, 0, 0), (17, 1, .iand, 0, 0, 0), (18, 1, .iconst 1, 1, 0, 0), (19, 1, .iushr, 0, 0, 0), (20, 1, .ior, 0, 0, 0), (21, 1, .istore_n 2, 2, 0, 0), (22, 1, .iload_n 1, 1, 0, 0), (23, 1, .aload_n 0, 0, 0, 0), (24, 3, .getfield 21, 3, 3, 0), (27, 1, .ishl, 0, 0, 0), (28, 1, .iload_n 1, 1, 0, 0), (29, 1, .aload_n 0, 0, 0, 0), (30, 3, .getfield 21, 3, 3, 0), (33, 1, .iushr, 0, 0, 0), (34, 1, .ior, 0, 0, 0), (35, 1, .istore_n 3, 3, 0, 0), (36, 1, .iload_n 1, 1, 0, 0), (37, 1, .iload_n 2, 2, 0, 0), (38, 1, .ior, 0, 0, 0), (39, 1, .iload_n 3, 3, 0, 0), (40, 1, .ior, 0, 0, 0), (41, 1, .aload_n 0, 0, 0, 0), (42, 3, .getfield 34, 3, 7, 0), (45, 1, .iand, 0, 0, 0), (46, 1, .ireturn, 0, 0, 0)]
def q_cd27 : List q_I := [(0, 1, .aload_n 0, 0, 0, 0), (1, 1, .iload_n 2, 2, 0, 0), (2, 3, .invokevirtual 123, 13, 2, 8), (5, 3, .ifCond .ne 5, 10, 0, 0), (8, 1, .iconst (-1), 4294967295, 0, 0), (9, 1, .ireturn, 0, 0, 0), (10, 1, .aload_n 0, 0, 0, 0), (11, 3, .getfield 72, 8, 11, 2), (14, 1, .iload_n 1, 1, 0, 0), (15, 1, .iload_n 3, 3, 0, 0), (16, 3, .ifCond .eq 10, 26, 0, 0), (19, 1, .iload_n 2, 2, 0, 0), (20, 3, .invokestatic 233, 16, 1, 0), (23, 3, .goto 9, 32, 0, 0), (26, 1, .iload_n 2, 2, 0, 0), (27, 3, .invokestatic 233, 16, 1, 0), (30, 1, .iconst (-1), 4294967295, 0, 0), (31, 1, .ixor, 0, 0, 0), (32, 1, .aload_n 0, 0, 0, 0), (33, 3, .getfield 76, 8, 12, 0), (36, 3, .invokevirtual 306, 34, 4, 6), (39, 1, .ireturn, 0, 0, 0)]
def q_cd28 : List q_I := [(0, 1, .iload_n 2, 2, 0, 0), (1, 3, .ifCond .lt 14, 15, 0, 0), (4, 1, .iload_n 2, 2, 0, 0), (5, 1, .aload_n 0, 0, 0, 0), (6, 3, .getfield 37, 8, 5, 2), (9, 3, .getfield 309, 3, 4, 0), (12, 3, .if_icmp .lt 5, 17, 0, 0), (15, 1, .iconst (-1), 4294967295, 0, 0), (16, 1, .ireturn, 0, 0, 0), (17, 1, .aload_n 0, 0, 0, 0), (18, 3, .getfield 37, 8, 5, 2), (21, 1, .iload_n 2, 2, 0, 0), (22, 3, .invokevirtual 312, 54, 2, 3), (25, 2, .istore 4, 4, 0, 0), (27, 1, .aload_n 0, 0, 0, 0), (28, 3, .getfield 72, 8, 11, 2), (31, 1, .iload_n 1, 1, 0, 0), (32, 1, .iload_n 3, 3, 0, 0), (33, 3, .ifCond .eq 8, 41, 0, 0), (36, 2, .iload 4, 4, 0, 0), (38, 3, .goto 7, 45, 0, 0), (41, 2, .iload 4, 4, 0, 0), (43, 1, .iconst (-1), 4294967295, 0, 0), (44, 1, .ixor, 0, 0, 0), (45, 1, .aload_n 0, 0, 0, 0), (46, 3, .getfield 76, 8, 12, 0), (49, 3, .invokevirtual 306, 34, 4, 6), (52, 1, .ireturn, 0, 0, 0)]
def q_cd29 : List q_I := [(0, 1, .iload_n 1, 1, 0, 0), (1, 1, .iconst 0, 0, 0, 0), (2, 1, .aload_n 0, 0, 0, 0), (3, 3, .invokevirtual 354, 11, 1, 9), (6, 1, .iconst 1, 1, 0, 0), (7, 1, .isub, 0, 0, 0), (8, 3, .invokestatic 357, 12, 3, 0), (11, 1, .ireturn, 1, 0, 0)]
def q_cd30 : List q_I := [(0, 1, .iload_n 1, 1, 0, 0), (1, 3, .ifCond .lt 15, 16, 0, 0), (4, 1, .iload_n 1, 1, 0, 0), (5, 1, .iconst 4, 4, 0, 0), (6, 3, .if_icmp .gt 10, 16, 0, 0), (9, 1, .iload_n 2, 2, 0, 0), (10, 3, .invokestatic 227, 22, 1, 0), (13, 3, .ifCond .ne 5, 18, 0, 0), (16, 1, .iconst (-1), 4294967295, 0, 0), (17, 1, .ireturn, 0, 0, 0), (18, 2, .bipush 100, 100, 0, 0), (20, 1, .aload_n 0, 0, 0, 0), (21, 3, .getfield 27, 8, 3, 2), (24, 3, .getfield 193, 7, 9, 0), (27, 1, .isub, 0, 0, 0), (28, 1, .iload_n 1, 1, 0, 0), (29, 3, .invokestatic 267, 24, 2, 0), (32, 2, .bipush 100, 100, 0, 0), (34, 1, .iload_n 1, 1, 0, 0), (35, 3, .invokestatic 267, 24, 2, 0), (38, 1, .iload_n 2, 2, 0, 0), (39, 3, .invokestatic 270, 37, 3, 0), (42, 1, .ireturn, 0, 0, 0)]
def q_cd31 : List q_I := [(0, 1, .iload_n 1, 1, 0, 0), (1, 1, .iconst 0, 0, 0, 0), (2, 2, .bipush 7, 7, 0, 0), (4, 3, .invokestatic 357, 12, 3, 0), (7, 3, .ifCond .eq 31, 38, 0, 0), (10, 1, .aload_n 0, 0, 0, 0), (11, 1, .iload_n 2, 2, 0, 0), (12, 3, .invokevirtual 367, 14, 2, 9), (15, 3, .ifCond .eq 23, 38, 0, 0), (18, 1, .aload_n 0, 0, 0, 0), (19, 3, .getfield 385, 9, 64, 0), (22, 2, .bipush 30, 30, 0, 0), (24, 3, .if_icmp .ge 14, 38, 0, 0), (27, 1, .aload_n 0, 0, 0, 0), (28, 1, .iload_n 1, 1, 0, 0), (29, 1, .iload_n 2, 2, 0, 0), (30, 1, .iconst (-1), 4294967295, 0, 0), (31, 1, .iload_n 3, 3, 0, 0), (32, 3, .invokevirtual 475, 72, 5, 9), (35, 3, .goto 4, 39, 0, 0), (38, 1, .iconst (-1), 4294967295, 0, 0), (39, 1, .ireturn, 0, 0, 0)]
def q_cd32 : List q_I := [(0, 1, .iload_n 1, 1, 0, 0), (1, 1, .iconst 0, 0, 0, 0), (2, 2, .bipush 7, 7, 0, 0), (4, 3, .invokestatic 357, 12, 3, 0), (7, 3, .ifCond .eq 42, 49, 0, 0), (10, 1, .iload_n 2, 2, 0, 0), (11, 1, .iconst 0, 0, 0, 0), (12, 1, .aload_n 0, 0, 0, 0), (13, 3, .getfield 24, 9, 12, 2), (16, 1, .aload_n 0, 0, 0, 0), (17, 3, .getfield 274, 9, 34, 0), (20, 1, .iaload, 0, 0, 0), (21, 1, .iconst 1, 1, 0, 0), (22, 1, .isub, 0, 0, 0), (23, 3, .invokestatic 357, 12, 3, 0), (26, 3, .ifCond .eq 23, 49, 0, 0), (29, 1, .aload_n 0, 0, 0, 0), (30, 3, .getfield 385, 9, 64, 0), (33, 2, .bipush 30, 30, 0, 0), (35, 3, .if_icmp .ge 14, 49, 0, 0), (38, 1, .aload_n 0, 0, 0, 0), (39, 1, .iload_n 1, 1, 0, 0), (40, 1, .iconst (-1), 4294967295, 0, 0), (41, 1, .iload_n 2, 2, 0, 0), (42, 1, .iload_n 3, 3, 0, 0), (43, 3, .invokevirtual 475, 72, 5, 9), (46, 3, .goto 4, 50, 0, 0), (49, 1, .iconst (-1), 4294967295, 0, 0), (50, 1, .ireturn, 0, 0, 0)]
def q_cd33 : List q_I := [(0, 1, .iload_n 1, 1, 0, 0), (1, 3, .ifCond .lt 15, 16, 0, 0), (4, 1, .iload_n 1, 1, 0, 0), (5, 1, .iconst 3, 3, 0, 0), (6, 3, .if_icmp .gt 10, 16, 0, 0), (9, 1, .iload_n 2, 2, 0, 0), (10, 3, .invokestatic 227, 22, 1, 0), (13, 3, .ifCond .ne 5, 18, 0, 0), (16, 1, .iconst (-1), 4294967295, 0, 0), (17, 1, .ireturn, 0, 0, 0), (18, 1, .aload_n 0, 0, 0, 0), (19, 3, .invokevirtual 264, 46, 1, 8), (22, 2, .bipush 100, 100, 0, 0), (24, 1, .aload_n 0, 0, 0, 0), (25, 3, .getfield 27, 8, 3, 2), (28, 3, .getfield 193, 7, 9, 0), (31, 1, .isub, 0, 0, 0), (32, 1, .iload_n 1, 1, 0, 0), (33, 3, .invokestatic 267, 24, 2, 0), (36, 1, .imul, 0, 0, 0), (37, 2, .bipush 100, 100, 0, 0), (39, 1, .iload_n 1, 1, 0, 0), (40, 3, .invokestatic 267, 24, 2, 0), (43, 1, .iload_n 2, 2, 0, 0), (44, 3, .invokestatic 270, 37, 3, 0), (47, 1, .ireturn, 0, 0, 0)]
def q_cd34 : List q_I := [(0, 1, .iload_n 1, 1, 0, 0), (1, 3, .ifCond .lt 25, 26, 0, 0), (4, 1, .iload_n 1, 1, 0, 0), (5, 2, .bipush 8, 8, 0, 0), (7, 3, .if_icmp .ge 19, 26, 0, 0), (10, 1, .aload_n 0, 0, 0, 0), (11, 3, .getfield 24, 6, 4, 0), (14, 3, .ifCond .lt 12, 26, 0, 0), (17, 1, .aload_n 0, 0, 0, 0), (18, 3, .getfield 24, 6, 4, 0), (21, 2, .bipush 30, 30, 0, 0), (23, 3, .if_icmp .lt 5, 28, 0, 0), (26, 1, .iconst (-1), 4294967295, 0, 0), (27, 1, .ireturn, 0, 0, 0), (28, 1, .aload_n 0, 0, 0, 0), (29, 3, .getfield 9, 6, 0, 2), (32, 1, .aload_n 0, 0, 0, 0), (33, 3, .getfield 24, 6, 4, 0), (36, 1, .iload_n 1, 1, 0, 0), (37, 1, .iastore, 0, 0, 0), (38, 1, .aload_n 0, 0, 0, 0), (39, 3, .getfield 15, 6, 1, 2), (42, 1, .aload_n 0, 0, 0, 0), (43, 3, .getfield 24, 6, 4, 0), (46, 1, .iload_n 2, 2, 0, 0), (47, 1, .iastore, 0, 0, 0), (48, 1, .aload_n 0, 0, 0, 0), (49, 3, .getfield 18, 6, 2, 2), (52, 1, .aload_n 0, 0, 0, 0), (53, 3, .getfield 24, 6, 4, 0), (56, 1, .iload_n 3, 3, 0, 0), (57, 1, .iastore, 0, 0, 0), (58, 1, .aload_n 0, 0, 0, 0), (59, 3, .getfield 21, 6, 3, 2), (62, 1, .aload_n 0, 0, 0, 0), (63, 3, .getfield 24, 6, 4, 0), (66, 1, .iconst (-1), 4294967295, 0, 0), (67, 1, .iastore, 0, 0, 0), (68, 1, .aload_n 0, 0, 0, 0), (69, 1, .dup, 0, 0, 0), (70, 3, .getfield 24, 6, 4, 0), (73, 1, .iconst 1, 1, 0, 0), (74, 1, .iadd, 0, 0, 0), (75, 3, .putfield 24, 6, 4, 0), (78, 1, .aload_n 0, 0, 0, 0), (79, 3, .getfield 24, 6, 4, 0), (82, 1, .iconst 1, 1, 0, 0), (83, 1, .isub, 0, 0, 0), (84, 1, .ireturn, 0, 0, 0)]
def q_cd35 : List q_I := [(0, 1, .aload_n 0, 0, 0, 0), (1, 3, .getfield 37, 8, 5, 2), (4, 3, .getfield 239, 3, 7, 0), (7, 1, .iload_n 1, 1, 0, 0), (8, 3, .invokestatic 173, 3, 2, 0), (11, 1, .ireturn, 1, 0, 0)]
def q_cd36 : List q_I := [(0, 1, .iload_n 0, 0, 0, 0), (1, 1, .iload_n 0, 0, 0, 0), (2, 1, .iconst 1, 1, 0, 0), (3, 1, .iushr, 0, 0, 0), (4, 3, .ldc_w 265, 1431655765, 0, 0), (7, 1, .iand, 0, 0, 0), (8, 1, .isub, 0, 0, 0), (9, 1, .istore_n 0, 0, 0, 0), (10, 1, .iload_n 0, 0, 0, 0), (11, 3, .ldc_w 266, 858993459, 0, 0), (14, 1, .iand, 0, 0, 0), (15, 1, .iload_n 0, 0, 0, 0), (16, 1, .iconst 2, 2, 0, 0), (17, 1, .iushr, 0, 0, 0), (18, 3, .ldc_w 266, 858993459, 0, 0), (21, 1, .iand, 0, 0, 0), (22, 1, .iadd, 0, 0, 0), (23, 1, .istore_n 0, 0, 0, 0), (24, 1, .iload_n 0, 0, 0, 0), (25, 1, .iload_n 0, 0, 0, 0), (26, 1, .iconst 4, 4, 0, 0), (27, 1, .iushr, 0, 0, 0), (28, 1, .iadd, 0, 0, 0), (29, 3, .ldc_w 267, 252645135, 0, 0), (32, 1, .iand, 0, 0, 0), (33, 1, .istore_n 0, 0, 0, 0), (34, 1, .iload_n 0, 0, 0, 0), (35, 1, .iload_n 0, 0, 0, 0), (36, 2, .bipush 8, 8, 0, 0), (38, 1, .iushr, 0, 0, 0), (39, 1, .iadd, 0, 0, 0), (40, 1, .istore_n 0, 0, 0, 0), (41, 1, .iload_n 0, 0, 0, 0), (42, 1, .iload_n 0, 0, 0, 0), (43, 2, .bipush 16, 16, 0, 0), (45, 1, .iushr, 0, 0, 0), (46, 1, .iadd, 0, 0, 0), (47, 1, .istore_n 0, 0, 0, 0), (48, 1, .iload_n 0, 0, 0, 0), (49, 2, .bipush 63, 63, 0, 0), (51, 1, .iand, 0, 0, 0), (52, 1, .ireturn, 0, 0, 0)]
def q_cd37 : List q_I := [(0, 1, .iload_n 1, 1, 0, 0), (1, 1, .istore_n 3, 3, 0, 0), (2, 1, .iload_n 0, 0, 0, 0), (3, 2, .istore 4, 4, 0, 0), (5, 1, .iconst 0, 0, 0, 0), (6, 2, .istore 5, 5, 0, 0), (8, 2, .iload 5, 5, 0, 0), (10, 2, .bipush 100, 100, 0, 0), (12, 3, .if_icmp .ge 27, 39, 0, 0), (15, 2, .iload 4, 4, 0, 0), (17, 3, .ifCond .eq 22, 39, 0, 0), (20, 1, .iload_n 3, 3, 0, 0), (21, 2, .iload 4, 4, 0, 0), (23, 1, .irem, 0, 0, 0), (24, 2, .istore 6, 6, 0, 0), (26, 2, .iload 4, 4, 0, 0), (28, 1, .istore_n 3, 3, 0, 0), (29, 2, .iload 6, 6, 0, 0), (31, 2, .istore 4, 4, 0, 0), (33, 3, .iinc 5 1, 5, 1, 0), (36, 3, .goto (-28), 8, 0, 0), (39, 1, .iload_n 3, 3, 0, 0), (40, 3, .ifCond .ne 5, 45, 0, 0), (43, 1, .iconst (-1), 4294967295, 0, 0), (44, 1, .ireturn, 0, 0, 0), (45, 1, .iload_n 2, 2, 0, 0), (46, 3, .ifCond .ne 7, 53, 0, 0), (49, 1, .iload_n 0, 0, 0, 0), (50, 3, .goto 4, 54, 0, 0), (53, 1, .iload_n 1, 1, 0, 0), (54, 1, .iload_n 3, 3, 0, 0), (55, 1, .idiv, 0, 0, 0), (56, 1, .ireturn, 0, 0, 0)]
def q_cd38 : List q_I := [(0, 1, .iload_n 1, 1, 0, 0), (1, 2, .istore 4, 4, 0, 0), (3, 1, .iconst 1, 1, 0, 0), (4, 2, .istore 5, 5, 0, 0), (6, 1, .iconst 0, 0, 0, 0), (7, 2, .istore 6, 6, 0, 0), (9, 2, .iload 6, 6, 0, 0), (11, 1, .iload_n 2, 2, 0, 0), (12, 3, .if_icmp .ge 33, 45, 0, 0), (15, 2, .iload 4, 4, 0, 0), (17, 2, .bipush 100, 100, 0, 0), (19, 1, .aload_n 0, 0, 0, 0), (20, 3, .getfield 42, 9, 18, 2), (23, 1, .aload_n 0, 0, 0, 0), (24, 3, .getfield 274, 9, 34, 0), (27, 1, .iaload, 0, 0, 0), (28, 1, .isub, 0, 0, 0), (29, 1, .imul, 0, 0, 0), (30, 2, .istore 4, 4, 0, 0), (32, 2, .iload 5, 5, 0, 0), (34, 2, .bipush 100, 100, 0, 0), (36, 1, .imul, 0, 0, 0), (37, 2, .istore 5, 5, 0, 0), (39, 3, .iinc 6 1, 6, 1, 0), (42, 3, .goto (-33), 9, 0, 0), (45, 1, .iload_n 3, 3, 0, 0), (46, 3, .ifCond .ne 8, 54, 0, 0), (49, 2, .iload 4, 4, 0, 0), (51, 3, .goto 5, 56, 0, 0), (54, 2, .iload 5, 5, 0, 0), (56, 2, .iload 5, 5, 0, 0), (58, 2, .iload 4, 4, 0, 0), (60, 3, .invokestatic 448, 39, 2, 0), (63, 1, .idiv, 0, 0, 0), (64, 1, .ireturn, 0, 0, 0)]
def q_cd39 : List q_I := [(0, 1, .iload_n 0, 0, 0, 0), (1, 1, .istore_n 2, 2, 0, 0), (2, 1, .iload_n 1, 1, 0, 0), (3, 1, .istore_n 3, 3, 0, 0), (4, 1, .iload_n 3, 3, 0, 0), (5, 3, .ifCond .le 16, 21, 0, 0), (8, 1, .iload_n 2, 2, 0, 0), (9, 1, .iload_n 3, 3, 0, 0), (10, 1, .irem, 0, 0, 0), (11, 2, .istore 4, 4, 0, 0), (13, 1, .iload_n 3, 3, 0, 0), (14, 1, .istore_n 2, 2, 0, 0), (15, 2, .iload 4, 4, 0, 0), (17, 1, .istore_n 3, 3, 0, 0), (18, 3, .goto (-14), 4, 0, 0), (21, 1, .iload_n 2, 2, 0, 0), (22, 1, .ireturn, 0, 0, 0)]
def q_cd40 : List q_I := [(0, 1, .iload_n 1, 1, 0, 0), (1, 71, .tableswitch 180 0 13 #[71, 79, 87, 95, 106, 114, 122, 130, 138, 146, 154, 159, 164, 172], 0, 13, 0), (72, 1, .aload_n 0, 0, 0, 0), (73, 3, .getfield 27, 8, 3, 2), (76, 3, .getfield 90, 7, 8, 0), (79, 1, .ireturn, 0, 0, 0), (80, 1, .aload_n 0, 0, 0, 0), (81, 3, .getfield 37, 8, 5, 2), (84, 3, .getfield 337, 3, 3, 0), (87, 1, .ireturn, 0, 0, 0), (88, 1, .aload_n 0, 0, 0, 0), (89, 3, .getfield 37, 8, 5, 2), (92, 3, .getfield 309, 3, 4, 0), (95, 1, .ireturn, 0, 0, 0), (96, 1, .aload_n 0, 0, 0, 0), (97, 3, .getfield 27, 8, 3, 2), (100, 3, .getfield 340, 7, 6, 0), (103, 3, .invokestatic 165, 36, 1, 0), (106, 1, .ireturn, 0, 0, 0), (107, 1, .aload_n 0, 0, 0, 0), (108, 3, .getfield 44, 8, 6, 2), (111, 3, .getfield 142, 5, 8, 0), (114, 1, .ireturn, 0, 0, 0), (115, 1, .aload_n 0, 0, 0, 0), (116, 3, .getfield 44, 8, 6, 2), (119, 3, .getfield 190, 5, 9, 0), (122, 1, .ireturn, 0, 0, 0), (123, 1, .aload_n 0, 0, 0, 0), (124, 3, .getfield 44, 8, 6, 2), (127, 3, .getfield 343, 5, 10, 0), (130, 1, .ireturn, 0, 0, 0), (131, 1, .aload_n 0, 0, 0, 0), (132, 3, .getfield 51, 8, 7, 2), (135, 3, .getfield 203, 0, 2, 0), (138, 1, .ireturn, 0, 0, 0), (139, 1, .aload_n 0, 0, 0, 0), (140, 3, .getfield 51, 8, 7, 2), (143, 3, .getfield 210, 0, 3, 0), (146, 1, .ireturn, 0, 0, 0), (147, 1, .aload_n 0, 0, 0, 0), (148, 3, .getfield 72, 8, 11, 2), (151, 3, .getfield 346, 6, 4, 0), (154, 1, .ireturn, 0, 0, 0), (155, 1, .aload_n 0, 0, 0, 0), (156, 3, .getfield 76, 8, 12, 0), (159, 1, .ireturn, 0, 0, 0), (160, 1, .aload_n 0, 0, 0, 0), (161, 3, .getfield 13, 8, 1, 0), (164, 1, .ireturn, 0, 0, 0), (165, 1, .aload_n 0, 0, 0, 0), (166, 3, .getfield 27, 8, 3, 2), (169, 3, .getfield 348, 7, 11, 0), (172, 1, .ireturn, 0, 0, 0), (173, 1, .aload_n 0, 0, 0, 0), (174, 3, .getfield 65, 8, 10, 2), (177, 3, .getfield 216, 1, 1, 0), (180, 1, .ireturn, 0, 0, 0), (181, 1, .iconst (-1), 4294967295, 0, 0), (182, 1, .ireturn, 0, 0, 0)]
def q_cd41 : List q_I := [(0, 1, .aload_n 0, 0, 0, 0), (1, 3, .getfield 27, 8, 3, 2), (4, 3, .getfield 360, 7, 3, 2), (7, 1, .aload_n 0, 0, 0, 0), (8, 3, .getfield 37, 8, 5, 2), (11, 3, .getfield 364, 3, 1, 2), (14, 1, .iload_n 1, 1, 0, 0), (15, 1, .iaload, 0, 0, 0), (16, 1, .aload_n 0, 0, 0, 0), (17, 3, .getfield 37, 8, 5, 2), (20, 3, .getfield 367, 3, 2, 2), (23, 1, .iload_n 1, 1, 0, 0), (24, 1, .iaload, 0, 0, 0), (25, 1, .iload_n 2, 2, 0, 0), (26, 1, .aload_n 0, 0, 0, 0), (27, 3, .getfield 44, 8, 6, 2), (30, 3, .getfield 190, 5, 9, 0), (33, 1, .aload_n 0, 0, 0, 0), (34, 3, .getfield 44, 8, 6, 2), (37, 3, .getfield 132, 5, 2, 2), (40, 1, .iload_n 1, 1, 0, 0), (41, 1, .iaload, 0, 0, 0), (42, 3, .invokevirtual 370, 42, 6, 2), (45, 3, .ifCond .eq 7, 52, 0, 0), (48, 1, .iconst 1, 1, 0, 0), (49, 3, .goto 4, 53, 0, 0), (52, 1, .iconst 0, 0, 0, 0), (53, 1, .ireturn, 1, 0, 0)]
def q_cd42 : List q_I := [(0, 1, .aload_n 0, 0, 0, 0), (1, 3, .getfield 18, 2, 2, 2), (4, 1, .iconst 0, 0, 0, 0), (5, 1, .iload_n 1, 1, 0, 0), (6, 1, .iastore, 0, 0, 0), (7, 1, .aload_n 0, 0, 0, 0), (8, 3, .getfield 18, 2, 2, 2), (11, 1, .iconst 1, 1, 0, 0), (12, 1, .iload_n 2, 2, 0, 0), (13, 1, .iastore, 0, 0, 0), (14, 1, .aload_n 0, 0, 0, 0), (15, 3, .getfield 18, 2, 2, 2), (18, 1, .iconst 2, 2, 0, 0), (19, 1, .iload_n 3, 3, 0, 0), (20, 1, .iastore, 0, 0, 0), (21, 1, .aload_n 0, 0, 0, 0), (22, 3, .getfield 18, 2, 2, 2), (25, 1, .iconst 3, 3, 0, 0), (26, 2, .iload 4, 4, 0, 0), (28, 1, .iastore, 0, 0, 0), (29, 1, .aload_n 0, 0, 0, 0), (30, 3, .getfield 18, 2, 2, 2), (33, 1, .iconst 4, 4, 0, 0), (34, 2, .iload 5, 5, 0, 0), (36, 1, .iastore, 0, 0, 0), (37, 1, .iconst 0, 0, 0, 0), (38, 2, .istore 6, 6, 0, 0), (40, 1, .iconst 0, 0, 0, 0), (41, 2, .istore 7, 7, 0, 0), (43, 2, .iload 7, 7, 0, 0), (45, 1, .aload_n 0, 0, 0, 0), (46, 3, .getfield 21, 2, 3, 0), (49, 3, .if_icmp .ge 165, 214, 0, 0), (52, 1, .aload_n 0, 0, 0, 0), (53, 3, .getfield 9, 2, 0, 2), (56, 2, .iload 7, 7, 0, 0), (58, 1, .iaload, 0, 0, 0), (59, 1, .ineg, 0, 0, 0), (60, 2, .istore 8, 8, 0, 0), (62, 2, .iload 8, 8, 0, 0), (64, 3, .ifCond .le 11, 75, 0, 0), (67, 2, .iload 8, 8, 0, 0), (69, 3, .sipush 213, 213, 0, 0), (72, 3, .if_icmp .lt 54, 126, 0, 0), (75, 2, .iload 6, 6, 0, 0), (77, 1, .aload_n 0, 0, 0, 0), (78, 3, .getfield 15, 2, 1, 2), (81, 1, .arraylength, 0, 0, 0), (82, 3, .if_icmp .ge 126, 208, 0, 0), (85, 1, .aload_n 0, 0, 0, 0), (86, 3, .getfield 15, 2, 1, 2), (89, 2, .iload 6, 6, 0, 0), (91, 2, .iload 8, 8, 0, 0), (93, 3, .ifCond .gt 9, 102, 0, 0), (96, 2, .iload 8, 8, 0, 0), (98, 1, .ineg, 0, 0, 0), (99, 3, .goto 20, 119, 0, 0), (102, 1, .aload_n 0, 0, 0, 0), (103, 3, .getfield 18, 2, 2, 2), (106, 2, .iload 8, 8, 0, 0), (108, 3, .sipush 217, 217, 0, 0), (111, 3, .invokestatic 29, 62, 2, 0), (114, 3, .sipush 213, 213, 0, 0), (117, 1, .isub, 0, 0, 0), (118, 1, .iaload, 0, 0, 0), (119, 1, .iastore, 0, 0, 0), (120, 3, .iinc 6 1, 6, 1, 0), (123, 3, .goto 85, 208, 0, 0), (126, 2, .iload 8, 8, 0, 0), (128, 3, .sipush 212, 212, 0, 0), (131, 3, .if_icmp .ne 38, 169, 0, 0), (134, 2, .iload 6, 6, 0, 0), (136, 1, .iconst 1, 1, 0, 0), (137, 3, .if_icmp .lt 71, 208, 0, 0), (140, 1, .aload_n 0, 0, 0, 0), (141, 3, .getfield 15, 2, 1, 2), (144, 2, .iload 6, 6, 0, 0), (146, 1, .iconst 1, 1, 0, 0), (147, 1, .isub, 0, 0, 0), (148, 1, .aload_n 0, 0, 0, 0), (149, 3, .getfield 15, 2, 1, 2), (152, 2, .iload 6, 6, 0, 0), (154, 1, .iconst 1, 1, 0, 0), (155, 1, .isub, 0, 0, 0), (156, 1, .iaload, 0, 0, 0), (157, 3, .ifCond .ne 7, 164, 0, 0), (160, 1, .iconst 1, 1, 0, 0), (161, 3, .goto 4, 165, 0, 0), (164, 1, .iconst 0, 0, 0, 0), (165, 1, .iastore, 0, 0, 0), (166, 3, .goto 42, 208, 0, 0), (169, 2, .iload 6, 6, 0, 0), (171, 1, .iconst 2, 2, 0, 0), (172, 3, .if_icmp .lt 36, 208, 0, 0), (175, 3, .iinc 6 (-1), 6, 4294967295, 0), (178, 1, .aload_n 0, 0, 0, 0), (179, 3, .getfield 15, 2, 1, 2), (182, 2, .iload 6, 6, 0, 0), (184, 1, .iconst 1, 1, 0, 0), (185, 1, .isub, 0, 0, 0), (186, 2, .iload 8, 8, 0, 0), (188, 1, .aload_n 0, 0, 0, 0), (189, 3, .getfield 15, 2, 1, 2), (192, 2, .iload 6, 6, 0, 0), (194, 1, .iconst 1, 1, 0, 0), (195, 1, .isub, 0, 0, 0), (196, 1, .iaload, 0, 0, 0), (197, 1, .aload_n 0, 0, 0, 0), (198, 3, .getfield 15, 2, 1, 2), (201, 2, .iload 6, 6, 0, 0), (203, 1, .iaload, 0, 0, 0), (204, 3, .invokestatic 35, 209, 3, 0), (207, 1, .iastore, 0, 0, 0), (208, 3, .iinc 7 1, 7, 1, 0), (211, 3, .goto (-168), 43, 0, 0), (214, 2, .iload 6, 6, 0, 0), (216, 3, .ifCond .le 12, 228, 0, 0), (219, 1, .aload_n 0, 0, 0, 0), (220, 3, .getfield 15, 2, 1, 2), (223, 1, .iconst 0, 0, 0, 0), (224, 1, .iaload, 0, 0, 0), (225, 3, .goto 4, 229, 0, 0), (228, 1, .iconst 0, 0, 0, 0), (229, 1, .ireturn, 0, 0, 0)]
def q_cd43 : List q_I := [(0, 1, .iload_n 1, 1, 0, 0), (1, 71, .tableswitch 173 0 13 #[71, 76, 86, 96, 106, 115, 124, 133, 138, 143, 148, 153, 158, 168], 0, 13, 0), (72, 1, .aload_n 0, 0, 0, 0), (73, 3, .invokevirtual 354, 11, 1, 9), (76, 1, .ireturn, 0, 0, 0), (77, 1, .aload_n 0, 0, 0, 0), (78, 3, .getfield 20, 9, 11, 2), (81, 1, .aload_n 0, 0, 0, 0), (82, 3, .getfield 274, 9, 34, 0), (85, 1, .iaload, 0, 0, 0), (86, 1, .ireturn, 0, 0, 0), (87, 1, .aload_n 0, 0, 0, 0), (88, 3, .getfield 24, 9, 12, 2), (91, 1, .aload_n 0, 0, 0, 0), (92, 3, .getfield 274, 9, 34, 0), (95, 1, .iaload, 0, 0, 0), (96, 1, .ireturn, 0, 0, 0), (97, 1, .aload_n 0, 0, 0, 0), (98, 3, .getfield 30, 9, 14, 2), (101, 1, .aload_n 0, 0, 0, 0), (102, 3, .getfield 274, 9, 34, 0), (105, 1, .iaload, 0, 0, 0), (106, 1, .ireturn, 0, 0, 0), (107, 1, .aload_n 0, 0, 0, 0), (108, 3, .getfield 92, 9, 41, 2), (111, 3, .sipush 435, 435, 0, 0), (114, 1, .iaload, 0, 0, 0), (115, 1, .ireturn, 0, 0, 0), (116, 1, .aload_n 0, 0, 0, 0), (117, 3, .getfield 92, 9, 41, 2), (120, 3, .sipush 436, 436, 0, 0), (123, 1, .iaload, 0, 0, 0), (124, 1, .ireturn, 0, 0, 0), (125, 1, .aload_n 0, 0, 0, 0), (126, 3, .getfield 92, 9, 41, 2), (129, 3, .sipush 437, 437, 0, 0), (132, 1, .iaload, 0, 0, 0), (133, 1, .ireturn, 0, 0, 0), (134, 1, .aload_n 0, 0, 0, 0), (135, 3, .getfield 379, 9, 43, 0), (138, 1, .ireturn, 0, 0, 0), (139, 1, .aload_n 0, 0, 0, 0), (140, 3, .getfield 382, 9, 44, 0), (143, 1, .ireturn, 0, 0, 0), (144, 1, .aload_n 0, 0, 0, 0), (145, 3, .getfield 385, 9, 64, 0), (148, 1, .ireturn, 0, 0, 0), (149, 1, .aload_n 0, 0, 0, 0), (150, 3, .getfield 472, 9, 65, 0), (153, 1, .ireturn, 0, 0, 0), (154, 1, .aload_n 0, 0, 0, 0), (155, 3, .getfield 271, 9, 2, 0), (158, 1, .ireturn, 0, 0, 0), (159, 1, .aload_n 0, 0, 0, 0), (160, 3, .getfield 39, 9, 17, 2), (163, 1, .aload_n 0, 0, 0, 0), (164, 3, .getfield 274, 9, 34, 0), (167, 1, .iaload, 0, 0, 0), (168, 1, .ireturn, 0, 0, 0), (169, 1, .aload_n 0, 0, 0, 0), (170, 3, .getfield 388, 9, 48, 0), (173, 1, .ireturn, 0, 0, 0), (174, 1, .iconst (-1), 4294967295, 0, 0), (175, 1, .ireturn, 0, 0, 0)]
def q_cd44 : List q_I := [(0, 1, .iconst 0, 0, 0, 0), (1, 1, .istore_n 2, 2, 0, 0), (2, 1, .iconst 0, 0, 0, 0), (3, 1, .istore_n 3, 3, 0, 0), (4, 1, .iload_n 3, 3, 0, 0), (5, 2, .bipush 25, 25, 0, 0), (7, 3, .if_icmp .ge 20, 27, 0, 0), (10, 1, .iload_n 2, 2, 0, 0), (11, 1, .aload_n 0, 0, 0, 0), (12, 1, .iload_n 1, 1, 0, 0), (13, 1, .iload_n 3, 3, 0, 0), (14, 3, .invokevirtual 61, 8, 3, 6), (17, 3, .invokestatic 69, 9, 2, 0), (20, 1, .istore_n 2, 2, 0, 0), (21, 3, .iinc 3 1, 3, 1, 0), (24, 3, .goto (-20), 4, 0, 0), (27, 1, .iload_n 2, 2, 0, 0), (28, 1, .ireturn, 0, 0, 0)]
def q_cd45 : List q_I := [(0, 1, .aload_n 0, 0, 0, 0), (1, 1, .iload_n 1, 1, 0, 0), (2, 3, .invokevirtual 99, 25, 2, 8), (5, 3, .ifCond .eq 20, 25, 0, 0), (8, 1, .aload_n 0, 0, 0, 0), (9, 1, .iload_n 2, 2, 0, 0), (10, 3, .invokevirtual 99, 25, 2, 8), (13, 3, .ifCond .eq 12, 25, 0, 0), (16, 1, .iload_n 1, 1, 0, 0), (17, 1, .iload_n 2, 2, 0, 0), (18, 3, .if_icmp .eq 7, 25, 0, 0), (21, 1, .iconst 1, 1, 0, 0), (22, 3, .goto 4, 26, 0, 0), (25, 1, .iconst 0, 0, 0, 0), (26, 1, .ireturn, 1, 0, 0)]
def q_cd46 : List q_I := [(0, 1, .aload_n 0, 0, 0, 0), (1, 3, .getfield 44, 8, 6, 2), (4, 3, .invokevirtual 161, 47, 1, 5), (7, 3, .invokestatic 165, 36, 1, 0), (10, 1, .ireturn, 0, 0, 0)]
def q_cd47 : List q_I := [(0, 1, .iconst 0, 0, 0, 0), (1, 1, .istore_n 1, 1, 0, 0), (2, 1, .iconst 0, 0, 0, 0), (3, 1, .istore_n 2, 2, 0, 0), (4, 1, .iload_n 2, 2, 0, 0), (5, 2, .bipush 25, 25, 0, 0), (7, 3, .if_icmp .ge 30, 37, 0, 0), (10, 1, .iload_n 1, 1, 0, 0), (11, 1, .aload_n 0, 0, 0, 0), (12, 3, .getfield 9, 5, 0, 2), (15, 1, .iload_n 2, 2, 0, 0), (16, 1, .iaload, 0, 0, 0), (17, 1, .iconst (-1), 4294967295, 0, 0), (18, 3, .if_icmp .eq 10, 28, 0, 0), (21, 1, .iload_n 2, 2, 0, 0), (22, 3, .invokestatic 74, 16, 1, 0), (25, 3, .goto 4, 29, 0, 0), (28, 1, .iconst 0, 0, 0, 0), (29, 1, .ior, 0, 0, 0), (30, 1, .istore_n 1, 1, 0, 0), (31, 3, .iinc 2 1, 2, 1, 0), (34, 3, .goto (-30), 4, 0, 0), (37, 1, .iload_n 1, 1, 0, 0), (38, 1, .ireturn, 0, 0, 0)]
def q_cd48 : List q_I := [(0, 1, .iload_n 1, 1, 0, 0), (1, 1, .iconst 0, 0, 0, 0), (2, 1, .iconst 4, 4, 0, 0), (3, 3, .invokestatic 357, 12, 3, 0), (6, 3, .ifCond .eq 22, 28, 0, 0), (9, 1, .iload_n 2, 2, 0, 0), (10, 1, .iconst 0, 0, 0, 0), (11, 1, .iconst 1, 1, 0, 0), (12, 3, .invokestatic 357, 12, 3, 0), (15, 3, .ifCond .eq 13, 28, 0, 0), (18, 1, .aload_n 0, 0, 0, 0), (19, 1, .iconst 1, 1, 0, 0), (20, 1, .iload_n 1, 1, 0, 0), (21, 1, .iload_n 2, 2, 0, 0), (22, 3, .invokevirtual 454, 38, 4, 9), (25, 3, .goto 4, 29, 0, 0), (28, 1, .iconst (-1), 4294967295, 0, 0), (29, 1, .ireturn, 0, 0, 0)]
def q_cd49 : List q_I := [(0, 1, .iconst 0, 0, 0, 0), (1, 1, .istore_n 2, 2, 0, 0), (2, 1, .aload_n 0, 0, 0, 0), (3, 1, .arraylength, 0, 0, 0), (4, 1, .istore_n 3, 3, 0, 0), (5, 1, .iload_n 2, 2, 0, 0), (6, 1, .iload_n 3, 3, 0, 0), (7, 3, .if_icmp .ge 13, 20, 0, 0), (10, 1, .aload_n 0, 0, 0, 0), (11, 1, .iload_n 2, 2, 0, 0), (12, 1, .iload_n 1, 1, 0, 0), (13, 1, .iastore, 0, 0, 0), (14, 3, .iinc 2 1, 2, 1, 0), (17, 3, .goto (-12), 5, 0, 0), (20, 1, .return_, 0, 0, 0)]
def q_cd50 : List q_I := [(0, 1, .iload_n 0, 0, 0, 0), (1, 3, .ifCond .lt 14, 15, 0, 0), (4, 1, .iload_n 0, 0, 0, 0), (5, 3, .sipush 999, 999, 0, 0), (8, 3, .if_icmp .gt 7, 15, 0, 0), (11, 1, .iconst 1, 1, 0, 0), (12, 3, .goto 4, 16, 0, 0), (15, 1, .iconst 0, 0, 0, 0), (16, 1, .ireturn, 1, 0, 0)]
def q_cd51 : List q_I := [(0, 1, .iload_n 1, 1, 0, 0), (1, 1, .iconst 0, 0, 0, 0), (2, 1, .iconst 3, 3, 0, 0), (3, 3, .invokestatic 357, 12, 3, 0), (6, 3, .ifCond .eq 25, 31, 0, 0), (9, 1, .iload_n 2, 2, 0, 0), (10, 1, .iconst 0, 0, 0, 0), (11, 1, .iconst 1, 1, 0, 0), (12, 3, .invokestatic 357, 12, 3, 0), (15, 3, .ifCond .eq 16, 31, 0, 0), (18, 1, .aload_n 0, 0, 0, 0), (19, 1, .aload_n 0, 0, 0, 0), (20, 3, .invokevirtual 451, 55, 1, 9), (23, 1, .iload_n 1, 1, 0, 0), (24, 1, .iload_n 2, 2, 0, 0), (25, 3, .invokevirtual 454, 38, 4, 9), (28, 3, .goto 4, 32, 0, 0), (31, 1, .iconst (-1), 4294967295, 0, 0), (32, 1, .ireturn, 0, 0, 0)]
def q_cd52 : List q_I := [(0, 1, .iload_n 1, 1, 0, 0), (1, 1, .iconst 1, 1, 0, 0), (2, 3, .if_icmp .lt 10, 12, 0, 0), (5, 1, .iload_n 1, 1, 0, 0), (6, 3, .sipush 999, 999, 0, 0), (9, 3, .if_icmp .le 5, 14, 0, 0), (12, 1, .iconst (-1), 4294967295, 0, 0), (13, 1, .ireturn, 0, 0, 0), (14, 1, .iconst 0, 0, 0, 0), (15, 1, .istore_n 2, 2, 0, 0), (16, 1, .iconst 0, 0, 0, 0), (17, 1, .istore_n 3, 3, 0, 0), (18, 1, .iload_n 3, 3, 0, 0), (19, 1, .aload_n 0, 0, 0, 0), (20, 3, .getfield 27, 8, 3, 2), (23, 3, .getfield 90, 7, 8, 0), (26, 3, .if_icmp .ge 42, 68, 0, 0), (29, 1, .aload_n 0, 0, 0, 0), (30, 3, .getfield 27, 8, 3, 2), (33, 3, .getfield 110, 7, 1, 2), (36, 1, .iload_n 3, 3, 0, 0), (37, 1, .iaload, 0, 0, 0), (38, 1, .iload_n 1, 1, 0, 0), (39, 1, .isub, 0, 0, 0), (40, 3, .invokestatic 282, 279, 1, 0), (43, 1, .aload_n 0, 0, 0, 0), (44, 3, .getfield 27, 8, 3, 2), (47, 3, .getfield 113, 7, 2, 2), (50, 1, .iload_n 3, 3, 0, 0), (51, 1, .iaload, 0, 0, 0), (52, 3, .if_icmp .gt 10, 62, 0, 0), (55, 1, .iload_n 2, 2, 0, 0), (56, 1, .iload_n 3, 3, 0, 0), (57, 3, .invokestatic 233, 16, 1, 0), (60, 1, .ior, 0, 0, 0), (61, 1, .istore_n 2, 2, 0, 0), (62, 3, .iinc 3 1, 3, 1, 0), (65, 3, .goto (-47), 18, 0, 0), (68, 1, .iload_n 2, 2, 0, 0), (69, 1, .ireturn, 0, 0, 0)]
def q_cd53 : List q_I := [(0, 1, .aload_n 0, 0, 0, 0), (1, 1, .iload_n 1, 1, 0, 0), (2, 3, .invokevirtual 361, 29, 2, 9), (5, 3, .ifCond .eq 20, 25, 0, 0), (8, 1, .aload_n 0, 0, 0, 0), (9, 1, .iload_n 2, 2, 0, 0), (10, 3, .invokevirtual 361, 29, 2, 9), (13, 3, .ifCond .eq 12, 25, 0, 0), (16, 1, .iload_n 1, 1, 0, 0), (17, 1, .iload_n 2, 2, 0, 0), (18, 3, .if_icmp .eq 7, 25, 0, 0), (21, 1, .iconst 1, 1, 0, 0), (22, 3, .goto 4, 26, 0, 0), (25, 1, .iconst 0, 0, 0, 0), (26, 1, .ireturn, 1, 0, 0)]
def q_cd54 : List q_I := [(0, 1, .aload_n 0, 0, 0, 0), (1, 3, .getfield 21, 3, 3, 0), (4, 3, .invokestatic 49, 16, 1, 0), (7, 1, .iconst 1, 1, 0, 0), (8, 1, .isub, 0, 0, 0), (9, 1, .iload_n 1, 1, 0, 0), (10, 1, .aload_n 0, 0, 0, 0), (11, 3, .getfield 21, 3, 3, 0), (14, 1, .imul, 0, 0, 0), (15, 1, .ishl, 0, 0, 0), (16, 1, .ireturn, 0, 0, 0)]
def q_cd55 : List q_I := [(0, 1, .iconst 0, 0, 0, 0), (1, 1, .istore_n 1, 1, 0, 0), (2, 1, .iconst 0, 0, 0, 0), (3, 1, .istore_n 2, 2, 0, 0), (4, 1, .iload_n 2, 2, 0, 0), (5, 1, .aload_n 0, 0, 0, 0), (6, 3, .invokevirtual 364, 0, 1, 9), (9, 3, .if_icmp .ge 28, 37, 0, 0), (12, 1, .iload_n 1, 1, 0, 0), (13, 1, .aload_n 0, 0, 0, 0), (14, 3, .getfield 92, 9, 41, 2), (17, 1, .iconst 5, 5, 0, 0), (18, 1, .iload_n 2, 2, 0, 0), (19, 1, .iadd, 0, 0, 0), (20, 1, .iaload, 0, 0, 0), (21, 3, .ifCond .lt 7, 28, 0, 0), (24, 1, .iconst 1, 1, 0, 0), (25, 3, .goto 4, 29, 0, 0), (28, 1, .iconst 0, 0, 0, 0), (29, 1, .iadd, 0, 0, 0), (30, 1, .istore_n 1, 1, 0, 0), (31, 3, .iinc 2 1, 2, 1, 0), (34, 3, .goto (-30), 4, 0, 0), (37, 1, .iload_n 1, 1, 0, 0), (38, 1, .ireturn, 0, 0, 0)]
def q_cd56 : List q_I := [(0, 1, .aload_n 0, 0, 0, 0), (1, 1, .iload_n 1, 1, 0, 0), (2, 3, .invokevirtual 367, 14, 2, 9), (5, 3, .ifCond .eq 23, 28, 0, 0), (8, 1, .aload_n 0, 0, 0, 0), (9, 3, .getfield 33, 9, 15, 2), (12, 1, .aload_n 0, 0, 0, 0), (13, 3, .getfield 274, 9, 34, 0), (16, 1, .iaload, 0, 0, 0), (17, 1, .iload_n 1, 1, 0, 0), (18, 3, .invokestatic 300, 1, 2, 0), (21, 3, .ifCond .ne 7, 28, 0, 0), (24, 1, .iconst 1, 1, 0, 0), (25, 3, .goto 4, 29, 0, 0), (28, 1, .iconst 0, 0, 0, 0), (29, 1, .ireturn, 1, 0, 0)]
def q_cd57 : List q_I := [(0, 1, .iload_n 1, 1, 0, 0), (1, 3, .ifCond .lt 8, 9, 0, 0), (4, 1, .iload_n 1, 1, 0, 0), (5, 1, .iconst 3, 3, 0, 0), (6, 3, .if_icmp .lt 5, 11, 0, 0), (9, 1, .iconst (-1), 4294967295, 0, 0), (10, 1, .ireturn, 0, 0, 0), (11, 1, .aload_n 0, 0, 0, 0), (12, 3, .getfield 55, 8, 8, 2), (15, 1, .iload_n 1, 1, 0, 0), (16, 1, .aaload, 0, 0, 0), (17, 1, .astore_n 2, 2, 0, 0), (18, 1, .aload_n 2, 2, 0, 0), (19, 3, .ifnonnull 18, 37, 0, 0), (22, 3, .new 41, 5, 11, 1897137597242004746899777248846145637923593842525093425848874071016747648589758480), (25, 1, .dup, 0, 0, 0), (26, 3, .invokespecial 43, 59, 1, 5), (29, 1, .astore_n 2, 2, 0, 0), (30, 1, .aload_n 0, 0, 0, 0), (31, 3, .getfield 55, 8, 8, 2), (34, 1, .iload_n 1, 1, 0, 0), (35, 1, .aload_n 2, 2, 0, 0), (36, 1, .aastore, 0, 0, 0), (37, 1, .aload_n 2, 2, 0, 0), (38, 1, .aload_n 0, 0, 0, 0), (39, 3, .getfield 44, 8, 6, 2), (42, 3, .invokevirtual 331, 65, 2, 5), (45, 1, .aload_n 0, 0, 0, 0), (46, 1, .dup, 0, 0, 0), (47, 3, .getfield 59, 8, 9, 0), (50, 1, .iload_n 1, 1, 0, 0), (51, 3, .invokestatic 233, 16, 1, 0), (54, 1, .ior, 0, 0, 0), (55, 3, .putfield 59, 8, 9, 0), (58, 1, .aload_n 0, 0, 0, 0), (59, 3, .getfield 44, 8, 6, 2), (62, 3, .getfield 142, 5, 8, 0), (65, 1, .ireturn, 0, 0, 0)]
def q_cd58 : List q_I := [(0, 1, .iload_n 1, 1, 0, 0), (1, 3, .ifCond .lt 19, 20, 0, 0), (4, 1, .iload_n 1, 1, 0, 0), (5, 1, .iconst 3, 3, 0, 0), (6, 3, .if_icmp .ge 14, 20, 0, 0), (9, 1, .aload_n 0, 0, 0, 0), (10, 3, .getfield 59, 8, 9, 0), (13, 1, .iload_n 1, 1, 0, 0), (14, 3, .invokestatic 173, 3, 2, 0), (17, 3, .ifCond .ne 5, 22, 0, 0), (20, 1, .iconst (-1), 4294967295, 0, 0), (21, 1, .ireturn, 0, 0, 0), (22, 1, .aload_n 0, 0, 0, 0), (23, 3, .getfield 55, 8, 8, 2), (26, 1, .iload_n 1, 1, 0, 0), (27, 1, .aaload, 0, 0, 0), (28, 1, .astore_n 2, 2, 0, 0), (29, 1, .aload_n 2, 2, 0, 0), (30, 3, .ifnonnull 5, 35, 0, 0), (33, 1, .iconst (-1), 4294967295, 0, 0), (34, 1, .ireturn, 0, 0, 0), (35, 1, .aload_n 0, 0, 0, 0), (36, 3, .getfield 44, 8, 6, 2), (39, 1, .aload_n 2, 2, 0, 0), (40, 3, .invokevirtual 331, 65, 2, 5), (43, 1, .aload_n 0, 0, 0, 0), (44, 3, .getfield 51, 8, 7, 2), (47, 3, .invokevirtual 334, 113, 1, 0), (50, 1, .aload_n 0, 0, 0, 0), (51, 3, .getfield 44, 8, 6, 2), (54, 3, .getfield 142, 5, 8, 0), (57, 1, .ireturn, 0, 0, 0)]
def q_cd59 : List q_I := [(0, 1, .aload_n 0, 0, 0, 0), (1, 3, .invokespecial 3, 0, 0, 78), (4, 1, .aload_n 0, 0, 0, 0), (5, 2, .bipush 25, 25, 0, 0), (7, 2, .newarray .int, 1, 0, 0), (9, 3, .putfield 9, 5, 0, 2), (12, 1, .aload_n 0, 0, 0, 0), (13, 2, .bipush 25, 25, 0, 0), (15, 2, .newarray .int, 1, 0, 0), (17, 3, .putfield 15, 5, 1, 2), (20, 1, .aload_n 0, 0, 0, 0), (21, 2, .bipush 25, 25, 0, 0), (23, 2, .newarray .int, 1, 0, 0), (25, 3, .putfield 18, 5, 2, 2), (28, 1, .aload_n 0, 0, 0, 0), (29, 1, .iconst 5, 5, 0, 0), (30, 2, .newarray .int, 1, 0, 0), (32, 3, .putfield 21, 5, 3, 2), (35, 1, .aload_n 0, 0, 0, 0), (36, 1, .iconst 5, 5, 0, 0), (37, 2, .newarray .int, 1, 0, 0), (39, 3, .putfield 24, 5, 4, 2), (42, 1, .aload_n 0, 0, 0, 0), (43, 2, .bipush 25, 25, 0, 0), (45, 2, .newarray .int, 1, 0, 0), (47, 3, .putfield 27, 5, 5, 2), (50, 1, .aload_n 0, 0, 0, 0), (51, 2, .bipush 25, 25, 0, 0), (53, 2, .newarray .int, 1, 0, 0), (55, 3, .putfield 30, 5, 6, 2), (58, 1, .aload_n 0, 0, 0, 0), (59, 3, .sipush 300, 300, 0, 0), (62, 2, .newarray .int, 1, 0, 0), (64, 3, .putfield 33, 5, 7, 2), (67, 1, .aload_n 0, 0, 0, 0), (68, 1, .iconst 0, 0, 0, 0), (69, 3, .putfield 36, 5, 8, 0), (72, 1, .aload_n 0, 0, 0, 0), (73, 1, .iconst 0, 0, 0, 0), (74, 3, .putfield 40, 5, 9, 0), (77, 1, .aload_n 0, 0, 0, 0), (78, 1, .iconst 0, 0, 0, 0), (79, 3, .putfield 43, 5, 10, 0), (82, 1, .return_, 0, 0, 0)]
def q_cd60 : List q_I := [(0, 1, .iload_n 1, 1, 0, 0), (1, 3, .ifCond .ne 11, 12, 0, 0), (4, 1, .aload_n 0, 0, 0, 0), (5, 3, .getfield 20, 8, 2, 2), (8, 3, .getfield 93, 4, 4, 0), (11, 1, .ireturn, 0, 0, 0), (12, 1, .iload_n 1, 1, 0, 0), (13, 1, .iconst 1, 1, 0, 0), (14, 3, .if_icmp .ne 13, 27, 0, 0), (17, 1, .aload_n 0, 0, 0, 0), (18, 3, .getfield 20, 8, 2, 2), (21, 3, .getfield 96, 4, 5, 0), (24, 3, .goto 4, 28, 0, 0), (27, 1, .iconst (-1), 4294967295, 0, 0), (28, 1, .ireturn, 0, 0, 0)]
def q_cd61 : List q_I := [(0, 1, .iload_n 1, 1, 0, 0), (1, 3, .invokestatic 227, 22, 1, 0), (4, 3, .ifCond .ne 5, 9, 0, 0), (7, 1, .iconst (-1), 4294967295, 0, 0), (8, 1, .ireturn, 0, 0, 0), (9, 1, .aload_n 0, 0, 0, 0), (10, 3, .getfield 44, 8, 6, 2), (13, 3, .invokevirtual 254, 134, 1, 5), (16, 1, .istore_n 2, 2, 0, 0), (17, 1, .iconst (-1), 4294967295, 0, 0), (18, 1, .istore_n 3, 3, 0, 0), (19, 1, .iconst 0, 0, 0, 0), (20, 2, .istore 4, 4, 0, 0), (22, 1, .iconst 0, 0, 0, 0), (23, 2, .istore 5, 5, 0, 0), (25, 2, .iload 5, 5, 0, 0), (27, 1, .iload_n 2, 2, 0, 0), (28, 3, .if_icmp .ge 64, 92, 0, 0), (31, 1, .iconst 0, 0, 0, 0), (32, 2, .istore 6, 6, 0, 0), (34, 2, .iload 6, 6, 0, 0), (36, 1, .aload_n 0, 0, 0, 0), (37, 3, .getfield 27, 8, 3, 2), (40, 3, .getfield 90, 7, 8, 0), (43, 3, .if_icmp .ge 43, 86, 0, 0), (46, 1, .aload_n 0, 0, 0, 0), (47, 3, .getfield 44, 8, 6, 2), (50, 2, .iload 5, 5, 0, 0), (52, 2, .iload 6, 6, 0, 0), (54, 1, .aload_n 0, 0, 0, 0), (55, 3, .getfield 27, 8, 3, 2), (58, 3, .getfield 90, 7, 8, 0), (61, 3, .invokevirtual 260, 236, 4, 5), (64, 2, .istore 7, 7, 0, 0), (66, 2, .iload 7, 7, 0, 0), (68, 2, .iload 4, 4, 0, 0), (70, 3, .if_icmp .le 10, 80, 0, 0), (73, 2, .iload 7, 7, 0, 0), (75, 2, .istore 4, 4, 0, 0), (77, 2, .iload 5, 5, 0, 0), (79, 1, .istore_n 3, 3, 0, 0), (80, 3, .iinc 6 1, 6, 1, 0), (83, 3, .goto (-49), 34, 0, 0), (86, 3, .iinc 5 1, 5, 1, 0), (89, 3, .goto (-64), 25, 0, 0), (92, 1, .iload_n 1, 1, 0, 0), (93, 3, .ifCond .eq 8, 101, 0, 0), (96, 1, .iload_n 3, 3, 0, 0), (97, 1, .iconst (-1), 4294967295, 0, 0), (98, 3, .if_icmp .ne 7, 105, 0, 0), (101, 1, .iload_n 3, 3, 0, 0), (102, 3, .goto 5, 107, 0, 0), (105, 2, .iload 4, 4, 0, 0), (107, 1, .ireturn, 0, 0, 0)]
def q_cd62 : List q_I := [(0, 1, .iload_n 0, 0, 0, 0), (1, 1, .iload_n 1, 1, 0, 0), (2, 3, .if_icmp .gt 7, 9, 0, 0), (5, 1, .iload_n 0, 0, 0, 0), (6, 3, .goto 4, 10, 0, 0), (9, 1, .iload_n 1, 1, 0, 0), (10, 1, .ireturn, 0, 0, 0)]
def q_cd63 : List q_I := [(0, 2, .bipush 24, 24, 0, 0), (2, 1, .istore_n 2, 2, 0, 0), (3, 1, .iload_n 2, 2, 0, 0), (4, 3, .ifCond .lt 42, 46, 0, 0), (7, 1, .aload_n 0, 0, 0, 0), (8, 3, .getfield 13, 8, 1, 0), (11, 3, .sipush 1600, 1600, 0, 0), (14, 3, .if_icmp .ge 26, 40, 0, 0), (17, 1, .aload_n 0, 0, 0, 0), (18, 3, .getfield 9, 8, 0, 2), (21, 1, .aload_n 0, 0, 0, 0), (22, 3, .getfield 13, 8, 1, 0), (25, 1, .iload_n 1, 1, 0, 0), (26, 1, .iload_n 2, 2, 0, 0), (27, 1, .ishr, 0, 0, 0), (28, 1, .i2b, 0, 0, 0), (29, 1, .bastore, 0, 0, 0), (30, 1, .aload_n 0, 0, 0, 0), (31, 1, .dup, 0, 0, 0), (32, 3, .getfield 13, 8, 1, 0), (35, 1, .iconst 1, 1, 0, 0), (36, 1, .iadd, 0, 0, 0), (37, 3, .putfield 13, 8, 1, 0), (40, 3, .iinc 2 (-8), 2, 4294967288, 0), (43, 3, .goto (-40), 3, 0, 0), (46, 1, .return_, 0, 0, 0)]
def q_cd64 : List q_I := [(0, 1, .iload_n 1, 1, 0, 0), (1, 3, .ifCond .lt 11, 12, 0, 0), (4, 1, .iload_n 1, 1, 0, 0), (5, 1, .aload_n 0, 0, 0, 0), (6, 3, .getfield 13, 8, 1, 0), (9, 3, .if_icmp .le 5, 14, 0, 0), (12, 1, .iconst (-1), 4294967295, 0, 0), (13, 1, .ireturn, 0, 0, 0), (14, 1, .aload_n 0, 0, 0, 0), (15, 1, .iload_n 1, 1, 0, 0), (16, 3, .putfield 13, 8, 1, 0), (19, 1, .iload_n 1, 1, 0, 0), (20, 1, .ireturn, 0, 0, 0)]
def q_cd65 : List q_I := [(0, 1, .aload_n 1, 1, 0, 0), (1, 3, .getfield 9, 5, 0, 2), (4, 1, .iconst 0, 0, 0, 0), (5, 1, .aload_n 0, 0, 0, 0), (6, 3, .getfield 9, 5, 0, 2), (9, 1, .iconst 0, 0, 0, 0), (10, 2, .bipush 25, 25, 0, 0), (12, 3, .invokestatic 46, 0, 0, 77), (15, 1, .aload_n 1, 1, 0, 0), (16, 3, .getfield 15, 5, 1, 2), (19, 1, .iconst 0, 0, 0, 0), (20, 1, .aload_n 0, 0, 0, 0), (21, 3, .getfield 15, 5, 1, 2), (24, 1, .iconst 0, 0, 0, 0), (25, 2, .bipush 25, 25, 0, 0), (27, 3, .invokestatic 46, 0, 0, 77), (30, 1, .aload_n 1, 1, 0, 0), (31, 3, .getfield 18, 5, 2, 2), (34, 1, .iconst 0, 0, 0, 0), (35, 1, .aload_n 0, 0, 0, 0), (36, 3, .getfield 18, 5, 2, 2), (39, 1, .iconst 0, 0, 0, 0), (40, 2, .bipush 25, 25, 0, 0), (42, 3, .invokestatic 46, 0, 0, 77), (45, 1, .aload_n 1, 1, 0, 0), (46, 3, .getfield 21, 5, 3, 2), (49, 1, .iconst 0, 0, 0, 0), (50, 1, .aload_n 0, 0, 0, 0), (51, 3, .getfield 21, 5, 3, 2), (54, 1, .iconst 0, 0, 0, 0), (55, 1, .iconst 5, 5, 0, 0), (56, 3, .invokestatic 46, 0, 0, 77), (59, 1, .aload_n 1, 1, 0, 0), (60, 3, .getfield 24, 5, 4, 2), (63, 1, .iconst 0, 0, 0, 0), (64, 1, .aload_n 0, 0, 0, 0), (65, 3, .getfield 24, 5, 4, 2), (68, 1, .iconst 0, 0, 0, 0), (69, 1, .iconst 5, 5, 0, 0), (70, 3, .invokestatic 46, 0, 0, 77), (73, 1, .aload_n 1, 1, 0, 0), (74, 3, .getfield 27, 5, 5, 2), (77, 1, .iconst 0, 0, 0, 0), (78, 1, .aload_n 0, 0, 0, 0), (79, 3, .getfield 27, 5, 5, 2), (82, 1, .iconst 0, 0, 0, 0), (83, 2, .bipush 25, 25, 0, 0), (85, 3, .invokestatic 46, 0, 0, 77), (88, 1, .aload_n 1, 1, 0, 0), (89, 3, .getfield 30, 5, 6, 2), (92, 1, .iconst 0, 0, 0, 0), (93, 1, .aload_n 0, 0, 0, 0), (94, 3, .getfield 30, 5, 6, 2), (97, 1, .iconst 0, 0, 0, 0), (98, 2, .bipush 25, 25, 0, 0), (100, 3, .invokestatic 46, 0, 0, 77), (103, 1, .aload_n 1, 1, 0, 0), (104, 3, .getfield 33, 5, 7, 2), (107, 1, .iconst 0, 0, 0, 0), (108, 1, .aload_n 0, 0, 0, 0), (109, 3, .getfield 33, 5, 7, 2), (112, 1, .iconst 0, 0, 0, 0), (113, 3, .sipush 300, 300, 0, 0), (116, 3, .invokestatic 46, 0, 0, 77), (119, 1, .aload_n 0, 0, 0, 0), (120, 1, .aload_n 1, 1, 0, 0), (121, 3, .getfield 36, 5, 8, 0), (124, 3, .putfield 36, 5, 8, 0), (127, 1, .aload_n 0, 0, 0, 0), (128, 1, .aload_n 1, 1, 0, 0), (129, 3, .getfield 40, 5, 9, 0), (132, 3, .putfield 40, 5, 9, 0), (135, 1, .aload_n 0, 0, 0, 0), (136, 1, .aload_n 1, 1, 0, 0), (137, 3, .getfield 43, 5, 10, 0), (140, 3, .putfield 43, 5, 10, 0), (143, 1, .return_, 0, 0, 0)]
def q_cd66 : List q_I := [(0, 1, .aload_n 0, 0, 0, 0), (1, 1, .iload_n 1, 1, 0, 0), (2, 3, .invokevirtual 123, 13, 2, 8), (5, 3, .ifCond .eq 23, 28, 0, 0), (8, 1, .aload_n 0, 0, 0, 0), (9, 1, .iload_n 2, 2, 0, 0), (10, 3, .invokevirtual 123, 13, 2, 8), (13, 3, .ifCond .eq 15, 28, 0, 0), (16, 1, .iload_n 1, 1, 0, 0), (17, 1, .iload_n 2, 2, 0, 0), (18, 3, .if_icmp .eq 10, 28, 0, 0), (21, 1, .iload_n 3, 3, 0, 0), (22, 3, .invokestatic 227, 22, 1, 0), (25, 3, .ifCond .ne 5, 30, 0, 0), (28, 1, .iconst (-1), 4294967295, 0, 0), (29, 1, .ireturn, 0, 0, 0), (30, 1, .aload_n 0, 0, 0, 0), (31, 1, .iload_n 1, 1, 0, 0), (32, 3, .invokevirtual 139, 35, 2, 8), (35, 3, .ifCond .eq 11, 46, 0, 0), (38, 1, .aload_n 0, 0, 0, 0), (39, 1, .iload_n 2, 2, 0, 0), (40, 3, .invokevirtual 139, 35, 2, 8), (43, 3, .ifCond .ne 5, 48, 0, 0), (46, 1, .iconst (-1), 4294967295, 0, 0), (47, 1, .ireturn, 0, 0, 0), (48, 1, .aload_n 0, 0, 0, 0), (49, 3, .getfield 37, 8, 5, 2), (52, 1, .iload_n 1, 1, 0, 0), (53, 1, .iload_n 2, 2, 0, 0), (54, 3, .invokevirtual 251, 179, 3, 3), (57, 2, .istore 4, 4, 0, 0), (59, 2, .iload 4, 4, 0, 0), (61, 1, .iconst (-1), 4294967295, 0, 0), (62, 3, .if_icmp .ne 5, 67, 0, 0), (65, 1, .iconst (-1), 4294967295, 0, 0), (66, 1, .ireturn, 0, 0, 0), (67, 1, .iload_n 3, 3, 0, 0), (68, 3, .ifCond .ne 11, 79, 0, 0), (71, 2, .iload 4, 4, 0, 0), (73, 3, .invokestatic 165, 36, 1, 0), (76, 3, .goto 5, 81, 0, 0), (79, 2, .iload 4, 4, 0, 0), (81, 1, .ireturn, 0, 0, 0)]
def q_cd67 : List q_I := [(0, 1, .aload_n 0, 0, 0, 0), (1, 1, .iload_n 1, 1, 0, 0), (2, 3, .invokevirtual 406, 56, 2, 9), (5, 3, .ifCond .eq 25, 30, 0, 0), (8, 1, .aload_n 0, 0, 0, 0), (9, 1, .iload_n 2, 2, 0, 0), (10, 3, .invokevirtual 406, 56, 2, 9), (13, 3, .ifCond .eq 17, 30, 0, 0), (16, 1, .iload_n 1, 1, 0, 0), (17, 1, .iload_n 2, 2, 0, 0), (18, 3, .if_icmp .eq 12, 30, 0, 0), (21, 1, .iload_n 3, 3, 0, 0), (22, 1, .iconst 0, 0, 0, 0), (23, 1, .iconst 1, 1, 0, 0), (24, 3, .invokestatic 357, 12, 3, 0), (27, 3, .ifCond .ne 5, 32, 0, 0), (30, 1, .iconst (-1), 4294967295, 0, 0), (31, 1, .ireturn, 0, 0, 0), (32, 1, .aload_n 0, 0, 0, 0), (33, 1, .iload_n 1, 1, 0, 0), (34, 1, .iload_n 2, 2, 0, 0), (35, 3, .invokevirtual 439, 180, 3, 9), (38, 2, .istore 4, 4, 0, 0), (40, 2, .iload 4, 4, 0, 0), (42, 3, .ifCond .ge 7, 49, 0, 0), (45, 1, .iconst (-1), 4294967295, 0, 0), (46, 3, .goto 17, 63, 0, 0), (49, 1, .iload_n 3, 3, 0, 0), (50, 3, .ifCond .ne 11, 61, 0, 0), (53, 2, .iload 4, 4, 0, 0), (55, 3, .invokestatic 403, 139, 1, 0), (58, 3, .goto 5, 63, 0, 0), (61, 2, .iload 4, 4, 0, 0), (63, 1, .ireturn, 0, 0, 0)]
def q_cd68 : List q_I := [(0, 1, .iload_n 1, 1, 0, 0), (1, 1, .iconst 0, 0, 0, 0), (2, 1, .iconst 2, 2, 0, 0), (3, 3, .invokestatic 357, 12, 3, 0), (6, 3, .ifCond .ne 5, 11, 0, 0), (9, 1, .iconst (-1), 4294967295, 0, 0), (10, 1, .ireturn, 0, 0, 0), (11, 1, .iconst 0, 0, 0, 0), (12, 1, .istore_n 2, 2, 0, 0), (13, 1, .iload_n 2, 2, 0, 0), (14, 3, .sipush 438, 438, 0, 0), (17, 3, .if_icmp .ge 27, 44, 0, 0), (20, 1, .aload_n 0, 0, 0, 0), (21, 3, .getfield 152, 9, 66, 2), (24, 3, .sipush 438, 438, 0, 0), (27, 1, .iload_n 1, 1, 0, 0), (28, 1, .imul, 0, 0, 0), (29, 1, .iload_n 2, 2, 0, 0), (30, 1, .iadd, 0, 0, 0), (31, 1, .aload_n 0, 0, 0, 0), (32, 3, .getfield 92, 9, 41, 2), (35, 1, .iload_n 2, 2, 0, 0), (36, 1, .iaload, 0, 0, 0), (37, 1, .iastore, 0, 0, 0), (38, 3, .iinc 2 1, 2, 1, 0), (41, 3, .goto (-28), 13, 0, 0), (44, 1, .aload_n 0, 0, 0, 0), (45, 3, .getfield 155, 9, 67, 2), (48, 1, .iload_n 1, 1, 0, 0), (49, 1, .iconst 1, 1, 0, 0), (50, 1, .bastore, 0, 0, 0), (51, 1, .aload_n 0, 0, 0, 0), (52, 3, .getfield 92, 9, 41, 2), (55, 3, .sipush 435, 435, 0, 0), (58, 1, .iaload, 0, 0, 0), (59, 1, .ireturn, 0, 0, 0)]
def q_cd69 : List q_I := [(0, 1, .iload_n 1, 1, 0, 0), (1, 1, .iconst 0, 0, 0, 0), (2, 1, .iconst 2, 2, 0, 0), (3, 3, .invokestatic 357, 12, 3, 0), (6, 3, .ifCond .eq 12, 18, 0, 0), (9, 1, .aload_n 0, 0, 0, 0), (10, 3, .getfield 155, 9, 67, 2), (13, 1, .iload_n 1, 1, 0, 0), (14, 1, .baload, 0, 0, 0), (15, 3, .ifCond .ne 5, 20, 0, 0), (18, 1, .iconst (-1), 4294967295, 0, 0), (19, 1, .ireturn, 0, 0, 0), (20, 1, .iconst 0, 0, 0, 0), (21, 1, .istore_n 2, 2, 0, 0), (22, 1, .iload_n 2, 2, 0, 0), (23, 3, .sipush 438, 438, 0, 0), (26, 3, .if_icmp .ge 27, 53, 0, 0), (29, 1, .aload_n 0, 0, 0, 0), (30, 3, .getfield 92, 9, 41, 2), (33, 1, .iload_n 2, 2, 0, 0), (34, 1, .aload_n 0, 0, 0, 0), (35, 3, .getfield 152, 9, 66, 2), (38, 3, .sipush 438, 438, 0, 0), (41, 1, .iload_n 1, 1, 0, 0), (42, 1, .imul, 0, 0, 0), (43, 1, .iload_n 2, 2, 0, 0), (44, 1, .iadd, 0, 0, 0), (45, 1, .iaload, 0, 0, 0), (46, 1, .iastore, 0, 0, 0), (47, 3, .iinc 2 1, 2, 1, 0), (50, 3, .goto (-28), 22, 0, 0), (53, 1, .aload_n 0, 0, 0, 0), (54, 1, .iconst 0, 0, 0, 0), (55, 3, .putfield 379, 9, 43, 0), (58, 1, .aload_n 0, 0, 0, 0), (59, 1, .iconst 0, 0, 0, 0), (60, 3, .putfield 382, 9, 44, 0), (63, 1, .aload_n 0, 0, 0, 0), (64, 3, .getfield 92, 9, 41, 2), (67, 3, .sipush 435, 435, 0, 0), (70, 1, .iaload, 0, 0, 0), (71, 1, .ireturn, 0, 0, 0)]
def q_cd70 : List q_I := [(0, 1, .iload_n 1, 1, 0, 0), (1, 3, .ifCond .ne 10, 11, 0, 0), (4, 1, .aload_n 0, 0, 0, 0), (5, 3, .getfield 167, 9, 4, 0), (8, 3, .goto 16, 24, 0, 0), (11, 1, .iload_n 1, 1, 0, 0), (12, 1, .iconst 1, 1, 0, 0), (13, 3, .if_icmp .ne 10, 23, 0, 0), (16, 1, .aload_n 0, 0, 0, 0), (17, 3, .getfield 16, 9, 5, 0), (20, 3, .goto 4, 24, 0, 0), (23, 1, .iconst (-1), 4294967295, 0, 0), (24, 1, .ireturn, 0, 0, 0)]
def q_cd71 : List q_I := [(0, 1, .iload_n 1, 1, 0, 0), (1, 1, .iconst 0, 0, 0, 0), (2, 1, .iconst 1, 1, 0, 0), (3, 3, .invokestatic 357, 12, 3, 0), (6, 3, .ifCond .ne 5, 11, 0, 0), (9, 1, .iconst (-1), 4294967295, 0, 0), (10, 1, .ireturn, 0, 0, 0), (11, 1, .iconst (-1), 4294967295, 0, 0), (12, 1, .istore_n 2, 2, 0, 0), (13, 1, .iconst 0, 0, 0, 0), (14, 1, .istore_n 3, 3, 0, 0), (15, 1, .iconst 0, 0, 0, 0), (16, 2, .istore 4, 4, 0, 0), (18, 2, .iload 4, 4, 0, 0), (20, 2, .bipush 60, 60, 0, 0), (22, 3, .if_icmp .ge 54, 76, 0, 0), (25, 1, .iconst 0, 0, 0, 0), (26, 2, .istore 5, 5, 0, 0), (28, 2, .iload 5, 5, 0, 0), (30, 1, .aload_n 0, 0, 0, 0), (31, 3, .invokevirtual 354, 11, 1, 9), (34, 3, .if_icmp .ge 36, 70, 0, 0), (37, 1, .aload_n 0, 0, 0, 0), (38, 2, .iload 5, 5, 0, 0), (40, 2, .iload 4, 4, 0, 0), (42, 3, .invokevirtual 445, 277, 3, 9), (45, 1, .iload_n 3, 3, 0, 0), (46, 3, .if_icmp .gt 6, 52, 0, 0), (49, 3, .goto 15, 64, 0, 0), (52, 2, .iload 4, 4, 0, 0), (54, 1, .istore_n 2, 2, 0, 0), (55, 1, .aload_n 0, 0, 0, 0), (56, 2, .iload 5, 5, 0, 0), (58, 2, .iload 4, 4, 0, 0), (60, 3, .invokevirtual 445, 277, 3, 9), (63, 1, .istore_n 3, 3, 0, 0), (64, 3, .iinc 5 1, 5, 1, 0), (67, 3, .goto (-39), 28, 0, 0), (70, 3, .iinc 4 1, 4, 1, 0), (73, 3, .goto (-55), 18, 0, 0), (76, 1, .iload_n 2, 2, 0, 0), (77, 3, .ifCond .ge 7, 84, 0, 0), (80, 1, .iconst (-1), 4294967295, 0, 0), (81, 3, .goto 12, 93, 0, 0), (84, 1, .iload_n 1, 1, 0, 0), (85, 3, .ifCond .ne 7, 92, 0, 0), (88, 1, .iload_n 2, 2, 0, 0), (89, 3, .goto 4, 93, 0, 0), (92, 1, .iload_n 3, 3, 0, 0), (93, 1, .ireturn, 0, 0, 0)]
def q_cd72 : List q_I := [(0, 1, .aload_n 0, 0, 0, 0), (1, 3, .getfield 128, 9, 56, 2), (4, 1, .aload_n 0, 0, 0, 0), (5, 3, .getfield 385, 9, 64, 0), (8, 1, .iload_n 1, 1, 0, 0), (9, 1, .iastore, 0, 0, 0), (10, 1, .aload_n 0, 0, 0, 0), (11, 3, .getfield 131, 9, 57, 2), (14, 1, .aload_n 0, 0, 0, 0), (15, 3, .getfield 385, 9, 64, 0), (18, 1, .iload_n 2, 2, 0, 0), (19, 1, .iastore, 0, 0, 0), (20, 1, .aload_n 0, 0, 0, 0), (21, 3, .getfield 134, 9, 58, 2), (24, 1, .aload_n 0, 0, 0, 0), (25, 3, .getfield 385, 9, 64, 0), (28, 1, .iload_n 3, 3, 0, 0), (29, 1, .iastore, 0, 0, 0), (30, 1, .aload_n 0, 0, 0, 0), (31, 3, .getfield 137, 9, 59, 2), (34, 1, .aload_n 0, 0, 0, 0), (35, 3, .getfield 385, 9, 64, 0), (38, 2, .iload 4, 4, 0, 0), (40, 3, .ifCond .eq 7, 47, 0, 0), (43, 1, .iconst 1, 1, 0, 0), (44, 3, .goto 4, 48, 0, 0), (47, 1, .iconst 0, 0, 0, 0), (48, 1, .iastore, 0, 0, 0), (49, 1, .aload_n 0, 0, 0, 0), (50, 3, .getfield 140, 9, 60, 2), (53, 1, .aload_n 0, 0, 0, 0), (54, 3, .getfield 385, 9, 64, 0), (57, 1, .aload_n 0, 0, 0, 0), (58, 3, .getfield 472, 9, 65, 0), (61, 1, .iastore, 0, 0, 0), (62, 1, .aload_n 0, 0, 0, 0), (63, 3, .getfield 143, 9, 61, 2), (66, 1, .aload_n 0, 0, 0, 0), (67, 3, .getfield 385, 9, 64, 0), (70, 1, .iconst (-1), 4294967295, 0, 0), (71, 1, .iastore, 0, 0, 0), (72, 1, .aload_n 0, 0, 0, 0), (73, 1, .dup, 0, 0, 0), (74, 3, .getfield 385, 9, 64, 0), (77, 1, .iconst 1, 1, 0, 0), (78, 1, .iadd, 0, 0, 0), (79, 3, .putfield 385, 9, 64, 0), (82, 1, .aload_n 0, 0, 0, 0), (83, 3, .getfield 385, 9, 64, 0), (86, 1, .iconst 1, 1, 0, 0), (87, 1, .isub, 0, 0, 0), (88, 1, .ireturn, 0, 0, 0)]
def q_cd73 : List q_I := [(0, 1, .iload_n 1, 1, 0, 0), (1, 3, .invokestatic 287, 50, 1, 0), (4, 3, .ifCond .eq 29, 33, 0, 0), (7, 1, .iload_n 2, 2, 0, 0), (8, 3, .invokestatic 287, 50, 1, 0), (11, 3, .ifCond .eq 22, 33, 0, 0), (14, 1, .iload_n 3, 3, 0, 0), (15, 3, .invokestatic 287, 50, 1, 0), (18, 3, .ifCond .eq 15, 33, 0, 0), (21, 2, .iload 4, 4, 0, 0), (23, 3, .invokestatic 287, 50, 1, 0), (26, 3, .ifCond .eq 7, 33, 0, 0), (29, 1, .iconst 1, 1, 0, 0), (30, 3, .goto 4, 34, 0, 0), (33, 1, .iconst 0, 0, 0, 0), (34, 2, .istore 5, 5, 0, 0), (36, 2, .iload 5, 5, 0, 0), (38, 3, .ifCond .eq 24, 62, 0, 0), (41, 1, .iload_n 1, 1, 0, 0), (42, 3, .ifCond .eq 20, 62, 0, 0), (45, 1, .iload_n 2, 2, 0, 0), (46, 3, .ifCond .ne 7, 53, 0, 0), (49, 1, .iload_n 3, 3, 0, 0), (50, 3, .ifCond .ne 12, 62, 0, 0), (53, 1, .iload_n 3, 3, 0, 0), (54, 3, .ifCond .ne 10, 64, 0, 0), (57, 2, .iload 4, 4, 0, 0), (59, 3, .ifCond .eq 5, 64, 0, 0), (62, 1, .iconst (-1), 4294967295, 0, 0), (63, 1, .ireturn, 0, 0, 0), (64, 1, .aload_n 0, 0, 0, 0), (65, 3, .getfield 27, 8, 3, 2), (68, 3, .getfield 90, 7, 8, 0), (71, 3, .invokestatic 233, 16, 1, 0), (74, 1, .iconst 1, 1, 0, 0), (75, 1, .isub, 0, 0, 0), (76, 2, .istore 6, 6, 0, 0), (78, 1, .aload_n 0, 0, 0, 0), (79, 1, .iload_n 1, 1, 0, 0), (80, 3, .invokevirtual 290, 52, 2, 8), (83, 2, .istore 7, 7, 0, 0), (85, 1, .iload_n 2, 2, 0, 0), (86, 3, .ifCond .ne 7, 93, 0, 0), (89, 1, .iconst (-1), 4294967295, 0, 0), (90, 3, .goto 8, 98, 0, 0), (93, 1, .aload_n 0, 0, 0, 0), (94, 1, .iload_n 2, 2, 0, 0), (95, 3, .invokevirtual 290, 52, 2, 8), (98, 2, .istore 8, 8, 0, 0), (100, 1, .iload_n 3, 3, 0, 0), (101, 3, .ifCond .ne 7, 108, 0, 0), (104, 1, .iconst (-1), 4294967295, 0, 0), (105, 3, .goto 8, 113, 0, 0), (108, 1, .aload_n 0, 0, 0, 0), (109, 1, .iload_n 3, 3, 0, 0), (110, 3, .invokevirtual 290, 52, 2, 8), (113, 2, .istore 9, 9, 0, 0), (115, 2, .iload 4, 4, 0, 0), (117, 3, .ifCond .ne 7, 124, 0, 0), (120, 1, .iconst (-1), 4294967295, 0, 0), (121, 3, .goto 9, 130, 0, 0), (124, 1, .aload_n 0, 0, 0, 0), (125, 2, .iload 4, 4, 0, 0), (127, 3, .invokevirtual 290, 52, 2, 8), (130, 2, .istore 10, 10, 0, 0), (132, 2, .iload 7, 7, 0, 0), (134, 2, .iload 8, 8, 0, 0), (136, 2, .iload 9, 9, 0, 0), (138, 2, .iload 10, 10, 0, 0), (140, 2, .iload 6, 6, 0, 0), (142, 3, .invokestatic 293, 138, 5, 0), (145, 1, .ireturn, 0, 0, 0)]
def q_cd74 : List q_I := [(0, 1, .aload_n 0, 0, 0, 0), (1, 3, .getfield 119, 9, 53, 2), (4, 1, .iconst 0, 0, 0, 0), (5, 1, .iload_n 1, 1, 0, 0), (6, 1, .iastore, 0, 0, 0), (7, 1, .aload_n 0, 0, 0, 0), (8, 3, .getfield 119, 9, 53, 2), (11, 1, .iconst 1, 1, 0, 0), (12, 1, .iload_n 2, 2, 0, 0), (13, 1, .iastore, 0, 0, 0), (14, 1, .aload_n 0, 0, 0, 0), (15, 3, .getfield 119, 9, 53, 2), (18, 1, .iconst 2, 2, 0, 0), (19, 1, .iload_n 3, 3, 0, 0), (20, 1, .iastore, 0, 0, 0), (21, 1, .aload_n 0, 0, 0, 0), (22, 3, .getfield 119, 9, 53, 2), (25, 1, .iconst 3, 3, 0, 0), (26, 2, .iload 4, 4, 0, 0), (28, 1, .iastore, 0, 0, 0), (29, 1, .iconst 0, 0, 0, 0), (30, 2, .istore 5, 5, 0, 0), (32, 2, .iload 5, 5, 0, 0), (34, 1, .iconst 4, 4, 0, 0), (35, 3, .if_icmp .ge 19, 54, 0, 0), (38, 1, .aload_n 0, 0, 0, 0), (39, 3, .getfield 119, 9, 53, 2), (42, 2, .iload 5, 5, 0, 0), (44, 1, .iaload, 0, 0, 0), (45, 3, .ifCond .eq 9, 54, 0, 0), (48, 3, .iinc 5 1, 5, 1, 0), (51, 3, .goto (-19), 32, 0, 0), (54, 1, .iconst 0, 0, 0, 0), (55, 2, .istore 6, 6, 0, 0), (57, 2, .iload 6, 6, 0, 0), (59, 1, .iconst 4, 4, 0, 0), (60, 3, .if_icmp .ge 48, 108, 0, 0), (63, 2, .iload 6, 6, 0, 0), (65, 2, .iload 5, 5, 0, 0), (67, 3, .if_icmp .ge 23, 90, 0, 0), (70, 1, .aload_n 0, 0, 0, 0), (71, 3, .getfield 119, 9, 53, 2), (74, 2, .iload 6, 6, 0, 0), (76, 1, .iaload, 0, 0, 0), (77, 1, .iconst 1, 1, 0, 0), (78, 3, .sipush 999, 999, 0, 0), (81, 3, .invokestatic 357, 12, 3, 0), (84, 3, .ifCond .ne 18, 102, 0, 0), (87, 3, .goto 13, 100, 0, 0), (90, 1, .aload_n 0, 0, 0, 0), (91, 3, .getfield 119, 9, 53, 2), (94, 2, .iload 6, 6, 0, 0), (96, 1, .iaload, 0, 0, 0), (97, 3, .ifCond .eq 5, 102, 0, 0), (100, 1, .iconst (-1), 4294967295, 0, 0), (101, 1, .ireturn, 0, 0, 0), (102, 3, .iinc 6 1, 6, 1, 0), (105, 3, .goto (-48), 57, 0, 0), (108, 2, .iload 5, 5, 0, 0), (110, 3, .ifCond .ne 5, 115, 0, 0), (113, 1, .iconst (-1), 4294967295, 0, 0), (114, 1, .ireturn, 0, 0, 0), (115, 1, .iconst 0, 0, 0, 0), (116, 2, .istore 6, 6, 0, 0), (118, 2, .iload 6, 6, 0, 0), (120, 2, .bipush 32, 32, 0, 0), (122, 3, .if_icmp .ge 26, 148, 0, 0), (125, 1, .aload_n 0, 0, 0, 0), (126, 3, .getfield 122, 9, 54, 2), (129, 2, .iload 6, 6, 0, 0), (131, 2, .iload 6, 6, 0, 0), (133, 3, .ifCond .ne 7, 140, 0, 0), (136, 1, .iconst 1, 1, 0, 0), (137, 3, .goto 4, 141, 0, 0), (140, 1, .iconst 0, 0, 0, 0), (141, 1, .iastore, 0, 0, 0), (142, 3, .iinc 6 1, 6, 1, 0), (145, 3, .goto (-27), 118, 0, 0), (148, 1, .iconst 0, 0, 0, 0), (149, 2, .istore 6, 6, 0, 0), (151, 2, .iload 6, 6, 0, 0), (153, 2, .iload 5, 5, 0, 0), (155, 3, .if_icmp .ge 99, 254, 0, 0), (158, 2, .bipush 31, 31, 0, 0), (160, 2, .istore 7, 7, 0, 0), (162, 2, .iload 7, 7, 0, 0), (164, 3, .ifCond .lt 84, 248, 0, 0), (167, 1, .iconst 0, 0, 0, 0), (168, 2, .istore 8, 8, 0, 0), (170, 1, .iconst 0, 0, 0, 0), (171, 2, .istore 9, 9, 0, 0), (173, 2, .iload 9, 9, 0, 0), (175, 1, .aload_n 0, 0, 0, 0), (176, 3, .invokevirtual 354, 11, 1, 9), (179, 3, .if_icmp .ge 54, 233, 0, 0), (182, 2, .iload 7, 7, 0, 0), (184, 2, .iload 9, 9, 0, 0), (186, 3, .invokestatic 300, 1, 2, 0), (189, 3, .ifCond .eq 38, 227, 0, 0), (192, 1, .aload_n 0, 0, 0, 0), (193, 2, .iload 9, 9, 0, 0), (195, 1, .aload_n 0, 0, 0, 0), (196, 3, .getfield 119, 9, 53, 2), (199, 2, .iload 6, 6, 0, 0), (201, 1, .iaload, 0, 0, 0), (202, 3, .invokevirtual 460, 261, 3, 9), (205, 3, .ifCond .eq 22, 227, 0, 0), (208, 2, .iload 8, 8, 0, 0), (210, 1, .aload_n 0, 0, 0, 0), (211, 3, .getfield 122, 9, 54, 2), (214, 2, .iload 7, 7, 0, 0), (216, 1, .iconst 1, 1, 0, 0), (217, 2, .iload 9, 9, 0, 0), (219, 1, .ishl, 0, 0, 0), (220, 1, .iconst (-1), 4294967295, 0, 0), (221, 1, .ixor, 0, 0, 0), (222, 1, .iand, 0, 0, 0), (223, 1, .iaload, 0, 0, 0), (224, 1, .iadd, 0, 0, 0), (225, 2, .istore 8, 8, 0, 0), (227, 3, .iinc 9 1, 9, 1, 0), (230, 3, .goto (-57), 173, 0, 0), (233, 1, .aload_n 0, 0, 0, 0), (234, 3, .getfield 122, 9, 54, 2), (237, 2, .iload 7, 7, 0, 0), (239, 2, .iload 8, 8, 0, 0), (241, 1, .iastore, 0, 0, 0), (242, 3, .iinc 7 (-1), 7, 4294967295, 0), (245, 3, .goto (-83), 162, 0, 0), (248, 3, .iinc 6 1, 6, 1, 0), (251, 3, .goto (-100), 151, 0, 0), (254, 1, .iconst 0, 0, 0, 0), (255, 2, .istore 6, 6, 0, 0), (257, 1, .iconst 0, 0, 0, 0), (258, 2, .istore 7, 7, 0, 0), (260, 2, .iload 7, 7, 0, 0), (262, 2, .bipush 32, 32, 0, 0), (264, 3, .if_icmp .ge 21, 285, 0, 0), (267, 2, .iload 6, 6, 0, 0), (269, 1, .aload_n 0, 0, 0, 0), (270, 3, .getfield 122, 9, 54, 2), (273, 2, .iload 7, 7, 0, 0), (275, 1, .iaload, 0, 0, 0), (276, 1, .iadd, 0, 0, 0), (277, 2, .istore 6, 6, 0, 0), (279, 3, .iinc 7 1, 7, 1, 0), (282, 3, .goto (-22), 260, 0, 0), (285, 2, .iload 6, 6, 0, 0), (287, 1, .ireturn, 0, 0, 0)]
def q_cd75 : List q_I := [(0, 1, .iload_n 1, 1, 0, 0), (1, 1, .aload_n 0, 0, 0, 0), (2, 3, .getfield 37, 8, 5, 2), (5, 3, .getfield 273, 3, 6, 0), (8, 1, .iconst (-1), 4294967295, 0, 0), (9, 1, .ixor, 0, 0, 0), (10, 1, .iand, 0, 0, 0), (11, 3, .ifCond .ne 10, 21, 0, 0), (14, 1, .iload_n 2, 2, 0, 0), (15, 3, .invokestatic 227, 22, 1, 0), (18, 3, .ifCond .ne 5, 23, 0, 0), (21, 1, .iconst (-1), 4294967295, 0, 0), (22, 1, .ireturn, 0, 0, 0), (23, 1, .iconst (-1), 4294967295, 0, 0), (24, 1, .istore_n 3, 3, 0, 0), (25, 1, .iconst 0, 0, 0, 0), (26, 2, .istore 4, 4, 0, 0), (28, 2, .iload 4, 4, 0, 0), (30, 1, .iconst 1, 1, 0, 0), (31, 1, .aload_n 0, 0, 0, 0), (32, 3, .getfield 27, 8, 3, 2), (35, 3, .getfield 90, 7, 8, 0), (38, 1, .ishl, 0, 0, 0), (39, 3, .if_icmp .ge 57, 96, 0, 0), (42, 1, .iload_n 3, 3, 0, 0), (43, 1, .iconst (-1), 4294967295, 0, 0), (44, 3, .if_icmp .eq 15, 59, 0, 0), (47, 2, .iload 4, 4, 0, 0), (49, 3, .invokestatic 165, 36, 1, 0), (52, 1, .iload_n 3, 3, 0, 0), (53, 3, .invokestatic 165, 36, 1, 0), (56, 3, .if_icmp .ge 7, 63, 0, 0), (59, 1, .iconst 1, 1, 0, 0), (60, 3, .goto 4, 64, 0, 0), (63, 1, .iconst 0, 0, 0, 0), (64, 2, .istore 5, 5, 0, 0), (66, 2, .iload 5, 5, 0, 0), (68, 3, .ifCond .eq 22, 90, 0, 0), (71, 1, .iload_n 1, 1, 0, 0), (72, 1, .aload_n 0, 0, 0, 0), (73, 3, .getfield 44, 8, 6, 2), (76, 2, .iload 4, 4, 0, 0), (78, 3, .invokevirtual 276, 102, 2, 5), (81, 1, .iconst (-1), 4294967295, 0, 0), (82, 1, .ixor, 0, 0, 0), (83, 1, .iand, 0, 0, 0), (84, 3, .ifCond .ne 6, 90, 0, 0), (87, 2, .iload 4, 4, 0, 0), (89, 1, .istore_n 3, 3, 0, 0), (90, 3, .iinc 4 1, 4, 1, 0), (93, 3, .goto (-65), 28, 0, 0), (96, 1, .iload_n 2, 2, 0, 0), (97, 3, .ifCond .ne 15, 112, 0, 0), (100, 1, .iload_n 3, 3, 0, 0), (101, 1, .iconst (-1), 4294967295, 0, 0), (102, 3, .if_icmp .eq 10, 112, 0, 0), (105, 1, .iload_n 3, 3, 0, 0), (106, 3, .invokestatic 165, 36, 1, 0), (109, 3, .goto 4, 113, 0, 0), (112, 1, .iload_n 3, 3, 0, 0), (113, 1, .ireturn, 0, 0, 0)]
def q_cd76 : List q_I := [(0, 1, .iload_n 1, 1, 0, 0), (1, 1, .iconst 0, 0, 0, 0), (2, 1, .iconst 1, 1, 0, 0), (3, 1, .aload_n 0, 0, 0, 0), (4, 3, .invokevirtual 364, 0, 1, 9), (7, 1, .ishl, 0, 0, 0), (8, 1, .iconst 1, 1, 0, 0), (9, 1, .isub, 0, 0, 0), (10, 3, .invokestatic 357, 12, 3, 0), (13, 3, .ifCond .eq 12, 25, 0, 0), (16, 1, .iload_n 2, 2, 0, 0), (17, 1, .iconst 0, 0, 0, 0), (18, 1, .iconst 1, 1, 0, 0), (19, 3, .invokestatic 357, 12, 3, 0), (22, 3, .ifCond .ne 5, 27, 0, 0), (25, 1, .iconst (-1), 4294967295, 0, 0), (26, 1, .ireturn, 0, 0, 0), (27, 1, .iconst (-1), 4294967295, 0, 0), (28, 1, .istore_n 3, 3, 0, 0), (29, 1, .iconst 0, 0, 0, 0), (30, 2, .istore 4, 4, 0, 0), (32, 2, .iload 4, 4, 0, 0), (34, 1, .iconst 1, 1, 0, 0), (35, 1, .aload_n 0, 0, 0, 0), (36, 3, .invokevirtual 354, 11, 1, 9), (39, 1, .ishl, 0, 0, 0), (40, 3, .if_icmp .ge 86, 126, 0, 0), (43, 1, .iload_n 3, 3, 0, 0), (44, 3, .ifCond .lt 18, 62, 0, 0), (47, 2, .iload 4, 4, 0, 0), (49, 3, .invokestatic 403, 139, 1, 0), (52, 1, .iload_n 3, 3, 0, 0), (53, 3, .invokestatic 403, 139, 1, 0), (56, 3, .if_icmp .lt 6, 62, 0, 0), (59, 3, .goto 61, 120, 0, 0), (62, 1, .iconst 0, 0, 0, 0), (63, 2, .istore 5, 5, 0, 0), (65, 1, .iconst 0, 0, 0, 0), (66, 2, .istore 6, 6, 0, 0), (68, 2, .iload 6, 6, 0, 0), (70, 1, .aload_n 0, 0, 0, 0), (71, 3, .invokevirtual 354, 11, 1, 9), (74, 3, .if_icmp .ge 34, 108, 0, 0), (77, 2, .iload 4, 4, 0, 0), (79, 2, .iload 6, 6, 0, 0), (81, 3, .invokestatic 300, 1, 2, 0), (84, 3, .ifCond .eq 18, 102, 0, 0), (87, 2, .iload 5, 5, 0, 0), (89, 1, .aload_n 0, 0, 0, 0), (90, 3, .getfield 92, 9, 41, 2), (93, 2, .bipush 80, 80, 0, 0), (95, 2, .iload 6, 6, 0, 0), (97, 1, .iadd, 0, 0, 0), (98, 1, .iaload, 0, 0, 0), (99, 1, .ior, 0, 0, 0), (100, 2, .istore 5, 5, 0, 0), (102, 3, .iinc 6 1, 6, 1, 0), (105, 3, .goto (-37), 68, 0, 0), (108, 1, .iload_n 1, 1, 0, 0), (109, 2, .iload 5, 5, 0, 0), (111, 1, .iconst (-1), 4294967295, 0, 0), (112, 1, .ixor, 0, 0, 0), (113, 1, .iand, 0, 0, 0), (114, 3, .ifCond .ne 6, 120, 0, 0), (117, 2, .iload 4, 4, 0, 0), (119, 1, .istore_n 3, 3, 0, 0), (120, 3, .iinc 4 1, 4, 1, 0), (123, 3, .goto (-91), 32, 0, 0), (126, 1, .iload_n 3, 3, 0, 0), (127, 3, .ifCond .ge 7, 134, 0, 0), (130, 1, .iconst (-1), 4294967295, 0, 0), (131, 3, .goto 15, 146, 0, 0), (134, 1, .iload_n 2, 2, 0, 0), (135, 3, .ifCond .ne 10, 145, 0, 0), (138, 1, .iload_n 3, 3, 0, 0), (139, 3, .invokestatic 403, 139, 1, 0), (142, 3, .goto 4, 146, 0, 0), (145, 1, .iload_n 3, 3, 0, 0), (146, 1, .ireturn, 0, 0, 0)]
def q_cd77 : List q_I := [(0, 1, .iconst 0, 0, 0, 0), (1, 1, .istore_n 3, 3, 0, 0), (2, 1, .iload_n 3, 3, 0, 0), (3, 2, .bipush 8, 8, 0, 0), (5, 3, .if_icmp .ge 28, 33, 0, 0), (8, 1, .aload_n 1, 1, 0, 0), (9, 1, .aload_n 0, 0, 0, 0), (10, 3, .getfield 28, 6, 5, 2), (13, 1, .iload_n 3, 3, 0, 0), (14, 1, .iload_n 3, 3, 0, 0), (15, 1, .iconst 1, 1, 0, 0), (16, 1, .isub, 0, 0, 0), (17, 1, .aload_n 0, 0, 0, 0), (18, 1, .aload_n 1, 1, 0, 0), (19, 1, .iload_n 3, 3, 0, 0), (20, 1, .iload_n 2, 2, 0, 0), (21, 3, .invokevirtual 43, 19, 4, 6), (24, 3, .invokestatic 47, 20, 5, 0), (27, 3, .iinc 3 1, 3, 1, 0), (30, 3, .goto (-28), 2, 0, 0), (33, 2, .bipush 7, 7, 0, 0), (35, 1, .istore_n 3, 3, 0, 0), (36, 1, .iload_n 3, 3, 0, 0), (37, 3, .ifCond .lt 44, 81, 0, 0), (40, 1, .iload_n 3, 3, 0, 0), (41, 1, .iconst 1, 1, 0, 0), (42, 1, .iadd, 0, 0, 0), (43, 2, .bipush 8, 8, 0, 0), (45, 3, .if_icmp .ge 9, 54, 0, 0), (48, 1, .iload_n 3, 3, 0, 0), (49, 1, .iconst 1, 1, 0, 0), (50, 1, .iadd, 0, 0, 0), (51, 3, .goto 4, 55, 0, 0), (54, 1, .iconst (-1), 4294967295, 0, 0), (55, 2, .istore 4, 4, 0, 0), (57, 1, .aload_n 1, 1, 0, 0), (58, 1, .aload_n 0, 0, 0, 0), (59, 3, .getfield 31, 6, 6, 2), (62, 1, .iload_n 3, 3, 0, 0), (63, 2, .iload 4, 4, 0, 0), (65, 1, .aload_n 0, 0, 0, 0), (66, 1, .aload_n 1, 1, 0, 0), (67, 1, .iload_n 3, 3, 0, 0), (68, 1, .iload_n 2, 2, 0, 0), (69, 3, .invokevirtual 43, 19, 4, 6), (72, 3, .invokestatic 47, 20, 5, 0), (75, 3, .iinc 3 (-1), 3, 4294967295, 0), (78, 3, .goto (-42), 36, 0, 0), (81, 1, .return_, 0, 0, 0)]
def q_cd78 : List q_I := [(0, 1, .iconst 0, 0, 0, 0), (1, 1, .istore_n 2, 2, 0, 0), (2, 1, .iload_n 2, 2, 0, 0), (3, 2, .bipush 25, 25, 0, 0), (5, 3, .if_icmp .ge 41, 46, 0, 0), (8, 1, .aload_n 0, 0, 0, 0), (9, 3, .getfield 110, 9, 50, 2), (12, 1, .iload_n 2, 2, 0, 0), (13, 1, .iload_n 2, 2, 0, 0), (14, 1, .aload_n 0, 0, 0, 0), (15, 3, .invokevirtual 364, 0, 1, 9), (18, 3, .if_icmp .ge 20, 38, 0, 0), (21, 1, .aload_n 0, 0, 0, 0), (22, 1, .iconst 0, 0, 0, 0), (23, 1, .iload_n 1, 1, 0, 0), (24, 3, .invokevirtual 480, 5, 3, 9), (27, 1, .iload_n 2, 2, 0, 0), (28, 3, .invokestatic 300, 1, 2, 0), (31, 3, .ifCond .ne 7, 38, 0, 0), (34, 1, .iconst 1, 1, 0, 0), (35, 3, .goto 4, 39, 0, 0), (38, 1, .iconst 0, 0, 0, 0), (39, 1, .iastore, 0, 0, 0), (40, 3, .iinc 2 1, 2, 1, 0), (43, 3, .goto (-41), 2, 0, 0), (46, 1, .iconst 0, 0, 0, 0), (47, 1, .istore_n 2, 2, 0, 0), (48, 1, .iload_n 2, 2, 0, 0), (49, 2, .bipush 8, 8, 0, 0), (51, 3, .if_icmp .ge 66, 117, 0, 0), (54, 1, .iload_n 2, 2, 0, 0), (55, 3, .ifCond .le 13, 68, 0, 0), (58, 1, .aload_n 0, 0, 0, 0), (59, 1, .aload_n 0, 0, 0, 0), (60, 1, .iload_n 2, 2, 0, 0), (61, 1, .iload_n 1, 1, 0, 0), (62, 3, .invokevirtual 480, 5, 3, 9), (65, 3, .invokevirtual 433, 21, 2, 9), (68, 1, .iconst 0, 0, 0, 0), (69, 1, .istore_n 3, 3, 0, 0), (70, 1, .iload_n 3, 3, 0, 0), (71, 2, .bipush 25, 25, 0, 0), (73, 3, .if_icmp .ge 38, 111, 0, 0), (76, 1, .aload_n 0, 0, 0, 0), (77, 3, .getfield 146, 9, 62, 2), (80, 2, .bipush 25, 25, 0, 0), (82, 1, .iload_n 2, 2, 0, 0), (83, 1, .imul, 0, 0, 0), (84, 1, .iload_n 3, 3, 0, 0), (85, 1, .iadd, 0, 0, 0), (86, 1, .iload_n 3, 3, 0, 0), (87, 1, .aload_n 0, 0, 0, 0), (88, 3, .invokevirtual 364, 0, 1, 9), (91, 3, .if_icmp .ge 12, 103, 0, 0), (94, 1, .aload_n 0, 0, 0, 0), (95, 3, .getfield 110, 9, 50, 2), (98, 1, .iload_n 3, 3, 0, 0), (99, 1, .iaload, 0, 0, 0), (100, 3, .goto 4, 104, 0, 0), (103, 1, .iconst 0, 0, 0, 0), (104, 1, .iastore, 0, 0, 0), (105, 3, .iinc 3 1, 3, 1, 0), (108, 3, .goto (-38), 70, 0, 0), (111, 3, .iinc 2 1, 2, 1, 0), (114, 3, .goto (-66), 48, 0, 0), (117, 1, .iconst 0, 0, 0, 0), (118, 1, .istore_n 2, 2, 0, 0), (119, 1, .iload_n 2, 2, 0, 0), (120, 2, .bipush 25, 25, 0, 0), (122, 3, .if_icmp .ge 16, 138, 0, 0), (125, 1, .aload_n 0, 0, 0, 0), (126, 3, .getfield 110, 9, 50, 2), (129, 1, .iload_n 2, 2, 0, 0), (130, 1, .iconst 1, 1, 0, 0), (131, 1, .iastore, 0, 0, 0), (132, 3, .iinc 2 1, 2, 1, 0), (135, 3, .goto (-16), 119, 0, 0), (138, 2, .bipush 7, 7, 0, 0), (140, 1, .istore_n 2, 2, 0, 0), (141, 1, .iload_n 2, 2, 0, 0), (142, 3, .ifCond .lt 67, 209, 0, 0), (145, 1, .iconst 0, 0, 0, 0), (146, 1, .istore_n 3, 3, 0, 0), (147, 1, .iload_n 3, 3, 0, 0), (148, 1, .aload_n 0, 0, 0, 0), (149, 3, .invokevirtual 364, 0, 1, 9), (152, 3, .if_icmp .ge 46, 198, 0, 0), (155, 1, .aload_n 0, 0, 0, 0), (156, 3, .getfield 149, 9, 63, 2), (159, 2, .bipush 25, 25, 0, 0), (161, 1, .iload_n 2, 2, 0, 0), (162, 1, .imul, 0, 0, 0), (163, 1, .iload_n 3, 3, 0, 0), (164, 1, .iadd, 0, 0, 0), (165, 1, .aload_n 0, 0, 0, 0), (166, 3, .getfield 110, 9, 50, 2), (169, 1, .iload_n 3, 3, 0, 0), (170, 1, .iaload, 0, 0, 0), (171, 1, .iastore, 0, 0, 0), (172, 1, .aload_n 0, 0, 0, 0), (173, 1, .iload_n 2, 2, 0, 0), (174, 1, .iload_n 1, 1, 0, 0), (175, 3, .invokevirtual 480, 5, 3, 9), (178, 1, .iload_n 3, 3, 0, 0), (179, 3, .invokestatic 300, 1, 2, 0), (182, 3, .ifCond .eq 10, 192, 0, 0), (185, 1, .aload_n 0, 0, 0, 0), (186, 3, .getfield 110, 9, 50, 2), (189, 1, .iload_n 3, 3, 0, 0), (190, 1, .iconst 0, 0, 0, 0), (191, 1, .iastore, 0, 0, 0), (192, 3, .iinc 3 1, 3, 1, 0), (195, 3, .goto (-48), 147, 0, 0), (198, 1, .aload_n 0, 0, 0, 0), (199, 1, .iconst 0, 0, 0, 0), (200, 3, .invokevirtual 433, 21, 2, 9), (203, 3, .iinc 2 (-1), 2, 4294967295, 0), (206, 3, .goto (-65), 141, 0, 0), (209, 1, .return_, 0, 0, 0)]
def q_cd79 : List q_I := [(0, 1, .iconst 0, 0, 0, 0), (1, 1, .istore_n 1, 1, 0, 0), (2, 1, .iconst 0, 0, 0, 0), (3, 1, .istore_n 2, 2, 0, 0), (4, 1, .iload_n 2, 2, 0, 0), (5, 1, .aload_n 0, 0, 0, 0), (6, 3, .invokevirtual 364, 0, 1, 9), (9, 3, .if_icmp .ge 18, 27, 0, 0), (12, 1, .iload_n 1, 1, 0, 0), (13, 1, .aload_n 0, 0, 0, 0), (14, 1, .iconst 0, 0, 0, 0), (15, 1, .iload_n 2, 2, 0, 0), (16, 3, .invokevirtual 483, 10, 3, 9), (19, 1, .iadd, 0, 0, 0), (20, 1, .istore_n 1, 1, 0, 0), (21, 3, .iinc 2 1, 2, 1, 0), (24, 3, .goto (-20), 4, 0, 0), (27, 1, .iload_n 1, 1, 0, 0), (28, 1, .ireturn, 0, 0, 0)]
def q_cd80 : List q_I := [(0, 1, .aload_n 1, 1, 0, 0), (1, 3, .getfield 67, 7, 0, 2), (4, 1, .iconst 0, 0, 0, 0), (5, 1, .aload_n 0, 0, 0, 0), (6, 3, .getfield 21, 5, 3, 2), (9, 1, .iconst 0, 0, 0, 0), (10, 1, .iconst 5, 5, 0, 0), (11, 3, .invokestatic 46, 0, 0, 77), (14, 1, .aload_n 0, 0, 0, 0), (15, 3, .getfield 18, 5, 2, 2), (18, 1, .iconst 0, 0, 0, 0), (19, 3, .invokestatic 52, 49, 2, 0), (22, 1, .aload_n 0, 0, 0, 0), (23, 3, .getfield 24, 5, 4, 2), (26, 1, .iconst 0, 0, 0, 0), (27, 3, .invokestatic 52, 49, 2, 0), (30, 1, .aload_n 0, 0, 0, 0), (31, 3, .getfield 27, 5, 5, 2), (34, 1, .iconst 0, 0, 0, 0), (35, 3, .invokestatic 52, 49, 2, 0), (38, 1, .aload_n 0, 0, 0, 0), (39, 1, .iconst 0, 0, 0, 0), (40, 3, .putfield 36, 5, 8, 0), (43, 1, .return_, 0, 0, 0)]
def q_cd81 : List q_I := [(0, 1, .iconst 0, 0, 0, 0), (1, 1, .istore_n 1, 1, 0, 0), (2, 1, .iload_n 1, 1, 0, 0), (3, 1, .aload_n 0, 0, 0, 0), (4, 3, .invokevirtual 354, 11, 1, 9), (7, 3, .if_icmp .ge 30, 37, 0, 0), (10, 1, .aload_n 0, 0, 0, 0), (11, 3, .getfield 92, 9, 41, 2), (14, 1, .iconst 0, 0, 0, 0), (15, 1, .iload_n 1, 1, 0, 0), (16, 1, .iadd, 0, 0, 0), (17, 1, .aload_n 0, 0, 0, 0), (18, 3, .getfield 48, 9, 20, 2), (21, 1, .iconst 5, 5, 0, 0), (22, 1, .aload_n 0, 0, 0, 0), (23, 3, .getfield 274, 9, 34, 0), (26, 1, .imul, 0, 0, 0), (27, 1, .iload_n 1, 1, 0, 0), (28, 1, .iadd, 0, 0, 0), (29, 1, .iaload, 0, 0, 0), (30, 1, .iastore, 0, 0, 0), (31, 3, .iinc 1 1, 1, 1, 0), (34, 3, .goto (-32), 2, 0, 0), (37, 3, .sipush 135, 135, 0, 0), (40, 1, .istore_n 1, 1, 0, 0), (41, 1, .iload_n 1, 1, 0, 0), (42, 3, .sipush 435, 435, 0, 0), (45, 3, .if_icmp .ge 16, 61, 0, 0), (48, 1, .aload_n 0, 0, 0, 0), (49, 3, .getfield 92, 9, 41, 2), (52, 1, .iload_n 1, 1, 0, 0), (53, 1, .iconst (-1), 4294967295, 0, 0), (54, 1, .iastore, 0, 0, 0), (55, 3, .iinc 1 1, 1, 1, 0), (58, 3, .goto (-17), 41, 0, 0), (61, 1, .return_, 0, 0, 0)]
def q_cd82 : List q_I := [(0, 1, .iload_n 1, 1, 0, 0), (1, 3, .ifCond .lt 11, 12, 0, 0), (4, 1, .iload_n 1, 1, 0, 0), (5, 1, .aload_n 0, 0, 0, 0), (6, 3, .getfield 271, 9, 2, 0), (9, 3, .if_icmp .le 5, 14, 0, 0), (12, 1, .iconst (-1), 4294967295, 0, 0), (13, 1, .ireturn, 0, 0, 0), (14, 1, .aload_n 0, 0, 0, 0), (15, 1, .iload_n 1, 1, 0, 0), (16, 3, .putfield 271, 9, 2, 0), (19, 1, .iload_n 1, 1, 0, 0), (20, 1, .ireturn, 0, 0, 0)]
def q_cd83 : List q_I := [(0, 1, .aload_n 0, 0, 0, 0), (1, 1, .iload_n 1, 1, 0, 0), (2, 3, .invokevirtual 99, 25, 2, 8), (5, 3, .ifCond .ne 5, 10, 0, 0), (8, 1, .iconst (-1), 4294967295, 0, 0), (9, 1, .ireturn, 0, 0, 0), (10, 1, .iload_n 2, 2, 0, 0), (11, 37, .tableswitch 96 0 5 #[37, 47, 57, 67, 77, 87], 0, 5, 0), (48, 1, .aload_n 0, 0, 0, 0), (49, 3, .getfield 44, 8, 6, 2), (52, 3, .getfield 103, 5, 3, 2), (55, 1, .iload_n 1, 1, 0, 0), (56, 1, .iaload, 0, 0, 0), (57, 1, .ireturn, 0, 0, 0), (58, 1, .aload_n 0, 0, 0, 0), (59, 3, .getfield 27, 8, 3, 2), (62, 3, .getfield 107, 7, 0, 2), (65, 1, .iload_n 1, 1, 0, 0), (66, 1, .iaload, 0, 0, 0), (67, 1, .ireturn, 0, 0, 0), (68, 1, .aload_n 0, 0, 0, 0), (69, 3, .getfield 27, 8, 3, 2), (72, 3, .getfield 110, 7, 1, 2), (75, 1, .iload_n 1, 1, 0, 0), (76, 1, .iaload, 0, 0, 0), (77, 1, .ireturn, 0, 0, 0), (78, 1, .aload_n 0, 0, 0, 0), (79, 3, .getfield 27, 8, 3, 2), (82, 3, .getfield 113, 7, 2, 2), (85, 1, .iload_n 1, 1, 0, 0), (86, 1, .iaload, 0, 0, 0), (87, 1, .ireturn, 0, 0, 0), (88, 1, .aload_n 0, 0, 0, 0), (89, 3, .getfield 44, 8, 6, 2), (92, 3, .getfield 116, 5, 4, 2), (95, 1, .iload_n 1, 1, 0, 0), (96, 1, .iaload, 0, 0, 0), (97, 1, .ireturn, 0, 0, 0), (98, 1, .aload_n 0, 0, 0, 0), (99, 3, .getfield 44, 8, 6, 2), (102, 1, .iload_n 1, 1, 0, 0), (103, 3, .invokevirtual 119, 234, 2, 5), (106, 1, .ireturn, 0, 0, 0), (107, 1, .iconst (-1), 4294967295, 0, 0), (108, 1, .ireturn, 0, 0, 0)]
def q_cd84 : List q_I := [(0, 1, .aload_n 0, 0, 0, 0), (1, 1, .iload_n 1, 1, 0, 0), (2, 1, .iload_n 2, 2, 0, 0), (3, 3, .invokevirtual 149, 45, 3, 8), (6, 3, .ifCond .eq 19, 25, 0, 0), (9, 1, .aload_n 0, 0, 0, 0), (10, 3, .getfield 44, 8, 6, 2), (13, 3, .getfield 152, 5, 5, 2), (16, 1, .iload_n 1, 1, 0, 0), (17, 1, .iload_n 2, 2, 0, 0), (18, 3, .invokestatic 155, 193, 2, 0), (21, 1, .iaload, 0, 0, 0), (22, 3, .goto 4, 26, 0, 0), (25, 1, .iconst (-1), 4294967295, 0, 0), (26, 1, .ireturn, 0, 0, 0)]
def q_cd85 : List q_I := [(0, 1, .aload_n 0, 0, 0, 0), (1, 1, .iload_n 1, 1, 0, 0), (2, 1, .iload_n 2, 2, 0, 0), (3, 3, .invokevirtual 149, 45, 3, 8), (6, 3, .ifCond .eq 19, 25, 0, 0), (9, 1, .aload_n 0, 0, 0, 0), (10, 3, .getfield 44, 8, 6, 2), (13, 3, .getfield 158, 5, 6, 2), (16, 1, .iload_n 1, 1, 0, 0), (17, 1, .iload_n 2, 2, 0, 0), (18, 3, .invokestatic 155, 193, 2, 0), (21, 1, .iaload, 0, 0, 0), (22, 3, .goto 4, 26, 0, 0), (25, 1, .iconst (-1), 4294967295, 0, 0), (26, 1, .ireturn, 0, 0, 0)]
def q_cd86 : List q_I := [(0, 1, .aload_n 0, 0, 0, 0), (1, 1, .iload_n 1, 1, 0, 0), (2, 3, .invokevirtual 99, 25, 2, 8), (5, 3, .ifCond .eq 35, 40, 0, 0), (8, 1, .aload_n 0, 0, 0, 0), (9, 1, .iload_n 2, 2, 0, 0), (10, 3, .invokevirtual 123, 13, 2, 8), (13, 3, .ifCond .eq 27, 40, 0, 0), (16, 1, .aload_n 0, 0, 0, 0), (17, 3, .getfield 37, 8, 5, 2), (20, 3, .getfield 170, 3, 0, 2), (23, 1, .aload_n 0, 0, 0, 0), (24, 3, .getfield 44, 8, 6, 2), (27, 3, .getfield 103, 5, 3, 2), (30, 1, .iload_n 1, 1, 0, 0), (31, 1, .iaload, 0, 0, 0), (32, 1, .iaload, 0, 0, 0), (33, 1, .iload_n 2, 2, 0, 0), (34, 3, .invokestatic 173, 3, 2, 0), (37, 3, .ifCond .ne 5, 42, 0, 0), (40, 1, .iconst (-1), 4294967295, 0, 0), (41, 1, .ireturn, 0, 0, 0), (42, 1, .aload_n 0, 0, 0, 0), (43, 3, .getfield 51, 8, 7, 2), (46, 1, .aload_n 0, 0, 0, 0), (47, 3, .getfield 44, 8, 6, 2), (50, 3, .invokevirtual 176, 121, 2, 0), (53, 1, .aload_n 0, 0, 0, 0), (54, 3, .getfield 44, 8, 6, 2), (57, 1, .iload_n 1, 1, 0, 0), (58, 1, .iload_n 2, 2, 0, 0), (59, 3, .invokevirtual 180, 237, 3, 5), (62, 1, .aload_n 0, 0, 0, 0), (63, 3, .getfield 44, 8, 6, 2), (66, 3, .getfield 132, 5, 2, 2), (69, 1, .iload_n 2, 2, 0, 0), (70, 1, .iaload, 0, 0, 0), (71, 1, .ireturn, 0, 0, 0)]
def q_cd87 : List q_I := [(0, 1, .aload_n 0, 0, 0, 0), (1, 3, .getfield 65, 8, 10, 2), (4, 1, .iconst 0, 0, 0, 0), (5, 3, .putfield 216, 1, 1, 0), (8, 1, .aload_n 0, 0, 0, 0), (9, 1, .iload_n 1, 1, 0, 0), (10, 3, .invokevirtual 99, 25, 2, 8), (13, 3, .ifCond .eq 11, 24, 0, 0), (16, 1, .aload_n 0, 0, 0, 0), (17, 1, .iload_n 2, 2, 0, 0), (18, 3, .invokevirtual 123, 13, 2, 8), (21, 3, .ifCond .ne 5, 26, 0, 0), (24, 1, .iconst (-1), 4294967295, 0, 0), (25, 1, .ireturn, 0, 0, 0), (26, 1, .aload_n 0, 0, 0, 0), (27, 3, .getfield 65, 8, 10, 2), (30, 1, .aload_n 0, 0, 0, 0), (31, 3, .getfield 37, 8, 5, 2), (34, 1, .aload_n 0, 0, 0, 0), (35, 3, .getfield 44, 8, 6, 2), (38, 3, .getfield 103, 5, 3, 2), (41, 1, .iload_n 1, 1, 0, 0), (42, 1, .iaload, 0, 0, 0), (43, 1, .iload_n 2, 2, 0, 0), (44, 1, .iconst 0, 0, 0, 0), (45, 3, .invokevirtual 219, 204, 5, 1), (48, 3, .ifCond .eq 15, 63, 0, 0), (51, 1, .aload_n 0, 0, 0, 0), (52, 3, .getfield 65, 8, 10, 2), (55, 3, .getfield 216, 1, 1, 0), (58, 1, .iconst 1, 1, 0, 0), (59, 1, .isub, 0, 0, 0), (60, 3, .goto 4, 64, 0, 0), (63, 1, .iconst (-1), 4294967295, 0, 0), (64, 1, .ireturn, 0, 0, 0)]
def q_cd88 : List q_I := [(0, 1, .aload_n 0, 0, 0, 0), (1, 1, .iload_n 1, 1, 0, 0), (2, 3, .invokevirtual 99, 25, 2, 8), (5, 3, .ifCond .eq 11, 16, 0, 0), (8, 1, .aload_n 0, 0, 0, 0), (9, 1, .iload_n 2, 2, 0, 0), (10, 3, .invokevirtual 123, 13, 2, 8), (13, 3, .ifCond .ne 5, 18, 0, 0), (16, 1, .iconst (-1), 4294967295, 0, 0), (17, 1, .ireturn, 0, 0, 0), (18, 1, .aload_n 0, 0, 0, 0), (19, 3, .getfield 65, 8, 10, 2), (22, 1, .aload_n 0, 0, 0, 0), (23, 3, .getfield 37, 8, 5, 2), (26, 1, .aload_n 0, 0, 0, 0), (27, 3, .getfield 44, 8, 6, 2), (30, 3, .getfield 103, 5, 3, 2), (33, 1, .iload_n 1, 1, 0, 0), (34, 1, .iaload, 0, 0, 0), (35, 1, .iload_n 2, 2, 0, 0), (36, 3, .invokevirtual 223, 202, 4, 1), (39, 1, .istore_n 3, 3, 0, 0), (40, 1, .iload_n 3, 3, 0, 0), (41, 3, .ifCond .ne 7, 48, 0, 0), (44, 1, .iconst (-1), 4294967295, 0, 0), (45, 3, .goto 4, 49, 0, 0), (48, 1, .iload_n 3, 3, 0, 0), (49, 1, .ireturn, 0, 0, 0)]
def q_cd89 : List q_I := [(0, 1, .aload_n 0, 0, 0, 0), (1, 3, .getfield 65, 8, 10, 2), (4, 1, .iconst 0, 0, 0, 0), (5, 3, .putfield 216, 1, 1, 0), (8, 1, .aload_n 0, 0, 0, 0), (9, 1, .iload_n 1, 1, 0, 0), (10, 3, .invokevirtual 99, 25, 2, 8), (13, 3, .ifCond .eq 18, 31, 0, 0), (16, 1, .aload_n 0, 0, 0, 0), (17, 1, .iload_n 2, 2, 0, 0), (18, 3, .invokevirtual 123, 13, 2, 8), (21, 3, .ifCond .eq 10, 31, 0, 0), (24, 1, .iload_n 3, 3, 0, 0), (25, 3, .invokestatic 227, 22, 1, 0), (28, 3, .ifCond .ne 5, 33, 0, 0), (31, 1, .iconst (-1), 4294967295, 0, 0), (32, 1, .ireturn, 0, 0, 0), (33, 1, .aload_n 0, 0, 0, 0), (34, 3, .getfield 44, 8, 6, 2), (37, 1, .iload_n 1, 1, 0, 0), (38, 3, .invokevirtual 119, 234, 2, 5), (41, 1, .aload_n 0, 0, 0, 0), (42, 3, .getfield 44, 8, 6, 2), (45, 3, .invokevirtual 161, 47, 1, 5), (48, 1, .iconst (-1), 4294967295, 0, 0), (49, 1, .ixor, 0, 0, 0), (50, 1, .ior, 0, 0, 0), (51, 2, .istore 4, 4, 0, 0), (53, 1, .aload_n 0, 0, 0, 0), (54, 3, .getfield 65, 8, 10, 2), (57, 1, .aload_n 0, 0, 0, 0), (58, 3, .getfield 37, 8, 5, 2), (61, 1, .aload_n 0, 0, 0, 0), (62, 3, .getfield 44, 8, 6, 2), (65, 3, .getfield 103, 5, 3, 2), (68, 1, .iload_n 1, 1, 0, 0), (69, 1, .iaload, 0, 0, 0), (70, 1, .iload_n 2, 2, 0, 0), (71, 2, .iload 4, 4, 0, 0), (73, 3, .invokevirtual 219, 204, 5, 1), (76, 3, .ifCond .ne 5, 81, 0, 0), (79, 1, .iconst (-1), 4294967295, 0, 0), (80, 1, .ireturn, 0, 0, 0), (81, 1, .iload_n 3, 3, 0, 0), (82, 3, .ifCond .ne 15, 97, 0, 0), (85, 1, .aload_n 0, 0, 0, 0), (86, 3, .getfield 65, 8, 10, 2), (89, 2, .iload 4, 4, 0, 0), (91, 3, .invokevirtual 230, 203, 2, 1), (94, 3, .goto 12, 106, 0, 0), (97, 1, .aload_n 0, 0, 0, 0), (98, 3, .getfield 65, 8, 10, 2), (101, 3, .getfield 216, 1, 1, 0), (104, 1, .iconst 1, 1, 0, 0), (105, 1, .isub, 0, 0, 0), (106, 1, .ireturn, 0, 0, 0)]
def q_cd90 : List q_I := [(0, 1, .aload_n 0, 0, 0, 0), (1, 1, .iload_n 1, 1, 0, 0), (2, 3, .invokevirtual 99, 25, 2, 8), (5, 3, .ifCond .eq 13, 18, 0, 0), (8, 1, .iload_n 2, 2, 0, 0), (9, 3, .ifCond .lt 9, 18, 0, 0), (12, 1, .iload_n 2, 2, 0, 0), (13, 2, .bipush 25, 25, 0, 0), (15, 3, .if_icmp .le 5, 20, 0, 0), (18, 1, .iconst (-1), 4294967295, 0, 0), (19, 1, .ireturn, 0, 0, 0), (20, 1, .aload_n 0, 0, 0, 0), (21, 3, .getfield 44, 8, 6, 2), (24, 3, .getfield 103, 5, 3, 2), (27, 1, .iload_n 1, 1, 0, 0), (28, 1, .iaload, 0, 0, 0), (29, 3, .invokestatic 233, 16, 1, 0), (32, 1, .istore_n 3, 3, 0, 0), (33, 1, .iconst 0, 0, 0, 0), (34, 2, .istore 4, 4, 0, 0), (36, 2, .iload 4, 4, 0, 0), (38, 1, .iload_n 2, 2, 0, 0), (39, 3, .if_icmp .ge 18, 57, 0, 0), (42, 1, .aload_n 0, 0, 0, 0), (43, 3, .getfield 37, 8, 5, 2), (46, 1, .iload_n 3, 3, 0, 0), (47, 3, .invokevirtual 236, 26, 2, 3), (50, 1, .istore_n 3, 3, 0, 0), (51, 3, .iinc 4 1, 4, 1, 0), (54, 3, .goto (-18), 36, 0, 0), (57, 1, .iload_n 3, 3, 0, 0), (58, 1, .ireturn, 0, 0, 0)]
def q_cd91 : List q_I := [(0, 1, .aload_n 0, 0, 0, 0), (1, 1, .iload_n 1, 1, 0, 0), (2, 1, .iload_n 2, 2, 0, 0), (3, 3, .invokevirtual 149, 45, 3, 8), (6, 3, .ifCond .eq 10, 16, 0, 0), (9, 1, .iload_n 3, 3, 0, 0), (10, 3, .invokestatic 227, 22, 1, 0), (13, 3, .ifCond .ne 5, 18, 0, 0), (16, 1, .iconst (-1), 4294967295, 0, 0), (17, 1, .ireturn, 0, 0, 0), (18, 1, .aload_n 0, 0, 0, 0), (19, 3, .getfield 44, 8, 6, 2), (22, 3, .getfield 103, 5, 3, 2), (25, 1, .iload_n 1, 1, 0, 0), (26, 1, .iaload, 0, 0, 0), (27, 3, .invokestatic 233, 16, 1, 0), (30, 2, .istore 4, 4, 0, 0), (32, 1, .aload_n 0, 0, 0, 0), (33, 3, .getfield 44, 8, 6, 2), (36, 3, .getfield 103, 5, 3, 2), (39, 1, .iload_n 2, 2, 0, 0), (40, 1, .iaload, 0, 0, 0), (41, 3, .invokestatic 233, 16, 1, 0), (44, 2, .istore 5, 5, 0, 0), (46, 1, .iconst 0, 0, 0, 0), (47, 2, .istore 6, 6, 0, 0), (49, 2, .iload 6, 6, 0, 0), (51, 2, .bipush 25, 25, 0, 0), (53, 3, .if_icmp .gt 58, 111, 0, 0), (56, 2, .iload 4, 4, 0, 0), (58, 2, .iload 5, 5, 0, 0), (60, 1, .iand, 0, 0, 0), (61, 2, .istore 7, 7, 0, 0), (63, 2, .iload 7, 7, 0, 0), (65, 3, .ifCond .eq 18, 83, 0, 0), (68, 1, .iload_n 3, 3, 0, 0), (69, 3, .ifCond .ne 8, 77, 0, 0), (72, 2, .iload 6, 6, 0, 0), (74, 3, .goto 8, 82, 0, 0), (77, 2, .iload 7, 7, 0, 0), (79, 3, .invokestatic 245, 192, 1, 0), (82, 1, .ireturn, 0, 0, 0), (83, 1, .aload_n 0, 0, 0, 0), (84, 3, .getfield 37, 8, 5, 2), (87, 2, .iload 4, 4, 0, 0), (89, 3, .invokevirtual 236, 26, 2, 3), (92, 2, .istore 4, 4, 0, 0), (94, 1, .aload_n 0, 0, 0, 0), (95, 3, .getfield 37, 8, 5, 2), (98, 2, .iload 5, 5, 0, 0), (100, 3, .invokevirtual 236, 26, 2, 3), (103, 2, .istore 5, 5, 0, 0), (105, 3, .iinc 6 1, 6, 1, 0), (108, 3, .goto (-59), 49, 0, 0), (111, 1, .iconst (-1), 4294967295, 0, 0), (112, 1, .ireturn, 0, 0, 0)]
def q_cd92 : List q_I := [(0, 1, .aload_n 0, 0, 0, 0), (1, 1, .iload_n 1, 1, 0, 0), (2, 3, .invokevirtual 99, 25, 2, 8), (5, 3, .ifCond .eq 13, 18, 0, 0), (8, 1, .iload_n 2, 2, 0, 0), (9, 3, .ifCond .lt 9, 18, 0, 0), (12, 1, .iload_n 2, 2, 0, 0), (13, 2, .bipush 9, 9, 0, 0), (15, 3, .if_icmp .le 5, 20, 0, 0), (18, 1, .iconst (-1), 4294967295, 0, 0), (19, 1, .ireturn, 0, 0, 0), (20, 1, .aload_n 0, 0, 0, 0), (21, 3, .getfield 65, 8, 10, 2), (24, 1, .aload_n 0, 0, 0, 0), (25, 3, .getfield 37, 8, 5, 2), (28, 1, .aload_n 0, 0, 0, 0), (29, 3, .getfield 44, 8, 6, 2), (32, 3, .getfield 103, 5, 3, 2), (35, 1, .iload_n 1, 1, 0, 0), (36, 1, .iaload, 0, 0, 0), (37, 1, .iload_n 2, 2, 0, 0), (38, 3, .invokevirtual 248, 201, 4, 1), (41, 1, .ireturn, 0, 0, 0)]
def q_cd93 : List q_I := [(0, 1, .aload_n 0, 0, 0, 0), (1, 1, .iload_n 1, 1, 0, 0), (2, 3, .invokevirtual 99, 25, 2, 8), (5, 3, .ifCond .eq 21, 26, 0, 0), (8, 1, .aload_n 0, 0, 0, 0), (9, 3, .getfield 37, 8, 5, 2), (12, 1, .aload_n 0, 0, 0, 0), (13, 3, .getfield 44, 8, 6, 2), (16, 1, .iload_n 1, 1, 0, 0), (17, 3, .invokevirtual 119, 234, 2, 5), (20, 3, .invokevirtual 242, 175, 2, 3), (23, 3, .goto 4, 27, 0, 0), (26, 1, .iconst (-1), 4294967295, 0, 0), (27, 1, .ireturn, 0, 0, 0)]
def q_cd94 : List q_I := [(0, 1, .aload_n 0, 0, 0, 0), (1, 1, .iload_n 1, 1, 0, 0), (2, 3, .invokevirtual 99, 25, 2, 8), (5, 3, .ifCond .eq 18, 23, 0, 0), (8, 1, .iload_n 2, 2, 0, 0), (9, 3, .ifCond .lt 14, 23, 0, 0), (12, 1, .iload_n 2, 2, 0, 0), (13, 1, .aload_n 0, 0, 0, 0), (14, 3, .getfield 44, 8, 6, 2), (17, 3, .invokevirtual 254, 134, 1, 5), (20, 3, .if_icmp .lt 5, 25, 0, 0), (23, 1, .iconst (-1), 4294967295, 0, 0), (24, 1, .ireturn, 0, 0, 0), (25, 1, .aload_n 0, 0, 0, 0), (26, 3, .getfield 44, 8, 6, 2), (29, 1, .iload_n 2, 2, 0, 0), (30, 1, .iload_n 1, 1, 0, 0), (31, 3, .invokevirtual 257, 235, 3, 5), (34, 1, .ireturn, 0, 0, 0)]
def q_cd95 : List q_I := [(0, 1, .aload_n 0, 0, 0, 0), (1, 1, .iload_n 1, 1, 0, 0), (2, 1, .iload_n 2, 2, 0, 0), (3, 3, .invokevirtual 149, 45, 3, 8), (6, 3, .ifCond .ne 5, 11, 0, 0), (9, 1, .iconst (-1), 4294967295, 0, 0), (10, 1, .ireturn, 0, 0, 0), (11, 1, .aload_n 0, 0, 0, 0), (12, 3, .getfield 44, 8, 6, 2), (15, 3, .invokevirtual 254, 134, 1, 5), (18, 1, .istore_n 3, 3, 0, 0), (19, 1, .iconst 0, 0, 0, 0), (20, 2, .istore 4, 4, 0, 0), (22, 2, .iload 4, 4, 0, 0), (24, 1, .iload_n 3, 3, 0, 0), (25, 3, .if_icmp .ge 35, 60, 0, 0), (28, 1, .aload_n 0, 0, 0, 0), (29, 3, .getfield 44, 8, 6, 2), (32, 2, .iload 4, 4, 0, 0), (34, 1, .iload_n 1, 1, 0, 0), (35, 3, .invokevirtual 257, 235, 3, 5), (38, 1, .aload_n 0, 0, 0, 0), (39, 3, .getfield 44, 8, 6, 2), (42, 2, .iload 4, 4, 0, 0), (44, 1, .iload_n 2, 2, 0, 0), (45, 3, .invokevirtual 257, 235, 3, 5), (48, 3, .if_icmp .ne 6, 54, 0, 0), (51, 2, .iload 4, 4, 0, 0), (53, 1, .ireturn, 0, 0, 0), (54, 3, .iinc 4 1, 4, 1, 0), (57, 3, .goto (-35), 22, 0, 0), (60, 1, .iconst (-1), 4294967295, 0, 0), (61, 1, .ireturn, 0, 0, 0)]
def q_cd96 : List q_I := [(0, 1, .aload_n 0, 0, 0, 0), (1, 1, .iload_n 1, 1, 0, 0), (2, 3, .invokevirtual 99, 25, 2, 8), (5, 3, .ifCond .ne 5, 10, 0, 0), (8, 1, .iconst (-1), 4294967295, 0, 0), (9, 1, .ireturn, 0, 0, 0), (10, 1, .aload_n 0, 0, 0, 0), (11, 3, .getfield 44, 8, 6, 2), (14, 3, .invokevirtual 254, 134, 1, 5), (17, 1, .istore_n 2, 2, 0, 0), (18, 1, .iconst 0, 0, 0, 0), (19, 1, .istore_n 3, 3, 0, 0), (20, 1, .iconst 0, 0, 0, 0), (21, 2, .istore 4, 4, 0, 0), (23, 2, .iload 4, 4, 0, 0), (25, 1, .iload_n 2, 2, 0, 0), (26, 3, .if_icmp .ge 33, 59, 0, 0), (29, 1, .aload_n 0, 0, 0, 0), (30, 3, .getfield 44, 8, 6, 2), (33, 2, .iload 4, 4, 0, 0), (35, 1, .iload_n 1, 1, 0, 0), (36, 1, .aload_n 0, 0, 0, 0), (37, 3, .getfield 27, 8, 3, 2), (40, 3, .getfield 90, 7, 8, 0), (43, 3, .invokevirtual 260, 236, 4, 5), (46, 1, .iconst 1, 1, 0, 0), (47, 3, .if_icmp .ne 6, 53, 0, 0), (50, 3, .iinc 3 1, 3, 1, 0), (53, 3, .iinc 4 1, 4, 1, 0), (56, 3, .goto (-33), 23, 0, 0), (59, 1, .iload_n 3, 3, 0, 0), (60, 1, .ireturn, 0, 0, 0)]
def q_cd97 : List q_I := [(0, 1, .iload_n 1, 1, 0, 0), (1, 1, .iconst 1, 1, 0, 0), (2, 3, .sipush 999, 999, 0, 0), (5, 3, .invokestatic 357, 12, 3, 0), (8, 3, .ifCond .ne 5, 13, 0, 0), (11, 1, .iconst (-1), 4294967295, 0, 0), (12, 1, .ireturn, 0, 0, 0), (13, 1, .iconst 0, 0, 0, 0), (14, 1, .istore_n 2, 2, 0, 0), (15, 1, .iconst 0, 0, 0, 0), (16, 1, .istore_n 3, 3, 0, 0), (17, 1, .iload_n 3, 3, 0, 0), (18, 1, .aload_n 0, 0, 0, 0), (19, 3, .invokevirtual 354, 11, 1, 9), (22, 3, .if_icmp .ge 24, 46, 0, 0), (25, 1, .aload_n 0, 0, 0, 0), (26, 1, .iload_n 3, 3, 0, 0), (27, 1, .iload_n 1, 1, 0, 0), (28, 3, .invokevirtual 460, 261, 3, 9), (31, 3, .ifCond .eq 9, 40, 0, 0), (34, 1, .iload_n 2, 2, 0, 0), (35, 1, .iconst 1, 1, 0, 0), (36, 1, .iload_n 3, 3, 0, 0), (37, 1, .ishl, 0, 0, 0), (38, 1, .ior, 0, 0, 0), (39, 1, .istore_n 2, 2, 0, 0), (40, 3, .iinc 3 1, 3, 1, 0), (43, 3, .goto (-26), 17, 0, 0), (46, 1, .iload_n 2, 2, 0, 0), (47, 1, .ireturn, 0, 0, 0)]
def q_cd98 : List q_I := [(0, 1, .aload_n 0, 0, 0, 0), (1, 1, .iload_n 1, 1, 0, 0), (2, 1, .iload_n 2, 2, 0, 0), (3, 3, .invokevirtual 149, 45, 3, 8), (6, 3, .ifCond .ne 5, 11, 0, 0), (9, 1, .iconst (-1), 4294967295, 0, 0), (10, 1, .ireturn, 0, 0, 0), (11, 1, .aload_n 0, 0, 0, 0), (12, 3, .getfield 65, 8, 10, 2), (15, 1, .aload_n 0, 0, 0, 0), (16, 3, .getfield 37, 8, 5, 2), (19, 1, .aload_n 0, 0, 0, 0), (20, 3, .getfield 44, 8, 6, 2), (23, 3, .getfield 103, 5, 3, 2), (26, 1, .iload_n 1, 1, 0, 0), (27, 1, .iaload, 0, 0, 0), (28, 1, .aload_n 0, 0, 0, 0), (29, 3, .getfield 44, 8, 6, 2), (32, 3, .getfield 103, 5, 3, 2), (35, 1, .iload_n 2, 2, 0, 0), (36, 1, .iaload, 0, 0, 0), (37, 3, .invokevirtual 297, 206, 4, 1), (40, 1, .ireturn, 0, 0, 0)]
def q_cd99 : List q_I := [(0, 1, .iload_n 1, 1, 0, 0), (1, 3, .ifCond .lt 26, 27, 0, 0), (4, 1, .iload_n 1, 1, 0, 0), (5, 1, .aload_n 0, 0, 0, 0), (6, 3, .getfield 65, 8, 10, 2), (9, 3, .getfield 216, 1, 1, 0), (12, 3, .if_icmp .ge 15, 27, 0, 0), (15, 1, .aload_n 0, 0, 0, 0), (16, 3, .getfield 65, 8, 10, 2), (19, 3, .getfield 303, 1, 0, 2), (22, 1, .iload_n 1, 1, 0, 0), (23, 1, .iaload, 0, 0, 0), (24, 3, .goto 4, 28, 0, 0), (27, 1, .iconst (-1), 4294967295, 0, 0), (28, 1, .ireturn, 0, 0, 0)]
def q_cd100 : List q_I := [(0, 1, .aload_n 0, 0, 0, 0), (1, 3, .getfield 72, 8, 11, 2), (4, 1, .iload_n 1, 1, 0, 0), (5, 1, .aload_n 0, 0, 0, 0), (6, 3, .getfield 76, 8, 12, 0), (9, 3, .invokevirtual 315, 101, 3, 6), (12, 1, .ireturn, 1, 0, 0)]
def q_cd101 : List q_I := [(0, 1, .iload_n 1, 1, 0, 0), (1, 3, .ifCond .lt 21, 22, 0, 0), (4, 1, .iload_n 1, 1, 0, 0), (5, 1, .aload_n 0, 0, 0, 0), (6, 3, .getfield 24, 6, 4, 0), (9, 3, .if_icmp .ge 13, 22, 0, 0), (12, 1, .aload_n 0, 0, 0, 0), (13, 3, .getfield 21, 6, 3, 2), (16, 1, .iload_n 1, 1, 0, 0), (17, 1, .iaload, 0, 0, 0), (18, 1, .iconst (-1), 4294967295, 0, 0), (19, 3, .if_icmp .eq 5, 24, 0, 0), (22, 1, .iconst 0, 0, 0, 0), (23, 1, .ireturn, 1, 0, 0), (24, 1, .aload_n 0, 0, 0, 0), (25, 3, .getfield 21, 6, 3, 2), (28, 1, .iload_n 1, 1, 0, 0), (29, 1, .iload_n 2, 2, 0, 0), (30, 1, .iastore, 0, 0, 0), (31, 1, .iconst 1, 1, 0, 0), (32, 1, .ireturn, 1, 0, 0)]
def q_cd102 : List q_I := [(0, 1, .iconst 0, 0, 0, 0), (1, 1, .istore_n 2, 2, 0, 0), (2, 1, .iconst 0, 0, 0, 0), (3, 1, .istore_n 3, 3, 0, 0), (4, 1, .iload_n 3, 3, 0, 0), (5, 1, .iconst 5, 5, 0, 0), (6, 3, .if_icmp .ge 30, 36, 0, 0), (9, 1, .iload_n 2, 2, 0, 0), (10, 1, .iload_n 1, 1, 0, 0), (11, 1, .iload_n 3, 3, 0, 0), (12, 3, .invokestatic 78, 3, 2, 0), (15, 3, .ifCond .eq 12, 27, 0, 0), (18, 1, .aload_n 0, 0, 0, 0), (19, 3, .getfield 24, 5, 4, 2), (22, 1, .iload_n 3, 3, 0, 0), (23, 1, .iaload, 0, 0, 0), (24, 3, .goto 4, 28, 0, 0), (27, 1, .iconst 0, 0, 0, 0), (28, 1, .ior, 0, 0, 0), (29, 1, .istore_n 2, 2, 0, 0), (30, 3, .iinc 3 1, 3, 1, 0), (33, 3, .goto (-29), 4, 0, 0), (36, 1, .iload_n 2, 2, 0, 0), (37, 1, .ireturn, 0, 0, 0)]
def q_cd103 : List q_I := [(0, 1, .iload_n 1, 1, 0, 0), (1, 3, .ifCond .lt 22, 23, 0, 0), (4, 1, .iload_n 1, 1, 0, 0), (5, 3, .sipush 1000, 1000, 0, 0), (8, 3, .if_icmp .gt 15, 23, 0, 0), (11, 1, .aload_n 0, 0, 0, 0), (12, 3, .getfield 76, 8, 12, 0), (15, 1, .iload_n 1, 1, 0, 0), (16, 1, .iadd, 0, 0, 0), (17, 3, .ldc_w 318, 100000, 0, 0), (20, 3, .if_icmp .le 5, 25, 0, 0), (23, 1, .iconst (-1), 4294967295, 0, 0), (24, 1, .ireturn, 0, 0, 0), (25, 1, .aload_n 0, 0, 0, 0), (26, 1, .dup, 0, 0, 0), (27, 3, .getfield 76, 8, 12, 0), (30, 1, .iload_n 1, 1, 0, 0), (31, 1, .iadd, 0, 0, 0), (32, 3, .putfield 76, 8, 12, 0), (35, 1, .aload_n 0, 0, 0, 0), (36, 3, .getfield 76, 8, 12, 0), (39, 1, .ireturn, 0, 0, 0)]
def q_cd104 : List q_I := [(0, 1, .iload_n 1, 1, 0, 0), (1, 1, .iconst 0, 0, 0, 0), (2, 3, .sipush 1000, 1000, 0, 0), (5, 3, .invokestatic 357, 12, 3, 0), (8, 3, .ifCond .eq 15, 23, 0, 0), (11, 1, .aload_n 0, 0, 0, 0), (12, 3, .getfield 472, 9, 65, 0), (15, 1, .iload_n 1, 1, 0, 0), (16, 1, .iadd, 0, 0, 0), (17, 3, .ldc_w 479, 100000, 0, 0), (20, 3, .if_icmp .le 5, 25, 0, 0), (23, 1, .iconst (-1), 4294967295, 0, 0), (24, 1, .ireturn, 0, 0, 0), (25, 1, .aload_n 0, 0, 0, 0), (26, 1, .dup, 0, 0, 0), (27, 3, .getfield 472, 9, 65, 0), (30, 1, .iload_n 1, 1, 0, 0), (31, 1, .iadd, 0, 0, 0), (32, 3, .putfield 472, 9, 65, 0), (35, 1, .aload_n 0, 0, 0, 0), (36, 3, .getfield 472, 9, 65, 0), (39, 1, .ireturn, 0, 0, 0)]
def q_cd105 : List q_I := [(0, 1, .iload_n 1, 1, 0, 0), (1, 3, .ifCond .lt 9, 10, 0, 0), (4, 1, .iload_n 1, 1, 0, 0), (5, 2, .bipush 60, 60, 0, 0), (7, 3, .if_icmp .le 5, 12, 0, 0), (10, 1, .iconst (-1), 4294967295, 0, 0), (11, 1, .ireturn, 0, 0, 0), (12, 1, .iconst 0, 0, 0, 0), (13, 1, .istore_n 2, 2, 0, 0), (14, 1, .iconst 0, 0, 0, 0), (15, 1, .istore_n 3, 3, 0, 0), (16, 1, .iload_n 3, 3, 0, 0), (17, 1, .aload_n 0, 0, 0, 0), (18, 3, .getfield 37, 8, 5, 2), (21, 3, .getfield 187, 3, 5, 0), (24, 3, .if_icmp .ge 34, 58, 0, 0), (27, 1, .aload_n 0, 0, 0, 0), (28, 3, .getfield 44, 8, 6, 2), (31, 3, .getfield 126, 5, 0, 2), (34, 1, .iload_n 3, 3, 0, 0), (35, 1, .iaload, 0, 0, 0), (36, 1, .iconst (-1), 4294967295, 0, 0), (37, 3, .if_icmp .eq 15, 52, 0, 0), (40, 1, .aload_n 0, 0, 0, 0), (41, 1, .iload_n 3, 3, 0, 0), (42, 1, .iload_n 1, 1, 0, 0), (43, 3, .invokevirtual 300, 194, 3, 8), (46, 3, .ifCond .eq 6, 52, 0, 0), (49, 3, .iinc 2 1, 2, 1, 0), (52, 3, .iinc 3 1, 3, 1, 0), (55, 3, .goto (-39), 16, 0, 0), (58, 1, .iload_n 2, 2, 0, 0), (59, 1, .ireturn, 0, 0, 0)]
def q_cd106 : List q_I := [(0, 1, .iload_n 1, 1, 0, 0), (1, 1, .iconst 0, 0, 0, 0), (2, 2, .bipush 60, 60, 0, 0), (4, 3, .invokestatic 357, 12, 3, 0), (7, 3, .ifCond .ne 5, 12, 0, 0), (10, 1, .iconst (-1), 4294967295, 0, 0), (11, 1, .ireturn, 0, 0, 0), (12, 1, .iconst 0, 0, 0, 0), (13, 1, .istore_n 2, 2, 0, 0), (14, 1, .aload_n 0, 0, 0, 0), (15, 3, .getfield 92, 9, 41, 2), (18, 3, .sipush 435, 435, 0, 0), (21, 1, .iaload, 0, 0, 0), (22, 1, .istore_n 3, 3, 0, 0), (23, 1, .iconst 0, 0, 0, 0), (24, 2, .istore 4, 4, 0, 0), (26, 2, .iload 4, 4, 0, 0), (28, 1, .aload_n 0, 0, 0, 0), (29, 3, .invokevirtual 364, 0, 1, 9), (32, 3, .if_icmp .ge 28, 60, 0, 0), (35, 1, .aload_n 0, 0, 0, 0), (36, 3, .getfield 92, 9, 41, 2), (39, 1, .iconst 5, 5, 0, 0), (40, 2, .iload 4, 4, 0, 0), (42, 1, .iadd, 0, 0, 0), (43, 1, .iaload, 0, 0, 0), (44, 3, .ifCond .lt 10, 54, 0, 0), (47, 1, .iload_n 2, 2, 0, 0), (48, 1, .iconst 1, 1, 0, 0), (49, 2, .iload 4, 4, 0, 0), (51, 1, .ishl, 0, 0, 0), (52, 1, .ior, 0, 0, 0), (53, 1, .istore_n 2, 2, 0, 0), (54, 3, .iinc 4 1, 4, 1, 0), (57, 3, .goto (-31), 26, 0, 0), (60, 1, .iconst 1, 1, 0, 0), (61, 2, .istore 4, 4, 0, 0), (63, 2, .iload 4, 4, 0, 0), (65, 1, .iload_n 1, 1, 0, 0), (66, 3, .if_icmp .gt 57, 123, 0, 0), (69, 1, .aload_n 0, 0, 0, 0), (70, 3, .getfield 92, 9, 41, 2), (73, 3, .sipush 435, 435, 0, 0), (76, 1, .iload_n 3, 3, 0, 0), (77, 2, .iload 4, 4, 0, 0), (79, 1, .iadd, 0, 0, 0), (80, 1, .iastore, 0, 0, 0), (81, 1, .iconst 0, 0, 0, 0), (82, 2, .istore 5, 5, 0, 0), (84, 2, .iload 5, 5, 0, 0), (86, 1, .aload_n 0, 0, 0, 0), (87, 3, .invokevirtual 364, 0, 1, 9), (90, 3, .if_icmp .ge 27, 117, 0, 0), (93, 1, .aload_n 0, 0, 0, 0), (94, 2, .iload 5, 5, 0, 0), (96, 3, .invokevirtual 397, 18, 2, 9), (99, 3, .ifCond .eq 12, 111, 0, 0), (102, 1, .iload_n 2, 2, 0, 0), (103, 1, .iconst 1, 1, 0, 0), (104, 2, .iload 5, 5, 0, 0), (106, 1, .ishl, 0, 0, 0), (107, 1, .iconst (-1), 4294967295, 0, 0), (108, 1, .ixor, 0, 0, 0), (109, 1, .iand, 0, 0, 0), (110, 1, .istore_n 2, 2, 0, 0), (111, 3, .iinc 5 1, 5, 1, 0), (114, 3, .goto (-30), 84, 0, 0), (117, 3, .iinc 4 1, 4, 1, 0), (120, 3, .goto (-57), 63, 0, 0), (123, 1, .aload_n 0, 0, 0, 0), (124, 3, .getfield 92, 9, 41, 2), (127, 3, .sipush 435, 435, 0, 0), (130, 1, .iload_n 3, 3, 0, 0), (131, 1, .iastore, 0, 0, 0), (132, 1, .iload_n 2, 2, 0, 0), (133, 3, .invokestatic 403, 139, 1, 0), (136, 1, .ireturn, 0, 0, 0)]
def q_cd107 : List q_I := [(0, 1, .iconst 0, 0, 0, 0), (1, 1, .istore_n 1, 1, 0, 0), (2, 1, .iconst 0, 0, 0, 0), (3, 1, .istore_n 2, 2, 0, 0), (4, 1, .iload_n 2, 2, 0, 0), (5, 2, .bipush 25, 25, 0, 0), (7, 3, .if_icmp .ge 18, 25, 0, 0), (10, 1, .iload_n 1, 1, 0, 0), (11, 1, .aload_n 0, 0, 0, 0), (12, 3, .getfield 31, 6, 6, 2), (15, 1, .iload_n 2, 2, 0, 0), (16, 1, .iaload, 0, 0, 0), (17, 1, .iadd, 0, 0, 0), (18, 1, .istore_n 1, 1, 0, 0), (19, 3, .iinc 2 1, 2, 1, 0), (22, 3, .goto (-18), 4, 0, 0), (25, 1, .iload_n 1, 1, 0, 0), (26, 1, .ireturn, 0, 0, 0)]
def q_cd108 : List q_I := [(0, 1, .aload_n 0, 0, 0, 0), (1, 3, .invokespecial 3, 0, 0, 78), (4, 1, .aload_n 0, 0, 0, 0), (5, 1, .iconst 5, 5, 0, 0), (6, 2, .newarray .int, 1, 0, 0), (8, 3, .putfield 9, 7, 0, 2), (11, 1, .aload_n 0, 0, 0, 0), (12, 1, .iconst 5, 5, 0, 0), (13, 2, .newarray .int, 1, 0, 0), (15, 3, .putfield 15, 7, 1, 2), (18, 1, .aload_n 0, 0, 0, 0), (19, 1, .iconst 5, 5, 0, 0), (20, 2, .newarray .int, 1, 0, 0), (22, 3, .putfield 18, 7, 2, 2), (25, 1, .aload_n 0, 0, 0, 0), (26, 3, .new 21, 2, 4, 1267650605024382860940359499792), (29, 1, .dup, 0, 0, 0), (30, 3, .invokespecial 23, 109, 1, 2), (33, 3, .putfield 24, 7, 3, 2), (36, 1, .aload_n 0, 0, 0, 0), (37, 1, .iconst 4, 4, 0, 0), (38, 3, .putfield 28, 7, 4, 0), (41, 1, .aload_n 0, 0, 0, 0), (42, 1, .iconst 4, 4, 0, 0), (43, 3, .putfield 32, 7, 5, 0), (46, 1, .aload_n 0, 0, 0, 0), (47, 1, .iconst 0, 0, 0, 0), (48, 3, .putfield 35, 7, 6, 0), (51, 1, .aload_n 0, 0, 0, 0), (52, 1, .iconst 0, 0, 0, 0), (53, 3, .putfield 38, 7, 7, 0), (56, 1, .aload_n 0, 0, 0, 0), (57, 1, .iconst 0, 0, 0, 0), (58, 3, .putfield 41, 7, 8, 0), (61, 1, .aload_n 0, 0, 0, 0), (62, 1, .iconst 0, 0, 0, 0), (63, 3, .putfield 44, 7, 9, 0), (66, 1, .aload_n 0, 0, 0, 0), (67, 1, .iconst 0, 0, 0, 0), (68, 3, .putfield 47, 7, 10, 0), (71, 1, .aload_n 0, 0, 0, 0), (72, 1, .iconst 0, 0, 0, 0), (73, 3, .putfield 50, 7, 11, 0), (76, 1, .return_, 0, 0, 0)]
def q_cd109 : List q_I := [(0, 1, .aload_n 0, 0, 0, 0), (1, 3, .invokespecial 3, 0, 0, 78), (4, 1, .aload_n 0, 0, 0, 0), (5, 3, .sipush 280, 280, 0, 0), (8, 2, .newarray .int, 1, 0, 0), (10, 3, .putfield 9, 2, 0, 2), (13, 1, .aload_n 0, 0, 0, 0), (14, 2, .bipush 31, 31, 0, 0), (16, 2, .newarray .int, 1, 0, 0), (18, 3, .putfield 15, 2, 1, 2), (21, 1, .aload_n 0, 0, 0, 0), (22, 1, .iconst 5, 5, 0, 0), (23, 2, .newarray .int, 1, 0, 0), (25, 3, .putfield 18, 2, 2, 2), (28, 1, .aload_n 0, 0, 0, 0), (29, 1, .iconst 0, 0, 0, 0), (30, 3, .putfield 21, 2, 3, 0), (33, 1, .return_, 0, 0, 0)]
def q_cd110 : List q_I := [(0, 1, .aload_n 0, 0, 0, 0), (1, 3, .getfield 37, 8, 5, 2), (4, 1, .aload_n 0, 0, 0, 0), (5, 3, .getfield 27, 8, 3, 2), (8, 3, .getfield 351, 7, 4, 0), (11, 1, .aload_n 0, 0, 0, 0), (12, 3, .getfield 27, 8, 3, 2), (15, 3, .getfield 352, 7, 5, 0), (18, 1, .aload_n 0, 0, 0, 0), (19, 3, .getfield 27, 8, 3, 2), (22, 3, .getfield 340, 7, 6, 0), (25, 3, .invokevirtual 353, 111, 4, 3), (28, 1, .aload_n 0, 0, 0, 0), (29, 3, .getfield 44, 8, 6, 2), (32, 1, .aload_n 0, 0, 0, 0), (33, 3, .getfield 27, 8, 3, 2), (36, 3, .invokevirtual 357, 112, 2, 5), (39, 1, .aload_n 0, 0, 0, 0), (40, 3, .getfield 51, 8, 7, 2), (43, 3, .invokevirtual 334, 113, 1, 0), (46, 1, .aload_n 0, 0, 0, 0), (47, 3, .getfield 72, 8, 11, 2), (50, 1, .iconst 0, 0, 0, 0), (51, 3, .putfield 346, 6, 4, 0), (54, 1, .aload_n 0, 0, 0, 0), (55, 3, .getfield 65, 8, 10, 2), (58, 1, .iconst 0, 0, 0, 0), (59, 3, .putfield 216, 1, 1, 0), (62, 1, .aload_n 0, 0, 0, 0), (63, 1, .iconst 0, 0, 0, 0), (64, 3, .putfield 59, 8, 9, 0), (67, 1, .return_, 0, 0, 0)]
def q_cd111 : List q_I := [(0, 1, .aload_n 0, 0, 0, 0), (1, 1, .iload_n 1, 1, 0, 0), (2, 3, .putfield 21, 3, 3, 0), (5, 1, .aload_n 0, 0, 0, 0), (6, 1, .iload_n 2, 2, 0, 0), (7, 3, .putfield 25, 3, 4, 0), (10, 1, .aload_n 0, 0, 0, 0), (11, 1, .aload_n 0, 0, 0, 0), (12, 3, .getfield 21, 3, 3, 0), (15, 1, .aload_n 0, 0, 0, 0), (16, 3, .getfield 25, 3, 4, 0), (19, 1, .imul, 0, 0, 0), (20, 2, .bipush 25, 25, 0, 0), (22, 3, .invokestatic 43, 62, 2, 0), (25, 3, .putfield 28, 3, 5, 0), (28, 1, .aload_n 0, 0, 0, 0), (29, 1, .aload_n 0, 0, 0, 0), (30, 3, .getfield 28, 3, 5, 0), (33, 3, .invokestatic 49, 16, 1, 0), (36, 1, .iconst 1, 1, 0, 0), (37, 1, .isub, 0, 0, 0), (38, 3, .putfield 31, 3, 6, 0), (41, 1, .aload_n 0, 0, 0, 0), (42, 1, .aload_n 0, 0, 0, 0), (43, 3, .getfield 31, 3, 6, 0), (46, 1, .iload_n 3, 3, 0, 0), (47, 1, .iconst (-1), 4294967295, 0, 0), (48, 1, .ixor, 0, 0, 0), (49, 1, .iand, 0, 0, 0), (50, 3, .putfield 34, 3, 7, 0), (53, 1, .aload_n 0, 0, 0, 0), (54, 1, .iconst 0, 0, 0, 0), (55, 3, .putfield 37, 3, 8, 0), (58, 1, .aload_n 0, 0, 0, 0), (59, 1, .iconst 0, 0, 0, 0), (60, 3, .putfield 40, 3, 9, 0), (63, 1, .iconst 0, 0, 0, 0), (64, 2, .istore 4, 4, 0, 0), (66, 1, .iconst 0, 0, 0, 0), (67, 2, .istore 5, 5, 0, 0), (69, 1, .iconst 0, 0, 0, 0), (70, 2, .istore 6, 6, 0, 0), (72, 2, .iload 6, 6, 0, 0), (74, 1, .aload_n 0, 0, 0, 0), (75, 3, .getfield 28, 3, 5, 0), (78, 3, .if_icmp .ge 121, 199, 0, 0), (81, 1, .aload_n 0, 0, 0, 0), (82, 3, .getfield 15, 3, 1, 2), (85, 2, .iload 6, 6, 0, 0), (87, 2, .iload 4, 4, 0, 0), (89, 1, .iastore, 0, 0, 0), (90, 1, .aload_n 0, 0, 0, 0), (91, 3, .getfield 18, 3, 2, 2), (94, 2, .iload 6, 6, 0, 0), (96, 2, .iload 5, 5, 0, 0), (98, 1, .iastore, 0, 0, 0), (99, 1, .aload_n 0, 0, 0, 0), (100, 1, .dup, 0, 0, 0), (101, 3, .getfield 37, 3, 8, 0), (104, 2, .iload 5, 5, 0, 0), (106, 3, .ifCond .ne 11, 117, 0, 0), (109, 2, .iload 6, 6, 0, 0), (111, 3, .invokestatic 49, 16, 1, 0), (114, 3, .goto 4, 118, 0, 0), (117, 1, .iconst 0, 0, 0, 0), (118, 1, .ior, 0, 0, 0), (119, 3, .putfield 37, 3, 8, 0), (122, 1, .aload_n 0, 0, 0, 0), (123, 1, .dup, 0, 0, 0), (124, 3, .getfield 40, 3, 9, 0), (127, 2, .iload 5, 5, 0, 0), (129, 1, .aload_n 0, 0, 0, 0), (130, 3, .getfield 21, 3, 3, 0), (133, 1, .iconst 1, 1, 0, 0), (134, 1, .isub, 0, 0, 0), (135, 3, .if_icmp .ne 11, 146, 0, 0), (138, 2, .iload 6, 6, 0, 0), (140, 3, .invokestatic 49, 16, 1, 0), (143, 3, .goto 4, 147, 0, 0), (146, 1, .iconst 0, 0, 0, 0), (147, 1, .ior, 0, 0, 0), (148, 3, .putfield 40, 3, 9, 0), (151, 2, .iload 4, 4, 0, 0), (153, 2, .iload 5, 5, 0, 0), (155, 1, .aload_n 0, 0, 0, 0), (156, 3, .getfield 21, 3, 3, 0), (159, 1, .iconst 1, 1, 0, 0), (160, 1, .isub, 0, 0, 0), (161, 3, .if_icmp .ne 7, 168, 0, 0), (164, 1, .iconst 1, 1, 0, 0), (165, 3, .goto 4, 169, 0, 0), (168, 1, .iconst 0, 0, 0, 0), (169, 1, .iadd, 0, 0, 0), (170, 2, .istore 4, 4, 0, 0), (172, 2, .iload 5, 5, 0, 0), (174, 1, .aload_n 0, 0, 0, 0), (175, 3, .getfield 21, 3, 3, 0), (178, 1, .iconst 1, 1, 0, 0), (179, 1, .isub, 0, 0, 0), (180, 3, .if_icmp .ne 7, 187, 0, 0), (183, 1, .iconst 0, 0, 0, 0), (184, 3, .goto 7, 191, 0, 0), (187, 2, .iload 5, 5, 0, 0), (189, 1, .iconst 1, 1, 0, 0), (190, 1, .iadd, 0, 0, 0), (191, 2, .istore 5, 5, 0, 0), (193, 3, .iinc 6 1, 6, 1, 0), (196, 3, .goto (-124), 72, 0, 0), (199, 1, .iconst 0, 0, 0, 0), (200, 2, .istore 6, 6, 0, 0), (202, 2, .iload 6, 6, 0, 0), (204, 1, .aload_n 0, 0, 0, 0), (205, 3, .getfield 28, 3, 5, 0), (208, 3, .if_icmp .ge 41, 249, 0, 0), (211, 1, .aload_n 0, 0, 0, 0), (212, 3, .getfield 9, 3, 0, 2), (215, 2, .iload 6, 6, 0, 0), (217, 1, .aload_n 0, 0, 0, 0), (218, 3, .getfield 34, 3, 7, 0), (221, 2, .iload 6, 6, 0, 0), (223, 3, .invokestatic 53, 3, 2, 0), (226, 3, .ifCond .eq 15, 241, 0, 0), (229, 1, .aload_n 0, 0, 0, 0), (230, 2, .iload 6, 6, 0, 0), (232, 3, .invokestatic 49, 16, 1, 0), (235, 3, .invokevirtual 57, 26, 2, 3), (238, 3, .goto 4, 242, 0, 0), (241, 1, .iconst 0, 0, 0, 0), (242, 1, .iastore, 0, 0, 0), (243, 3, .iinc 6 1, 6, 1, 0), (246, 3, .goto (-44), 202, 0, 0), (249, 1, .return_, 0, 0, 0)]
def q_cd112 : List q_I := [(0, 1, .aload_n 0, 0, 0, 0), (1, 3, .getfield 9, 5, 0, 2), (4, 1, .iconst (-1), 4294967295, 0, 0), (5, 3, .invokestatic 52, 49, 2, 0), (8, 1, .aload_n 0, 0, 0, 0), (9, 3, .getfield 30, 5, 6, 2), (12, 1, .iconst 0, 0, 0, 0), (13, 3, .invokestatic 52, 49, 2, 0), (16, 1, .aload_n 0, 0, 0, 0), (17, 1, .iconst 0, 0, 0, 0), (18, 3, .putfield 40, 5, 9, 0), (21, 1, .aload_n 0, 0, 0, 0), (22, 1, .aload_n 1, 1, 0, 0), (23, 3, .getfield 58, 7, 10, 0), (26, 3, .putfield 43, 5, 10, 0), (29, 1, .aload_n 0, 0, 0, 0), (30, 1, .aload_n 1, 1, 0, 0), (31, 3, .invokevirtual 63, 80, 2, 5), (34, 1, .return_, 0, 0, 0)]
def q_cd113 : List q_I := [(0, 1, .aload_n 0, 0, 0, 0), (1, 1, .iconst 0, 0, 0, 0), (2, 3, .putfield 21, 0, 2, 0), (5, 1, .aload_n 0, 0, 0, 0), (6, 1, .iconst 0, 0, 0, 0), (7, 3, .putfield 24, 0, 3, 0), (10, 1, .return_, 0, 0, 0)]
def q_cd114 : List q_I := [(0, 1, .aload_n 0, 0, 0, 0), (1, 3, .getfield 20, 9, 11, 2), (4, 1, .aload_n 0, 0, 0, 0), (5, 3, .getfield 265, 9, 35, 0), (8, 1, .iconst 4, 4, 0, 0), (9, 1, .iastore, 0, 0, 0), (10, 1, .aload_n 0, 0, 0, 0), (11, 3, .getfield 24, 9, 12, 2), (14, 1, .aload_n 0, 0, 0, 0), (15, 3, .getfield 265, 9, 35, 0), (18, 1, .iconst 4, 4, 0, 0), (19, 1, .iastore, 0, 0, 0), (20, 1, .aload_n 0, 0, 0, 0), (21, 3, .getfield 27, 9, 13, 2), (24, 1, .aload_n 0, 0, 0, 0), (25, 3, .getfield 265, 9, 35, 0), (28, 1, .iconst 0, 0, 0, 0), (29, 1, .iastore, 0, 0, 0), (30, 1, .aload_n 0, 0, 0, 0), (31, 3, .getfield 30, 9, 14, 2), (34, 1, .aload_n 0, 0, 0, 0), (35, 3, .getfield 265, 9, 35, 0), (38, 1, .iconst 0, 0, 0, 0), (39, 1, .iastore, 0, 0, 0), (40, 1, .aload_n 0, 0, 0, 0), (41, 3, .getfield 33, 9, 15, 2), (44, 1, .aload_n 0, 0, 0, 0), (45, 3, .getfield 265, 9, 35, 0), (48, 1, .iconst 0, 0, 0, 0), (49, 1, .iastore, 0, 0, 0), (50, 1, .aload_n 0, 0, 0, 0), (51, 3, .getfield 36, 9, 16, 2), (54, 1, .aload_n 0, 0, 0, 0), (55, 3, .getfield 265, 9, 35, 0), (58, 1, .iconst 0, 0, 0, 0), (59, 1, .iastore, 0, 0, 0), (60, 1, .aload_n 0, 0, 0, 0), (61, 3, .getfield 39, 9, 17, 2), (64, 1, .aload_n 0, 0, 0, 0), (65, 3, .getfield 265, 9, 35, 0), (68, 1, .iconst 0, 0, 0, 0), (69, 1, .iastore, 0, 0, 0), (70, 1, .aload_n 0, 0, 0, 0), (71, 3, .getfield 42, 9, 18, 2), (74, 1, .aload_n 0, 0, 0, 0), (75, 3, .getfield 265, 9, 35, 0), (78, 1, .iconst 0, 0, 0, 0), (79, 1, .iastore, 0, 0, 0), (80, 1, .aload_n 0, 0, 0, 0), (81, 3, .getfield 45, 9, 19, 2), (84, 1, .aload_n 0, 0, 0, 0), (85, 3, .getfield 265, 9, 35, 0), (88, 1, .iconst 0, 0, 0, 0), (89, 1, .iastore, 0, 0, 0), (90, 1, .aload_n 0, 0, 0, 0), (91, 3, .getfield 63, 9, 25, 2), (94, 1, .aload_n 0, 0, 0, 0), (95, 3, .getfield 265, 9, 35, 0), (98, 1, .iconst 0, 0, 0, 0), (99, 1, .bastore, 0, 0, 0), (100, 1, .aload_n 0, 0, 0, 0), (101, 3, .getfield 67, 9, 26, 2), (104, 1, .aload_n 0, 0, 0, 0), (105, 3, .getfield 265, 9, 35, 0), (108, 1, .iconst 0, 0, 0, 0), (109, 1, .bastore, 0, 0, 0), (110, 1, .aload_n 0, 0, 0, 0), (111, 3, .getfield 70, 9, 27, 2), (114, 1, .aload_n 0, 0, 0, 0), (115, 3, .getfield 265, 9, 35, 0), (118, 1, .iconst 0, 0, 0, 0), (119, 1, .bastore, 0, 0, 0), (120, 1, .aload_n 0, 0, 0, 0), (121, 3, .sipush 560, 560, 0, 0), (124, 1, .aload_n 0, 0, 0, 0), (125, 3, .getfield 265, 9, 35, 0), (128, 1, .imul, 0, 0, 0), (129, 3, .putfield 268, 9, 36, 0), (132, 1, .return_, 0, 0, 0)]
def q_cd115 : List q_I := [(0, 1, .iconst 0, 0, 0, 0), (1, 1, .istore_n 1, 1, 0, 0), (2, 1, .iload_n 1, 1, 0, 0), (3, 3, .sipush 438, 438, 0, 0), (6, 3, .if_icmp .ge 16, 22, 0, 0), (9, 1, .aload_n 0, 0, 0, 0), (10, 3, .getfield 92, 9, 41, 2), (13, 1, .iload_n 1, 1, 0, 0), (14, 1, .iconst 0, 0, 0, 0), (15, 1, .iastore, 0, 0, 0), (16, 3, .iinc 1 1, 1, 1, 0), (19, 3, .goto (-17), 2, 0, 0), (22, 1, .iconst 0, 0, 0, 0), (23, 1, .istore_n 1, 1, 0, 0), (24, 1, .iload_n 1, 1, 0, 0), (25, 2, .bipush 25, 25, 0, 0), (27, 3, .if_icmp .ge 14, 41, 0, 0), (30, 1, .aload_n 0, 0, 0, 0), (31, 1, .iload_n 1, 1, 0, 0), (32, 3, .invokevirtual 373, 23, 2, 9), (35, 3, .iinc 1 1, 1, 1, 0), (38, 3, .goto (-14), 24, 0, 0), (41, 1, .aload_n 0, 0, 0, 0), (42, 3, .invokevirtual 376, 81, 1, 9), (45, 1, .aload_n 0, 0, 0, 0), (46, 3, .getfield 92, 9, 41, 2), (49, 3, .sipush 437, 437, 0, 0), (52, 1, .aload_n 0, 0, 0, 0), (53, 3, .getfield 45, 9, 19, 2), (56, 1, .aload_n 0, 0, 0, 0), (57, 3, .getfield 274, 9, 34, 0), (60, 1, .iaload, 0, 0, 0), (61, 1, .iastore, 0, 0, 0), (62, 1, .aload_n 0, 0, 0, 0), (63, 1, .iconst 0, 0, 0, 0), (64, 3, .putfield 379, 9, 43, 0), (67, 1, .aload_n 0, 0, 0, 0), (68, 1, .iconst 0, 0, 0, 0), (69, 3, .putfield 382, 9, 44, 0), (72, 1, .aload_n 0, 0, 0, 0), (73, 1, .iconst 0, 0, 0, 0), (74, 3, .putfield 385, 9, 64, 0), (77, 1, .aload_n 0, 0, 0, 0), (78, 1, .iconst 0, 0, 0, 0), (79, 3, .putfield 388, 9, 48, 0), (82, 1, .iconst 0, 0, 0, 0), (83, 1, .istore_n 1, 1, 0, 0), (84, 1, .iload_n 1, 1, 0, 0), (85, 1, .iconst 3, 3, 0, 0), (86, 3, .if_icmp .ge 16, 102, 0, 0), (89, 1, .aload_n 0, 0, 0, 0), (90, 3, .getfield 155, 9, 67, 2), (93, 1, .iload_n 1, 1, 0, 0), (94, 1, .iconst 0, 0, 0, 0), (95, 1, .bastore, 0, 0, 0), (96, 3, .iinc 1 1, 1, 1, 0), (99, 3, .goto (-15), 84, 0, 0), (102, 1, .return_, 0, 0, 0)]
def q_cd116 : List q_I := [(0, 1, .aload_n 0, 0, 0, 0), (1, 3, .getfield 167, 9, 4, 0), (4, 3, .ifCond .ne 7, 11, 0, 0), (7, 1, .iconst 1, 1, 0, 0), (8, 3, .goto 4, 12, 0, 0), (11, 1, .iconst 0, 0, 0, 0), (12, 1, .ireturn, 1, 0, 0)]
def q_cd117 : List q_I := [(0, 1, .aload_n 0, 0, 0, 0), (1, 1, .iload_n 1, 1, 0, 0), (2, 3, .invokevirtual 361, 29, 2, 9), (5, 3, .ifCond .ne 5, 10, 0, 0), (8, 1, .iconst (-1), 4294967295, 0, 0), (9, 1, .ireturn, 0, 0, 0), (10, 1, .iload_n 2, 2, 0, 0), (11, 37, .tableswitch 104 0 5 #[37, 46, 60, 74, 88, 98], 0, 5, 0), (48, 1, .aload_n 0, 0, 0, 0), (49, 3, .getfield 92, 9, 41, 2), (52, 1, .iconst 0, 0, 0, 0), (53, 1, .iload_n 1, 1, 0, 0), (54, 1, .iadd, 0, 0, 0), (55, 1, .iaload, 0, 0, 0), (56, 1, .ireturn, 0, 0, 0), (57, 1, .aload_n 0, 0, 0, 0), (58, 3, .getfield 48, 9, 20, 2), (61, 1, .iconst 5, 5, 0, 0), (62, 1, .aload_n 0, 0, 0, 0), (63, 3, .getfield 274, 9, 34, 0), (66, 1, .imul, 0, 0, 0), (67, 1, .iload_n 1, 1, 0, 0), (68, 1, .iadd, 0, 0, 0), (69, 1, .iaload, 0, 0, 0), (70, 1, .ireturn, 0, 0, 0), (71, 1, .aload_n 0, 0, 0, 0), (72, 3, .getfield 51, 9, 21, 2), (75, 1, .iconst 5, 5, 0, 0), (76, 1, .aload_n 0, 0, 0, 0), (77, 3, .getfield 274, 9, 34, 0), (80, 1, .imul, 0, 0, 0), (81, 1, .iload_n 1, 1, 0, 0), (82, 1, .iadd, 0, 0, 0), (83, 1, .iaload, 0, 0, 0), (84, 1, .ireturn, 0, 0, 0), (85, 1, .aload_n 0, 0, 0, 0), (86, 3, .getfield 54, 9, 22, 2), (89, 1, .iconst 5, 5, 0, 0), (90, 1, .aload_n 0, 0, 0, 0), (91, 3, .getfield 274, 9, 34, 0), (94, 1, .imul, 0, 0, 0), (95, 1, .iload_n 1, 1, 0, 0), (96, 1, .iadd, 0, 0, 0), (97, 1, .iaload, 0, 0, 0), (98, 1, .ireturn, 0, 0, 0), (99, 1, .aload_n 0, 0, 0, 0), (100, 3, .getfield 92, 9, 41, 2), (103, 2, .bipush 80, 80, 0, 0), (105, 1, .iload_n 1, 1, 0, 0), (106, 1, .iadd, 0, 0, 0), (107, 1, .iaload, 0, 0, 0), (108, 1, .ireturn, 0, 0, 0), (109, 1, .aload_n 0, 0, 0, 0), (110, 1, .iload_n 1, 1, 0, 0), (111, 3, .invokevirtual 391, 250, 2, 9), (114, 1, .ireturn, 0, 0, 0), (115, 1, .iconst (-1), 4294967295, 0, 0), (116, 1, .ireturn, 0, 0, 0)]
def q_cd118 : List q_I := [(0, 1, .aload_n 0, 0, 0, 0), (1, 1, .iload_n 1, 1, 0, 0), (2, 1, .iload_n 2, 2, 0, 0), (3, 3, .invokevirtual 400, 53, 3, 9), (6, 3, .ifCond .eq 19, 25, 0, 0), (9, 1, .aload_n 0, 0, 0, 0), (10, 3, .getfield 92, 9, 41, 2), (13, 2, .bipush 85, 85, 0, 0), (15, 1, .iconst 5, 5, 0, 0), (16, 1, .iload_n 1, 1, 0, 0), (17, 1, .imul, 0, 0, 0), (18, 1, .iadd, 0, 0, 0), (19, 1, .iload_n 2, 2, 0, 0), (20, 1, .iadd, 0, 0, 0), (21, 1, .iaload, 0, 0, 0), (22, 3, .goto 4, 26, 0, 0), (25, 1, .iconst (-1), 4294967295, 0, 0), (26, 1, .ireturn, 0, 0, 0)]
def q_cd119 : List q_I := [(0, 1, .aload_n 0, 0, 0, 0), (1, 1, .iload_n 1, 1, 0, 0), (2, 1, .iload_n 2, 2, 0, 0), (3, 3, .invokevirtual 400, 53, 3, 9), (6, 3, .ifCond .eq 19, 25, 0, 0), (9, 1, .aload_n 0, 0, 0, 0), (10, 3, .getfield 92, 9, 41, 2), (13, 2, .bipush 110, 110, 0, 0), (15, 1, .iconst 5, 5, 0, 0), (16, 1, .iload_n 1, 1, 0, 0), (17, 1, .imul, 0, 0, 0), (18, 1, .iadd, 0, 0, 0), (19, 1, .iload_n 2, 2, 0, 0), (20, 1, .iadd, 0, 0, 0), (21, 1, .iaload, 0, 0, 0), (22, 3, .goto 4, 26, 0, 0), (25, 1, .iconst (-1), 4294967295, 0, 0), (26, 1, .ireturn, 0, 0, 0)]
def q_cd120 : List q_I := [(0, 1, .aload_n 0, 0, 0, 0), (1, 1, .iload_n 1, 1, 0, 0), (2, 3, .invokevirtual 361, 29, 2, 9), (5, 3, .ifCond .eq 28, 33, 0, 0), (8, 1, .aload_n 0, 0, 0, 0), (9, 1, .iload_n 2, 2, 0, 0), (10, 3, .invokevirtual 406, 56, 2, 9), (13, 3, .ifCond .eq 20, 33, 0, 0), (16, 1, .aload_n 0, 0, 0, 0), (17, 1, .aload_n 0, 0, 0, 0), (18, 3, .getfield 92, 9, 41, 2), (21, 1, .iconst 0, 0, 0, 0), (22, 1, .iload_n 1, 1, 0, 0), (23, 1, .iadd, 0, 0, 0), (24, 1, .iaload, 0, 0, 0), (25, 1, .iload_n 2, 2, 0, 0), (26, 3, .invokevirtual 409, 2, 3, 9), (29, 1, .iconst 1, 1, 0, 0), (30, 3, .if_icmp .le 5, 35, 0, 0), (33, 1, .iconst (-1), 4294967295, 0, 0), (34, 1, .ireturn, 0, 0, 0), (35, 1, .aload_n 0, 0, 0, 0), (36, 3, .invokevirtual 412, 122, 1, 9), (39, 1, .aload_n 0, 0, 0, 0), (40, 3, .getfield 92, 9, 41, 2), (43, 1, .iconst 5, 5, 0, 0), (44, 1, .iload_n 2, 2, 0, 0), (45, 1, .iadd, 0, 0, 0), (46, 1, .iaload, 0, 0, 0), (47, 1, .istore_n 3, 3, 0, 0), (48, 1, .iload_n 3, 3, 0, 0), (49, 3, .ifCond .lt 25, 74, 0, 0), (52, 1, .iload_n 3, 3, 0, 0), (53, 1, .iload_n 1, 1, 0, 0), (54, 3, .if_icmp .eq 20, 74, 0, 0), (57, 1, .aload_n 0, 0, 0, 0), (58, 3, .getfield 92, 9, 41, 2), (61, 2, .bipush 85, 85, 0, 0), (63, 1, .iconst 5, 5, 0, 0), (64, 1, .iload_n 1, 1, 0, 0), (65, 1, .imul, 0, 0, 0), (66, 1, .iadd, 0, 0, 0), (67, 1, .iload_n 3, 3, 0, 0), (68, 1, .iadd, 0, 0, 0), (69, 1, .dup2, 0, 0, 0), (70, 1, .iaload, 0, 0, 0), (71, 1, .iconst 1, 1, 0, 0), (72, 1, .iadd, 0, 0, 0), (73, 1, .iastore, 0, 0, 0), (74, 1, .aload_n 0, 0, 0, 0), (75, 3, .getfield 92, 9, 41, 2), (78, 1, .iconst 0, 0, 0, 0), (79, 1, .iload_n 1, 1, 0, 0), (80, 1, .iadd, 0, 0, 0), (81, 1, .iload_n 2, 2, 0, 0), (82, 1, .iastore, 0, 0, 0), (83, 1, .aload_n 0, 0, 0, 0), (84, 3, .getfield 92, 9, 41, 2), (87, 1, .iconst 5, 5, 0, 0), (88, 1, .iload_n 2, 2, 0, 0), (89, 1, .iadd, 0, 0, 0), (90, 1, .iload_n 1, 1, 0, 0), (91, 1, .iastore, 0, 0, 0), (92, 1, .aload_n 0, 0, 0, 0), (93, 3, .getfield 92, 9, 41, 2), (96, 2, .bipush 30, 30, 0, 0), (98, 1, .iload_n 2, 2, 0, 0), (99, 1, .iadd, 0, 0, 0), (100, 1, .aload_n 0, 0, 0, 0), (101, 3, .getfield 92, 9, 41, 2), (104, 3, .sipush 435, 435, 0, 0), (107, 1, .iaload, 0, 0, 0), (108, 1, .iastore, 0, 0, 0), (109, 1, .aload_n 0, 0, 0, 0), (110, 3, .getfield 92, 9, 41, 2), (113, 2, .bipush 55, 55, 0, 0), (115, 1, .iload_n 2, 2, 0, 0), (116, 1, .iadd, 0, 0, 0), (117, 1, .dup2, 0, 0, 0), (118, 1, .iaload, 0, 0, 0), (119, 1, .iconst 1, 1, 0, 0), (120, 1, .iadd, 0, 0, 0), (121, 1, .iastore, 0, 0, 0), (122, 1, .aload_n 0, 0, 0, 0), (123, 3, .getfield 92, 9, 41, 2), (126, 2, .bipush 80, 80, 0, 0), (128, 1, .iload_n 1, 1, 0, 0), (129, 1, .iadd, 0, 0, 0), (130, 1, .dup2, 0, 0, 0), (131, 1, .iaload, 0, 0, 0), (132, 1, .iconst 1, 1, 0, 0), (133, 1, .iload_n 2, 2, 0, 0), (134, 1, .ishl, 0, 0, 0), (135, 1, .ior, 0, 0, 0), (136, 1, .iastore, 0, 0, 0), (137, 1, .aload_n 0, 0, 0, 0), (138, 3, .getfield 92, 9, 41, 2), (141, 2, .bipush 55, 55, 0, 0), (143, 1, .iload_n 2, 2, 0, 0), (144, 1, .iadd, 0, 0, 0), (145, 1, .iaload, 0, 0, 0), (146, 1, .ireturn, 0, 0, 0)]
def q_cd121 : List q_I := [(0, 1, .aload_n 0, 0, 0, 0), (1, 1, .iconst 0, 0, 0, 0), (2, 3, .putfield 24, 0, 3, 0), (5, 1, .aload_n 0, 0, 0, 0), (6, 3, .getfield 21, 0, 2, 0), (9, 2, .bipush 40, 40, 0, 0), (11, 3, .if_icmp .lt 26, 37, 0, 0), (14, 1, .aload_n 0, 0, 0, 0), (15, 1, .aload_n 0, 0, 0, 0), (16, 3, .getfield 17, 0, 1, 0), (19, 1, .iconst 1, 1, 0, 0), (20, 1, .iadd, 0, 0, 0), (21, 2, .bipush 40, 40, 0, 0), (23, 1, .irem, 0, 0, 0), (24, 3, .putfield 17, 0, 1, 0), (27, 1, .aload_n 0, 0, 0, 0), (28, 1, .dup, 0, 0, 0), (29, 3, .getfield 21, 0, 2, 0), (32, 1, .iconst 1, 1, 0, 0), (33, 1, .isub, 0, 0, 0), (34, 3, .putfield 21, 0, 2, 0), (37, 1, .aload_n 0, 0, 0, 0), (38, 3, .getfield 17, 0, 1, 0), (41, 1, .aload_n 0, 0, 0, 0), (42, 3, .getfield 21, 0, 2, 0), (45, 1, .iadd, 0, 0, 0), (46, 2, .bipush 40, 40, 0, 0), (48, 1, .irem, 0, 0, 0), (49, 1, .istore_n 2, 2, 0, 0), (50, 1, .aload_n 0, 0, 0, 0), (51, 3, .getfield 11, 0, 0, 2), (54, 1, .iload_n 2, 2, 0, 0), (55, 1, .aaload, 0, 0, 0), (56, 1, .astore_n 3, 3, 0, 0), (57, 1, .aload_n 3, 3, 0, 0), (58, 3, .ifnonnull 18, 76, 0, 0), (61, 3, .new 9, 5, 11, 1897137597242004746899777248846145637923593842525093425848874071016747648589758480), (64, 1, .dup, 0, 0, 0), (65, 3, .invokespecial 27, 59, 1, 5), (68, 1, .astore_n 3, 3, 0, 0), (69, 1, .aload_n 0, 0, 0, 0), (70, 3, .getfield 11, 0, 0, 2), (73, 1, .iload_n 2, 2, 0, 0), (74, 1, .aload_n 3, 3, 0, 0), (75, 1, .aastore, 0, 0, 0), (76, 1, .aload_n 3, 3, 0, 0), (77, 1, .aload_n 1, 1, 0, 0), (78, 3, .invokevirtual 28, 65, 2, 5), (81, 1, .aload_n 0, 0, 0, 0), (82, 1, .dup, 0, 0, 0), (83, 3, .getfield 21, 0, 2, 0), (86, 1, .iconst 1, 1, 0, 0), (87, 1, .iadd, 0, 0, 0), (88, 3, .putfield 21, 0, 2, 0), (91, 1, .return_, 0, 0, 0)]
def q_cd122 : List q_I := [(0, 1, .aload_n 0, 0, 0, 0), (1, 3, .getfield 379, 9, 43, 0), (4, 2, .bipush 40, 40, 0, 0), (6, 3, .if_icmp .ne 44, 50, 0, 0), (9, 1, .iconst 0, 0, 0, 0), (10, 1, .istore_n 1, 1, 0, 0), (11, 1, .iload_n 1, 1, 0, 0), (12, 3, .sipush 17520, 17520, 0, 0), (15, 3, .if_icmp .ge 25, 40, 0, 0), (18, 1, .aload_n 0, 0, 0, 0), (19, 3, .getfield 95, 9, 42, 2), (22, 1, .iload_n 1, 1, 0, 0), (23, 1, .aload_n 0, 0, 0, 0), (24, 3, .getfield 95, 9, 42, 2), (27, 1, .iload_n 1, 1, 0, 0), (28, 3, .sipush 438, 438, 0, 0), (31, 1, .iadd, 0, 0, 0), (32, 1, .iaload, 0, 0, 0), (33, 1, .iastore, 0, 0, 0), (34, 3, .iinc 1 1, 1, 1, 0), (37, 3, .goto (-26), 11, 0, 0), (40, 1, .aload_n 0, 0, 0, 0), (41, 1, .dup, 0, 0, 0), (42, 3, .getfield 379, 9, 43, 0), (45, 1, .iconst 1, 1, 0, 0), (46, 1, .isub, 0, 0, 0), (47, 3, .putfield 379, 9, 43, 0), (50, 1, .iconst 0, 0, 0, 0), (51, 1, .istore_n 1, 1, 0, 0), (52, 1, .iload_n 1, 1, 0, 0), (53, 3, .sipush 438, 438, 0, 0), (56, 3, .if_icmp .ge 30, 86, 0, 0), (59, 1, .aload_n 0, 0, 0, 0), (60, 3, .getfield 95, 9, 42, 2), (63, 3, .sipush 438, 438, 0, 0), (66, 1, .aload_n 0, 0, 0, 0), (67, 3, .getfield 379, 9, 43, 0), (70, 1, .imul, 0, 0, 0), (71, 1, .iload_n 1, 1, 0, 0), (72, 1, .iadd, 0, 0, 0), (73, 1, .aload_n 0, 0, 0, 0), (74, 3, .getfield 92, 9, 41, 2), (77, 1, .iload_n 1, 1, 0, 0), (78, 1, .iaload, 0, 0, 0), (79, 1, .iastore, 0, 0, 0), (80, 3, .iinc 1 1, 1, 1, 0), (83, 3, .goto (-31), 52, 0, 0), (86, 1, .aload_n 0, 0, 0, 0), (87, 1, .dup, 0, 0, 0), (88, 3, .getfield 379, 9, 43, 0), (91, 1, .iconst 1, 1, 0, 0), (92, 1, .iadd, 0, 0, 0), (93, 3, .putfield 379, 9, 43, 0), (96, 1, .aload_n 0, 0, 0, 0), (97, 1, .iconst 0, 0, 0, 0), (98, 3, .putfield 382, 9, 44, 0), (101, 1, .return_, 0, 0, 0)]
def q_cd123 : List q_I := [(0, 1, .aload_n 0, 0, 0, 0), (1, 1, .iconst 0, 0, 0, 0), (2, 3, .putfield 388, 9, 48, 0), (5, 1, .aload_n 0, 0, 0, 0), (6, 1, .iload_n 1, 1, 0, 0), (7, 3, .invokevirtual 361, 29, 2, 9), (10, 3, .ifCond .eq 11, 21, 0, 0), (13, 1, .aload_n 0, 0, 0, 0), (14, 1, .iload_n 2, 2, 0, 0), (15, 3, .invokevirtual 406, 56, 2, 9), (18, 3, .ifCond .ne 5, 23, 0, 0), (21, 1, .iconst (-1), 4294967295, 0, 0), (22, 1, .ireturn, 0, 0, 0), (23, 1, .aload_n 0, 0, 0, 0), (24, 3, .invokevirtual 421, 127, 1, 9), (27, 1, .aload_n 0, 0, 0, 0), (28, 1, .iload_n 2, 2, 0, 0), (29, 1, .aload_n 0, 0, 0, 0), (30, 3, .getfield 33, 9, 15, 2), (33, 1, .aload_n 0, 0, 0, 0), (34, 3, .getfield 274, 9, 34, 0), (37, 1, .iaload, 0, 0, 0), (38, 3, .invokevirtual 424, 6, 3, 9), (41, 1, .aload_n 0, 0, 0, 0), (42, 3, .getfield 98, 9, 45, 2), (45, 1, .aload_n 0, 0, 0, 0), (46, 3, .getfield 92, 9, 41, 2), (49, 1, .iconst 0, 0, 0, 0), (50, 1, .iload_n 1, 1, 0, 0), (51, 1, .iadd, 0, 0, 0), (52, 1, .iaload, 0, 0, 0), (53, 1, .iaload, 0, 0, 0), (54, 3, .sipush 10000, 10000, 0, 0), (57, 3, .if_icmp .ne 5, 62, 0, 0), (60, 1, .iconst (-1), 4294967295, 0, 0), (61, 1, .ireturn, 0, 0, 0), (62, 1, .aload_n 0, 0, 0, 0), (63, 1, .aload_n 0, 0, 0, 0), (64, 3, .getfield 92, 9, 41, 2), (67, 1, .iconst 0, 0, 0, 0), (68, 1, .iload_n 1, 1, 0, 0), (69, 1, .iadd, 0, 0, 0), (70, 1, .iaload, 0, 0, 0), (71, 1, .iload_n 2, 2, 0, 0), (72, 3, .invokevirtual 427, 273, 3, 9), (75, 1, .aload_n 0, 0, 0, 0), (76, 3, .getfield 388, 9, 48, 0), (79, 1, .iconst 1, 1, 0, 0), (80, 1, .isub, 0, 0, 0), (81, 1, .ireturn, 0, 0, 0)]
def q_cd124 : List q_I := [(0, 1, .aload_n 0, 0, 0, 0), (1, 1, .iload_n 1, 1, 0, 0), (2, 3, .invokevirtual 361, 29, 2, 9), (5, 3, .ifCond .eq 11, 16, 0, 0), (8, 1, .aload_n 0, 0, 0, 0), (9, 1, .iload_n 2, 2, 0, 0), (10, 3, .invokevirtual 406, 56, 2, 9), (13, 3, .ifCond .ne 5, 18, 0, 0), (16, 1, .iconst (-1), 4294967295, 0, 0), (17, 1, .ireturn, 0, 0, 0), (18, 1, .aload_n 0, 0, 0, 0), (19, 3, .invokevirtual 421, 127, 1, 9), (22, 1, .aload_n 0, 0, 0, 0), (23, 1, .iload_n 2, 2, 0, 0), (24, 1, .aload_n 0, 0, 0, 0), (25, 3, .getfield 33, 9, 15, 2), (28, 1, .aload_n 0, 0, 0, 0), (29, 3, .getfield 274, 9, 34, 0), (32, 1, .iaload, 0, 0, 0), (33, 3, .invokevirtual 424, 6, 3, 9), (36, 1, .aload_n 0, 0, 0, 0), (37, 3, .getfield 98, 9, 45, 2), (40, 1, .aload_n 0, 0, 0, 0), (41, 3, .getfield 92, 9, 41, 2), (44, 1, .iconst 0, 0, 0, 0), (45, 1, .iload_n 1, 1, 0, 0), (46, 1, .iadd, 0, 0, 0), (47, 1, .iaload, 0, 0, 0), (48, 1, .iaload, 0, 0, 0), (49, 1, .istore_n 3, 3, 0, 0), (50, 1, .iload_n 3, 3, 0, 0), (51, 3, .sipush 10000, 10000, 0, 0), (54, 3, .if_icmp .ne 5, 59, 0, 0), (57, 1, .iconst (-1), 4294967295, 0, 0), (58, 1, .ireturn, 0, 0, 0), (59, 1, .iconst 0, 0, 0, 0), (60, 2, .istore 4, 4, 0, 0), (62, 2, .iload 4, 4, 0, 0), (64, 2, .bipush 25, 25, 0, 0), (66, 3, .if_icmp .ge 27, 93, 0, 0), (69, 1, .aload_n 0, 0, 0, 0), (70, 3, .getfield 110, 9, 50, 2), (73, 2, .iload 4, 4, 0, 0), (75, 2, .iload 4, 4, 0, 0), (77, 1, .iload_n 2, 2, 0, 0), (78, 3, .if_icmp .ne 7, 85, 0, 0), (81, 1, .iconst 1, 1, 0, 0), (82, 3, .goto 4, 86, 0, 0), (85, 1, .iconst 0, 0, 0, 0), (86, 1, .iastore, 0, 0, 0), (87, 3, .iinc 4 1, 4, 1, 0), (90, 3, .goto (-28), 62, 0, 0), (93, 1, .iconst 1, 1, 0, 0), (94, 2, .istore 4, 4, 0, 0), (96, 2, .iload 4, 4, 0, 0), (98, 1, .iload_n 3, 3, 0, 0), (99, 3, .if_icmp .gt 104, 203, 0, 0), (102, 1, .iconst 0, 0, 0, 0), (103, 2, .istore 5, 5, 0, 0), (105, 2, .iload 5, 5, 0, 0), (107, 1, .aload_n 0, 0, 0, 0), (108, 3, .invokevirtual 364, 0, 1, 9), (111, 3, .if_icmp .ge 86, 197, 0, 0), (114, 1, .iconst 0, 0, 0, 0), (115, 2, .istore 6, 6, 0, 0), (117, 2, .iload 6, 6, 0, 0), (119, 1, .aload_n 0, 0, 0, 0), (120, 3, .invokevirtual 364, 0, 1, 9), (123, 3, .if_icmp .ge 68, 191, 0, 0), (126, 1, .aload_n 0, 0, 0, 0), (127, 3, .getfield 98, 9, 45, 2), (130, 2, .iload 5, 5, 0, 0), (132, 1, .iaload, 0, 0, 0), (133, 2, .iload 4, 4, 0, 0), (135, 3, .if_icmp .ne 56, 191, 0, 0), (138, 1, .aload_n 0, 0, 0, 0), (139, 3, .getfield 110, 9, 50, 2), (142, 2, .iload 5, 5, 0, 0), (144, 1, .dup2, 0, 0, 0), (145, 1, .iaload, 0, 0, 0), (146, 1, .aload_n 0, 0, 0, 0), (147, 3, .getfield 98, 9, 45, 2), (150, 2, .iload 6, 6, 0, 0), (152, 1, .iaload, 0, 0, 0), (153, 2, .iload 4, 4, 0, 0), (155, 1, .iconst 1, 1, 0, 0), (156, 1, .isub, 0, 0, 0), (157, 3, .if_icmp .ne 25, 182, 0, 0), (160, 1, .aload_n 0, 0, 0, 0), (161, 2, .iload 5, 5, 0, 0), (163, 2, .iload 6, 6, 0, 0), (165, 3, .invokevirtual 409, 2, 3, 9), (168, 1, .iconst 1, 1, 0, 0), (169, 3, .if_icmp .ne 13, 182, 0, 0), (172, 1, .aload_n 0, 0, 0, 0), (173, 3, .getfield 110, 9, 50, 2), (176, 2, .iload 6, 6, 0, 0), (178, 1, .iaload, 0, 0, 0), (179, 3, .goto 4, 183, 0, 0), (182, 1, .iconst 0, 0, 0, 0), (183, 1, .iadd, 0, 0, 0), (184, 1, .iastore, 0, 0, 0), (185, 3, .iinc 6 1, 6, 1, 0), (188, 3, .goto (-71), 117, 0, 0), (191, 3, .iinc 5 1, 5, 1, 0), (194, 3, .goto (-89), 105, 0, 0), (197, 3, .iinc 4 1, 4, 1, 0), (200, 3, .goto (-104), 96, 0, 0), (203, 1, .aload_n 0, 0, 0, 0), (204, 3, .getfield 110, 9, 50, 2), (207, 1, .aload_n 0, 0, 0, 0), (208, 3, .getfield 92, 9, 41, 2), (211, 1, .iconst 0, 0, 0, 0), (212, 1, .iload_n 1, 1, 0, 0), (213, 1, .iadd, 0, 0, 0), (214, 1, .iaload, 0, 0, 0), (215, 1, .iaload, 0, 0, 0), (216, 1, .ireturn, 0, 0, 0)]
def q_cd125 : List q_I := [(0, 1, .aload_n 0, 0, 0, 0), (1, 1, .iconst 0, 0, 0, 0), (2, 3, .putfield 388, 9, 48, 0), (5, 1, .aload_n 0, 0, 0, 0), (6, 1, .iload_n 1, 1, 0, 0), (7, 3, .invokevirtual 361, 29, 2, 9), (10, 3, .ifCond .eq 20, 30, 0, 0), (13, 1, .aload_n 0, 0, 0, 0), (14, 1, .iload_n 2, 2, 0, 0), (15, 3, .invokevirtual 406, 56, 2, 9), (18, 3, .ifCond .eq 12, 30, 0, 0), (21, 1, .iload_n 3, 3, 0, 0), (22, 1, .iconst 0, 0, 0, 0), (23, 1, .iconst 1, 1, 0, 0), (24, 3, .invokestatic 357, 12, 3, 0), (27, 3, .ifCond .ne 5, 32, 0, 0), (30, 1, .iconst (-1), 4294967295, 0, 0), (31, 1, .ireturn, 0, 0, 0), (32, 1, .iconst 0, 0, 0, 0), (33, 2, .istore 4, 4, 0, 0), (35, 2, .iload 4, 4, 0, 0), (37, 1, .aload_n 0, 0, 0, 0), (38, 3, .invokevirtual 364, 0, 1, 9), (41, 3, .if_icmp .ge 47, 88, 0, 0), (44, 1, .aload_n 0, 0, 0, 0), (45, 3, .getfield 101, 9, 46, 2), (48, 2, .iload 4, 4, 0, 0), (50, 1, .aload_n 0, 0, 0, 0), (51, 3, .getfield 92, 9, 41, 2), (54, 1, .iconst 5, 5, 0, 0), (55, 2, .iload 4, 4, 0, 0), (57, 1, .iadd, 0, 0, 0), (58, 1, .iaload, 0, 0, 0), (59, 3, .ifCond .lt 20, 79, 0, 0), (62, 1, .aload_n 0, 0, 0, 0), (63, 3, .getfield 92, 9, 41, 2), (66, 1, .iconst 5, 5, 0, 0), (67, 2, .iload 4, 4, 0, 0), (69, 1, .iadd, 0, 0, 0), (70, 1, .iaload, 0, 0, 0), (71, 1, .iload_n 1, 1, 0, 0), (72, 3, .if_icmp .eq 7, 79, 0, 0), (75, 1, .iconst 1, 1, 0, 0), (76, 3, .goto 5, 81, 0, 0), (79, 2, .bipush 101, 101, 0, 0), (81, 1, .iastore, 0, 0, 0), (82, 3, .iinc 4 1, 4, 1, 0), (85, 3, .goto (-50), 35, 0, 0), (88, 1, .aload_n 0, 0, 0, 0), (89, 1, .iload_n 2, 2, 0, 0), (90, 1, .aload_n 0, 0, 0, 0), (91, 3, .getfield 33, 9, 15, 2), (94, 1, .aload_n 0, 0, 0, 0), (95, 3, .getfield 274, 9, 34, 0), (98, 1, .iaload, 0, 0, 0), (99, 3, .invokevirtual 424, 6, 3, 9), (102, 1, .aload_n 0, 0, 0, 0), (103, 3, .getfield 98, 9, 45, 2), (106, 1, .aload_n 0, 0, 0, 0), (107, 3, .getfield 92, 9, 41, 2), (110, 1, .iconst 0, 0, 0, 0), (111, 1, .iload_n 1, 1, 0, 0), (112, 1, .iadd, 0, 0, 0), (113, 1, .iaload, 0, 0, 0), (114, 1, .iaload, 0, 0, 0), (115, 2, .istore 4, 4, 0, 0), (117, 2, .iload 4, 4, 0, 0), (119, 3, .sipush 10000, 10000, 0, 0), (122, 3, .if_icmp .ne 5, 127, 0, 0), (125, 1, .iconst (-1), 4294967295, 0, 0), (126, 1, .ireturn, 0, 0, 0), (127, 1, .aload_n 0, 0, 0, 0), (128, 1, .aload_n 0, 0, 0, 0), (129, 3, .getfield 92, 9, 41, 2), (132, 1, .iconst 0, 0, 0, 0), (133, 1, .iload_n 1, 1, 0, 0), (134, 1, .iadd, 0, 0, 0), (135, 1, .iaload, 0, 0, 0), (136, 1, .iload_n 2, 2, 0, 0), (137, 3, .invokevirtual 427, 273, 3, 9), (140, 1, .iload_n 3, 3, 0, 0), (141, 3, .ifCond .ne 11, 152, 0, 0), (144, 2, .iload 4, 4, 0, 0), (146, 2, .bipush 100, 100, 0, 0), (148, 1, .idiv, 0, 0, 0), (149, 3, .goto 8, 157, 0, 0), (152, 2, .iload 4, 4, 0, 0), (154, 2, .bipush 100, 100, 0, 0), (156, 1, .irem, 0, 0, 0), (157, 1, .ireturn, 0, 0, 0)]
def q_cd126 : List q_I := [(0, 1, .aload_n 0, 0, 0, 0), (1, 1, .iload_n 1, 1, 0, 0), (2, 3, .invokevirtual 361, 29, 2, 9), (5, 3, .ifCond .eq 13, 18, 0, 0), (8, 1, .iload_n 2, 2, 0, 0), (9, 1, .iconst 0, 0, 0, 0), (10, 2, .bipush 25, 25, 0, 0), (12, 3, .invokestatic 357, 12, 3, 0), (15, 3, .ifCond .ne 5, 20, 0, 0), (18, 1, .iconst (-1), 4294967295, 0, 0), (19, 1, .ireturn, 0, 0, 0), (20, 1, .aload_n 0, 0, 0, 0), (21, 3, .invokevirtual 421, 127, 1, 9), (24, 1, .aload_n 0, 0, 0, 0), (25, 1, .aload_n 0, 0, 0, 0), (26, 3, .getfield 92, 9, 41, 2), (29, 1, .iconst 0, 0, 0, 0), (30, 1, .iload_n 1, 1, 0, 0), (31, 1, .iadd, 0, 0, 0), (32, 1, .iaload, 0, 0, 0), (33, 1, .aload_n 0, 0, 0, 0), (34, 3, .getfield 33, 9, 15, 2), (37, 1, .aload_n 0, 0, 0, 0), (38, 3, .getfield 274, 9, 34, 0), (41, 1, .iaload, 0, 0, 0), (42, 3, .invokevirtual 424, 6, 3, 9), (45, 1, .iconst 0, 0, 0, 0), (46, 1, .istore_n 3, 3, 0, 0), (47, 1, .iconst 0, 0, 0, 0), (48, 2, .istore 4, 4, 0, 0), (50, 2, .iload 4, 4, 0, 0), (52, 1, .aload_n 0, 0, 0, 0), (53, 3, .invokevirtual 364, 0, 1, 9), (56, 3, .if_icmp .ge 27, 83, 0, 0), (59, 1, .aload_n 0, 0, 0, 0), (60, 3, .getfield 98, 9, 45, 2), (63, 2, .iload 4, 4, 0, 0), (65, 1, .iaload, 0, 0, 0), (66, 1, .iload_n 2, 2, 0, 0), (67, 3, .if_icmp .gt 10, 77, 0, 0), (70, 1, .iload_n 3, 3, 0, 0), (71, 1, .iconst 1, 1, 0, 0), (72, 2, .iload 4, 4, 0, 0), (74, 1, .ishl, 0, 0, 0), (75, 1, .ior, 0, 0, 0), (76, 1, .istore_n 3, 3, 0, 0), (77, 3, .iinc 4 1, 4, 1, 0), (80, 3, .goto (-30), 50, 0, 0), (83, 1, .iload_n 3, 3, 0, 0), (84, 1, .ireturn, 0, 0, 0)]
def q_cd127 : List q_I := [(0, 1, .iconst 0, 0, 0, 0), (1, 1, .istore_n 1, 1, 0, 0), (2, 1, .iload_n 1, 1, 0, 0), (3, 2, .bipush 25, 25, 0, 0), (5, 3, .if_icmp .ge 16, 21, 0, 0), (8, 1, .aload_n 0, 0, 0, 0), (9, 3, .getfield 101, 9, 46, 2), (12, 1, .iload_n 1, 1, 0, 0), (13, 1, .iconst 1, 1, 0, 0), (14, 1, .iastore, 0, 0, 0), (15, 3, .iinc 1 1, 1, 1, 0), (18, 3, .goto (-16), 2, 0, 0), (21, 1, .return_, 0, 0, 0)]
def q_cd128 : List q_I := [(0, 1, .aload_n 0, 0, 0, 0), (1, 1, .iload_n 1, 1, 0, 0), (2, 1, .iload_n 2, 2, 0, 0), (3, 3, .invokevirtual 400, 53, 3, 9), (6, 3, .ifCond .eq 12, 18, 0, 0), (9, 1, .iload_n 3, 3, 0, 0), (10, 1, .iconst 0, 0, 0, 0), (11, 1, .iconst 1, 1, 0, 0), (12, 3, .invokestatic 357, 12, 3, 0), (15, 3, .ifCond .ne 5, 20, 0, 0), (18, 1, .iconst (-1), 4294967295, 0, 0), (19, 1, .ireturn, 0, 0, 0), (20, 1, .aload_n 0, 0, 0, 0), (21, 3, .invokevirtual 421, 127, 1, 9), (24, 1, .aload_n 0, 0, 0, 0), (25, 1, .aload_n 0, 0, 0, 0), (26, 3, .getfield 92, 9, 41, 2), (29, 1, .iconst 0, 0, 0, 0), (30, 1, .iload_n 1, 1, 0, 0), (31, 1, .iadd, 0, 0, 0), (32, 1, .iaload, 0, 0, 0), (33, 1, .aload_n 0, 0, 0, 0), (34, 3, .getfield 33, 9, 15, 2), (37, 1, .aload_n 0, 0, 0, 0), (38, 3, .getfield 274, 9, 34, 0), (41, 1, .iaload, 0, 0, 0), (42, 3, .invokevirtual 424, 6, 3, 9), (45, 1, .iconst 0, 0, 0, 0), (46, 2, .istore 4, 4, 0, 0), (48, 2, .iload 4, 4, 0, 0), (50, 1, .aload_n 0, 0, 0, 0), (51, 3, .invokevirtual 364, 0, 1, 9), (54, 3, .if_icmp .ge 23, 77, 0, 0), (57, 1, .aload_n 0, 0, 0, 0), (58, 3, .getfield 107, 9, 49, 2), (61, 2, .iload 4, 4, 0, 0), (63, 1, .aload_n 0, 0, 0, 0), (64, 3, .getfield 98, 9, 45, 2), (67, 2, .iload 4, 4, 0, 0), (69, 1, .iaload, 0, 0, 0), (70, 1, .iastore, 0, 0, 0), (71, 3, .iinc 4 1, 4, 1, 0), (74, 3, .goto (-26), 48, 0, 0), (77, 1, .aload_n 0, 0, 0, 0), (78, 1, .aload_n 0, 0, 0, 0), (79, 3, .getfield 92, 9, 41, 2), (82, 1, .iconst 0, 0, 0, 0), (83, 1, .iload_n 2, 2, 0, 0), (84, 1, .iadd, 0, 0, 0), (85, 1, .iaload, 0, 0, 0), (86, 1, .aload_n 0, 0, 0, 0), (87, 3, .getfield 33, 9, 15, 2), (90, 1, .aload_n 0, 0, 0, 0), (91, 3, .getfield 274, 9, 34, 0), (94, 1, .iaload, 0, 0, 0), (95, 3, .invokevirtual 424, 6, 3, 9), (98, 1, .iconst (-1), 4294967295, 0, 0), (99, 2, .istore 4, 4, 0, 0), (101, 3, .sipush 10000, 10000, 0, 0), (104, 2, .istore 5, 5, 0, 0), (106, 1, .iconst 0, 0, 0, 0), (107, 2, .istore 6, 6, 0, 0), (109, 2, .iload 6, 6, 0, 0), (111, 1, .aload_n 0, 0, 0, 0), (112, 3, .invokevirtual 364, 0, 1, 9), (115, 3, .if_icmp .ge 63, 178, 0, 0), (118, 1, .aload_n 0, 0, 0, 0), (119, 3, .getfield 107, 9, 49, 2), (122, 2, .iload 6, 6, 0, 0), (124, 1, .iaload, 0, 0, 0), (125, 1, .aload_n 0, 0, 0, 0), (126, 3, .getfield 98, 9, 45, 2), (129, 2, .iload 6, 6, 0, 0), (131, 1, .iaload, 0, 0, 0), (132, 3, .if_icmp .le 13, 145, 0, 0), (135, 1, .aload_n 0, 0, 0, 0), (136, 3, .getfield 107, 9, 49, 2), (139, 2, .iload 6, 6, 0, 0), (141, 1, .iaload, 0, 0, 0), (142, 3, .goto 10, 152, 0, 0), (145, 1, .aload_n 0, 0, 0, 0), (146, 3, .getfield 98, 9, 45, 2), (149, 2, .iload 6, 6, 0, 0), (151, 1, .iaload, 0, 0, 0), (152, 2, .istore 7, 7, 0, 0), (154, 2, .iload 7, 7, 0, 0), (156, 2, .iload 5, 5, 0, 0), (158, 3, .if_icmp .lt 6, 164, 0, 0), (161, 3, .goto 11, 172, 0, 0), (164, 2, .iload 6, 6, 0, 0), (166, 2, .istore 4, 4, 0, 0), (168, 2, .iload 7, 7, 0, 0), (170, 2, .istore 5, 5, 0, 0), (172, 3, .iinc 6 1, 6, 1, 0), (175, 3, .goto (-66), 109, 0, 0), (178, 2, .iload 4, 4, 0, 0), (180, 3, .ifCond .ge 7, 187, 0, 0), (183, 1, .iconst (-1), 4294967295, 0, 0), (184, 3, .goto 14, 198, 0, 0), (187, 1, .iload_n 3, 3, 0, 0), (188, 3, .ifCond .ne 8, 196, 0, 0), (191, 2, .iload 5, 5, 0, 0), (193, 3, .goto 5, 198, 0, 0), (196, 2, .iload 4, 4, 0, 0), (198, 1, .ireturn, 0, 0, 0)]
def q_cd129 : List q_I := [(0, 1, .aload_n 0, 0, 0, 0), (1, 1, .iload_n 1, 1, 0, 0), (2, 3, .invokevirtual 361, 29, 2, 9), (5, 3, .ifCond .eq 13, 18, 0, 0), (8, 1, .iload_n 2, 2, 0, 0), (9, 1, .iconst 0, 0, 0, 0), (10, 2, .bipush 9, 9, 0, 0), (12, 3, .invokestatic 357, 12, 3, 0), (15, 3, .ifCond .ne 5, 20, 0, 0), (18, 1, .iconst (-1), 4294967295, 0, 0), (19, 1, .ireturn, 0, 0, 0), (20, 1, .iconst 0, 0, 0, 0), (21, 1, .istore_n 3, 3, 0, 0), (22, 1, .iload_n 3, 3, 0, 0), (23, 2, .bipush 25, 25, 0, 0), (25, 3, .if_icmp .ge 32, 57, 0, 0), (28, 1, .aload_n 0, 0, 0, 0), (29, 3, .getfield 110, 9, 50, 2), (32, 1, .iload_n 3, 3, 0, 0), (33, 1, .iload_n 3, 3, 0, 0), (34, 1, .aload_n 0, 0, 0, 0), (35, 3, .getfield 92, 9, 41, 2), (38, 1, .iconst 0, 0, 0, 0), (39, 1, .iload_n 1, 1, 0, 0), (40, 1, .iadd, 0, 0, 0), (41, 1, .iaload, 0, 0, 0), (42, 3, .if_icmp .ne 7, 49, 0, 0), (45, 1, .iconst 1, 1, 0, 0), (46, 3, .goto 4, 50, 0, 0), (49, 1, .iconst 0, 0, 0, 0), (50, 1, .iastore, 0, 0, 0), (51, 3, .iinc 3 1, 3, 1, 0), (54, 3, .goto (-32), 22, 0, 0), (57, 1, .iconst 0, 0, 0, 0), (58, 1, .istore_n 3, 3, 0, 0), (59, 1, .iload_n 3, 3, 0, 0), (60, 1, .iload_n 2, 2, 0, 0), (61, 3, .if_icmp .ge 22, 83, 0, 0), (64, 1, .aload_n 0, 0, 0, 0), (65, 1, .aload_n 0, 0, 0, 0), (66, 3, .getfield 33, 9, 15, 2), (69, 1, .aload_n 0, 0, 0, 0), (70, 3, .getfield 274, 9, 34, 0), (73, 1, .iaload, 0, 0, 0), (74, 3, .invokevirtual 433, 21, 2, 9), (77, 3, .iinc 3 1, 3, 1, 0), (80, 3, .goto (-21), 59, 0, 0), (83, 1, .aload_n 0, 0, 0, 0), (84, 3, .getfield 110, 9, 50, 2), (87, 1, .aload_n 0, 0, 0, 0), (88, 3, .getfield 92, 9, 41, 2), (91, 1, .iconst 0, 0, 0, 0), (92, 1, .iload_n 1, 1, 0, 0), (93, 1, .iadd, 0, 0, 0), (94, 1, .iaload, 0, 0, 0), (95, 1, .iaload, 0, 0, 0), (96, 1, .ireturn, 0, 0, 0)]
def q_cd130 : List q_I := [(0, 1, .aload_n 0, 0, 0, 0), (1, 1, .iload_n 1, 1, 0, 0), (2, 3, .invokevirtual 361, 29, 2, 9), (5, 3, .ifCond .eq 15, 20, 0, 0), (8, 1, .aload_n 0, 0, 0, 0), (9, 1, .aload_n 0, 0, 0, 0), (10, 1, .iload_n 1, 1, 0, 0), (11, 3, .invokevirtual 391, 250, 2, 9), (14, 3, .invokevirtual 430, 178, 2, 9), (17, 3, .goto 4, 21, 0, 0), (20, 1, .iconst (-1), 4294967295, 0, 0), (21, 1, .ireturn, 0, 0, 0)]
def q_cd131 : List q_I := [(0, 1, .aload_n 0, 0, 0, 0), (1, 1, .iload_n 1, 1, 0, 0), (2, 3, .invokevirtual 361, 29, 2, 9), (5, 3, .ifCond .eq 22, 27, 0, 0), (8, 1, .iload_n 2, 2, 0, 0), (9, 1, .iconst 0, 0, 0, 0), (10, 2, .bipush 59, 59, 0, 0), (12, 3, .invokestatic 357, 12, 3, 0), (15, 3, .ifCond .eq 12, 27, 0, 0), (18, 1, .aload_n 0, 0, 0, 0), (19, 1, .iload_n 1, 1, 0, 0), (20, 1, .iload_n 2, 2, 0, 0), (21, 3, .invokevirtual 442, 272, 3, 9), (24, 3, .goto 4, 28, 0, 0), (27, 1, .iconst (-1), 4294967295, 0, 0), (28, 1, .ireturn, 0, 0, 0)]
def q_cd132 : List q_I := [(0, 1, .aload_n 0, 0, 0, 0), (1, 1, .iload_n 1, 1, 0, 0), (2, 1, .iload_n 2, 2, 0, 0), (3, 3, .invokevirtual 400, 53, 3, 9), (6, 3, .ifCond .ne 5, 11, 0, 0), (9, 1, .iconst (-1), 4294967295, 0, 0), (10, 1, .ireturn, 0, 0, 0), (11, 1, .iconst 0, 0, 0, 0), (12, 1, .istore_n 3, 3, 0, 0), (13, 1, .iload_n 3, 3, 0, 0), (14, 2, .bipush 60, 60, 0, 0), (16, 3, .if_icmp .ge 35, 51, 0, 0), (19, 1, .aload_n 0, 0, 0, 0), (20, 1, .iload_n 1, 1, 0, 0), (21, 1, .iload_n 3, 3, 0, 0), (22, 3, .invokevirtual 442, 272, 3, 9), (25, 3, .ifCond .lt 20, 45, 0, 0), (28, 1, .aload_n 0, 0, 0, 0), (29, 1, .iload_n 1, 1, 0, 0), (30, 1, .iload_n 3, 3, 0, 0), (31, 3, .invokevirtual 442, 272, 3, 9), (34, 1, .aload_n 0, 0, 0, 0), (35, 1, .iload_n 2, 2, 0, 0), (36, 1, .iload_n 3, 3, 0, 0), (37, 3, .invokevirtual 442, 272, 3, 9), (40, 3, .if_icmp .ne 5, 45, 0, 0), (43, 1, .iload_n 3, 3, 0, 0), (44, 1, .ireturn, 0, 0, 0), (45, 3, .iinc 3 1, 3, 1, 0), (48, 3, .goto (-35), 13, 0, 0), (51, 1, .iconst (-1), 4294967295, 0, 0), (52, 1, .ireturn, 0, 0, 0)]
def q_cd133 : List q_I := [(0, 1, .aload_n 0, 0, 0, 0), (1, 1, .iload_n 1, 1, 0, 0), (2, 3, .invokevirtual 361, 29, 2, 9), (5, 3, .ifCond .ne 5, 10, 0, 0), (8, 1, .iconst (-1), 4294967295, 0, 0), (9, 1, .ireturn, 0, 0, 0), (10, 1, .iconst 0, 0, 0, 0), (11, 1, .istore_n 2, 2, 0, 0), (12, 1, .iconst 0, 0, 0, 0), (13, 1, .istore_n 3, 3, 0, 0), (14, 1, .iload_n 3, 3, 0, 0), (15, 2, .bipush 60, 60, 0, 0), (17, 3, .if_icmp .ge 27, 44, 0, 0), (20, 1, .iload_n 2, 2, 0, 0), (21, 1, .aload_n 0, 0, 0, 0), (22, 1, .iload_n 1, 1, 0, 0), (23, 1, .iload_n 3, 3, 0, 0), (24, 3, .invokevirtual 445, 277, 3, 9), (27, 1, .iconst 1, 1, 0, 0), (28, 3, .if_icmp .ne 7, 35, 0, 0), (31, 1, .iconst 1, 1, 0, 0), (32, 3, .goto 4, 36, 0, 0), (35, 1, .iconst 0, 0, 0, 0), (36, 1, .iadd, 0, 0, 0), (37, 1, .istore_n 2, 2, 0, 0), (38, 3, .iinc 3 1, 3, 1, 0), (41, 3, .goto (-27), 14, 0, 0), (44, 1, .iload_n 2, 2, 0, 0), (45, 1, .ireturn, 0, 0, 0)]
def q_cd134 : List q_I := [(0, 1, .aload_n 0, 0, 0, 0), (1, 3, .getfield 36, 5, 8, 0), (4, 2, .bipush 60, 60, 0, 0), (6, 3, .invokestatic 82, 62, 2, 0), (9, 1, .ireturn, 0, 0, 0)]
def q_cd135 : List q_I := [(0, 1, .aload_n 0, 0, 0, 0), (1, 1, .iload_n 1, 1, 0, 0), (2, 1, .iload_n 2, 2, 0, 0), (3, 3, .invokevirtual 400, 53, 3, 9), (6, 3, .ifCond .ne 5, 11, 0, 0), (9, 1, .iconst (-1), 4294967295, 0, 0), (10, 1, .ireturn, 0, 0, 0), (11, 1, .aload_n 0, 0, 0, 0), (12, 3, .invokevirtual 469, 260, 1, 9), (15, 1, .aload_n 0, 0, 0, 0), (16, 3, .getfield 125, 9, 55, 2), (19, 2, .bipush 25, 25, 0, 0), (21, 1, .aload_n 0, 0, 0, 0), (22, 3, .getfield 92, 9, 41, 2), (25, 1, .iconst 0, 0, 0, 0), (26, 1, .iload_n 1, 1, 0, 0), (27, 1, .iadd, 0, 0, 0), (28, 1, .iaload, 0, 0, 0), (29, 1, .imul, 0, 0, 0), (30, 1, .aload_n 0, 0, 0, 0), (31, 3, .getfield 92, 9, 41, 2), (34, 1, .iconst 0, 0, 0, 0), (35, 1, .iload_n 2, 2, 0, 0), (36, 1, .iadd, 0, 0, 0), (37, 1, .iaload, 0, 0, 0), (38, 1, .iadd, 0, 0, 0), (39, 1, .iaload, 0, 0, 0), (40, 1, .istore_n 3, 3, 0, 0), (41, 1, .iload_n 3, 3, 0, 0), (42, 3, .sipush 10000, 10000, 0, 0), (45, 3, .if_icmp .lt 7, 52, 0, 0), (48, 1, .iconst (-1), 4294967295, 0, 0), (49, 3, .goto 4, 53, 0, 0), (52, 1, .iload_n 3, 3, 0, 0), (53, 1, .ireturn, 0, 0, 0)]
def q_cd136 : List q_I := [(0, 1, .iload_n 1, 1, 0, 0), (1, 1, .iconst 0, 0, 0, 0), (2, 1, .aload_n 0, 0, 0, 0), (3, 3, .getfield 388, 9, 48, 0), (6, 1, .iconst 1, 1, 0, 0), (7, 1, .isub, 0, 0, 0), (8, 3, .invokestatic 357, 12, 3, 0), (11, 3, .ifCond .eq 12, 23, 0, 0), (14, 1, .aload_n 0, 0, 0, 0), (15, 3, .getfield 104, 9, 47, 2), (18, 1, .iload_n 1, 1, 0, 0), (19, 1, .iaload, 0, 0, 0), (20, 3, .goto 4, 24, 0, 0), (23, 1, .iconst (-1), 4294967295, 0, 0), (24, 1, .ireturn, 0, 0, 0)]
def q_cd137 : List q_I := [(0, 1, .iload_n 1, 1, 0, 0), (1, 1, .iconst 0, 0, 0, 0), (2, 1, .aload_n 0, 0, 0, 0), (3, 3, .getfield 385, 9, 64, 0), (6, 1, .iconst 1, 1, 0, 0), (7, 1, .isub, 0, 0, 0), (8, 3, .invokestatic 357, 12, 3, 0), (11, 3, .ifCond .eq 12, 23, 0, 0), (14, 1, .aload_n 0, 0, 0, 0), (15, 3, .getfield 143, 9, 61, 2), (18, 1, .iload_n 1, 1, 0, 0), (19, 1, .iaload, 0, 0, 0), (20, 3, .ifCond .lt 5, 25, 0, 0), (23, 1, .iconst 0, 0, 0, 0), (24, 1, .ireturn, 1, 0, 0), (25, 1, .aload_n 0, 0, 0, 0), (26, 3, .getfield 143, 9, 61, 2), (29, 1, .iload_n 1, 1, 0, 0), (30, 1, .aload_n 0, 0, 0, 0), (31, 3, .getfield 472, 9, 65, 0), (34, 1, .iastore, 0, 0, 0), (35, 1, .iconst 1, 1, 0, 0), (36, 1, .ireturn, 1, 0, 0)]
def q_cd138 : List q_I := [(0, 1, .iload_n 0, 0, 0, 0), (1, 1, .iconst (-1), 4294967295, 0, 0), (2, 3, .if_icmp .ne 5, 7, 0, 0), (5, 1, .iconst 1, 1, 0, 0), (6, 1, .ireturn, 0, 0, 0), (7, 1, .iconst 0, 0, 0, 0), (8, 2, .istore 5, 5, 0, 0), (10, 1, .iconst 0, 0, 0, 0), (11, 2, .istore 6, 6, 0, 0), (13, 2, .iload 6, 6, 0, 0), (15, 1, .iconst 5, 5, 0, 0), (16, 3, .if_icmp .ge 43, 59, 0, 0), (19, 1, .iload_n 0, 0, 0, 0), (20, 2, .iload 4, 4, 0, 0), (22, 1, .iand, 0, 0, 0), (23, 2, .iload 6, 6, 0, 0), (25, 3, .invokestatic 173, 3, 2, 0), (28, 3, .ifCond .eq 25, 53, 0, 0), (31, 2, .iload 5, 5, 0, 0), (33, 1, .iload_n 1, 1, 0, 0), (34, 1, .iload_n 2, 2, 0, 0), (35, 1, .iload_n 3, 3, 0, 0), (36, 1, .iconst (-1), 4294967295, 0, 0), (37, 2, .iload 4, 4, 0, 0), (39, 2, .iload 6, 6, 0, 0), (41, 3, .invokestatic 233, 16, 1, 0), (44, 1, .iconst (-1), 4294967295, 0, 0), (45, 1, .ixor, 0, 0, 0), (46, 1, .iand, 0, 0, 0), (47, 3, .invokestatic 293, 138, 5, 0), (50, 1, .iadd, 0, 0, 0), (51, 2, .istore 5, 5, 0, 0), (53, 3, .iinc 6 1, 6, 1, 0), (56, 3, .goto (-43), 13, 0, 0), (59, 2, .iload 5, 5, 0, 0), (61, 1, .ireturn, 0, 0, 0)]
def q_cd139 : List q_I := [(0, 1, .iconst 0, 0, 0, 0), (1, 1, .istore_n 1, 1, 0, 0), (2, 1, .iload_n 0, 0, 0, 0), (3, 1, .istore_n 2, 2, 0, 0), (4, 1, .iload_n 2, 2, 0, 0), (5, 3, .ifCond .eq 15, 20, 0, 0), (8, 3, .iinc 1 1, 1, 1, 0), (11, 1, .iload_n 2, 2, 0, 0), (12, 1, .iload_n 2, 2, 0, 0), (13, 1, .iconst 1, 1, 0, 0), (14, 1, .isub, 0, 0, 0), (15, 1, .iand, 0, 0, 0), (16, 1, .istore_n 2, 2, 0, 0), (17, 3, .goto (-13), 4, 0, 0), (20, 1, .iload_n 1, 1, 0, 0), (21, 1, .ireturn, 0, 0, 0)]
def q_cd140 : List q_I := [(0, 1, .iload_n 1, 1, 0, 0), (1, 3, .invokestatic 227, 22, 1, 0), (4, 3, .ifCond .ne 5, 9, 0, 0), (7, 1, .iconst (-1), 4294967295, 0, 0), (8, 1, .ireturn, 0, 0, 0), (9, 1, .aload_n 0, 0, 0, 0), (10, 3, .getfield 72, 8, 11, 2), (13, 1, .aload_n 0, 0, 0, 0), (14, 3, .getfield 37, 8, 5, 2), (17, 1, .iload_n 2, 2, 0, 0), (18, 3, .invokevirtual 319, 77, 3, 6), (21, 1, .aload_n 0, 0, 0, 0), (22, 3, .getfield 72, 8, 11, 2), (25, 3, .invokevirtual 323, 107, 1, 6), (28, 3, .ifCond .ne 5, 33, 0, 0), (31, 1, .iconst (-1), 4294967295, 0, 0), (32, 1, .ireturn, 0, 0, 0), (33, 1, .iconst 0, 0, 0, 0), (34, 1, .istore_n 3, 3, 0, 0), (35, 1, .aload_n 0, 0, 0, 0), (36, 3, .getfield 72, 8, 11, 2), (39, 1, .iconst 0, 0, 0, 0), (40, 3, .invokevirtual 328, 44, 2, 6), (43, 2, .istore 4, 4, 0, 0), (45, 1, .iconst 1, 1, 0, 0), (46, 2, .istore 5, 5, 0, 0), (48, 2, .iload 5, 5, 0, 0), (50, 2, .bipush 8, 8, 0, 0), (52, 3, .if_icmp .ge 34, 86, 0, 0), (55, 1, .aload_n 0, 0, 0, 0), (56, 3, .getfield 72, 8, 11, 2), (59, 2, .iload 5, 5, 0, 0), (61, 3, .invokevirtual 328, 44, 2, 6), (64, 2, .istore 6, 6, 0, 0), (66, 2, .iload 6, 6, 0, 0), (68, 2, .iload 4, 4, 0, 0), (70, 3, .if_icmp .ge 10, 80, 0, 0), (73, 2, .iload 6, 6, 0, 0), (75, 2, .istore 4, 4, 0, 0), (77, 2, .iload 5, 5, 0, 0), (79, 1, .istore_n 3, 3, 0, 0), (80, 3, .iinc 5 1, 5, 1, 0), (83, 3, .goto (-35), 48, 0, 0), (86, 1, .iload_n 1, 1, 0, 0), (87, 3, .ifCond .ne 7, 94, 0, 0), (90, 1, .iload_n 3, 3, 0, 0), (91, 3, .goto 5, 96, 0, 0), (94, 2, .iload 4, 4, 0, 0), (96, 1, .ireturn, 0, 0, 0)]
def q_cd141 : List q_I := [(0, 1, .iload_n 1, 1, 0, 0), (1, 1, .iconst 0, 0, 0, 0), (2, 1, .iconst 1, 1, 0, 0), (3, 3, .invokestatic 357, 12, 3, 0), (6, 3, .ifCond .ne 5, 11, 0, 0), (9, 1, .iconst (-1), 4294967295, 0, 0), (10, 1, .ireturn, 0, 0, 0), (11, 1, .aload_n 0, 0, 0, 0), (12, 1, .iload_n 2, 2, 0, 0), (13, 3, .invokevirtual 486, 78, 2, 9), (16, 1, .aload_n 0, 0, 0, 0), (17, 3, .invokevirtual 489, 79, 1, 9), (20, 3, .ifCond .ne 5, 25, 0, 0), (23, 1, .iconst (-1), 4294967295, 0, 0), (24, 1, .ireturn, 0, 0, 0), (25, 1, .iconst (-1), 4294967295, 0, 0), (26, 1, .istore_n 3, 3, 0, 0), (27, 1, .iconst 0, 0, 0, 0), (28, 2, .istore 4, 4, 0, 0), (30, 1, .iconst 0, 0, 0, 0), (31, 2, .istore 5, 5, 0, 0), (33, 2, .iload 5, 5, 0, 0), (35, 2, .bipush 8, 8, 0, 0), (37, 3, .if_icmp .ge 74, 111, 0, 0), (40, 1, .iconst 0, 0, 0, 0), (41, 2, .istore 6, 6, 0, 0), (43, 1, .iconst 0, 0, 0, 0), (44, 2, .istore 7, 7, 0, 0), (46, 2, .iload 7, 7, 0, 0), (48, 1, .aload_n 0, 0, 0, 0), (49, 3, .invokevirtual 364, 0, 1, 9), (52, 3, .if_icmp .ge 32, 84, 0, 0), (55, 1, .aload_n 0, 0, 0, 0), (56, 2, .iload 5, 5, 0, 0), (58, 2, .iload 7, 7, 0, 0), (60, 3, .invokevirtual 483, 10, 3, 9), (63, 2, .iload 6, 6, 0, 0), (65, 3, .if_icmp .le 13, 78, 0, 0), (68, 1, .aload_n 0, 0, 0, 0), (69, 2, .iload 5, 5, 0, 0), (71, 2, .iload 7, 7, 0, 0), (73, 3, .invokevirtual 483, 10, 3, 9), (76, 2, .istore 6, 6, 0, 0), (78, 3, .iinc 7 1, 7, 1, 0), (81, 3, .goto (-35), 46, 0, 0), (84, 1, .iload_n 3, 3, 0, 0), (85, 3, .ifCond .lt 13, 98, 0, 0), (88, 2, .iload 6, 6, 0, 0), (90, 2, .iload 4, 4, 0, 0), (92, 3, .if_icmp .lt 6, 98, 0, 0), (95, 3, .goto 10, 105, 0, 0), (98, 2, .iload 5, 5, 0, 0), (100, 1, .istore_n 3, 3, 0, 0), (101, 2, .iload 6, 6, 0, 0), (103, 2, .istore 4, 4, 0, 0), (105, 3, .iinc 5 1, 5, 1, 0), (108, 3, .goto (-75), 33, 0, 0), (111, 1, .iload_n 1, 1, 0, 0), (112, 3, .ifCond .ne 7, 119, 0, 0), (115, 1, .iload_n 3, 3, 0, 0), (116, 3, .goto 5, 121, 0, 0), (119, 2, .iload 4, 4, 0, 0), (121, 1, .ireturn, 0, 0, 0)]
def q_cd142 : List q_I := [(0, 1, .aload_n 0, 0, 0, 0), (1, 3, .invokespecial 1, 0, 0, 78), (4, 1, .aload_n 0, 0, 0, 0), (5, 3, .sipush 1600, 1600, 0, 0), (8, 2, .newarray .byte, 3, 0, 0), (10, 3, .putfield 9, 8, 0, 2), (13, 1, .aload_n 0, 0, 0, 0), (14, 1, .iconst 0, 0, 0, 0), (15, 3, .putfield 13, 8, 1, 0), (18, 1, .aload_n 0, 0, 0, 0), (19, 3, .new 17, 4, 15, 9619630457117281518457984103925643233794348448396451643406105912695742905031969558559747245195373541232308387856), (22, 1, .dup, 0, 0, 0), (23, 3, .invokespecial 19, 143, 1, 4), (26, 3, .putfield 20, 8, 2, 2), (29, 1, .aload_n 0, 0, 0, 0), (30, 3, .new 24, 7, 12, 21778071565337350681287039432362530177040), (33, 1, .dup, 0, 0, 0), (34, 3, .invokespecial 26, 108, 1, 7), (37, 3, .putfield 27, 8, 3, 2), (40, 1, .aload_n 0, 0, 0, 0), (41, 3, .new 24, 7, 12, 21778071565337350681287039432362530177040), (44, 1, .dup, 0, 0, 0), (45, 3, .invokespecial 26, 108, 1, 7), (48, 3, .putfield 31, 8, 4, 2), (51, 1, .aload_n 0, 0, 0, 0), (52, 3, .new 34, 3, 10, 1267650605024382860940359499792), (55, 1, .dup, 0, 0, 0), (56, 3, .invokespecial 36, 144, 1, 3), (59, 3, .putfield 37, 8, 5, 2), (62, 1, .aload_n 0, 0, 0, 0), (63, 3, .new 41, 5, 11, 1897137597242004746899777248846145637923593842525093425848874071016747648589758480), (66, 1, .dup, 0, 0, 0), (67, 3, .invokespecial 43, 59, 1, 5), (70, 3, .putfield 44, 8, 6, 2), (73, 1, .aload_n 0, 0, 0, 0), (74, 3, .new 48, 0, 4, 4294967312), (77, 1, .dup, 0, 0, 0), (78, 3, .invokespecial 50, 145, 1, 0), (81, 3, .putfield 51, 8, 7, 2), (84, 1, .aload_n 0, 0, 0, 0), (85, 1, .iconst 3, 3, 0, 0), (86, 3, .anewarray 41, 0, 0, 0), (89, 3, .putfield 55, 8, 8, 2), (92, 1, .aload_n 0, 0, 0, 0), (93, 1, .iconst 0, 0, 0, 0), (94, 3, .putfield 59, 8, 9, 0), (97, 1, .aload_n 0, 0, 0, 0), (98, 3, .new 62, 1, 5, 374144420572285793533644614202564097528234139189264), (101, 1, .dup, 0, 0, 0), (102, 3, .invokespecial 64, 146, 1, 1), (105, 3, .putfield 65, 8, 10, 2), (108, 1, .aload_n 0, 0, 0, 0), (109, 3, .new 69, 6, 7, 110427941966452912130238808263393842731334529860403831299601686073442320), (112, 1, .dup, 0, 0, 0), (113, 3, .invokespecial 71, 147, 1, 6), (116, 3, .putfield 72, 8, 11, 2), (119, 1, .aload_n 0, 0, 0, 0), (120, 1, .iconst 0, 0, 0, 0), (121, 3, .putfield 76, 8, 12, 0), (124, 1, .aload_n 0, 0, 0, 0), (125, 3, .invokevirtual 79, 110, 1, 8), (128, 1, .return_, 0, 0, 0)]
def q_cd143 : List q_I := [(0, 1, .aload_n 0, 0, 0, 0), (1, 3, .invokespecial 3, 0, 0, 78), (4, 1, .aload_n 0, 0, 0, 0), (5, 1, .iconst 5, 5, 0, 0), (6, 2, .newarray .long, 7, 0, 0), (8, 3, .putfield 9, 4, 0, 2), (11, 1, .aload_n 0, 0, 0, 0), (12, 1, .aconst_null, 0, 0, 0), (13, 3, .putfield 15, 4, 1, 2), (16, 1, .aload_n 0, 0, 0, 0), (17, 1, .iconst 0, 0, 0, 0), (18, 3, .putfield 19, 4, 2, 0), (21, 1, .aload_n 0, 0, 0, 0), (22, 1, .aconst_null, 0, 0, 0), (23, 3, .putfield 23, 4, 3, 2), (26, 1, .aload_n 0, 0, 0, 0), (27, 1, .iconst 0, 0, 0, 0), (28, 3, .putfield 27, 4, 4, 0), (31, 1, .aload_n 0, 0, 0, 0), (32, 1, .iconst (-1), 4294967295, 0, 0), (33, 3, .putfield 30, 4, 5, 0), (36, 1, .aload_n 0, 0, 0, 0), (37, 1, .iconst 0, 0, 0, 0), (38, 3, .putfield 33, 4, 6, 0), (41, 1, .aload_n 0, 0, 0, 0), (42, 1, .iconst 0, 0, 0, 0), (43, 3, .putfield 36, 4, 7, 0), (46, 1, .aload_n 0, 0, 0, 0), (47, 1, .iconst 1, 1, 0, 0), (48, 3, .putfield 39, 4, 8, 0), (51, 1, .aload_n 0, 0, 0, 0), (52, 1, .iconst 0, 0, 0, 0), (53, 3, .putfield 42, 4, 9, 0), (56, 1, .aload_n 0, 0, 0, 0), (57, 1, .lconst 0, 19, 0, 0), (58, 3, .putfield 45, 4, 10, 3), (61, 1, .aload_n 0, 0, 0, 0), (62, 1, .iconst 0, 0, 0, 0), (63, 3, .putfield 49, 4, 11, 0), (66, 1, .aload_n 0, 0, 0, 0), (67, 1, .iconst 0, 0, 0, 0), (68, 3, .putfield 52, 4, 12, 1), (71, 1, .aload_n 0, 0, 0, 0), (72, 1, .iconst 0, 0, 0, 0), (73, 3, .putfield 56, 4, 13, 1), (76, 1, .aload_n 0, 0, 0, 0), (77, 1, .iconst 0, 0, 0, 0), (78, 3, .putfield 59, 4, 14, 1), (81, 1, .return_, 0, 0, 0)]
def q_cd144 : List q_I := [(0, 1, .aload_n 0, 0, 0, 0), (1, 3, .invokespecial 3, 0, 0, 78), (4, 1, .aload_n 0, 0, 0, 0), (5, 2, .bipush 25, 25, 0, 0), (7, 2, .newarray .int, 1, 0, 0), (9, 3, .putfield 9, 3, 0, 2), (12, 1, .aload_n 0, 0, 0, 0), (13, 2, .bipush 25, 25, 0, 0), (15, 2, .newarray .int, 1, 0, 0), (17, 3, .putfield 15, 3, 1, 2), (20, 1, .aload_n 0, 0, 0, 0), (21, 2, .bipush 25, 25, 0, 0), (23, 2, .newarray .int, 1, 0, 0), (25, 3, .putfield 18, 3, 2, 2), (28, 1, .aload_n 0, 0, 0, 0), (29, 1, .iconst 0, 0, 0, 0), (30, 3, .putfield 21, 3, 3, 0), (33, 1, .aload_n 0, 0, 0, 0), (34, 1, .iconst 0, 0, 0, 0), (35, 3, .putfield 25, 3, 4, 0), (38, 1, .aload_n 0, 0, 0, 0), (39, 1, .iconst 0, 0, 0, 0), (40, 3, .putfield 28, 3, 5, 0), (43, 1, .aload_n 0, 0, 0, 0), (44, 1, .iconst 0, 0, 0, 0), (45, 3, .putfield 31, 3, 6, 0), (48, 1, .aload_n 0, 0, 0, 0), (49, 1, .iconst 0, 0, 0, 0), (50, 3, .putfield 34, 3, 7, 0), (53, 1, .aload_n 0, 0, 0, 0), (54, 1, .iconst 0, 0, 0, 0), (55, 3, .putfield 37, 3, 8, 0), (58, 1, .aload_n 0, 0, 0, 0), (59, 1, .iconst 0, 0, 0, 0), (60, 3, .putfield 40, 3, 9, 0), (63, 1, .return_, 0, 0, 0)]
def q_cd145 : List q_I := [(0, 1, .aload_n 0, 0, 0, 0), (1, 3, .invokespecial 3, 0, 0, 78), (4, 1, .aload_n 0, 0, 0, 0), (5, 2, .bipush 40, 40, 0, 0), (7, 3, .anewarray 9, 0, 0, 0), (10, 3, .putfield 11, 0, 0, 2), (13, 1, .aload_n 0, 0, 0, 0), (14, 1, .iconst 0, 0, 0, 0), (15, 3, .putfield 17, 0, 1, 0), (18, 1, .aload_n 0, 0, 0, 0), (19, 1, .iconst 0, 0, 0, 0), (20, 3, .putfield 21, 0, 2, 0), (23, 1, .aload_n 0, 0, 0, 0), (24, 1, .iconst 0, 0, 0, 0), (25, 3, .putfield 24, 0, 3, 0), (28, 1, .return_, 0, 0, 0)]
def q_cd146 : List q_I := [(0, 1, .aload_n 0, 0, 0, 0), (1, 3, .invokespecial 3, 0, 0, 78), (4, 1, .aload_n 0, 0, 0, 0), (5, 2, .bipush 25, 25, 0, 0), (7, 2, .newarray .int, 1, 0, 0), (9, 3, .putfield 9, 1, 0, 2), (12, 1, .aload_n 0, 0, 0, 0), (13, 1, .iconst 0, 0, 0, 0), (14, 3, .putfield 15, 1, 1, 0), (17, 1, .aload_n 0, 0, 0, 0), (18, 2, .bipush 25, 25, 0, 0), (20, 2, .newarray .int, 1, 0, 0), (22, 3, .putfield 19, 1, 2, 2), (25, 1, .aload_n 0, 0, 0, 0), (26, 2, .bipush 25, 25, 0, 0), (28, 2, .newarray .int, 1, 0, 0), (30, 3, .putfield 22, 1, 3, 2), (33, 1, .aload_n 0, 0, 0, 0), (34, 2, .bipush 25, 25, 0, 0), (36, 2, .newarray .int, 1, 0, 0), (38, 3, .putfield 25, 1, 4, 2), (41, 1, .return_, 0, 0, 0)]
def q_cd147 : List q_I := [(0, 1, .aload_n 0, 0, 0, 0), (1, 3, .invokespecial 3, 0, 0, 78), (4, 1, .aload_n 0, 0, 0, 0), (5, 2, .bipush 30, 30, 0, 0), (7, 2, .newarray .int, 1, 0, 0), (9, 3, .putfield 9, 6, 0, 2), (12, 1, .aload_n 0, 0, 0, 0), (13, 2, .bipush 30, 30, 0, 0), (15, 2, .newarray .int, 1, 0, 0), (17, 3, .putfield 15, 6, 1, 2), (20, 1, .aload_n 0, 0, 0, 0), (21, 2, .bipush 30, 30, 0, 0), (23, 2, .newarray .int, 1, 0, 0), (25, 3, .putfield 18, 6, 2, 2), (28, 1, .aload_n 0, 0, 0, 0), (29, 2, .bipush 30, 30, 0, 0), (31, 2, .newarray .int, 1, 0, 0), (33, 3, .putfield 21, 6, 3, 2), (36, 1, .aload_n 0, 0, 0, 0), (37, 1, .iconst 0, 0, 0, 0), (38, 3, .putfield 24, 6, 4, 0), (41, 1, .aload_n 0, 0, 0, 0), (42, 3, .sipush 200, 200, 0, 0), (45, 2, .newarray .int, 1, 0, 0), (47, 3, .putfield 28, 6, 5, 2), (50, 1, .aload_n 0, 0, 0, 0), (51, 3, .sipush 200, 200, 0, 0), (54, 2, .newarray .int, 1, 0, 0), (56, 3, .putfield 31, 6, 6, 2), (59, 1, .return_, 0, 0, 0)]
def q_cd148 : List q_I := [(0, 1, .aload_n 0, 0, 0, 0), (1, 3, .invokespecial 1, 0, 0, 78), (4, 1, .aload_n 0, 0, 0, 0), (5, 3, .sipush 1620, 1620, 0, 0), (8, 2, .newarray .byte, 3, 0, 0), (10, 3, .putfield 7, 9, 0, 2), (13, 1, .aload_n 0, 0, 0, 0), (14, 3, .sipush 1600, 1600, 0, 0), (17, 2, .newarray .byte, 3, 0, 0), (19, 3, .putfield 13, 9, 1, 2), (22, 1, .aload_n 0, 0, 0, 0), (23, 1, .iconst (-1), 4294967295, 0, 0), (24, 3, .putfield 16, 9, 5, 0), (27, 1, .aload_n 0, 0, 0, 0), (28, 1, .iconst 2, 2, 0, 0), (29, 2, .newarray .int, 1, 0, 0), (31, 3, .putfield 20, 9, 11, 2), (34, 1, .aload_n 0, 0, 0, 0), (35, 1, .iconst 2, 2, 0, 0), (36, 2, .newarray .int, 1, 0, 0), (38, 3, .putfield 24, 9, 12, 2), (41, 1, .aload_n 0, 0, 0, 0), (42, 1, .iconst 2, 2, 0, 0), (43, 2, .newarray .int, 1, 0, 0), (45, 3, .putfield 27, 9, 13, 2), (48, 1, .aload_n 0, 0, 0, 0), (49, 1, .iconst 2, 2, 0, 0), (50, 2, .newarray .int, 1, 0, 0), (52, 3, .putfield 30, 9, 14, 2), (55, 1, .aload_n 0, 0, 0, 0), (56, 1, .iconst 2, 2, 0, 0), (57, 2, .newarray .int, 1, 0, 0), (59, 3, .putfield 33, 9, 15, 2), (62, 1, .aload_n 0, 0, 0, 0), (63, 1, .iconst 2, 2, 0, 0), (64, 2, .newarray .int, 1, 0, 0), (66, 3, .putfield 36, 9, 16, 2), (69, 1, .aload_n 0, 0, 0, 0), (70, 1, .iconst 2, 2, 0, 0), (71, 2, .newarray .int, 1, 0, 0), (73, 3, .putfield 39, 9, 17, 2), (76, 1, .aload_n 0, 0, 0, 0), (77, 1, .iconst 2, 2, 0, 0), (78, 2, .newarray .int, 1, 0, 0), (80, 3, .putfield 42, 9, 18, 2), (83, 1, .aload_n 0, 0, 0, 0), (84, 1, .iconst 2, 2, 0, 0), (85, 2, .newarray .int, 1, 0, 0), (87, 3, .putfield 45, 9, 19, 2), (90, 1, .aload_n 0, 0, 0, 0), (91, 2, .bipush 10, 10, 0, 0), (93, 2, .newarray .int, 1, 0, 0), (95, 3, .putfield 48, 9, 20, 2), (98, 1, .aload_n 0, 0, 0, 0), (99, 2, .bipush 10, 10, 0, 0), (101, 2, .newarray .int, 1, 0, 0), (103, 3, .putfield 51, 9, 21, 2), (106, 1, .aload_n 0, 0, 0, 0), (107, 2, .bipush 10, 10, 0, 0), (109, 2, .newarray .int, 1, 0, 0), (111, 3, .putfield 54, 9, 22, 2), (114, 1, .aload_n 0, 0, 0, 0), (115, 1, .iconst 2, 2, 0, 0), (116, 2, .newarray .int, 1, 0, 0), (118, 3, .putfield 57, 9, 23, 2), (121, 1, .aload_n 0, 0, 0, 0), (122, 1, .iconst 2, 2, 0, 0), (123, 2, .newarray .int, 1, 0, 0), (125, 3, .putfield 60, 9, 24, 2), (128, 1, .aload_n 0, 0, 0, 0), (129, 1, .iconst 2, 2, 0, 0), (130, 2, .newarray .boolean, 5, 0, 0), (132, 3, .putfield 63, 9, 25, 2), (135, 1, .aload_n 0, 0, 0, 0), (136, 1, .iconst 2, 2, 0, 0), (137, 2, .newarray .boolean, 5, 0, 0), (139, 3, .putfield 67, 9, 26, 2), (142, 1, .aload_n 0, 0, 0, 0), (143, 1, .iconst 2, 2, 0, 0), (144, 2, .newarray .boolean, 5, 0, 0), (146, 3, .putfield 70, 9, 27, 2), (149, 1, .aload_n 0, 0, 0, 0), (150, 2, .bipush 10, 10, 0, 0), (152, 2, .newarray .long, 7, 0, 0), (154, 3, .putfield 73, 9, 28, 2), (157, 1, .aload_n 0, 0, 0, 0), (158, 3, .sipush 1120, 1120, 0, 0), (161, 2, .newarray .int, 1, 0, 0), (163, 3, .putfield 77, 9, 29, 2), (166, 1, .aload_n 0, 0, 0, 0), (167, 3, .sipush 1120, 1120, 0, 0), (170, 2, .newarray .int, 1, 0, 0), (172, 3, .putfield 80, 9, 30, 2), (175, 1, .aload_n 0, 0, 0, 0), (176, 2, .bipush 90, 90, 0, 0), (178, 2, .newarray .int, 1, 0, 0), (180, 3, .putfield 83, 9, 31, 2), (183, 1, .aload_n 0, 0, 0, 0), (184, 2, .bipush 90, 90, 0, 0), (186, 2, .newarray .int, 1, 0, 0), (188, 3, .putfield 86, 9, 32, 2), (191, 1, .aload_n 0, 0, 0, 0), (192, 2, .bipush 60, 60, 0, 0), (194, 2, .newarray .int, 1, 0, 0), (196, 3, .putfield 89, 9, 33, 2), (199, 1, .aload_n 0, 0, 0, 0), (200, 3, .sipush 438, 438, 0, 0), (203, 2, .newarray .int, 1, 0, 0), (205, 3, .putfield 92, 9, 41, 2), (208, 1, .aload_n 0, 0, 0, 0), (209, 3, .sipush 17958, 17958, 0, 0), (212, 2, .newarray .int, 1, 0, 0), (214, 3, .putfield 95, 9, 42, 2), (217, 1, .aload_n 0, 0, 0, 0), (218, 2, .bipush 25, 25, 0, 0), (220, 2, .newarray .int, 1, 0, 0), (222, 3, .putfield 98, 9, 45, 2), (225, 1, .aload_n 0, 0, 0, 0), (226, 2, .bipush 25, 25, 0, 0), (228, 2, .newarray .int, 1, 0, 0), (230, 3, .putfield 101, 9, 46, 2), (233, 1, .aload_n 0, 0, 0, 0), (234, 2, .bipush 26, 26, 0, 0), (236, 2, .newarray .int, 1, 0, 0), (238, 3, .putfield 104, 9, 47, 2), (241, 1, .aload_n 0, 0, 0, 0), (242, 2, .bipush 25, 25, 0, 0), (244, 2, .newarray .int, 1, 0, 0), (246, 3, .putfield 107, 9, 49, 2), (249, 1, .aload_n 0, 0, 0, 0), (250, 2, .bipush 25, 25, 0, 0), (252, 2, .newarray .int, 1, 0, 0), (254, 3, .putfield 110, 9, 50, 2), (257, 1, .aload_n 0, 0, 0, 0), (258, 2, .bipush 25, 25, 0, 0), (260, 2, .newarray .int, 1, 0, 0), (262, 3, .putfield 113, 9, 51, 2), (265, 1, .aload_n 0, 0, 0, 0), (266, 2, .bipush 32, 32, 0, 0), (268, 2, .newarray .int, 1, 0, 0), (270, 3, .putfield 116, 9, 52, 2), (273, 1, .aload_n 0, 0, 0, 0), (274, 1, .iconst 4, 4, 0, 0), (275, 2, .newarray .int, 1, 0, 0), (277, 3, .putfield 119, 9, 53, 2), (280, 1, .aload_n 0, 0, 0, 0), (281, 2, .bipush 32, 32, 0, 0), (283, 2, .newarray .int, 1, 0, 0), (285, 3, .putfield 122, 9, 54, 2), (288, 1, .aload_n 0, 0, 0, 0), (289, 3, .sipush 625, 625, 0, 0), (292, 2, .newarray .int, 1, 0, 0), (294, 3, .putfield 125, 9, 55, 2), (297, 1, .aload_n 0, 0, 0, 0), (298, 2, .bipush 30, 30, 0, 0), (300, 2, .newarray .int, 1, 0, 0), (302, 3, .putfield 128, 9, 56, 2), (305, 1, .aload_n 0, 0, 0, 0), (306, 2, .bipush 30, 30, 0, 0), (308, 2, .newarray .int, 1, 0, 0), (310, 3, .putfield 131, 9, 57, 2), (313, 1, .aload_n 0, 0, 0, 0), (314, 2, .bipush 30, 30, 0, 0), (316, 2, .newarray .int, 1, 0, 0), (318, 3, .putfield 134, 9, 58, 2), (321, 1, .aload_n 0, 0, 0, 0), (322, 2, .bipush 30, 30, 0, 0), (324, 2, .newarray .int, 1, 0, 0), (326, 3, .putfield 137, 9, 59, 2), (329, 1, .aload_n 0, 0, 0, 0), (330, 2, .bipush 30, 30, 0, 0), (332, 2, .newarray .int, 1, 0, 0), (334, 3, .putfield 140, 9, 60, 2), (337, 1, .aload_n 0, 0, 0, 0), (338, 2, .bipush 30, 30, 0, 0), (340, 2, .newarray .int, 1, 0, 0), (342, 3, .putfield 143, 9, 61, 2), (345, 1, .aload_n 0, 0, 0, 0), (346, 3, .sipush 200, 200, 0, 0), (349, 2, .newarray .int, 1, 0, 0), (351, 3, .putfield 146, 9, 62, 2), (354, 1, .aload_n 0, 0, 0, 0), (355, 3, .sipush 200, 200, 0, 0), (358, 2, .newarray .int, 1, 0, 0), (360, 3, .putfield 149, 9, 63, 2), (363, 1, .aload_n 0, 0, 0, 0), (364, 3, .sipush 1314, 1314, 0, 0), (367, 2, .newarray .int, 1, 0, 0), (369, 3, .putfield 152, 9, 66, 2), (372, 1, .aload_n 0, 0, 0, 0), (373, 1, .iconst 3, 3, 0, 0), (374, 2, .newarray .boolean, 5, 0, 0), (376, 3, .putfield 155, 9, 67, 2), (379, 1, .aload_n 0, 0, 0, 0), (380, 3, .invokevirtual 158, 114, 1, 9), (383, 1, .aload_n 0, 0, 0, 0), (384, 3, .invokevirtual 161, 115, 1, 9), (387, 1, .return_, 0, 0, 0)]
def q_cd149 : List q_I := [(0, 1, .aload_n 0, 0, 0, 0), (1, 3, .getfield 13, 8, 1, 0), (4, 2, .bipush 20, 20, 0, 0), (6, 1, .iadd, 0, 0, 0), (7, 3, .sipush 1600, 1600, 0, 0), (10, 3, .if_icmp .le 5, 15, 0, 0), (13, 1, .iconst (-1), 4294967295, 0, 0), (14, 1, .ireturn, 0, 0, 0), (15, 1, .aload_n 0, 0, 0, 0), (16, 1, .iload_n 1, 1, 0, 0), (17, 3, .invokevirtual 82, 63, 2, 8), (20, 1, .aload_n 0, 0, 0, 0), (21, 1, .iload_n 2, 2, 0, 0), (22, 3, .invokevirtual 82, 63, 2, 8), (25, 1, .aload_n 0, 0, 0, 0), (26, 1, .iload_n 3, 3, 0, 0), (27, 3, .invokevirtual 82, 63, 2, 8), (30, 1, .aload_n 0, 0, 0, 0), (31, 2, .iload 4, 4, 0, 0), (33, 3, .invokevirtual 82, 63, 2, 8), (36, 1, .aload_n 0, 0, 0, 0), (37, 2, .iload 5, 5, 0, 0), (39, 3, .invokevirtual 82, 63, 2, 8), (42, 1, .aload_n 0, 0, 0, 0), (43, 3, .getfield 13, 8, 1, 0), (46, 1, .ireturn, 0, 0, 0)]
def q_cd150 : List q_I := [(0, 1, .aload_n 0, 0, 0, 0), (1, 3, .getfield 271, 9, 2, 0), (4, 2, .bipush 20, 20, 0, 0), (6, 1, .iadd, 0, 0, 0), (7, 3, .sipush 1600, 1600, 0, 0), (10, 3, .if_icmp .le 5, 15, 0, 0), (13, 1, .iconst (-1), 4294967295, 0, 0), (14, 1, .ireturn, 0, 0, 0), (15, 1, .iconst 0, 0, 0, 0), (16, 2, .istore 6, 6, 0, 0), (18, 2, .iload 6, 6, 0, 0), (20, 2, .bipush 20, 20, 0, 0), (22, 3, .if_icmp .ge 83, 105, 0, 0), (25, 2, .iload 6, 6, 0, 0), (27, 1, .iconst 4, 4, 0, 0), (28, 3, .if_icmp .ge 7, 35, 0, 0), (31, 1, .iload_n 1, 1, 0, 0), (32, 3, .goto 39, 71, 0, 0), (35, 2, .iload 6, 6, 0, 0), (37, 2, .bipush 8, 8, 0, 0), (39, 3, .if_icmp .ge 7, 46, 0, 0), (42, 1, .iload_n 2, 2, 0, 0), (43, 3, .goto 28, 71, 0, 0), (46, 2, .iload 6, 6, 0, 0), (48, 2, .bipush 12, 12, 0, 0), (50, 3, .if_icmp .ge 7, 57, 0, 0), (53, 1, .iload_n 3, 3, 0, 0), (54, 3, .goto 17, 71, 0, 0), (57, 2, .iload 6, 6, 0, 0), (59, 2, .bipush 16, 16, 0, 0), (61, 3, .if_icmp .ge 8, 69, 0, 0), (64, 2, .iload 4, 4, 0, 0), (66, 3, .goto 5, 71, 0, 0), (69, 2, .iload 5, 5, 0, 0), (71, 2, .istore 7, 7, 0, 0), (73, 1, .aload_n 0, 0, 0, 0), (74, 3, .getfield 7, 9, 0, 2), (77, 1, .aload_n 0, 0, 0, 0), (78, 3, .getfield 271, 9, 2, 0), (81, 2, .iload 6, 6, 0, 0), (83, 1, .iadd, 0, 0, 0), (84, 2, .iload 7, 7, 0, 0), (86, 2, .bipush 24, 24, 0, 0), (88, 2, .bipush 8, 8, 0, 0), (90, 2, .iload 6, 6, 0, 0), (92, 1, .iconst 3, 3, 0, 0), (93, 1, .iand, 0, 0, 0), (94, 1, .imul, 0, 0, 0), (95, 1, .isub, 0, 0, 0), (96, 1, .ishr, 0, 0, 0), (97, 1, .i2b, 0, 0, 0), (98, 1, .bastore, 0, 0, 0), (99, 3, .iinc 6 1, 6, 1, 0), (102, 3, .goto (-84), 18, 0, 0), (105, 1, .aload_n 0, 0, 0, 0), (106, 1, .dup, 0, 0, 0), (107, 3, .getfield 271, 9, 2, 0), (110, 2, .bipush 20, 20, 0, 0), (112, 1, .iadd, 0, 0, 0), (113, 3, .putfield 271, 9, 2, 0), (116, 1, .aload_n 0, 0, 0, 0), (117, 3, .getfield 271, 9, 2, 0), (120, 1, .ireturn, 0, 0, 0)]
def q_cd151 : List q_I := [(0, 1, .aload_n 0, 0, 0, 0), (1, 3, .getfield 20, 8, 2, 2), (4, 1, .aload_n 0, 0, 0, 0), (5, 3, .getfield 9, 8, 0, 2), (8, 1, .aload_n 0, 0, 0, 0), (9, 3, .getfield 13, 8, 1, 0), (12, 1, .aload_n 0, 0, 0, 0), (13, 3, .getfield 31, 8, 4, 2), (16, 3, .invokevirtual 86, 152, 4, 4), (19, 3, .ifCond .ne 5, 24, 0, 0), (22, 1, .iconst (-1), 4294967295, 0, 0), (23, 1, .ireturn, 0, 0, 0), (24, 1, .aload_n 0, 0, 0, 0), (25, 3, .getfield 27, 8, 3, 2), (28, 1, .astore_n 1, 1, 0, 0), (29, 1, .aload_n 0, 0, 0, 0), (30, 1, .aload_n 0, 0, 0, 0), (31, 3, .getfield 31, 8, 4, 2), (34, 3, .putfield 27, 8, 3, 2), (37, 1, .aload_n 0, 0, 0, 0), (38, 1, .aload_n 1, 1, 0, 0), (39, 3, .putfield 31, 8, 4, 2), (42, 1, .aload_n 0, 0, 0, 0), (43, 1, .iconst 0, 0, 0, 0), (44, 3, .putfield 13, 8, 1, 0), (47, 1, .aload_n 0, 0, 0, 0), (48, 3, .invokevirtual 79, 110, 1, 8), (51, 1, .aload_n 0, 0, 0, 0), (52, 3, .getfield 27, 8, 3, 2), (55, 3, .getfield 90, 7, 8, 0), (58, 1, .ireturn, 0, 0, 0)]
def q_cd152 : List q_I := [(0, 1, .aload_n 0, 0, 0, 0), (1, 1, .aload_n 1, 1, 0, 0), (2, 3, .putfield 15, 4, 1, 2), (5, 1, .aload_n 0, 0, 0, 0), (6, 1, .iload_n 2, 2, 0, 0), (7, 1, .aload_n 1, 1, 0, 0), (8, 1, .arraylength, 0, 0, 0), (9, 3, .invokestatic 62, 62, 2, 0), (12, 3, .putfield 19, 4, 2, 0), (15, 1, .aload_n 0, 0, 0, 0), (16, 1, .aload_n 3, 3, 0, 0), (17, 3, .putfield 23, 4, 3, 2), (20, 1, .aload_n 0, 0, 0, 0), (21, 3, .getfield 23, 4, 3, 2), (24, 3, .invokevirtual 68, 153, 1, 7), (27, 1, .aload_n 0, 0, 0, 0), (28, 1, .iconst 0, 0, 0, 0), (29, 3, .putfield 27, 4, 4, 0), (32, 1, .aload_n 0, 0, 0, 0), (33, 1, .iconst (-1), 4294967295, 0, 0), (34, 3, .putfield 30, 4, 5, 0), (37, 1, .aload_n 0, 0, 0, 0), (38, 1, .iconst 0, 0, 0, 0), (39, 3, .putfield 36, 4, 7, 0), (42, 1, .aload_n 0, 0, 0, 0), (43, 1, .iconst 0, 0, 0, 0), (44, 3, .putfield 52, 4, 12, 1), (47, 1, .aload_n 0, 0, 0, 0), (48, 1, .iconst 0, 0, 0, 0), (49, 3, .putfield 56, 4, 13, 1), (52, 1, .aload_n 0, 0, 0, 0), (53, 1, .iconst 0, 0, 0, 0), (54, 3, .putfield 59, 4, 14, 1), (57, 1, .aload_n 0, 0, 0, 0), (58, 3, .invokevirtual 73, 154, 1, 4), (61, 1, .iconst 1, 1, 0, 0), (62, 2, .istore 4, 4, 0, 0), (64, 1, .aload_n 0, 0, 0, 0), (65, 1, .iconst 0, 0, 0, 0), (66, 3, .putfield 49, 4, 11, 0), (69, 1, .aload_n 0, 0, 0, 0), (70, 3, .getfield 49, 4, 11, 0), (73, 3, .sipush 1600, 1600, 0, 0), (76, 3, .if_icmp .ge 52, 128, 0, 0), (79, 2, .iload 4, 4, 0, 0), (81, 3, .ifCond .eq 47, 128, 0, 0), (84, 1, .aload_n 0, 0, 0, 0), (85, 3, .getfield 39, 4, 8, 0), (88, 1, .iconst 1, 1, 0, 0), (89, 3, .if_icmp .eq 39, 128, 0, 0), (92, 1, .aload_n 0, 0, 0, 0), (93, 3, .invokevirtual 76, 221, 1, 4), (96, 3, .ifCond .eq 16, 112, 0, 0), (99, 1, .aload_n 0, 0, 0, 0), (100, 2, .bipush 59, 59, 0, 0), (102, 3, .invokevirtual 80, 213, 2, 4), (105, 3, .ifCond .eq 7, 112, 0, 0), (108, 1, .iconst 1, 1, 0, 0), (109, 3, .goto 4, 113, 0, 0), (112, 1, .iconst 0, 0, 0, 0), (113, 2, .istore 4, 4, 0, 0), (115, 1, .aload_n 0, 0, 0, 0), (116, 1, .dup, 0, 0, 0), (117, 3, .getfield 49, 4, 11, 0), (120, 1, .iconst 1, 1, 0, 0), (121, 1, .iadd, 0, 0, 0), (122, 3, .putfield 49, 4, 11, 0), (125, 3, .goto (-56), 69, 0, 0), (128, 2, .iload 4, 4, 0, 0), (130, 1, .ireturn, 1, 0, 0)]
def q_cd153 : List q_I := [(0, 1, .aload_n 0, 0, 0, 0), (1, 3, .getfield 24, 7, 3, 2), (4, 1, .iconst 0, 0, 0, 0), (5, 3, .putfield 53, 2, 3, 0), (8, 1, .aload_n 0, 0, 0, 0), (9, 1, .iconst 4, 4, 0, 0), (10, 3, .putfield 28, 7, 4, 0), (13, 1, .aload_n 0, 0, 0, 0), (14, 1, .iconst 4, 4, 0, 0), (15, 3, .putfield 32, 7, 5, 0), (18, 1, .aload_n 0, 0, 0, 0), (19, 1, .iconst 0, 0, 0, 0), (20, 3, .putfield 35, 7, 6, 0), (23, 1, .aload_n 0, 0, 0, 0), (24, 1, .iconst 0, 0, 0, 0), (25, 3, .putfield 38, 7, 7, 0), (28, 1, .aload_n 0, 0, 0, 0), (29, 1, .iconst 0, 0, 0, 0), (30, 3, .putfield 41, 7, 8, 0), (33, 1, .aload_n 0, 0, 0, 0), (34, 1, .iconst 0, 0, 0, 0), (35, 3, .putfield 44, 7, 9, 0), (38, 1, .aload_n 0, 0, 0, 0), (39, 1, .iconst 0, 0, 0, 0), (40, 3, .putfield 47, 7, 10, 0), (43, 1, .aload_n 0, 0, 0, 0), (44, 1, .iconst 0, 0, 0, 0), (45, 3, .putfield 50, 7, 11, 0), (48, 1, .return_, 0, 0, 0)]
def q_cd154 : List q_I := [(0, 1, .aload_n 0, 0, 0, 0), (1, 1, .aload_n 0, 0, 0, 0), (2, 3, .getfield 36, 4, 7, 0), (5, 3, .putfield 33, 4, 6, 0), (8, 1, .aload_n 0, 0, 0, 0), (9, 3, .getfield 33, 4, 6, 0), (12, 1, .aload_n 0, 0, 0, 0), (13, 3, .getfield 19, 4, 2, 0), (16, 3, .if_icmp .ge 30, 46, 0, 0), (19, 1, .aload_n 0, 0, 0, 0), (20, 1, .aload_n 0, 0, 0, 0), (21, 3, .getfield 33, 4, 6, 0), (24, 3, .invokevirtual 192, 155, 2, 4), (27, 3, .invokestatic 195, 214, 1, 0), (30, 3, .ifCond .eq 16, 46, 0, 0), (33, 1, .aload_n 0, 0, 0, 0), (34, 1, .dup, 0, 0, 0), (35, 3, .getfield 33, 4, 6, 0), (38, 1, .iconst 1, 1, 0, 0), (39, 1, .iadd, 0, 0, 0), (40, 3, .putfield 33, 4, 6, 0), (43, 3, .goto (-35), 8, 0, 0), (46, 1, .aload_n 0, 0, 0, 0), (47, 1, .aload_n 0, 0, 0, 0), (48, 3, .getfield 33, 4, 6, 0), (51, 3, .invokevirtual 192, 155, 2, 4), (54, 1, .istore_n 1, 1, 0, 0), (55, 1, .iload_n 1, 1, 0, 0), (56, 3, .invokestatic 198, 156, 1, 0), (59, 3, .ifCond .eq 10, 69, 0, 0), (62, 1, .aload_n 0, 0, 0, 0), (63, 3, .invokevirtual 201, 233, 1, 4), (66, 3, .goto 67, 133, 0, 0), (69, 1, .iload_n 1, 1, 0, 0), (70, 3, .invokestatic 204, 157, 1, 0), (73, 3, .ifCond .eq 10, 83, 0, 0), (76, 1, .aload_n 0, 0, 0, 0), (77, 3, .invokevirtual 207, 232, 1, 4), (80, 3, .goto 53, 133, 0, 0), (83, 1, .iload_n 1, 1, 0, 0), (84, 1, .iconst (-1), 4294967295, 0, 0), (85, 3, .if_icmp .ne 19, 104, 0, 0), (88, 1, .aload_n 0, 0, 0, 0), (89, 1, .iconst 1, 1, 0, 0), (90, 3, .putfield 39, 4, 8, 0), (93, 1, .aload_n 0, 0, 0, 0), (94, 1, .aload_n 0, 0, 0, 0), (95, 3, .getfield 33, 4, 6, 0), (98, 3, .putfield 36, 4, 7, 0), (101, 3, .goto 32, 133, 0, 0), (104, 1, .aload_n 0, 0, 0, 0), (105, 2, .ldc 210, 0, 2, 99), (107, 1, .iload_n 1, 1, 0, 0), (108, 1, .i2c, 0, 0, 0), (109, 3, .invokevirtual 212, 2, 88, 99), (112, 3, .ifCond .lt 7, 119, 0, 0), (115, 1, .iload_n 1, 1, 0, 0), (116, 3, .goto 4, 120, 0, 0), (119, 1, .iconst 0, 0, 0, 0), (120, 3, .putfield 39, 4, 8, 0), (123, 1, .aload_n 0, 0, 0, 0), (124, 1, .aload_n 0, 0, 0, 0), (125, 3, .getfield 33, 4, 6, 0), (128, 1, .iconst 1, 1, 0, 0), (129, 1, .iadd, 0, 0, 0), (130, 3, .putfield 36, 4, 7, 0), (133, 1, .return_, 0, 0, 0)]
def q_cd155 : List q_I := [(0, 1, .aload_n 0, 0, 0, 0), (1, 3, .getfield 15, 4, 1, 2), (4, 3, .ifnull 24, 28, 0, 0), (7, 1, .iload_n 1, 1, 0, 0), (8, 3, .ifCond .lt 20, 28, 0, 0), (11, 1, .iload_n 1, 1, 0, 0), (12, 1, .aload_n 0, 0, 0, 0), (13, 3, .getfield 19, 4, 2, 0), (16, 3, .if_icmp .ge 12, 28, 0, 0), (19, 1, .iload_n 1, 1, 0, 0), (20, 1, .aload_n 0, 0, 0, 0), (21, 3, .getfield 15, 4, 1, 2), (24, 1, .arraylength, 0, 0, 0), (25, 3, .if_icmp .lt 5, 30, 0, 0), (28, 1, .iconst (-1), 4294967295, 0, 0), (29, 1, .ireturn, 0, 0, 0), (30, 1, .aload_n 0, 0, 0, 0), (31, 3, .getfield 15, 4, 1, 2), (34, 1, .iload_n 1, 1, 0, 0), (35, 1, .baload, 0, 0, 0), (36, 3, .sipush 255, 255, 0, 0), (39, 1, .iand, 0, 0, 0), (40, 1, .ireturn, 0, 0, 0)]
def q_cd156 : List q_I := [(0, 1, .iload_n 0, 0, 0, 0), (1, 2, .bipush 97, 97, 0, 0), (3, 3, .if_icmp .lt 13, 16, 0, 0), (6, 1, .iload_n 0, 0, 0, 0), (7, 2, .bipush 122, 122, 0, 0), (9, 3, .if_icmp .gt 7, 16, 0, 0), (12, 1, .iconst 1, 1, 0, 0), (13, 3, .goto 4, 17, 0, 0), (16, 1, .iconst 0, 0, 0, 0), (17, 1, .ireturn, 1, 0, 0)]
def q_cd157 : List q_I := [(0, 1, .iload_n 0, 0, 0, 0), (1, 2, .bipush 48, 48, 0, 0), (3, 3, .if_icmp .lt 13, 16, 0, 0), (6, 1, .iload_n 0, 0, 0, 0), (7, 2, .bipush 57, 57, 0, 0), (9, 3, .if_icmp .gt 7, 16, 0, 0), (12, 1, .iconst 1, 1, 0, 0), (13, 3, .goto 4, 17, 0, 0), (16, 1, .iconst 0, 0, 0, 0), (17, 1, .ireturn, 1, 0, 0)]
def q_cd158 : List q_I := [(0, 1, .aload_n 0, 0, 0, 0), (1, 1, .iconst 0, 0, 0, 0), (2, 3, .putfield 167, 9, 4, 0), (5, 1, .aload_n 0, 0, 0, 0), (6, 1, .iconst (-1), 4294967295, 0, 0), (7, 3, .putfield 16, 9, 5, 0), (10, 1, .aload_n 0, 0, 0, 0), (11, 1, .aload_n 0, 0, 0, 0), (12, 3, .getfield 271, 9, 2, 0), (15, 3, .putfield 164, 9, 3, 0), (18, 1, .iconst 0, 0, 0, 0), (19, 1, .istore_n 1, 1, 0, 0), (20, 1, .iload_n 1, 1, 0, 0), (21, 1, .aload_n 0, 0, 0, 0), (22, 3, .getfield 164, 9, 3, 0), (25, 3, .if_icmp .ge 21, 46, 0, 0), (28, 1, .aload_n 0, 0, 0, 0), (29, 3, .getfield 13, 9, 1, 2), (32, 1, .iload_n 1, 1, 0, 0), (33, 1, .aload_n 0, 0, 0, 0), (34, 3, .getfield 7, 9, 0, 2), (37, 1, .iload_n 1, 1, 0, 0), (38, 1, .baload, 0, 0, 0), (39, 1, .bastore, 0, 0, 0), (40, 3, .iinc 1 1, 1, 1, 0), (43, 3, .goto (-23), 20, 0, 0), (46, 1, .aload_n 0, 0, 0, 0), (47, 1, .iconst 0, 0, 0, 0), (48, 3, .putfield 271, 9, 2, 0), (51, 1, .aload_n 0, 0, 0, 0), (52, 1, .iconst 0, 0, 0, 0), (53, 3, .putfield 206, 9, 7, 0), (56, 1, .aload_n 0, 0, 0, 0), (57, 1, .iconst 1, 1, 0, 0), (58, 1, .aload_n 0, 0, 0, 0), (59, 3, .getfield 274, 9, 34, 0), (62, 1, .isub, 0, 0, 0), (63, 3, .putfield 265, 9, 35, 0), (66, 1, .aload_n 0, 0, 0, 0), (67, 3, .invokevirtual 158, 114, 1, 9), (70, 1, .aload_n 0, 0, 0, 0), (71, 3, .invokevirtual 248, 159, 1, 9), (74, 1, .aload_n 0, 0, 0, 0), (75, 3, .invokevirtual 244, 116, 1, 9), (78, 3, .ifCond .eq 17, 95, 0, 0), (81, 1, .aload_n 0, 0, 0, 0), (82, 3, .getfield 216, 9, 8, 0), (85, 3, .ifCond .eq 10, 95, 0, 0), (88, 1, .aload_n 0, 0, 0, 0), (89, 3, .invokevirtual 277, 269, 1, 9), (92, 3, .goto (-18), 74, 0, 0), (95, 1, .aload_n 0, 0, 0, 0), (96, 3, .invokevirtual 244, 116, 1, 9), (99, 3, .ifCond .ne 5, 104, 0, 0), (102, 1, .iconst (-1), 4294967295, 0, 0), (103, 1, .ireturn, 0, 0, 0), (104, 1, .aload_n 0, 0, 0, 0), (105, 1, .aload_n 0, 0, 0, 0), (106, 3, .getfield 265, 9, 35, 0), (109, 3, .putfield 274, 9, 34, 0), (112, 1, .aload_n 0, 0, 0, 0), (113, 3, .invokevirtual 161, 115, 1, 9), (116, 1, .aload_n 0, 0, 0, 0), (117, 3, .getfield 36, 9, 16, 2), (120, 1, .aload_n 0, 0, 0, 0), (121, 3, .getfield 274, 9, 34, 0), (124, 1, .iaload, 0, 0, 0), (125, 1, .ireturn, 0, 0, 0)]
def q_cd159 : List q_I := [(0, 1, .aload_n 0, 0, 0, 0), (1, 1, .aload_n 0, 0, 0, 0), (2, 3, .getfield 206, 9, 7, 0), (5, 3, .putfield 209, 9, 6, 0), (8, 1, .aload_n 0, 0, 0, 0), (9, 3, .getfield 209, 9, 6, 0), (12, 1, .aload_n 0, 0, 0, 0), (13, 3, .getfield 164, 9, 3, 0), (16, 3, .if_icmp .ge 42, 58, 0, 0), (19, 1, .aload_n 0, 0, 0, 0), (20, 1, .aload_n 0, 0, 0, 0), (21, 3, .getfield 209, 9, 6, 0), (24, 3, .invokevirtual 212, 160, 2, 9), (27, 2, .bipush 32, 32, 0, 0), (29, 3, .if_icmp .eq 16, 45, 0, 0), (32, 1, .aload_n 0, 0, 0, 0), (33, 1, .aload_n 0, 0, 0, 0), (34, 3, .getfield 209, 9, 6, 0), (37, 3, .invokevirtual 212, 160, 2, 9), (40, 2, .bipush 10, 10, 0, 0), (42, 3, .if_icmp .ne 16, 58, 0, 0), (45, 1, .aload_n 0, 0, 0, 0), (46, 1, .dup, 0, 0, 0), (47, 3, .getfield 209, 9, 6, 0), (50, 1, .iconst 1, 1, 0, 0), (51, 1, .iadd, 0, 0, 0), (52, 3, .putfield 209, 9, 6, 0), (55, 3, .goto (-47), 8, 0, 0), (58, 1, .aload_n 0, 0, 0, 0), (59, 1, .aload_n 0, 0, 0, 0), (60, 3, .getfield 209, 9, 6, 0), (63, 3, .invokevirtual 212, 160, 2, 9), (66, 1, .istore_n 1, 1, 0, 0), (67, 1, .aload_n 0, 0, 0, 0), (68, 1, .aload_n 0, 0, 0, 0), (69, 3, .getfield 209, 9, 6, 0), (72, 1, .iconst 1, 1, 0, 0), (73, 1, .iadd, 0, 0, 0), (74, 3, .putfield 206, 9, 7, 0), (77, 1, .aload_n 0, 0, 0, 0), (78, 3, .getfield 209, 9, 6, 0), (81, 1, .aload_n 0, 0, 0, 0), (82, 3, .getfield 164, 9, 3, 0), (85, 3, .if_icmp .lt 27, 112, 0, 0), (88, 1, .aload_n 0, 0, 0, 0), (89, 1, .iconst 0, 0, 0, 0), (90, 3, .putfield 216, 9, 8, 0), (93, 1, .aload_n 0, 0, 0, 0), (94, 1, .aload_n 0, 0, 0, 0), (95, 3, .getfield 164, 9, 3, 0), (98, 3, .putfield 209, 9, 6, 0), (101, 1, .aload_n 0, 0, 0, 0), (102, 1, .aload_n 0, 0, 0, 0), (103, 3, .getfield 164, 9, 3, 0), (106, 3, .putfield 206, 9, 7, 0), (109, 3, .goto 268, 377, 0, 0), (112, 1, .iload_n 1, 1, 0, 0), (113, 3, .invokestatic 219, 256, 1, 0), (116, 3, .ifCond .eq 123, 239, 0, 0), (119, 1, .aload_n 0, 0, 0, 0), (120, 1, .aload_n 0, 0, 0, 0), (121, 3, .getfield 206, 9, 7, 0), (124, 3, .invokevirtual 212, 160, 2, 9), (127, 3, .invokestatic 219, 256, 1, 0), (130, 3, .ifCond .eq 16, 146, 0, 0), (133, 1, .aload_n 0, 0, 0, 0), (134, 1, .dup, 0, 0, 0), (135, 3, .getfield 206, 9, 7, 0), (138, 1, .iconst 1, 1, 0, 0), (139, 1, .iadd, 0, 0, 0), (140, 3, .putfield 206, 9, 7, 0), (143, 3, .goto (-24), 119, 0, 0), (146, 1, .aload_n 0, 0, 0, 0), (147, 1, .lconst 0, 19, 0, 0), (148, 3, .putfield 223, 9, 10, 3), (151, 1, .aload_n 0, 0, 0, 0), (152, 3, .getfield 209, 9, 6, 0), (155, 1, .istore_n 2, 2, 0, 0), (156, 1, .iload_n 2, 2, 0, 0), (157, 1, .aload_n 0, 0, 0, 0), (158, 3, .getfield 206, 9, 7, 0), (161, 3, .if_icmp .ge 38, 199, 0, 0), (164, 1, .iload_n 2, 2, 0, 0), (165, 1, .aload_n 0, 0, 0, 0), (166, 3, .getfield 209, 9, 6, 0), (169, 2, .bipush 8, 8, 0, 0), (171, 1, .iadd, 0, 0, 0), (172, 3, .if_icmp .ge 27, 199, 0, 0), (175, 1, .aload_n 0, 0, 0, 0), (176, 1, .aload_n 0, 0, 0, 0), (177, 3, .getfield 223, 9, 10, 3), (180, 2, .bipush 8, 8, 0, 0), (182, 1, .lshl, 0, 0, 0), (183, 1, .aload_n 0, 0, 0, 0), (184, 1, .iload_n 2, 2, 0, 0), (185, 3, .invokevirtual 212, 160, 2, 9), (188, 1, .i2l, 0, 0, 0), (189, 1, .lor, 0, 0, 0), (190, 3, .putfield 223, 9, 10, 3), (193, 3, .iinc 2 1, 2, 1, 0), (196, 3, .goto (-40), 156, 0, 0), (199, 1, .aload_n 0, 0, 0, 0), (200, 1, .aload_n 0, 0, 0, 0), (201, 3, .getfield 206, 9, 7, 0), (204, 1, .aload_n 0, 0, 0, 0), (205, 3, .getfield 209, 9, 6, 0), (208, 1, .isub, 0, 0, 0), (209, 2, .bipush 8, 8, 0, 0), (211, 3, .if_icmp .le 7, 218, 0, 0), (214, 1, .iconst 1, 1, 0, 0), (215, 3, .goto 18, 233, 0, 0), (218, 1, .aload_n 0, 0, 0, 0), (219, 3, .getfield 223, 9, 10, 3), (222, 3, .invokestatic 227, 255, 1, 0), (225, 3, .ifCond .eq 7, 232, 0, 0), (228, 1, .iconst 3, 3, 0, 0), (229, 3, .goto 4, 233, 0, 0), (232, 1, .iconst 2, 2, 0, 0), (233, 3, .putfield 216, 9, 8, 0), (236, 3, .goto 141, 377, 0, 0), (239, 1, .iload_n 1, 1, 0, 0), (240, 3, .invokestatic 231, 253, 1, 0), (243, 3, .ifCond .eq 118, 361, 0, 0), (246, 1, .aload_n 0, 0, 0, 0), (247, 1, .iconst 0, 0, 0, 0), (248, 3, .putfield 234, 9, 9, 0), (251, 1, .aload_n 0, 0, 0, 0), (252, 1, .aload_n 0, 0, 0, 0), (253, 3, .getfield 209, 9, 6, 0), (256, 3, .putfield 206, 9, 7, 0), (259, 1, .aload_n 0, 0, 0, 0), (260, 1, .aload_n 0, 0, 0, 0), (261, 3, .getfield 206, 9, 7, 0), (264, 3, .invokevirtual 212, 160, 2, 9), (267, 3, .invokestatic 231, 253, 1, 0), (270, 3, .ifCond .eq 52, 322, 0, 0), (273, 1, .aload_n 0, 0, 0, 0), (274, 3, .getfield 206, 9, 7, 0), (277, 1, .aload_n 0, 0, 0, 0), (278, 3, .getfield 209, 9, 6, 0), (281, 1, .isub, 0, 0, 0), (282, 1, .iconst 4, 4, 0, 0), (283, 3, .if_icmp .ge 26, 309, 0, 0), (286, 1, .aload_n 0, 0, 0, 0), (287, 2, .bipush 10, 10, 0, 0), (289, 1, .aload_n 0, 0, 0, 0), (290, 3, .getfield 234, 9, 9, 0), (293, 1, .imul, 0, 0, 0), (294, 1, .aload_n 0, 0, 0, 0), (295, 1, .aload_n 0, 0, 0, 0), (296, 3, .getfield 206, 9, 7, 0), (299, 3, .invokevirtual 212, 160, 2, 9), (302, 1, .iadd, 0, 0, 0), (303, 2, .bipush 48, 48, 0, 0), (305, 1, .isub, 0, 0, 0), (306, 3, .putfield 234, 9, 9, 0), (309, 1, .aload_n 0, 0, 0, 0), (310, 1, .dup, 0, 0, 0), (311, 3, .getfield 206, 9, 7, 0), (314, 1, .iconst 1, 1, 0, 0), (315, 1, .iadd, 0, 0, 0), (316, 3, .putfield 206, 9, 7, 0), (319, 3, .goto (-60), 259, 0, 0), (322, 1, .aload_n 0, 0, 0, 0), (323, 1, .aload_n 0, 0, 0, 0), (324, 3, .getfield 206, 9, 7, 0), (327, 1, .aload_n 0, 0, 0, 0), (328, 3, .getfield 209, 9, 6, 0), (331, 1, .isub, 0, 0, 0), (332, 1, .iconst 4, 4, 0, 0), (333, 3, .if_icmp .gt 17, 350, 0, 0), (336, 1, .aload_n 0, 0, 0, 0), (337, 1, .aload_n 0, 0, 0, 0), (338, 3, .getfield 206, 9, 7, 0), (341, 3, .invokevirtual 212, 160, 2, 9), (344, 3, .invokestatic 219, 256, 1, 0), (347, 3, .ifCond .eq 7, 354, 0, 0), (350, 1, .iconst 1, 1, 0, 0), (351, 3, .goto 4, 355, 0, 0), (354, 1, .iconst 4, 4, 0, 0), (355, 3, .putfield 216, 9, 8, 0), (358, 3, .goto 19, 377, 0, 0), (361, 1, .aload_n 0, 0, 0, 0), (362, 1, .iload_n 1, 1, 0, 0), (363, 3, .invokestatic 237, 257, 1, 0), (366, 3, .ifCond .eq 7, 373, 0, 0), (369, 1, .iconst 5, 5, 0, 0), (370, 3, .goto 4, 374, 0, 0), (373, 1, .iconst 1, 1, 0, 0), (374, 3, .putfield 216, 9, 8, 0), (377, 1, .return_, 0, 0, 0)]
def q_cd160 : List q_I := [(0, 1, .iload_n 1, 1, 0, 0), (1, 1, .aload_n 0, 0, 0, 0), (2, 3, .getfield 164, 9, 3, 0), (5, 3, .if_icmp .ge 16, 21, 0, 0), (8, 1, .aload_n 0, 0, 0, 0), (9, 3, .getfield 13, 9, 1, 2), (12, 1, .iload_n 1, 1, 0, 0), (13, 1, .baload, 0, 0, 0), (14, 3, .sipush 255, 255, 0, 0), (17, 1, .iand, 0, 0, 0), (18, 3, .goto 4, 22, 0, 0), (21, 1, .iconst 0, 0, 0, 0), (22, 1, .ireturn, 0, 0, 0)]
def q_cd161 : List q_I := [(0, 1, .iconst 0, 0, 0, 0), (1, 1, .istore_n 3, 3, 0, 0), (2, 1, .iconst 0, 0, 0, 0), (3, 2, .istore 4, 4, 0, 0), (5, 2, .iload 4, 4, 0, 0), (7, 1, .iload_n 2, 2, 0, 0), (8, 3, .if_icmp .ge 32, 40, 0, 0), (11, 1, .iload_n 3, 3, 0, 0), (12, 1, .aload_n 0, 0, 0, 0), (13, 3, .getfield 21, 5, 3, 2), (16, 2, .iload 4, 4, 0, 0), (18, 1, .iaload, 0, 0, 0), (19, 1, .iload_n 1, 1, 0, 0), (20, 3, .if_icmp .ne 11, 31, 0, 0), (23, 2, .iload 4, 4, 0, 0), (25, 3, .invokestatic 74, 16, 1, 0), (28, 3, .goto 4, 32, 0, 0), (31, 1, .iconst 0, 0, 0, 0), (32, 1, .ior, 0, 0, 0), (33, 1, .istore_n 3, 3, 0, 0), (34, 3, .iinc 4 1, 4, 1, 0), (37, 3, .goto (-32), 5, 0, 0), (40, 1, .iload_n 3, 3, 0, 0), (41, 1, .ireturn, 0, 0, 0)]
def q_cd162 : List q_I := [(0, 1, .iconst 0, 0, 0, 0), (1, 1, .istore_n 2, 2, 0, 0), (2, 1, .iconst 0, 0, 0, 0), (3, 1, .istore_n 3, 3, 0, 0), (4, 1, .iload_n 3, 3, 0, 0), (5, 1, .aload_n 0, 0, 0, 0), (6, 3, .invokevirtual 354, 11, 1, 9), (9, 3, .if_icmp .ge 27, 36, 0, 0), (12, 1, .aload_n 0, 0, 0, 0), (13, 3, .getfield 92, 9, 41, 2), (16, 1, .iconst 0, 0, 0, 0), (17, 1, .iload_n 3, 3, 0, 0), (18, 1, .iadd, 0, 0, 0), (19, 1, .iaload, 0, 0, 0), (20, 1, .iload_n 1, 1, 0, 0), (21, 3, .if_icmp .ne 9, 30, 0, 0), (24, 1, .iload_n 2, 2, 0, 0), (25, 1, .iconst 1, 1, 0, 0), (26, 1, .iload_n 3, 3, 0, 0), (27, 1, .ishl, 0, 0, 0), (28, 1, .ior, 0, 0, 0), (29, 1, .istore_n 2, 2, 0, 0), (30, 3, .iinc 3 1, 3, 1, 0), (33, 3, .goto (-29), 4, 0, 0), (36, 1, .iload_n 2, 2, 0, 0), (37, 1, .ireturn, 0, 0, 0)]
def q_cd163 : List q_I := [(0, 1, .aload_n 0, 0, 0, 0), (1, 3, .getfield 44, 8, 6, 2), (4, 3, .getfield 142, 5, 8, 0), (7, 3, .sipush 999, 999, 0, 0), (10, 3, .if_icmp .lt 5, 15, 0, 0), (13, 1, .iconst (-1), 4294967295, 0, 0), (14, 1, .ireturn, 0, 0, 0), (15, 1, .aload_n 0, 0, 0, 0), (16, 3, .getfield 51, 8, 7, 2), (19, 1, .aload_n 0, 0, 0, 0), (20, 3, .getfield 44, 8, 6, 2), (23, 3, .invokevirtual 176, 121, 2, 0), (26, 1, .aload_n 0, 0, 0, 0), (27, 3, .getfield 44, 8, 6, 2), (30, 1, .aload_n 0, 0, 0, 0), (31, 3, .getfield 27, 8, 3, 2), (34, 3, .getfield 90, 7, 8, 0), (37, 3, .invokevirtual 184, 164, 2, 5), (40, 1, .iconst 0, 0, 0, 0), (41, 1, .istore_n 1, 1, 0, 0), (42, 1, .iconst 0, 0, 0, 0), (43, 1, .istore_n 2, 2, 0, 0), (44, 1, .iload_n 2, 2, 0, 0), (45, 1, .aload_n 0, 0, 0, 0), (46, 3, .getfield 37, 8, 5, 2), (49, 3, .getfield 187, 3, 5, 0), (52, 3, .if_icmp .ge 50, 102, 0, 0), (55, 1, .aload_n 0, 0, 0, 0), (56, 3, .getfield 44, 8, 6, 2), (59, 3, .getfield 126, 5, 0, 2), (62, 1, .iload_n 2, 2, 0, 0), (63, 1, .iaload, 0, 0, 0), (64, 1, .iconst (-1), 4294967295, 0, 0), (65, 3, .if_icmp .eq 31, 96, 0, 0), (68, 1, .aload_n 0, 0, 0, 0), (69, 1, .iload_n 2, 2, 0, 0), (70, 1, .aload_n 0, 0, 0, 0), (71, 3, .getfield 44, 8, 6, 2), (74, 3, .getfield 142, 5, 8, 0), (77, 3, .invokevirtual 145, 41, 3, 8), (80, 3, .ifCond .eq 16, 96, 0, 0), (83, 1, .aload_n 0, 0, 0, 0), (84, 3, .getfield 44, 8, 6, 2), (87, 3, .getfield 126, 5, 0, 2), (90, 1, .iload_n 2, 2, 0, 0), (91, 1, .iconst (-1), 4294967295, 0, 0), (92, 1, .iastore, 0, 0, 0), (93, 3, .iinc 1 1, 1, 1, 0), (96, 3, .iinc 2 1, 2, 1, 0), (99, 3, .goto (-55), 44, 0, 0), (102, 1, .iload_n 1, 1, 0, 0), (103, 1, .ireturn, 0, 0, 0)]
def q_cd164 : List q_I := [(0, 1, .iconst 0, 0, 0, 0), (1, 1, .istore_n 2, 2, 0, 0), (2, 1, .iload_n 2, 2, 0, 0), (3, 1, .iload_n 1, 1, 0, 0), (4, 3, .if_icmp .ge 84, 88, 0, 0), (7, 1, .aload_n 0, 0, 0, 0), (8, 3, .getfield 36, 5, 8, 0), (11, 2, .bipush 60, 60, 0, 0), (13, 3, .if_icmp .ge 22, 35, 0, 0), (16, 1, .aload_n 0, 0, 0, 0), (17, 3, .getfield 33, 5, 7, 2), (20, 1, .aload_n 0, 0, 0, 0), (21, 3, .getfield 36, 5, 8, 0), (24, 1, .iconst 5, 5, 0, 0), (25, 1, .imul, 0, 0, 0), (26, 1, .iload_n 2, 2, 0, 0), (27, 1, .iadd, 0, 0, 0), (28, 1, .aload_n 0, 0, 0, 0), (29, 3, .getfield 21, 5, 3, 2), (32, 1, .iload_n 2, 2, 0, 0), (33, 1, .iaload, 0, 0, 0), (34, 1, .iastore, 0, 0, 0), (35, 1, .iconst 0, 0, 0, 0), (36, 1, .istore_n 3, 3, 0, 0), (37, 1, .iload_n 3, 3, 0, 0), (38, 1, .iload_n 1, 1, 0, 0), (39, 3, .if_icmp .ge 43, 82, 0, 0), (42, 1, .iload_n 3, 3, 0, 0), (43, 1, .iload_n 2, 2, 0, 0), (44, 3, .if_icmp .eq 32, 76, 0, 0), (47, 1, .aload_n 0, 0, 0, 0), (48, 3, .getfield 21, 5, 3, 2), (51, 1, .iload_n 3, 3, 0, 0), (52, 1, .iaload, 0, 0, 0), (53, 1, .aload_n 0, 0, 0, 0), (54, 3, .getfield 21, 5, 3, 2), (57, 1, .iload_n 2, 2, 0, 0), (58, 1, .iaload, 0, 0, 0), (59, 3, .if_icmp .ne 17, 76, 0, 0), (62, 1, .aload_n 0, 0, 0, 0), (63, 3, .getfield 30, 5, 6, 2), (66, 1, .iload_n 2, 2, 0, 0), (67, 1, .iload_n 3, 3, 0, 0), (68, 3, .invokestatic 70, 193, 2, 0), (71, 1, .dup2, 0, 0, 0), (72, 1, .iaload, 0, 0, 0), (73, 1, .iconst 1, 1, 0, 0), (74, 1, .iadd, 0, 0, 0), (75, 1, .iastore, 0, 0, 0), (76, 3, .iinc 3 1, 3, 1, 0), (79, 3, .goto (-42), 37, 0, 0), (82, 3, .iinc 2 1, 2, 1, 0), (85, 3, .goto (-83), 2, 0, 0), (88, 1, .aload_n 0, 0, 0, 0), (89, 1, .dup, 0, 0, 0), (90, 3, .getfield 36, 5, 8, 0), (93, 1, .iconst 1, 1, 0, 0), (94, 1, .iadd, 0, 0, 0), (95, 3, .putfield 36, 5, 8, 0), (98, 1, .return_, 0, 0, 0)]
def q_cd165 : List q_I := [(0, 1, .aload_n 0, 0, 0, 0), (1, 3, .getfield 92, 9, 41, 2), (4, 3, .sipush 435, 435, 0, 0), (7, 1, .iaload, 0, 0, 0), (8, 3, .sipush 999, 999, 0, 0), (11, 3, .if_icmp .ne 5, 16, 0, 0), (14, 1, .iconst (-1), 4294967295, 0, 0), (15, 1, .ireturn, 0, 0, 0), (16, 1, .aload_n 0, 0, 0, 0), (17, 3, .invokevirtual 412, 122, 1, 9), (20, 1, .iconst 0, 0, 0, 0), (21, 1, .istore_n 1, 1, 0, 0), (22, 1, .iload_n 1, 1, 0, 0), (23, 1, .aload_n 0, 0, 0, 0), (24, 3, .invokevirtual 354, 11, 1, 9), (27, 3, .if_icmp .ge 52, 79, 0, 0), (30, 1, .aload_n 0, 0, 0, 0), (31, 3, .getfield 92, 9, 41, 2), (34, 3, .sipush 435, 435, 0, 0), (37, 1, .iaload, 0, 0, 0), (38, 2, .bipush 60, 60, 0, 0), (40, 3, .if_icmp .ge 33, 73, 0, 0), (43, 1, .aload_n 0, 0, 0, 0), (44, 3, .getfield 92, 9, 41, 2), (47, 3, .sipush 135, 135, 0, 0), (50, 2, .bipush 60, 60, 0, 0), (52, 1, .iload_n 1, 1, 0, 0), (53, 1, .imul, 0, 0, 0), (54, 1, .iadd, 0, 0, 0), (55, 1, .aload_n 0, 0, 0, 0), (56, 3, .getfield 92, 9, 41, 2), (59, 3, .sipush 435, 435, 0, 0), (62, 1, .iaload, 0, 0, 0), (63, 1, .iadd, 0, 0, 0), (64, 1, .aload_n 0, 0, 0, 0), (65, 3, .getfield 92, 9, 41, 2), (68, 1, .iconst 0, 0, 0, 0), (69, 1, .iload_n 1, 1, 0, 0), (70, 1, .iadd, 0, 0, 0), (71, 1, .iaload, 0, 0, 0), (72, 1, .iastore, 0, 0, 0), (73, 3, .iinc 1 1, 1, 1, 0), (76, 3, .goto (-54), 22, 0, 0), (79, 1, .iconst 0, 0, 0, 0), (80, 1, .istore_n 1, 1, 0, 0), (81, 1, .iload_n 1, 1, 0, 0), (82, 1, .aload_n 0, 0, 0, 0), (83, 3, .invokevirtual 354, 11, 1, 9), (86, 3, .if_icmp .ge 66, 152, 0, 0), (89, 1, .iconst 0, 0, 0, 0), (90, 1, .istore_n 2, 2, 0, 0), (91, 1, .iload_n 2, 2, 0, 0), (92, 1, .aload_n 0, 0, 0, 0), (93, 3, .invokevirtual 354, 11, 1, 9), (96, 3, .if_icmp .ge 50, 146, 0, 0), (99, 1, .iload_n 1, 1, 0, 0), (100, 1, .iload_n 2, 2, 0, 0), (101, 3, .if_icmp .eq 39, 140, 0, 0), (104, 1, .aload_n 0, 0, 0, 0), (105, 3, .getfield 92, 9, 41, 2), (108, 1, .iconst 0, 0, 0, 0), (109, 1, .iload_n 1, 1, 0, 0), (110, 1, .iadd, 0, 0, 0), (111, 1, .iaload, 0, 0, 0), (112, 1, .aload_n 0, 0, 0, 0), (113, 3, .getfield 92, 9, 41, 2), (116, 1, .iconst 0, 0, 0, 0), (117, 1, .iload_n 2, 2, 0, 0), (118, 1, .iadd, 0, 0, 0), (119, 1, .iaload, 0, 0, 0), (120, 3, .if_icmp .ne 20, 140, 0, 0), (123, 1, .aload_n 0, 0, 0, 0), (124, 3, .getfield 92, 9, 41, 2), (127, 2, .bipush 110, 110, 0, 0), (129, 1, .iconst 5, 5, 0, 0), (130, 1, .iload_n 1, 1, 0, 0), (131, 1, .imul, 0, 0, 0), (132, 1, .iadd, 0, 0, 0), (133, 1, .iload_n 2, 2, 0, 0), (134, 1, .iadd, 0, 0, 0), (135, 1, .dup2, 0, 0, 0), (136, 1, .iaload, 0, 0, 0), (137, 1, .iconst 1, 1, 0, 0), (138, 1, .iadd, 0, 0, 0), (139, 1, .iastore, 0, 0, 0), (140, 3, .iinc 2 1, 2, 1, 0), (143, 3, .goto (-52), 91, 0, 0), (146, 3, .iinc 1 1, 1, 1, 0), (149, 3, .goto (-68), 81, 0, 0), (152, 1, .aload_n 0, 0, 0, 0), (153, 3, .getfield 92, 9, 41, 2), (156, 3, .sipush 435, 435, 0, 0), (159, 1, .dup2, 0, 0, 0), (160, 1, .iaload, 0, 0, 0), (161, 1, .iconst 1, 1, 0, 0), (162, 1, .iadd, 0, 0, 0), (163, 1, .iastore, 0, 0, 0), (164, 1, .aload_n 0, 0, 0, 0), (165, 3, .invokevirtual 415, 166, 1, 9), (168, 1, .ireturn, 0, 0, 0)]
def q_cd166 : List q_I := [(0, 1, .iconst 0, 0, 0, 0), (1, 1, .istore_n 1, 1, 0, 0), (2, 1, .iconst 0, 0, 0, 0), (3, 1, .istore_n 2, 2, 0, 0), (4, 1, .iload_n 2, 2, 0, 0), (5, 1, .aload_n 0, 0, 0, 0), (6, 3, .invokevirtual 364, 0, 1, 9), (9, 3, .if_icmp .ge 39, 48, 0, 0), (12, 1, .aload_n 0, 0, 0, 0), (13, 3, .getfield 92, 9, 41, 2), (16, 1, .iconst 5, 5, 0, 0), (17, 1, .iload_n 2, 2, 0, 0), (18, 1, .iadd, 0, 0, 0), (19, 1, .iaload, 0, 0, 0), (20, 3, .ifCond .lt 22, 42, 0, 0), (23, 1, .aload_n 0, 0, 0, 0), (24, 1, .iload_n 2, 2, 0, 0), (25, 3, .invokevirtual 397, 18, 2, 9), (28, 3, .ifCond .ne 6, 34, 0, 0), (31, 3, .goto 11, 42, 0, 0), (34, 1, .aload_n 0, 0, 0, 0), (35, 1, .iload_n 2, 2, 0, 0), (36, 3, .invokevirtual 373, 23, 2, 9), (39, 3, .iinc 1 1, 1, 1, 0), (42, 3, .iinc 2 1, 2, 1, 0), (45, 3, .goto (-41), 4, 0, 0), (48, 1, .iload_n 1, 1, 0, 0), (49, 1, .ireturn, 0, 0, 0)]
def q_cd167 : List q_I := [(0, 1, .aload_n 0, 0, 0, 0), (1, 3, .getfield 44, 8, 6, 2), (4, 3, .getfield 190, 5, 9, 0), (7, 3, .sipush 999, 999, 0, 0), (10, 3, .if_icmp .lt 5, 15, 0, 0), (13, 1, .iconst (-1), 4294967295, 0, 0), (14, 1, .ireturn, 0, 0, 0), (15, 1, .aload_n 0, 0, 0, 0), (16, 3, .getfield 51, 8, 7, 2), (19, 1, .aload_n 0, 0, 0, 0), (20, 3, .getfield 44, 8, 6, 2), (23, 3, .invokevirtual 176, 121, 2, 0), (26, 1, .aload_n 0, 0, 0, 0), (27, 3, .getfield 44, 8, 6, 2), (30, 1, .aload_n 0, 0, 0, 0), (31, 3, .getfield 27, 8, 3, 2), (34, 3, .getfield 193, 7, 9, 0), (37, 3, .invokevirtual 196, 168, 2, 5), (40, 1, .istore_n 1, 1, 0, 0), (41, 1, .aload_n 0, 0, 0, 0), (42, 3, .getfield 44, 8, 6, 2), (45, 1, .aload_n 0, 0, 0, 0), (46, 3, .getfield 27, 8, 3, 2), (49, 3, .invokevirtual 199, 80, 2, 5), (52, 1, .aload_n 0, 0, 0, 0), (53, 3, .getfield 44, 8, 6, 2), (56, 1, .dup, 0, 0, 0), (57, 3, .getfield 190, 5, 9, 0), (60, 1, .iconst 1, 1, 0, 0), (61, 1, .iadd, 0, 0, 0), (62, 3, .putfield 190, 5, 9, 0), (65, 1, .iload_n 1, 1, 0, 0), (66, 1, .ireturn, 0, 0, 0)]
def q_cd168 : List q_I := [(0, 1, .iconst 0, 0, 0, 0), (1, 1, .istore_n 2, 2, 0, 0), (2, 1, .iconst 0, 0, 0, 0), (3, 1, .istore_n 3, 3, 0, 0), (4, 1, .iload_n 3, 3, 0, 0), (5, 2, .bipush 25, 25, 0, 0), (7, 3, .if_icmp .ge 59, 66, 0, 0), (10, 1, .aload_n 0, 0, 0, 0), (11, 3, .getfield 9, 5, 0, 2), (14, 1, .iload_n 3, 3, 0, 0), (15, 1, .iaload, 0, 0, 0), (16, 1, .iconst (-1), 4294967295, 0, 0), (17, 3, .if_icmp .eq 43, 60, 0, 0), (20, 1, .aload_n 0, 0, 0, 0), (21, 1, .aload_n 0, 0, 0, 0), (22, 3, .getfield 43, 5, 10, 0), (25, 3, .sipush 137, 137, 0, 0), (28, 1, .imul, 0, 0, 0), (29, 2, .bipush 71, 71, 0, 0), (31, 1, .iadd, 0, 0, 0), (32, 3, .sipush 1000, 1000, 0, 0), (35, 1, .irem, 0, 0, 0), (36, 3, .putfield 43, 5, 10, 0), (39, 1, .aload_n 0, 0, 0, 0), (40, 3, .getfield 43, 5, 10, 0), (43, 2, .bipush 100, 100, 0, 0), (45, 1, .irem, 0, 0, 0), (46, 1, .iload_n 1, 1, 0, 0), (47, 3, .if_icmp .ge 13, 60, 0, 0), (50, 1, .aload_n 0, 0, 0, 0), (51, 3, .getfield 9, 5, 0, 2), (54, 1, .iload_n 3, 3, 0, 0), (55, 1, .iconst (-1), 4294967295, 0, 0), (56, 1, .iastore, 0, 0, 0), (57, 3, .iinc 2 1, 2, 1, 0), (60, 3, .iinc 3 1, 3, 1, 0), (63, 3, .goto (-59), 4, 0, 0), (66, 1, .iload_n 2, 2, 0, 0), (67, 1, .ireturn, 0, 0, 0)]
def q_cd169 : List q_I := [(0, 1, .aload_n 0, 0, 0, 0), (1, 3, .getfield 92, 9, 41, 2), (4, 3, .sipush 436, 436, 0, 0), (7, 1, .iaload, 0, 0, 0), (8, 3, .sipush 999, 999, 0, 0), (11, 3, .if_icmp .ne 5, 16, 0, 0), (14, 1, .iconst (-1), 4294967295, 0, 0), (15, 1, .ireturn, 0, 0, 0), (16, 1, .aload_n 0, 0, 0, 0), (17, 3, .invokevirtual 412, 122, 1, 9), (20, 1, .iconst 0, 0, 0, 0), (21, 1, .istore_n 1, 1, 0, 0), (22, 1, .iconst 0, 0, 0, 0), (23, 1, .istore_n 2, 2, 0, 0), (24, 1, .iload_n 2, 2, 0, 0), (25, 1, .aload_n 0, 0, 0, 0), (26, 3, .invokevirtual 364, 0, 1, 9), (29, 3, .if_icmp .ge 84, 113, 0, 0), (32, 1, .aload_n 0, 0, 0, 0), (33, 3, .getfield 92, 9, 41, 2), (36, 1, .iconst 5, 5, 0, 0), (37, 1, .iload_n 2, 2, 0, 0), (38, 1, .iadd, 0, 0, 0), (39, 1, .iaload, 0, 0, 0), (40, 3, .ifCond .ge 6, 46, 0, 0), (43, 3, .goto 64, 107, 0, 0), (46, 1, .aload_n 0, 0, 0, 0), (47, 3, .getfield 92, 9, 41, 2), (50, 3, .sipush 437, 437, 0, 0), (53, 3, .sipush 137, 137, 0, 0), (56, 1, .aload_n 0, 0, 0, 0), (57, 3, .getfield 92, 9, 41, 2), (60, 3, .sipush 437, 437, 0, 0), (63, 1, .iaload, 0, 0, 0), (64, 1, .imul, 0, 0, 0), (65, 2, .bipush 71, 71, 0, 0), (67, 1, .iadd, 0, 0, 0), (68, 3, .sipush 1000, 1000, 0, 0), (71, 1, .irem, 0, 0, 0), (72, 1, .iastore, 0, 0, 0), (73, 1, .aload_n 0, 0, 0, 0), (74, 3, .getfield 92, 9, 41, 2), (77, 3, .sipush 437, 437, 0, 0), (80, 1, .iaload, 0, 0, 0), (81, 2, .bipush 100, 100, 0, 0), (83, 1, .irem, 0, 0, 0), (84, 1, .aload_n 0, 0, 0, 0), (85, 3, .getfield 42, 9, 18, 2), (88, 1, .aload_n 0, 0, 0, 0), (89, 3, .getfield 274, 9, 34, 0), (92, 1, .iaload, 0, 0, 0), (93, 3, .if_icmp .lt 6, 99, 0, 0), (96, 3, .goto 11, 107, 0, 0), (99, 1, .aload_n 0, 0, 0, 0), (100, 1, .iload_n 2, 2, 0, 0), (101, 3, .invokevirtual 373, 23, 2, 9), (104, 3, .iinc 1 1, 1, 1, 0), (107, 3, .iinc 2 1, 2, 1, 0), (110, 3, .goto (-86), 24, 0, 0), (113, 2, .bipush 55, 55, 0, 0), (115, 1, .istore_n 2, 2, 0, 0), (116, 1, .iload_n 2, 2, 0, 0), (117, 2, .bipush 110, 110, 0, 0), (119, 3, .if_icmp .ge 16, 135, 0, 0), (122, 1, .aload_n 0, 0, 0, 0), (123, 3, .getfield 92, 9, 41, 2), (126, 1, .iload_n 2, 2, 0, 0), (127, 1, .iconst 0, 0, 0, 0), (128, 1, .iastore, 0, 0, 0), (129, 3, .iinc 2 1, 2, 1, 0), (132, 3, .goto (-16), 116, 0, 0), (135, 1, .aload_n 0, 0, 0, 0), (136, 3, .invokevirtual 376, 81, 1, 9), (139, 1, .aload_n 0, 0, 0, 0), (140, 3, .getfield 92, 9, 41, 2), (143, 3, .sipush 435, 435, 0, 0), (146, 1, .iconst 0, 0, 0, 0), (147, 1, .iastore, 0, 0, 0), (148, 1, .aload_n 0, 0, 0, 0), (149, 3, .getfield 92, 9, 41, 2), (152, 3, .sipush 436, 436, 0, 0), (155, 1, .dup2, 0, 0, 0), (156, 1, .iaload, 0, 0, 0), (157, 1, .iconst 1, 1, 0, 0), (158, 1, .iadd, 0, 0, 0), (159, 1, .iastore, 0, 0, 0), (160, 1, .iload_n 1, 1, 0, 0), (161, 1, .ireturn, 0, 0, 0)]
def q_cd170 : List q_I := [(0, 1, .aload_n 0, 0, 0, 0), (1, 3, .getfield 51, 8, 7, 2), (4, 3, .getfield 203, 0, 2, 0), (7, 3, .ifCond .ne 5, 12, 0, 0), (10, 1, .iconst 0, 0, 0, 0), (11, 1, .ireturn, 1, 0, 0), (12, 1, .aload_n 0, 0, 0, 0), (13, 1, .aload_n 0, 0, 0, 0), (14, 3, .getfield 51, 8, 7, 2), (17, 1, .aload_n 0, 0, 0, 0), (18, 3, .getfield 44, 8, 6, 2), (21, 3, .invokevirtual 206, 197, 2, 0), (24, 3, .putfield 44, 8, 6, 2), (27, 1, .iconst 1, 1, 0, 0), (28, 1, .ireturn, 1, 0, 0)]
def q_cd171 : List q_I := [(0, 1, .aload_n 0, 0, 0, 0), (1, 3, .getfield 379, 9, 43, 0), (4, 3, .ifCond .ne 5, 9, 0, 0), (7, 1, .iconst 0, 0, 0, 0), (8, 1, .ireturn, 1, 0, 0), (9, 1, .aload_n 0, 0, 0, 0), (10, 1, .dup, 0, 0, 0), (11, 3, .getfield 379, 9, 43, 0), (14, 1, .iconst 1, 1, 0, 0), (15, 1, .isub, 0, 0, 0), (16, 3, .putfield 379, 9, 43, 0), (19, 1, .aload_n 0, 0, 0, 0), (20, 1, .dup, 0, 0, 0), (21, 3, .getfield 382, 9, 44, 0), (24, 1, .iconst 1, 1, 0, 0), (25, 1, .iadd, 0, 0, 0), (26, 3, .putfield 382, 9, 44, 0), (29, 1, .aload_n 0, 0, 0, 0), (30, 3, .invokevirtual 418, 247, 1, 9), (33, 1, .iconst 1, 1, 0, 0), (34, 1, .ireturn, 1, 0, 0)]
def q_cd172 : List q_I := [(0, 1, .aload_n 0, 0, 0, 0), (1, 3, .getfield 51, 8, 7, 2), (4, 3, .getfield 210, 0, 3, 0), (7, 3, .ifCond .ne 5, 12, 0, 0), (10, 1, .iconst 0, 0, 0, 0), (11, 1, .ireturn, 1, 0, 0), (12, 1, .aload_n 0, 0, 0, 0), (13, 1, .aload_n 0, 0, 0, 0), (14, 3, .getfield 51, 8, 7, 2), (17, 1, .aload_n 0, 0, 0, 0), (18, 3, .getfield 44, 8, 6, 2), (21, 3, .invokevirtual 213, 195, 2, 0), (24, 3, .putfield 44, 8, 6, 2), (27, 1, .iconst 1, 1, 0, 0), (28, 1, .ireturn, 1, 0, 0)]
def q_cd173 : List q_I := [(0, 1, .aload_n 0, 0, 0, 0), (1, 3, .getfield 382, 9, 44, 0), (4, 3, .ifCond .ne 5, 9, 0, 0), (7, 1, .iconst 0, 0, 0, 0), (8, 1, .ireturn, 1, 0, 0), (9, 1, .aload_n 0, 0, 0, 0), (10, 3, .invokevirtual 418, 247, 1, 9), (13, 1, .aload_n 0, 0, 0, 0), (14, 1, .dup, 0, 0, 0), (15, 3, .getfield 379, 9, 43, 0), (18, 1, .iconst 1, 1, 0, 0), (19, 1, .iadd, 0, 0, 0), (20, 3, .putfield 379, 9, 43, 0), (23, 1, .aload_n 0, 0, 0, 0), (24, 1, .dup, 0, 0, 0), (25, 3, .getfield 382, 9, 44, 0), (28, 1, .iconst 1, 1, 0, 0), (29, 1, .isub, 0, 0, 0), (30, 3, .putfield 382, 9, 44, 0), (33, 1, .iconst 1, 1, 0, 0), (34, 1, .ireturn, 1, 0, 0)]
def q_cd174 : List q_I := [(0, 1, .aload_n 0, 0, 0, 0), (1, 3, .getfield 37, 8, 5, 2), (4, 1, .aload_n 0, 0, 0, 0), (5, 3, .getfield 37, 8, 5, 2), (8, 3, .getfield 239, 3, 7, 0), (11, 3, .invokevirtual 242, 175, 2, 3), (14, 1, .ireturn, 0, 0, 0)]
def q_cd175 : List q_I := [(0, 1, .iload_n 1, 1, 0, 0), (1, 1, .aload_n 0, 0, 0, 0), (2, 3, .getfield 34, 3, 7, 0), (5, 1, .iand, 0, 0, 0), (6, 1, .istore_n 2, 2, 0, 0), (7, 1, .iconst 0, 0, 0, 0), (8, 1, .istore_n 3, 3, 0, 0), (9, 1, .iconst 0, 0, 0, 0), (10, 2, .istore 4, 4, 0, 0), (12, 2, .iload 4, 4, 0, 0), (14, 2, .bipush 25, 25, 0, 0), (16, 3, .if_icmp .ge 31, 47, 0, 0), (19, 1, .iload_n 2, 2, 0, 0), (20, 3, .ifCond .eq 27, 47, 0, 0), (23, 1, .iload_n 2, 2, 0, 0), (24, 1, .aload_n 0, 0, 0, 0), (25, 1, .iload_n 2, 2, 0, 0), (26, 1, .iload_n 2, 2, 0, 0), (27, 1, .ineg, 0, 0, 0), (28, 1, .iand, 0, 0, 0), (29, 1, .iload_n 2, 2, 0, 0), (30, 1, .iconst 0, 0, 0, 0), (31, 3, .invokevirtual 60, 176, 4, 3), (34, 1, .iconst (-1), 4294967295, 0, 0), (35, 1, .ixor, 0, 0, 0), (36, 1, .iand, 0, 0, 0), (37, 1, .istore_n 2, 2, 0, 0), (38, 3, .iinc 3 1, 3, 1, 0), (41, 3, .iinc 4 1, 4, 1, 0), (44, 3, .goto (-32), 12, 0, 0), (47, 1, .iload_n 3, 3, 0, 0), (48, 1, .ireturn, 0, 0, 0)]
def q_cd176 : List q_I := [(0, 1, .iload_n 1, 1, 0, 0), (1, 1, .iload_n 2, 2, 0, 0), (2, 1, .iand, 0, 0, 0), (3, 2, .istore 4, 4, 0, 0), (5, 1, .iconst 0, 0, 0, 0), (6, 2, .istore 5, 5, 0, 0), (8, 2, .iload 5, 5, 0, 0), (10, 2, .bipush 25, 25, 0, 0), (12, 3, .if_icmp .ge 40, 52, 0, 0), (15, 2, .iload 4, 4, 0, 0), (17, 1, .iload_n 3, 3, 0, 0), (18, 1, .iand, 0, 0, 0), (19, 3, .ifCond .ne 33, 52, 0, 0), (22, 1, .aload_n 0, 0, 0, 0), (23, 2, .iload 4, 4, 0, 0), (25, 3, .invokevirtual 57, 26, 2, 3), (28, 1, .iload_n 2, 2, 0, 0), (29, 1, .iand, 0, 0, 0), (30, 2, .istore 6, 6, 0, 0), (32, 2, .iload 6, 6, 0, 0), (34, 2, .iload 4, 4, 0, 0), (36, 3, .if_icmp .ne 6, 42, 0, 0), (39, 2, .iload 4, 4, 0, 0), (41, 1, .ireturn, 0, 0, 0), (42, 2, .iload 6, 6, 0, 0), (44, 2, .istore 4, 4, 0, 0), (46, 3, .iinc 5 1, 5, 1, 0), (49, 3, .goto (-41), 8, 0, 0), (52, 2, .iload 4, 4, 0, 0), (54, 1, .iload_n 3, 3, 0, 0), (55, 1, .iand, 0, 0, 0), (56, 3, .ifCond .ne 8, 64, 0, 0), (59, 2, .iload 4, 4, 0, 0), (61, 3, .goto 4, 65, 0, 0), (64, 1, .iconst 0, 0, 0, 0), (65, 1, .ireturn, 0, 0, 0)]
def q_cd177 : List q_I := [(0, 1, .aload_n 0, 0, 0, 0), (1, 1, .iconst 1, 1, 0, 0), (2, 1, .aload_n 0, 0, 0, 0), (3, 3, .invokevirtual 364, 0, 1, 9), (6, 1, .ishl, 0, 0, 0), (7, 1, .iconst 1, 1, 0, 0), (8, 1, .isub, 0, 0, 0), (9, 1, .aload_n 0, 0, 0, 0), (10, 3, .getfield 33, 9, 15, 2), (13, 1, .aload_n 0, 0, 0, 0), (14, 3, .getfield 274, 9, 34, 0), (17, 1, .iaload, 0, 0, 0), (18, 1, .iconst (-1), 4294967295, 0, 0), (19, 1, .ixor, 0, 0, 0), (20, 1, .iand, 0, 0, 0), (21, 3, .invokevirtual 430, 178, 2, 9), (24, 1, .ireturn, 0, 0, 0)]
def q_cd178 : List q_I := [(0, 1, .iload_n 1, 1, 0, 0), (1, 1, .istore_n 2, 2, 0, 0), (2, 1, .iconst 0, 0, 0, 0), (3, 1, .istore_n 3, 3, 0, 0), (4, 1, .aload_n 0, 0, 0, 0), (5, 3, .invokevirtual 421, 127, 1, 9), (8, 1, .iconst 0, 0, 0, 0), (9, 2, .istore 4, 4, 0, 0), (11, 2, .iload 4, 4, 0, 0), (13, 1, .aload_n 0, 0, 0, 0), (14, 3, .invokevirtual 364, 0, 1, 9), (17, 3, .if_icmp .ge 73, 90, 0, 0), (20, 1, .iload_n 2, 2, 0, 0), (21, 2, .iload 4, 4, 0, 0), (23, 3, .invokestatic 300, 1, 2, 0), (26, 3, .ifCond .ne 6, 32, 0, 0), (29, 3, .goto 55, 84, 0, 0), (32, 3, .iinc 3 1, 3, 1, 0), (35, 1, .aload_n 0, 0, 0, 0), (36, 2, .iload 4, 4, 0, 0), (38, 1, .iload_n 1, 1, 0, 0), (39, 1, .iconst (-1), 4294967295, 0, 0), (40, 1, .ixor, 0, 0, 0), (41, 3, .invokevirtual 424, 6, 3, 9), (44, 1, .iconst 0, 0, 0, 0), (45, 2, .istore 5, 5, 0, 0), (47, 2, .iload 5, 5, 0, 0), (49, 1, .aload_n 0, 0, 0, 0), (50, 3, .invokevirtual 364, 0, 1, 9), (53, 3, .if_icmp .ge 31, 84, 0, 0), (56, 1, .aload_n 0, 0, 0, 0), (57, 3, .getfield 98, 9, 45, 2), (60, 2, .iload 5, 5, 0, 0), (62, 1, .iaload, 0, 0, 0), (63, 3, .sipush 10000, 10000, 0, 0), (66, 3, .if_icmp .ge 12, 78, 0, 0), (69, 1, .iload_n 2, 2, 0, 0), (70, 1, .iconst 1, 1, 0, 0), (71, 2, .iload 5, 5, 0, 0), (73, 1, .ishl, 0, 0, 0), (74, 1, .iconst (-1), 4294967295, 0, 0), (75, 1, .ixor, 0, 0, 0), (76, 1, .iand, 0, 0, 0), (77, 1, .istore_n 2, 2, 0, 0), (78, 3, .iinc 5 1, 5, 1, 0), (81, 3, .goto (-34), 47, 0, 0), (84, 3, .iinc 4 1, 4, 1, 0), (87, 3, .goto (-76), 11, 0, 0), (90, 1, .iload_n 3, 3, 0, 0), (91, 1, .ireturn, 0, 0, 0)]
def q_cd179 : List q_I := [(0, 1, .aload_n 0, 0, 0, 0), (1, 3, .getfield 9, 3, 0, 2), (4, 1, .iload_n 1, 1, 0, 0), (5, 1, .iaload, 0, 0, 0), (6, 1, .iload_n 2, 2, 0, 0), (7, 3, .invokestatic 53, 3, 2, 0), (10, 3, .ifCond .eq 5, 15, 0, 0), (13, 1, .iconst (-1), 4294967295, 0, 0), (14, 1, .ireturn, 0, 0, 0), (15, 1, .iconst 0, 0, 0, 0), (16, 1, .istore_n 3, 3, 0, 0), (17, 1, .iload_n 3, 3, 0, 0), (18, 1, .iconst 3, 3, 0, 0), (19, 3, .if_icmp .gt 32, 51, 0, 0), (22, 1, .aload_n 0, 0, 0, 0), (23, 1, .iload_n 3, 3, 0, 0), (24, 1, .aload_n 0, 0, 0, 0), (25, 3, .getfield 28, 3, 5, 0), (28, 1, .iconst 0, 0, 0, 0), (29, 1, .iload_n 1, 1, 0, 0), (30, 1, .iload_n 2, 2, 0, 0), (31, 3, .invokevirtual 64, 191, 6, 3), (34, 2, .istore 4, 4, 0, 0), (36, 2, .iload 4, 4, 0, 0), (38, 1, .iconst (-1), 4294967295, 0, 0), (39, 3, .if_icmp .eq 6, 45, 0, 0), (42, 2, .iload 4, 4, 0, 0), (44, 1, .ireturn, 0, 0, 0), (45, 3, .iinc 3 1, 3, 1, 0), (48, 3, .goto (-31), 17, 0, 0), (51, 1, .iconst (-1), 4294967295, 0, 0), (52, 1, .ireturn, 0, 0, 0)]
def q_cd180 : List q_I := [(0, 1, .aload_n 0, 0, 0, 0), (1, 3, .invokevirtual 421, 127, 1, 9), (4, 1, .aload_n 0, 0, 0, 0), (5, 3, .getfield 33, 9, 15, 2), (8, 1, .aload_n 0, 0, 0, 0), (9, 3, .getfield 274, 9, 34, 0), (12, 1, .iaload, 0, 0, 0), (13, 1, .iconst 1, 1, 0, 0), (14, 1, .iload_n 1, 1, 0, 0), (15, 1, .ishl, 0, 0, 0), (16, 1, .ior, 0, 0, 0), (17, 1, .iconst 1, 1, 0, 0), (18, 1, .iload_n 2, 2, 0, 0), (19, 1, .ishl, 0, 0, 0), (20, 1, .ior, 0, 0, 0), (21, 1, .istore_n 3, 3, 0, 0), (22, 1, .aload_n 0, 0, 0, 0), (23, 1, .iload_n 1, 1, 0, 0), (24, 1, .iload_n 2, 2, 0, 0), (25, 1, .iconst 0, 0, 0, 0), (26, 3, .invokevirtual 436, 7, 4, 9), (29, 3, .ifCond .eq 5, 34, 0, 0), (32, 1, .iconst 0, 0, 0, 0), (33, 1, .ireturn, 0, 0, 0), (34, 1, .iconst (-1), 4294967295, 0, 0), (35, 2, .istore 4, 4, 0, 0), (37, 1, .iconst 0, 0, 0, 0), (38, 2, .istore 5, 5, 0, 0), (40, 2, .iload 5, 5, 0, 0), (42, 1, .aload_n 0, 0, 0, 0), (43, 3, .invokevirtual 364, 0, 1, 9), (46, 3, .if_icmp .ge 127, 173, 0, 0), (49, 2, .iload 5, 5, 0, 0), (51, 2, .istore 6, 6, 0, 0), (53, 2, .iload 6, 6, 0, 0), (55, 1, .aload_n 0, 0, 0, 0), (56, 3, .invokevirtual 364, 0, 1, 9), (59, 3, .if_icmp .ge 108, 167, 0, 0), (62, 2, .iload 6, 6, 0, 0), (64, 2, .istore 7, 7, 0, 0), (66, 2, .iload 7, 7, 0, 0), (68, 1, .aload_n 0, 0, 0, 0), (69, 3, .invokevirtual 364, 0, 1, 9), (72, 3, .if_icmp .ge 89, 161, 0, 0), (75, 1, .iconst 1, 1, 0, 0), (76, 2, .iload 5, 5, 0, 0), (78, 1, .ishl, 0, 0, 0), (79, 1, .iconst 1, 1, 0, 0), (80, 2, .iload 6, 6, 0, 0), (82, 1, .ishl, 0, 0, 0), (83, 1, .ior, 0, 0, 0), (84, 1, .iconst 1, 1, 0, 0), (85, 2, .iload 7, 7, 0, 0), (87, 1, .ishl, 0, 0, 0), (88, 1, .ior, 0, 0, 0), (89, 2, .istore 8, 8, 0, 0), (91, 2, .iload 8, 8, 0, 0), (93, 1, .iload_n 3, 3, 0, 0), (94, 1, .iand, 0, 0, 0), (95, 3, .ifCond .eq 6, 101, 0, 0), (98, 3, .goto 57, 155, 0, 0), (101, 2, .iload 4, 4, 0, 0), (103, 3, .ifCond .ge 7, 110, 0, 0), (106, 1, .iconst (-1), 4294967295, 0, 0), (107, 3, .goto 14, 121, 0, 0), (110, 2, .iload 8, 8, 0, 0), (112, 3, .invokestatic 403, 139, 1, 0), (115, 2, .iload 4, 4, 0, 0), (117, 3, .invokestatic 403, 139, 1, 0), (120, 1, .isub, 0, 0, 0), (121, 2, .istore 9, 9, 0, 0), (123, 2, .iload 9, 9, 0, 0), (125, 3, .ifCond .lt 15, 140, 0, 0), (128, 2, .iload 9, 9, 0, 0), (130, 3, .ifCond .ne 25, 155, 0, 0), (133, 2, .iload 8, 8, 0, 0), (135, 2, .iload 4, 4, 0, 0), (137, 3, .if_icmp .ge 18, 155, 0, 0), (140, 1, .aload_n 0, 0, 0, 0), (141, 1, .iload_n 1, 1, 0, 0), (142, 1, .iload_n 2, 2, 0, 0), (143, 2, .iload 8, 8, 0, 0), (145, 3, .invokevirtual 436, 7, 4, 9), (148, 3, .ifCond .eq 7, 155, 0, 0), (151, 2, .iload 8, 8, 0, 0), (153, 2, .istore 4, 4, 0, 0), (155, 3, .iinc 7 1, 7, 1, 0), (158, 3, .goto (-92), 66, 0, 0), (161, 3, .iinc 6 1, 6, 1, 0), (164, 3, .goto (-111), 53, 0, 0), (167, 3, .iinc 5 1, 5, 1, 0), (170, 3, .goto (-130), 40, 0, 0), (173, 2, .iload 4, 4, 0, 0), (175, 1, .ireturn, 0, 0, 0)]
def q_cd181 : List q_I := [(0, 1, .aload_n 0, 0, 0, 0), (1, 1, .iconst 0, 0, 0, 0), (2, 1, .iconst 0, 0, 0, 0), (3, 3, .invokevirtual 279, 182, 3, 8), (6, 1, .ireturn, 0, 0, 0)]
def q_cd182 : List q_I := [(0, 1, .iload_n 2, 2, 0, 0), (1, 1, .aload_n 0, 0, 0, 0), (2, 3, .getfield 27, 8, 3, 2), (5, 3, .getfield 90, 7, 8, 0), (8, 3, .if_icmp .lt 5, 13, 0, 0), (11, 1, .iconst 1, 1, 0, 0), (12, 1, .ireturn, 0, 0, 0), (13, 1, .iconst 0, 0, 0, 0), (14, 1, .istore_n 3, 3, 0, 0), (15, 1, .iconst 0, 0, 0, 0), (16, 2, .istore 4, 4, 0, 0), (18, 2, .iload 4, 4, 0, 0), (20, 1, .aload_n 0, 0, 0, 0), (21, 3, .getfield 27, 8, 3, 2), (24, 3, .getfield 90, 7, 8, 0), (27, 3, .if_icmp .ge 58, 85, 0, 0), (30, 1, .iload_n 1, 1, 0, 0), (31, 2, .iload 4, 4, 0, 0), (33, 3, .invokestatic 173, 3, 2, 0), (36, 3, .ifCond .ne 43, 79, 0, 0), (39, 1, .aload_n 0, 0, 0, 0), (40, 3, .getfield 44, 8, 6, 2), (43, 2, .iload 4, 4, 0, 0), (45, 1, .aload_n 0, 0, 0, 0), (46, 3, .getfield 27, 8, 3, 2), (49, 3, .getfield 90, 7, 8, 0), (52, 3, .invokevirtual 375, 238, 3, 5), (55, 1, .iload_n 1, 1, 0, 0), (56, 1, .iconst (-1), 4294967295, 0, 0), (57, 1, .ixor, 0, 0, 0), (58, 1, .iand, 0, 0, 0), (59, 3, .ifCond .ne 20, 79, 0, 0), (62, 1, .iload_n 3, 3, 0, 0), (63, 1, .aload_n 0, 0, 0, 0), (64, 1, .iload_n 1, 1, 0, 0), (65, 2, .iload 4, 4, 0, 0), (67, 3, .invokestatic 233, 16, 1, 0), (70, 1, .ior, 0, 0, 0), (71, 1, .iload_n 2, 2, 0, 0), (72, 1, .iconst 1, 1, 0, 0), (73, 1, .iadd, 0, 0, 0), (74, 3, .invokevirtual 279, 182, 3, 8), (77, 1, .iadd, 0, 0, 0), (78, 1, .istore_n 3, 3, 0, 0), (79, 3, .iinc 4 1, 4, 1, 0), (82, 3, .goto (-64), 18, 0, 0), (85, 1, .iload_n 3, 3, 0, 0), (86, 1, .ireturn, 0, 0, 0)]
def q_cd183 : List q_I := [(0, 1, .iconst 0, 0, 0, 0), (1, 1, .istore_n 1, 1, 0, 0), (2, 1, .iload_n 1, 1, 0, 0), (3, 1, .iconst 1, 1, 0, 0), (4, 1, .aload_n 0, 0, 0, 0), (5, 3, .invokevirtual 354, 11, 1, 9), (8, 1, .ishl, 0, 0, 0), (9, 3, .if_icmp .ge 84, 93, 0, 0), (12, 1, .aload_n 0, 0, 0, 0), (13, 3, .getfield 116, 9, 52, 2), (16, 1, .iload_n 1, 1, 0, 0), (17, 1, .iload_n 1, 1, 0, 0), (18, 3, .ifCond .ne 7, 25, 0, 0), (21, 1, .iconst 1, 1, 0, 0), (22, 3, .goto 4, 26, 0, 0), (25, 1, .iconst 0, 0, 0, 0), (26, 1, .iastore, 0, 0, 0), (27, 1, .iconst 0, 0, 0, 0), (28, 1, .istore_n 2, 2, 0, 0), (29, 1, .iload_n 2, 2, 0, 0), (30, 1, .aload_n 0, 0, 0, 0), (31, 3, .invokevirtual 354, 11, 1, 9), (34, 3, .if_icmp .ge 53, 87, 0, 0), (37, 1, .iload_n 1, 1, 0, 0), (38, 1, .iload_n 2, 2, 0, 0), (39, 3, .invokestatic 300, 1, 2, 0), (42, 3, .ifCond .eq 39, 81, 0, 0), (45, 1, .aload_n 0, 0, 0, 0), (46, 1, .iload_n 2, 2, 0, 0), (47, 1, .iload_n 1, 1, 0, 0), (48, 1, .iconst 1, 1, 0, 0), (49, 1, .iload_n 2, 2, 0, 0), (50, 1, .ishl, 0, 0, 0), (51, 1, .iconst (-1), 4294967295, 0, 0), (52, 1, .ixor, 0, 0, 0), (53, 1, .iand, 0, 0, 0), (54, 3, .invokevirtual 457, 243, 3, 9), (57, 3, .ifCond .eq 24, 81, 0, 0), (60, 1, .aload_n 0, 0, 0, 0), (61, 3, .getfield 116, 9, 52, 2), (64, 1, .iload_n 1, 1, 0, 0), (65, 1, .dup2, 0, 0, 0), (66, 1, .iaload, 0, 0, 0), (67, 1, .aload_n 0, 0, 0, 0), (68, 3, .getfield 116, 9, 52, 2), (71, 1, .iload_n 1, 1, 0, 0), (72, 1, .iconst 1, 1, 0, 0), (73, 1, .iload_n 2, 2, 0, 0), (74, 1, .ishl, 0, 0, 0), (75, 1, .iconst (-1), 4294967295, 0, 0), (76, 1, .ixor, 0, 0, 0), (77, 1, .iand, 0, 0, 0), (78, 1, .iaload, 0, 0, 0), (79, 1, .iadd, 0, 0, 0), (80, 1, .iastore, 0, 0, 0), (81, 3, .iinc 2 1, 2, 1, 0), (84, 3, .goto (-55), 29, 0, 0), (87, 3, .iinc 1 1, 1, 1, 0), (90, 3, .goto (-88), 2, 0, 0), (93, 1, .aload_n 0, 0, 0, 0), (94, 3, .getfield 116, 9, 52, 2), (97, 1, .iconst 1, 1, 0, 0), (98, 1, .aload_n 0, 0, 0, 0), (99, 3, .invokevirtual 354, 11, 1, 9), (102, 1, .ishl, 0, 0, 0), (103, 1, .iconst 1, 1, 0, 0), (104, 1, .isub, 0, 0, 0), (105, 1, .iaload, 0, 0, 0), (106, 1, .ireturn, 0, 0, 0)]
def q_cd184 : List q_I := [(0, 1, .iconst (-1), 4294967295, 0, 0), (1, 1, .istore_n 1, 1, 0, 0), (2, 1, .iconst (-1), 4294967295, 0, 0), (3, 1, .istore_n 2, 2, 0, 0), (4, 1, .iconst 0, 0, 0, 0), (5, 1, .istore_n 3, 3, 0, 0), (6, 1, .iload_n 3, 3, 0, 0), (7, 1, .aload_n 0, 0, 0, 0), (8, 3, .getfield 27, 8, 3, 2), (11, 3, .getfield 90, 7, 8, 0), (14, 3, .if_icmp .ge 33, 47, 0, 0), (17, 1, .aload_n 0, 0, 0, 0), (18, 3, .getfield 44, 8, 6, 2), (21, 1, .iload_n 3, 3, 0, 0), (22, 3, .invokevirtual 119, 234, 2, 5), (25, 3, .invokestatic 165, 36, 1, 0), (28, 2, .istore 4, 4, 0, 0), (30, 2, .iload 4, 4, 0, 0), (32, 1, .iload_n 2, 2, 0, 0), (33, 3, .if_icmp .le 8, 41, 0, 0), (36, 2, .iload 4, 4, 0, 0), (38, 1, .istore_n 2, 2, 0, 0), (39, 1, .iload_n 3, 3, 0, 0), (40, 1, .istore_n 1, 1, 0, 0), (41, 3, .iinc 3 1, 3, 1, 0), (44, 3, .goto (-38), 6, 0, 0), (47, 1, .iload_n 1, 1, 0, 0), (48, 1, .ireturn, 0, 0, 0)]
def q_cd185 : List q_I := [(0, 1, .iconst (-1), 4294967295, 0, 0), (1, 1, .istore_n 1, 1, 0, 0), (2, 1, .iconst 0, 0, 0, 0), (3, 1, .istore_n 2, 2, 0, 0), (4, 1, .iload_n 2, 2, 0, 0), (5, 1, .aload_n 0, 0, 0, 0), (6, 3, .invokevirtual 354, 11, 1, 9), (9, 3, .if_icmp .ge 34, 43, 0, 0), (12, 1, .iload_n 1, 1, 0, 0), (13, 3, .ifCond .lt 22, 35, 0, 0), (16, 1, .aload_n 0, 0, 0, 0), (17, 1, .iload_n 2, 2, 0, 0), (18, 3, .invokevirtual 391, 250, 2, 9), (21, 3, .invokestatic 403, 139, 1, 0), (24, 1, .aload_n 0, 0, 0, 0), (25, 1, .iload_n 1, 1, 0, 0), (26, 3, .invokevirtual 391, 250, 2, 9), (29, 3, .invokestatic 403, 139, 1, 0), (32, 3, .if_icmp .le 5, 37, 0, 0), (35, 1, .iload_n 2, 2, 0, 0), (36, 1, .istore_n 1, 1, 0, 0), (37, 3, .iinc 2 1, 2, 1, 0), (40, 3, .goto (-36), 4, 0, 0), (43, 1, .iload_n 1, 1, 0, 0), (44, 1, .ireturn, 0, 0, 0)]
def q_cd186 : List q_I := [(0, 1, .aload_n 0, 0, 0, 0), (1, 3, .getfield 72, 8, 11, 2), (4, 1, .aload_n 0, 0, 0, 0), (5, 3, .getfield 37, 8, 5, 2), (8, 1, .iload_n 1, 1, 0, 0), (9, 3, .invokevirtual 319, 77, 3, 6), (12, 1, .aload_n 0, 0, 0, 0), (13, 3, .getfield 72, 8, 11, 2), (16, 3, .invokevirtual 323, 107, 1, 6), (19, 1, .ireturn, 0, 0, 0)]
def q_cd187 : List q_I := [(0, 1, .aload_n 0, 0, 0, 0), (1, 1, .iload_n 1, 1, 0, 0), (2, 3, .invokevirtual 486, 78, 2, 9), (5, 1, .aload_n 0, 0, 0, 0), (6, 3, .invokevirtual 489, 79, 1, 9), (9, 1, .ireturn, 0, 0, 0)]
def q_cd188 : List q_I := [(0, 1, .iload_n 1, 1, 0, 0), (1, 3, .ifCond .lt 9, 10, 0, 0), (4, 1, .iload_n 1, 1, 0, 0), (5, 2, .bipush 8, 8, 0, 0), (7, 3, .if_icmp .lt 5, 12, 0, 0), (10, 1, .iconst (-1), 4294967295, 0, 0), (11, 1, .ireturn, 0, 0, 0), (12, 1, .aload_n 0, 0, 0, 0), (13, 3, .getfield 72, 8, 11, 2), (16, 1, .aload_n 0, 0, 0, 0), (17, 3, .getfield 37, 8, 5, 2), (20, 1, .iload_n 2, 2, 0, 0), (21, 3, .invokevirtual 319, 77, 3, 6), (24, 1, .aload_n 0, 0, 0, 0), (25, 3, .getfield 72, 8, 11, 2), (28, 1, .iload_n 1, 1, 0, 0), (29, 3, .invokevirtual 325, 189, 2, 6), (32, 1, .istore_n 3, 3, 0, 0), (33, 1, .iload_n 3, 3, 0, 0), (34, 3, .ifCond .ne 5, 39, 0, 0), (37, 1, .iconst (-1), 4294967295, 0, 0), (38, 1, .ireturn, 0, 0, 0), (39, 1, .iload_n 3, 3, 0, 0), (40, 3, .invokestatic 165, 36, 1, 0), (43, 1, .iconst 1, 1, 0, 0), (44, 3, .if_icmp .ne 10, 54, 0, 0), (47, 1, .iload_n 3, 3, 0, 0), (48, 3, .invokestatic 245, 192, 1, 0), (51, 3, .goto 5, 56, 0, 0), (54, 2, .bipush (-2), 4294967294, 0, 0), (56, 1, .ireturn, 0, 0, 0)]
def q_cd189 : List q_I := [(0, 1, .iconst 0, 0, 0, 0), (1, 1, .istore_n 2, 2, 0, 0), (2, 1, .iconst 0, 0, 0, 0), (3, 1, .istore_n 3, 3, 0, 0), (4, 1, .iload_n 3, 3, 0, 0), (5, 2, .bipush 25, 25, 0, 0), (7, 3, .if_icmp .ge 29, 36, 0, 0), (10, 1, .iload_n 2, 2, 0, 0), (11, 1, .aload_n 0, 0, 0, 0), (12, 1, .iload_n 1, 1, 0, 0), (13, 1, .iload_n 3, 3, 0, 0), (14, 3, .invokevirtual 61, 8, 3, 6), (17, 3, .ifCond .le 10, 27, 0, 0), (20, 1, .iload_n 3, 3, 0, 0), (21, 3, .invokestatic 65, 16, 1, 0), (24, 3, .goto 4, 28, 0, 0), (27, 1, .iconst 0, 0, 0, 0), (28, 1, .ior, 0, 0, 0), (29, 1, .istore_n 2, 2, 0, 0), (30, 3, .iinc 3 1, 3, 1, 0), (33, 3, .goto (-29), 4, 0, 0), (36, 1, .iload_n 2, 2, 0, 0), (37, 1, .ireturn, 0, 0, 0)]
def q_cd190 : List q_I := [(0, 1, .iload_n 1, 1, 0, 0), (1, 1, .iconst 0, 0, 0, 0), (2, 2, .bipush 7, 7, 0, 0), (4, 3, .invokestatic 357, 12, 3, 0), (7, 3, .ifCond .ne 5, 12, 0, 0), (10, 1, .iconst (-1), 4294967295, 0, 0), (11, 1, .ireturn, 0, 0, 0), (12, 1, .aload_n 0, 0, 0, 0), (13, 1, .iload_n 2, 2, 0, 0), (14, 3, .invokevirtual 486, 78, 2, 9), (17, 1, .aload_n 0, 0, 0, 0), (18, 3, .invokevirtual 489, 79, 1, 9), (21, 1, .istore_n 3, 3, 0, 0), (22, 1, .iload_n 3, 3, 0, 0), (23, 3, .ifCond .ne 5, 28, 0, 0), (26, 1, .iconst (-1), 4294967295, 0, 0), (27, 1, .ireturn, 0, 0, 0), (28, 1, .iconst 0, 0, 0, 0), (29, 2, .istore 4, 4, 0, 0), (31, 2, .iload 4, 4, 0, 0), (33, 1, .aload_n 0, 0, 0, 0), (34, 3, .invokevirtual 364, 0, 1, 9), (37, 3, .if_icmp .ge 23, 60, 0, 0), (40, 1, .aload_n 0, 0, 0, 0), (41, 1, .iload_n 1, 1, 0, 0), (42, 2, .iload 4, 4, 0, 0), (44, 3, .invokevirtual 483, 10, 3, 9), (47, 1, .iload_n 3, 3, 0, 0), (48, 3, .if_icmp .ne 6, 54, 0, 0), (51, 2, .iload 4, 4, 0, 0), (53, 1, .ireturn, 0, 0, 0), (54, 3, .iinc 4 1, 4, 1, 0), (57, 3, .goto (-26), 31, 0, 0), (60, 2, .bipush (-2), 4294967294, 0, 0), (62, 1, .ireturn, 0, 0, 0)]
def q_cd191 : List q_I := [(0, 1, .iload_n 1, 1, 0, 0), (1, 3, .ifCond .gt 34, 35, 0, 0), (4, 1, .aload_n 0, 0, 0, 0), (5, 2, .iload 4, 4, 0, 0), (7, 3, .invokestatic 49, 16, 1, 0), (10, 1, .aload_n 0, 0, 0, 0), (11, 3, .getfield 34, 3, 7, 0), (14, 1, .iload_n 3, 3, 0, 0), (15, 1, .iconst (-1), 4294967295, 0, 0), (16, 1, .ixor, 0, 0, 0), (17, 1, .iand, 0, 0, 0), (18, 2, .iload 5, 5, 0, 0), (20, 3, .invokestatic 49, 16, 1, 0), (23, 3, .invokevirtual 60, 176, 4, 3), (26, 3, .ifCond .ne 7, 33, 0, 0), (29, 1, .iconst (-1), 4294967295, 0, 0), (30, 3, .goto 4, 34, 0, 0), (33, 1, .iload_n 3, 3, 0, 0), (34, 1, .ireturn, 0, 0, 0), (35, 1, .iload_n 1, 1, 0, 0), (36, 1, .iconst 1, 1, 0, 0), (37, 1, .isub, 0, 0, 0), (38, 2, .istore 6, 6, 0, 0), (40, 2, .iload 6, 6, 0, 0), (42, 1, .iload_n 2, 2, 0, 0), (43, 3, .if_icmp .ge 66, 109, 0, 0), (46, 2, .iload 6, 6, 0, 0), (48, 2, .iload 4, 4, 0, 0), (50, 3, .if_icmp .eq 53, 103, 0, 0), (53, 2, .iload 6, 6, 0, 0), (55, 2, .iload 5, 5, 0, 0), (57, 3, .if_icmp .eq 46, 103, 0, 0), (60, 1, .aload_n 0, 0, 0, 0), (61, 3, .getfield 34, 3, 7, 0), (64, 2, .iload 6, 6, 0, 0), (66, 3, .invokestatic 53, 3, 2, 0), (69, 3, .ifCond .eq 34, 103, 0, 0), (72, 1, .aload_n 0, 0, 0, 0), (73, 1, .iload_n 1, 1, 0, 0), (74, 1, .iconst 1, 1, 0, 0), (75, 1, .isub, 0, 0, 0), (76, 2, .iload 6, 6, 0, 0), (78, 1, .iload_n 3, 3, 0, 0), (79, 2, .iload 6, 6, 0, 0), (81, 3, .invokestatic 49, 16, 1, 0), (84, 1, .ior, 0, 0, 0), (85, 2, .iload 4, 4, 0, 0), (87, 2, .iload 5, 5, 0, 0), (89, 3, .invokevirtual 64, 191, 6, 3), (92, 2, .istore 7, 7, 0, 0), (94, 2, .iload 7, 7, 0, 0), (96, 1, .iconst (-1), 4294967295, 0, 0), (97, 3, .if_icmp .eq 6, 103, 0, 0), (100, 2, .iload 7, 7, 0, 0), (102, 1, .ireturn, 0, 0, 0), (103, 3, .iinc 6 1, 6, 1, 0), (106, 3, .goto (-66), 40, 0, 0), (109, 1, .iconst (-1), 4294967295, 0, 0), (110, 1, .ireturn, 0, 0, 0)]
def q_cd192 : List q_I := [(0, 1, .iload_n 0, 0, 0, 0), (1, 1, .iload_n 0, 0, 0, 0), (2, 1, .ineg, 0, 0, 0), (3, 1, .iand, 0, 0, 0), (4, 1, .iconst 1, 1, 0, 0), (5, 1, .isub, 0, 0, 0), (6, 3, .invokestatic 165, 36, 1, 0), (9, 1, .ireturn, 0, 0, 0)]
def q_cd193 : List q_I := [(0, 1, .iload_n 0, 0, 0, 0), (1, 1, .iconst 5, 5, 0, 0), (2, 1, .imul, 0, 0, 0), (3, 1, .iload_n 1, 1, 0, 0), (4, 1, .iadd, 0, 0, 0), (5, 1, .ireturn, 0, 0, 0)]
def q_cd194 : List q_I := [(0, 1, .iconst 1, 1, 0, 0), (1, 1, .istore_n 3, 3, 0, 0), (2, 1, .iload_n 3, 3, 0, 0), (3, 1, .iload_n 2, 2, 0, 0), (4, 3, .if_icmp .gt 28, 32, 0, 0), (7, 1, .aload_n 0, 0, 0, 0), (8, 1, .iload_n 1, 1, 0, 0), (9, 1, .aload_n 0, 0, 0, 0), (10, 3, .getfield 44, 8, 6, 2), (13, 3, .getfield 142, 5, 8, 0), (16, 1, .iload_n 3, 3, 0, 0), (17, 1, .iadd, 0, 0, 0), (18, 3, .invokevirtual 145, 41, 3, 8), (21, 3, .ifCond .eq 5, 26, 0, 0), (24, 1, .iconst 0, 0, 0, 0), (25, 1, .ireturn, 1, 0, 0), (26, 3, .iinc 3 1, 3, 1, 0), (29, 3, .goto (-27), 2, 0, 0), (32, 1, .iconst 1, 1, 0, 0), (33, 1, .ireturn, 1, 0, 0)]
def q_cd195 : List q_I := [(0, 1, .aload_n 0, 0, 0, 0), (1, 1, .aload_n 1, 1, 0, 0), (2, 3, .invokevirtual 32, 196, 2, 0), (5, 1, .astore_n 2, 2, 0, 0), (6, 1, .aload_n 0, 0, 0, 0), (7, 1, .dup, 0, 0, 0), (8, 3, .getfield 21, 0, 2, 0), (11, 1, .iconst 1, 1, 0, 0), (12, 1, .iadd, 0, 0, 0), (13, 3, .putfield 21, 0, 2, 0), (16, 1, .aload_n 0, 0, 0, 0), (17, 1, .dup, 0, 0, 0), (18, 3, .getfield 24, 0, 3, 0), (21, 1, .iconst 1, 1, 0, 0), (22, 1, .isub, 0, 0, 0), (23, 3, .putfield 24, 0, 3, 0), (26, 1, .aload_n 2, 2, 0, 0), (27, 1, .areturn, 0, 0, 0)]
def q_cd196 : List q_I := [(0, 1, .aload_n 0, 0, 0, 0), (1, 3, .getfield 17, 0, 1, 0), (4, 1, .aload_n 0, 0, 0, 0), (5, 3, .getfield 21, 0, 2, 0), (8, 1, .iadd, 0, 0, 0), (9, 2, .bipush 40, 40, 0, 0), (11, 3, .invokestatic 36, 280, 2, 0), (14, 1, .istore_n 2, 2, 0, 0), (15, 1, .aload_n 0, 0, 0, 0), (16, 3, .getfield 11, 0, 0, 2), (19, 1, .iload_n 2, 2, 0, 0), (20, 1, .aaload, 0, 0, 0), (21, 1, .astore_n 3, 3, 0, 0), (22, 1, .aload_n 3, 3, 0, 0), (23, 3, .ifnonnull 5, 28, 0, 0), (26, 1, .aload_n 1, 1, 0, 0), (27, 1, .areturn, 0, 0, 0), (28, 1, .aload_n 0, 0, 0, 0), (29, 3, .getfield 11, 0, 0, 2), (32, 1, .iload_n 2, 2, 0, 0), (33, 1, .aload_n 1, 1, 0, 0), (34, 1, .aastore, 0, 0, 0), (35, 1, .aload_n 3, 3, 0, 0), (36, 1, .areturn, 0, 0, 0)]
def q_cd197 : List q_I := [(0, 1, .aload_n 0, 0, 0, 0), (1, 1, .dup, 0, 0, 0), (2, 3, .getfield 21, 0, 2, 0), (5, 1, .iconst 1, 1, 0, 0), (6, 1, .isub, 0, 0, 0), (7, 3, .putfield 21, 0, 2, 0), (10, 1, .aload_n 0, 0, 0, 0), (11, 1, .dup, 0, 0, 0), (12, 3, .getfield 24, 0, 3, 0), (15, 1, .iconst 1, 1, 0, 0), (16, 1, .iadd, 0, 0, 0), (17, 3, .putfield 24, 0, 3, 0), (20, 1, .aload_n 0, 0, 0, 0), (21, 1, .aload_n 1, 1, 0, 0), (22, 3, .invokevirtual 32, 196, 2, 0), (25, 1, .areturn, 0, 0, 0)]
def q_cd198 : List q_I := [(0, 1, .iload_n 2, 2, 0, 0), (1, 3, .invokestatic 76, 16, 1, 0), (4, 1, .istore_n 3, 3, 0, 0), (5, 1, .iconst 0, 0, 0, 0), (6, 2, .istore 4, 4, 0, 0), (8, 2, .iload 4, 4, 0, 0), (10, 1, .aload_n 1, 1, 0, 0), (11, 3, .getfield 44, 3, 5, 0), (14, 3, .if_icmp .ge 48, 62, 0, 0), (17, 1, .aload_n 1, 1, 0, 0), (18, 3, .getfield 39, 3, 7, 0), (21, 2, .iload 4, 4, 0, 0), (23, 3, .invokestatic 28, 3, 2, 0), (26, 3, .ifCond .eq 30, 56, 0, 0), (29, 1, .aload_n 1, 1, 0, 0), (30, 3, .getfield 55, 3, 0, 2), (33, 2, .iload 4, 4, 0, 0), (35, 1, .iaload, 0, 0, 0), (36, 1, .aload_n 0, 0, 0, 0), (37, 3, .getfield 22, 1, 3, 2), (40, 1, .iload_n 2, 2, 0, 0), (41, 1, .iaload, 0, 0, 0), (42, 1, .iconst (-1), 4294967295, 0, 0), (43, 1, .ixor, 0, 0, 0), (44, 1, .iand, 0, 0, 0), (45, 3, .ifCond .ne 11, 56, 0, 0), (48, 1, .iload_n 3, 3, 0, 0), (49, 2, .iload 4, 4, 0, 0), (51, 3, .invokestatic 76, 16, 1, 0), (54, 1, .ior, 0, 0, 0), (55, 1, .istore_n 3, 3, 0, 0), (56, 3, .iinc 4 1, 4, 1, 0), (59, 3, .goto (-51), 8, 0, 0), (62, 1, .iload_n 3, 3, 0, 0), (63, 1, .ireturn, 0, 0, 0)]
def q_cd199 : List q_I := [(0, 1, .iconst (-1), 4294967295, 0, 0), (1, 2, .istore 4, 4, 0, 0), (3, 2, .ldc 32, 1048576, 0, 0), (5, 2, .istore 5, 5, 0, 0), (7, 1, .iconst 0, 0, 0, 0), (8, 2, .istore 6, 6, 0, 0), (10, 2, .iload 6, 6, 0, 0), (12, 1, .aload_n 1, 1, 0, 0), (13, 3, .getfield 44, 3, 5, 0), (16, 3, .if_icmp .ge 68, 84, 0, 0), (19, 2, .iload 6, 6, 0, 0), (21, 1, .iload_n 2, 2, 0, 0), (22, 3, .if_icmp .eq 56, 78, 0, 0), (25, 1, .aload_n 1, 1, 0, 0), (26, 3, .getfield 55, 3, 0, 2), (29, 1, .iload_n 2, 2, 0, 0), (30, 1, .iaload, 0, 0, 0), (31, 2, .iload 6, 6, 0, 0), (33, 3, .invokestatic 28, 3, 2, 0), (36, 3, .ifCond .eq 42, 78, 0, 0), (39, 1, .aload_n 0, 0, 0, 0), (40, 3, .getfield 19, 1, 2, 2), (43, 2, .iload 6, 6, 0, 0), (45, 1, .iaload, 0, 0, 0), (46, 1, .iload_n 3, 3, 0, 0), (47, 2, .iload 6, 6, 0, 0), (49, 3, .invokestatic 51, 208, 2, 0), (52, 1, .iadd, 0, 0, 0), (53, 2, .iload 5, 5, 0, 0), (55, 3, .if_icmp .ge 23, 78, 0, 0), (58, 1, .aload_n 0, 0, 0, 0), (59, 3, .getfield 19, 1, 2, 2), (62, 2, .iload 6, 6, 0, 0), (64, 1, .iaload, 0, 0, 0), (65, 1, .iload_n 3, 3, 0, 0), (66, 2, .iload 6, 6, 0, 0), (68, 3, .invokestatic 51, 208, 2, 0), (71, 1, .iadd, 0, 0, 0), (72, 2, .istore 5, 5, 0, 0), (74, 2, .iload 6, 6, 0, 0), (76, 2, .istore 4, 4, 0, 0), (78, 3, .iinc 6 1, 6, 1, 0), (81, 3, .goto (-71), 10, 0, 0), (84, 2, .iload 4, 4, 0, 0), (86, 1, .ireturn, 0, 0, 0)]
def q_cd200 : List q_I := [(0, 1, .iconst 0, 0, 0, 0), (1, 1, .istore_n 3, 3, 0, 0), (2, 1, .iconst 0, 0, 0, 0), (3, 2, .istore 4, 4, 0, 0), (5, 2, .iload 4, 4, 0, 0), (7, 1, .aload_n 1, 1, 0, 0), (8, 3, .getfield 44, 3, 5, 0), (11, 3, .if_icmp .ge 51, 62, 0, 0), (14, 1, .aload_n 1, 1, 0, 0), (15, 3, .getfield 55, 3, 0, 2), (18, 1, .iload_n 2, 2, 0, 0), (19, 1, .iaload, 0, 0, 0), (20, 2, .iload 4, 4, 0, 0), (22, 3, .invokestatic 28, 3, 2, 0), (25, 3, .ifCond .eq 31, 56, 0, 0), (28, 1, .aload_n 0, 0, 0, 0), (29, 3, .getfield 19, 1, 2, 2), (32, 2, .iload 4, 4, 0, 0), (34, 1, .iaload, 0, 0, 0), (35, 1, .aload_n 0, 0, 0, 0), (36, 3, .getfield 19, 1, 2, 2), (39, 1, .iload_n 2, 2, 0, 0), (40, 1, .iaload, 0, 0, 0), (41, 1, .iconst 1, 1, 0, 0), (42, 1, .isub, 0, 0, 0), (43, 3, .if_icmp .ne 13, 56, 0, 0), (46, 1, .iload_n 3, 3, 0, 0), (47, 1, .aload_n 0, 0, 0, 0), (48, 3, .getfield 22, 1, 3, 2), (51, 2, .iload 4, 4, 0, 0), (53, 1, .iaload, 0, 0, 0), (54, 1, .iadd, 0, 0, 0), (55, 1, .istore_n 3, 3, 0, 0), (56, 3, .iinc 4 1, 4, 1, 0), (59, 3, .goto (-54), 5, 0, 0), (62, 1, .iload_n 3, 3, 0, 0), (63, 1, .ireturn, 0, 0, 0)]
def q_cd201 : List q_I := [(0, 1, .aload_n 0, 0, 0, 0), (1, 3, .getfield 22, 1, 3, 2), (4, 1, .iconst 0, 0, 0, 0), (5, 3, .invokestatic 33, 49, 2, 0), (8, 1, .aload_n 0, 0, 0, 0), (9, 3, .getfield 22, 1, 3, 2), (12, 1, .iload_n 2, 2, 0, 0), (13, 1, .iconst 1, 1, 0, 0), (14, 1, .iastore, 0, 0, 0), (15, 1, .iconst 0, 0, 0, 0), (16, 2, .istore 4, 4, 0, 0), (18, 2, .iload 4, 4, 0, 0), (20, 1, .iload_n 3, 3, 0, 0), (21, 3, .if_icmp .ge 66, 87, 0, 0), (24, 1, .iconst 0, 0, 0, 0), (25, 2, .istore 5, 5, 0, 0), (27, 2, .iload 5, 5, 0, 0), (29, 1, .aload_n 1, 1, 0, 0), (30, 3, .getfield 44, 3, 5, 0), (33, 3, .if_icmp .ge 31, 64, 0, 0), (36, 1, .aload_n 0, 0, 0, 0), (37, 3, .getfield 25, 1, 4, 2), (40, 2, .iload 5, 5, 0, 0), (42, 1, .aload_n 0, 0, 0, 0), (43, 3, .getfield 22, 1, 3, 2), (46, 1, .iconst 0, 0, 0, 0), (47, 1, .aload_n 1, 1, 0, 0), (48, 3, .getfield 55, 3, 0, 2), (51, 2, .iload 5, 5, 0, 0), (53, 1, .iaload, 0, 0, 0), (54, 3, .invokestatic 66, 4, 3, 0), (57, 1, .iastore, 0, 0, 0), (58, 3, .iinc 5 1, 5, 1, 0), (61, 3, .goto (-34), 27, 0, 0), (64, 1, .aload_n 0, 0, 0, 0), (65, 3, .getfield 25, 1, 4, 2), (68, 1, .iconst 0, 0, 0, 0), (69, 1, .aload_n 0, 0, 0, 0), (70, 3, .getfield 22, 1, 3, 2), (73, 1, .iconst 0, 0, 0, 0), (74, 1, .aload_n 1, 1, 0, 0), (75, 3, .getfield 44, 3, 5, 0), (78, 3, .invokestatic 70, 0, 0, 77), (81, 3, .iinc 4 1, 4, 1, 0), (84, 3, .goto (-66), 18, 0, 0), (87, 1, .aload_n 0, 0, 0, 0), (88, 3, .getfield 22, 1, 3, 2), (91, 1, .iload_n 2, 2, 0, 0), (92, 1, .iaload, 0, 0, 0), (93, 1, .ireturn, 0, 0, 0)]
def q_cd202 : List q_I := [(0, 1, .aload_n 0, 0, 0, 0), (1, 1, .aload_n 1, 1, 0, 0), (2, 1, .iload_n 3, 3, 0, 0), (3, 1, .iconst 0, 0, 0, 0), (4, 3, .invokevirtual 58, 205, 4, 1), (7, 1, .aload_n 0, 0, 0, 0), (8, 3, .getfield 22, 1, 3, 2), (11, 1, .iconst 0, 0, 0, 0), (12, 3, .invokestatic 33, 49, 2, 0), (15, 1, .aload_n 0, 0, 0, 0), (16, 3, .getfield 22, 1, 3, 2), (19, 1, .iload_n 3, 3, 0, 0), (20, 1, .aload_n 0, 0, 0, 0), (21, 3, .getfield 19, 1, 2, 2), (24, 1, .iload_n 3, 3, 0, 0), (25, 1, .iaload, 0, 0, 0), (26, 3, .ifCond .ne 7, 33, 0, 0), (29, 1, .iconst 1, 1, 0, 0), (30, 3, .goto 4, 34, 0, 0), (33, 1, .iconst 0, 0, 0, 0), (34, 1, .iastore, 0, 0, 0), (35, 1, .iconst 1, 1, 0, 0), (36, 2, .istore 4, 4, 0, 0), (38, 2, .iload 4, 4, 0, 0), (40, 2, .bipush 25, 25, 0, 0), (42, 3, .if_icmp .ge 53, 95, 0, 0), (45, 1, .iconst 0, 0, 0, 0), (46, 2, .istore 5, 5, 0, 0), (48, 2, .iload 5, 5, 0, 0), (50, 1, .aload_n 1, 1, 0, 0), (51, 3, .getfield 44, 3, 5, 0), (54, 3, .if_icmp .ge 35, 89, 0, 0), (57, 1, .aload_n 0, 0, 0, 0), (58, 3, .getfield 19, 1, 2, 2), (61, 2, .iload 5, 5, 0, 0), (63, 1, .iaload, 0, 0, 0), (64, 2, .iload 4, 4, 0, 0), (66, 3, .if_icmp .ne 17, 83, 0, 0), (69, 1, .aload_n 0, 0, 0, 0), (70, 3, .getfield 22, 1, 3, 2), (73, 2, .iload 5, 5, 0, 0), (75, 1, .aload_n 0, 0, 0, 0), (76, 1, .aload_n 1, 1, 0, 0), (77, 2, .iload 5, 5, 0, 0), (79, 3, .invokevirtual 62, 200, 3, 1), (82, 1, .iastore, 0, 0, 0), (83, 3, .iinc 5 1, 5, 1, 0), (86, 3, .goto (-38), 48, 0, 0), (89, 3, .iinc 4 1, 4, 1, 0), (92, 3, .goto (-54), 38, 0, 0), (95, 1, .aload_n 0, 0, 0, 0), (96, 3, .getfield 22, 1, 3, 2), (99, 1, .iload_n 2, 2, 0, 0), (100, 1, .iaload, 0, 0, 0), (101, 1, .ireturn, 0, 0, 0)]
def q_cd203 : List q_I := [(0, 1, .iconst 0, 0, 0, 0), (1, 1, .istore_n 2, 2, 0, 0), (2, 1, .iconst 1, 1, 0, 0), (3, 1, .istore_n 3, 3, 0, 0), (4, 1, .iload_n 3, 3, 0, 0), (5, 1, .aload_n 0, 0, 0, 0), (6, 3, .getfield 15, 1, 1, 0), (9, 3, .if_icmp .ge 30, 39, 0, 0), (12, 1, .iload_n 2, 2, 0, 0), (13, 1, .iload_n 1, 1, 0, 0), (14, 1, .aload_n 0, 0, 0, 0), (15, 3, .getfield 9, 1, 0, 2), (18, 1, .iload_n 3, 3, 0, 0), (19, 1, .iaload, 0, 0, 0), (20, 3, .invokestatic 28, 3, 2, 0), (23, 3, .ifCond .eq 7, 30, 0, 0), (26, 1, .iconst 1, 1, 0, 0), (27, 3, .goto 4, 31, 0, 0), (30, 1, .iconst 0, 0, 0, 0), (31, 1, .iadd, 0, 0, 0), (32, 1, .istore_n 2, 2, 0, 0), (33, 3, .iinc 3 1, 3, 1, 0), (36, 3, .goto (-32), 4, 0, 0), (39, 1, .iload_n 2, 2, 0, 0), (40, 1, .ireturn, 0, 0, 0)]
def q_cd204 : List q_I := [(0, 1, .aload_n 0, 0, 0, 0), (1, 1, .iconst 0, 0, 0, 0), (2, 3, .putfield 15, 1, 1, 0), (5, 1, .aload_n 0, 0, 0, 0), (6, 1, .aload_n 1, 1, 0, 0), (7, 1, .iload_n 3, 3, 0, 0), (8, 2, .iload 4, 4, 0, 0), (10, 3, .invokevirtual 58, 205, 4, 1), (13, 1, .aload_n 0, 0, 0, 0), (14, 3, .getfield 19, 1, 2, 2), (17, 1, .iload_n 2, 2, 0, 0), (18, 1, .iaload, 0, 0, 0), (19, 2, .ldc 32, 1048576, 0, 0), (21, 3, .if_icmp .lt 5, 26, 0, 0), (24, 1, .iconst 0, 0, 0, 0), (25, 1, .ireturn, 1, 0, 0), (26, 1, .iload_n 2, 2, 0, 0), (27, 2, .istore 5, 5, 0, 0), (29, 1, .aload_n 0, 0, 0, 0), (30, 3, .getfield 9, 1, 0, 2), (33, 1, .iconst 0, 0, 0, 0), (34, 2, .iload 5, 5, 0, 0), (36, 1, .iastore, 0, 0, 0), (37, 1, .aload_n 0, 0, 0, 0), (38, 1, .iconst 1, 1, 0, 0), (39, 3, .putfield 15, 1, 1, 0), (42, 1, .iconst 1, 1, 0, 0), (43, 2, .istore 6, 6, 0, 0), (45, 2, .iload 6, 6, 0, 0), (47, 2, .bipush 25, 25, 0, 0), (49, 3, .if_icmp .ge 51, 100, 0, 0), (52, 2, .iload 5, 5, 0, 0), (54, 1, .iload_n 3, 3, 0, 0), (55, 3, .if_icmp .eq 45, 100, 0, 0), (58, 2, .iload 5, 5, 0, 0), (60, 1, .iconst (-1), 4294967295, 0, 0), (61, 3, .if_icmp .eq 39, 100, 0, 0), (64, 1, .aload_n 0, 0, 0, 0), (65, 1, .aload_n 1, 1, 0, 0), (66, 2, .iload 5, 5, 0, 0), (68, 2, .iload 4, 4, 0, 0), (70, 3, .invokevirtual 47, 199, 4, 1), (73, 2, .istore 5, 5, 0, 0), (75, 1, .aload_n 0, 0, 0, 0), (76, 3, .getfield 9, 1, 0, 2), (79, 2, .iload 6, 6, 0, 0), (81, 2, .iload 5, 5, 0, 0), (83, 1, .iastore, 0, 0, 0), (84, 1, .aload_n 0, 0, 0, 0), (85, 1, .dup, 0, 0, 0), (86, 3, .getfield 15, 1, 1, 0), (89, 1, .iconst 1, 1, 0, 0), (90, 1, .iadd, 0, 0, 0), (91, 3, .putfield 15, 1, 1, 0), (94, 3, .iinc 6 1, 6, 1, 0), (97, 3, .goto (-52), 45, 0, 0), (100, 1, .iconst 1, 1, 0, 0), (101, 1, .ireturn, 1, 0, 0)]
def q_cd205 : List q_I := [(0, 1, .aload_n 0, 0, 0, 0), (1, 3, .getfield 19, 1, 2, 2), (4, 2, .ldc 32, 1048576, 0, 0), (6, 3, .invokestatic 33, 49, 2, 0), (9, 1, .aload_n 0, 0, 0, 0), (10, 3, .getfield 19, 1, 2, 2), (13, 1, .iload_n 2, 2, 0, 0), (14, 1, .aload_n 1, 1, 0, 0), (15, 3, .getfield 39, 3, 7, 0), (18, 1, .iload_n 2, 2, 0, 0), (19, 3, .invokestatic 28, 3, 2, 0), (22, 3, .ifCond .eq 7, 29, 0, 0), (25, 1, .iconst 0, 0, 0, 0), (26, 3, .goto 5, 31, 0, 0), (29, 2, .ldc 32, 1048576, 0, 0), (31, 1, .iastore, 0, 0, 0), (32, 1, .iconst 1, 1, 0, 0), (33, 2, .istore 4, 4, 0, 0), (35, 1, .iconst 0, 0, 0, 0), (36, 2, .istore 5, 5, 0, 0), (38, 2, .iload 5, 5, 0, 0), (40, 2, .bipush 25, 25, 0, 0), (42, 3, .if_icmp .ge 99, 141, 0, 0), (45, 2, .iload 4, 4, 0, 0), (47, 3, .ifCond .eq 94, 141, 0, 0), (50, 1, .iconst 0, 0, 0, 0), (51, 2, .istore 4, 4, 0, 0), (53, 1, .iconst 0, 0, 0, 0), (54, 2, .istore 6, 6, 0, 0), (56, 2, .iload 6, 6, 0, 0), (58, 1, .aload_n 1, 1, 0, 0), (59, 3, .getfield 44, 3, 5, 0), (62, 3, .if_icmp .ge 73, 135, 0, 0), (65, 1, .aload_n 0, 0, 0, 0), (66, 1, .aload_n 1, 1, 0, 0), (67, 2, .iload 6, 6, 0, 0), (69, 1, .iload_n 3, 3, 0, 0), (70, 3, .invokevirtual 47, 199, 4, 1), (73, 2, .istore 7, 7, 0, 0), (75, 2, .iload 7, 7, 0, 0), (77, 1, .iconst (-1), 4294967295, 0, 0), (78, 3, .if_icmp .eq 51, 129, 0, 0), (81, 1, .aload_n 0, 0, 0, 0), (82, 3, .getfield 19, 1, 2, 2), (85, 2, .iload 7, 7, 0, 0), (87, 1, .iaload, 0, 0, 0), (88, 1, .iload_n 3, 3, 0, 0), (89, 2, .iload 7, 7, 0, 0), (91, 3, .invokestatic 51, 208, 2, 0), (94, 1, .iadd, 0, 0, 0), (95, 1, .aload_n 0, 0, 0, 0), (96, 3, .getfield 19, 1, 2, 2), (99, 2, .iload 6, 6, 0, 0), (101, 1, .iaload, 0, 0, 0), (102, 3, .if_icmp .ge 27, 129, 0, 0), (105, 1, .aload_n 0, 0, 0, 0), (106, 3, .getfield 19, 1, 2, 2), (109, 2, .iload 6, 6, 0, 0), (111, 1, .aload_n 0, 0, 0, 0), (112, 3, .getfield 19, 1, 2, 2), (115, 2, .iload 7, 7, 0, 0), (117, 1, .iaload, 0, 0, 0), (118, 1, .iload_n 3, 3, 0, 0), (119, 2, .iload 7, 7, 0, 0), (121, 3, .invokestatic 51, 208, 2, 0), (124, 1, .iadd, 0, 0, 0), (125, 1, .iastore, 0, 0, 0), (126, 1, .iconst 1, 1, 0, 0), (127, 2, .istore 4, 4, 0, 0), (129, 3, .iinc 6 1, 6, 1, 0), (132, 3, .goto (-76), 56, 0, 0), (135, 3, .iinc 5 1, 5, 1, 0), (138, 3, .goto (-100), 38, 0, 0), (141, 1, .return_, 0, 0, 0)]
def q_cd206 : List q_I := [(0, 1, .iconst 0, 0, 0, 0), (1, 2, .istore 4, 4, 0, 0), (3, 2, .iload 4, 4, 0, 0), (5, 1, .aload_n 1, 1, 0, 0), (6, 3, .getfield 44, 3, 5, 0), (9, 3, .if_icmp .ge 21, 30, 0, 0), (12, 1, .aload_n 0, 0, 0, 0), (13, 3, .getfield 22, 1, 3, 2), (16, 2, .iload 4, 4, 0, 0), (18, 2, .iload 4, 4, 0, 0), (20, 3, .invokestatic 76, 16, 1, 0), (23, 1, .iastore, 0, 0, 0), (24, 3, .iinc 4 1, 4, 1, 0), (27, 3, .goto (-24), 3, 0, 0), (30, 1, .iconst 1, 1, 0, 0), (31, 2, .istore 4, 4, 0, 0), (33, 1, .iconst 0, 0, 0, 0), (34, 2, .istore 5, 5, 0, 0), (36, 2, .iload 5, 5, 0, 0), (38, 3, .sipush 625, 625, 0, 0), (41, 3, .if_icmp .gt 138, 179, 0, 0), (44, 2, .iload 4, 4, 0, 0), (46, 3, .ifCond .eq 133, 179, 0, 0), (49, 1, .aload_n 0, 0, 0, 0), (50, 3, .getfield 22, 1, 3, 2), (53, 1, .iload_n 2, 2, 0, 0), (54, 1, .iaload, 0, 0, 0), (55, 1, .iload_n 3, 3, 0, 0), (56, 3, .invokestatic 28, 3, 2, 0), (59, 3, .ifCond .eq 6, 65, 0, 0), (62, 2, .iload 5, 5, 0, 0), (64, 1, .ireturn, 0, 0, 0), (65, 1, .iconst 0, 0, 0, 0), (66, 2, .istore 6, 6, 0, 0), (68, 2, .iload 6, 6, 0, 0), (70, 1, .aload_n 1, 1, 0, 0), (71, 3, .getfield 44, 3, 5, 0), (74, 3, .if_icmp .ge 23, 97, 0, 0), (77, 1, .aload_n 0, 0, 0, 0), (78, 3, .getfield 25, 1, 4, 2), (81, 2, .iload 6, 6, 0, 0), (83, 1, .aload_n 0, 0, 0, 0), (84, 1, .aload_n 1, 1, 0, 0), (85, 2, .iload 6, 6, 0, 0), (87, 3, .invokevirtual 80, 198, 3, 1), (90, 1, .iastore, 0, 0, 0), (91, 3, .iinc 6 1, 6, 1, 0), (94, 3, .goto (-26), 68, 0, 0), (97, 1, .iconst 0, 0, 0, 0), (98, 2, .istore 4, 4, 0, 0), (100, 1, .iconst 0, 0, 0, 0), (101, 2, .istore 6, 6, 0, 0), (103, 2, .iload 6, 6, 0, 0), (105, 1, .aload_n 1, 1, 0, 0), (106, 3, .getfield 44, 3, 5, 0), (109, 3, .if_icmp .ge 64, 173, 0, 0), (112, 1, .aload_n 0, 0, 0, 0), (113, 3, .getfield 22, 1, 3, 2), (116, 2, .iload 6, 6, 0, 0), (118, 1, .iaload, 0, 0, 0), (119, 1, .aload_n 0, 0, 0, 0), (120, 3, .getfield 25, 1, 4, 2), (123, 1, .aload_n 1, 1, 0, 0), (124, 3, .getfield 55, 3, 0, 2), (127, 2, .iload 6, 6, 0, 0), (129, 1, .iaload, 0, 0, 0), (130, 3, .invokestatic 83, 207, 2, 0), (133, 1, .ior, 0, 0, 0), (134, 2, .istore 7, 7, 0, 0), (136, 2, .iload 4, 4, 0, 0), (138, 2, .iload 7, 7, 0, 0), (140, 1, .aload_n 0, 0, 0, 0), (141, 3, .getfield 22, 1, 3, 2), (144, 2, .iload 6, 6, 0, 0), (146, 1, .iaload, 0, 0, 0), (147, 3, .if_icmp .eq 7, 154, 0, 0), (150, 1, .iconst 1, 1, 0, 0), (151, 3, .goto 4, 155, 0, 0), (154, 1, .iconst 0, 0, 0, 0), (155, 1, .ior, 0, 0, 0), (156, 2, .istore 4, 4, 0, 0), (158, 1, .aload_n 0, 0, 0, 0), (159, 3, .getfield 22, 1, 3, 2), (162, 2, .iload 6, 6, 0, 0), (164, 2, .iload 7, 7, 0, 0), (166, 1, .iastore, 0, 0, 0), (167, 3, .iinc 6 1, 6, 1, 0), (170, 3, .goto (-67), 103, 0, 0), (173, 3, .iinc 5 1, 5, 1, 0), (176, 3, .goto (-140), 36, 0, 0), (179, 1, .iconst (-1), 4294967295, 0, 0), (180, 1, .ireturn, 0, 0, 0)]
def q_cd207 : List q_I := [(0, 1, .iconst 0, 0, 0, 0), (1, 1, .istore_n 2, 2, 0, 0), (2, 1, .iconst 0, 0, 0, 0), (3, 1, .istore_n 3, 3, 0, 0), (4, 1, .iload_n 3, 3, 0, 0), (5, 2, .bipush 25, 25, 0, 0), (7, 3, .if_icmp .ge 33, 40, 0, 0), (10, 1, .iload_n 3, 3, 0, 0), (11, 1, .aload_n 0, 0, 0, 0), (12, 1, .arraylength, 0, 0, 0), (13, 3, .if_icmp .ge 27, 40, 0, 0), (16, 1, .iload_n 2, 2, 0, 0), (17, 1, .iload_n 1, 1, 0, 0), (18, 1, .iload_n 3, 3, 0, 0), (19, 3, .invokestatic 28, 3, 2, 0), (22, 3, .ifCond .eq 9, 31, 0, 0), (25, 1, .aload_n 0, 0, 0, 0), (26, 1, .iload_n 3, 3, 0, 0), (27, 1, .iaload, 0, 0, 0), (28, 3, .goto 4, 32, 0, 0), (31, 1, .iconst 0, 0, 0, 0), (32, 1, .ior, 0, 0, 0), (33, 1, .istore_n 2, 2, 0, 0), (34, 3, .iinc 3 1, 3, 1, 0), (37, 3, .goto (-33), 4, 0, 0), (40, 1, .iload_n 2, 2, 0, 0), (41, 1, .ireturn, 0, 0, 0)]
def q_cd208 : List q_I := [(0, 1, .iload_n 0, 0, 0, 0), (1, 1, .iload_n 1, 1, 0, 0), (2, 3, .invokestatic 28, 3, 2, 0), (5, 3, .ifCond .eq 8, 13, 0, 0), (8, 2, .bipush 33, 33, 0, 0), (10, 3, .goto 4, 14, 0, 0), (13, 1, .iconst 1, 1, 0, 0), (14, 1, .ireturn, 0, 0, 0)]
def q_cd209 : List q_I := [(0, 1, .iload_n 0, 0, 0, 0), (1, 83, .lookupswitch 166 #[(37, 107), (42, 91), (43, 83), (45, 87), (47, 95), (60, 119), (61, 141), (62, 130), (211, 152)], 0, 0, 0), (84, 1, .iload_n 1, 1, 0, 0), (85, 1, .iload_n 2, 2, 0, 0), (86, 1, .iadd, 0, 0, 0), (87, 1, .ireturn, 0, 0, 0), (88, 1, .iload_n 1, 1, 0, 0), (89, 1, .iload_n 2, 2, 0, 0), (90, 1, .isub, 0, 0, 0), (91, 1, .ireturn, 0, 0, 0), (92, 1, .iload_n 1, 1, 0, 0), (93, 1, .iload_n 2, 2, 0, 0), (94, 1, .imul, 0, 0, 0), (95, 1, .ireturn, 0, 0, 0), (96, 1, .iload_n 2, 2, 0, 0), (97, 3, .ifCond .ne 7, 104, 0, 0), (100, 1, .iconst 0, 0, 0, 0), (101, 3, .goto 6, 107, 0, 0), (104, 1, .iload_n 1, 1, 0, 0), (105, 1, .iload_n 2, 2, 0, 0), (106, 1, .idiv, 0, 0, 0), (107, 1, .ireturn, 0, 0, 0), (108, 1, .iload_n 2, 2, 0, 0), (109, 3, .ifCond .ne 7, 116, 0, 0), (112, 1, .iconst 0, 0, 0, 0), (113, 3, .goto 6, 119, 0, 0), (116, 1, .iload_n 1, 1, 0, 0), (117, 1, .iload_n 2, 2, 0, 0), (118, 1, .irem, 0, 0, 0), (119, 1, .ireturn, 0, 0, 0), (120, 1, .iload_n 1, 1, 0, 0), (121, 1, .iload_n 2, 2, 0, 0), (122, 3, .if_icmp .ge 7, 129, 0, 0), (125, 1, .iconst 1, 1, 0, 0), (126, 3, .goto 4, 130, 0, 0), (129, 1, .iconst 0, 0, 0, 0), (130, 1, .ireturn, 0, 0, 0), (131, 1, .iload_n 1, 1, 0, 0), (132, 1, .iload_n 2, 2, 0, 0), (133, 3, .if_icmp .le 7, 140, 0, 0), (136, 1, .iconst 1, 1, 0, 0), (137, 3, .goto 4, 141, 0, 0), (140, 1, .iconst 0, 0, 0, 0), (141, 1, .ireturn, 0, 0, 0), (142, 1, .iload_n 1, 1, 0, 0), (143, 1, .iload_n 2, 2, 0, 0), (144, 3, .if_icmp .ne 7, 151, 0, 0), (147, 1, .iconst 1, 1, 0, 0), (148, 3, .goto 4, 152, 0, 0), (151, 1, .iconst 0, 0, 0, 0), (152, 1, .ireturn, 0, 0, 0), (153, 1, .iload_n 1, 1, 0, 0), (154, 3, .ifCond .eq 11, 165, 0, 0), (157, 1, .iload_n 2, 2, 0, 0), (158, 3, .ifCond .eq 7, 165, 0, 0), (161, 1, .iconst 1, 1, 0, 0), (162, 3, .goto 4, 166, 0, 0), (165, 1, .iconst 0, 0, 0, 0), (166, 1, .ireturn, 0, 0, 0), (167, 1, .iload_n 1, 1, 0, 0), (168, 3, .ifCond .ne 7, 175, 0, 0), (171, 1, .iload_n 2, 2, 0, 0), (172, 3, .ifCond .eq 7, 179, 0, 0), (175, 1, .iconst 1, 1, 0, 0), (176, 3, .goto 4, 180, 0, 0), (179, 1, .iconst 0, 0, 0, 0), (180, 1, .ireturn, 0, 0, 0)]
def q_cd210 : List q_I := [(0, 1, .aload_n 0, 0, 0, 0), (1, 3, .getfield 21, 2, 3, 0), (4, 1, .aload_n 0, 0, 0, 0), (5, 3, .getfield 9, 2, 0, 2), (8, 1, .arraylength, 0, 0, 0), (9, 3, .if_icmp .ge 23, 32, 0, 0), (12, 1, .aload_n 0, 0, 0, 0), (13, 3, .getfield 9, 2, 0, 2), (16, 1, .aload_n 0, 0, 0, 0), (17, 3, .getfield 21, 2, 3, 0), (20, 1, .iload_n 1, 1, 0, 0), (21, 1, .iastore, 0, 0, 0), (22, 1, .aload_n 0, 0, 0, 0), (23, 1, .dup, 0, 0, 0), (24, 3, .getfield 21, 2, 3, 0), (27, 1, .iconst 1, 1, 0, 0), (28, 1, .iadd, 0, 0, 0), (29, 3, .putfield 21, 2, 3, 0), (32, 1, .return_, 0, 0, 0)]
def q_cd211 : List q_I := [(0, 1, .aload_n 0, 0, 0, 0), (1, 1, .iload_n 1, 1, 0, 0), (2, 1, .ineg, 0, 0, 0), (3, 3, .invokevirtual 25, 210, 2, 2), (6, 1, .return_, 0, 0, 0)]
def q_cd212 : List q_I := [(0, 1, .aload_n 0, 0, 0, 0), (1, 1, .iload_n 1, 1, 0, 0), (2, 3, .invokevirtual 25, 210, 2, 2), (5, 1, .return_, 0, 0, 0)]
def q_cd213 : List q_I := [(0, 1, .aload_n 0, 0, 0, 0), (1, 3, .getfield 39, 4, 8, 0), (4, 1, .iload_n 1, 1, 0, 0), (5, 3, .if_icmp .eq 9, 14, 0, 0), (8, 1, .aload_n 0, 0, 0, 0), (9, 1, .iconst 2, 2, 0, 0), (10, 3, .invokevirtual 102, 231, 2, 4), (13, 1, .ireturn, 1, 0, 0), (14, 1, .aload_n 0, 0, 0, 0), (15, 3, .invokevirtual 73, 154, 1, 4), (18, 1, .iconst 1, 1, 0, 0), (19, 1, .ireturn, 1, 0, 0)]
def q_cd214 : List q_I := [(0, 1, .iload_n 0, 0, 0, 0), (1, 2, .bipush 32, 32, 0, 0), (3, 3, .if_icmp .eq 9, 12, 0, 0), (6, 1, .iload_n 0, 0, 0, 0), (7, 2, .bipush 10, 10, 0, 0), (9, 3, .if_icmp .ne 7, 16, 0, 0), (12, 1, .iconst 1, 1, 0, 0), (13, 3, .goto 4, 17, 0, 0), (16, 1, .iconst 0, 0, 0, 0), (17, 1, .ireturn, 1, 0, 0)]
def q_cd215 : List q_I := [(0, 1, .aload_n 0, 0, 0, 0), (1, 3, .getfield 39, 4, 8, 0), (4, 1, .iconst 2, 2, 0, 0), (5, 3, .if_icmp .eq 9, 14, 0, 0), (8, 1, .aload_n 0, 0, 0, 0), (9, 1, .iconst 2, 2, 0, 0), (10, 3, .invokevirtual 102, 231, 2, 4), (13, 1, .ireturn, 1, 0, 0), (14, 1, .aload_n 0, 0, 0, 0), (15, 3, .getfield 42, 4, 9, 0), (18, 1, .iload_n 1, 1, 0, 0), (19, 3, .if_icmp .lt 11, 30, 0, 0), (22, 1, .aload_n 0, 0, 0, 0), (23, 3, .getfield 42, 4, 9, 0), (26, 1, .iload_n 2, 2, 0, 0), (27, 3, .if_icmp .le 11, 38, 0, 0), (30, 1, .aload_n 0, 0, 0, 0), (31, 1, .iconst 4, 4, 0, 0), (32, 3, .invokevirtual 102, 231, 2, 4), (35, 3, .ifCond .eq 7, 42, 0, 0), (38, 1, .iconst 1, 1, 0, 0), (39, 3, .goto 4, 43, 0, 0), (42, 1, .iconst 0, 0, 0, 0), (43, 1, .ireturn, 1, 0, 0)]
def q_cd216 : List q_I := [(0, 1, .aload_n 0, 0, 0, 0), (1, 1, .iload_n 1, 1, 0, 0), (2, 3, .invokevirtual 174, 223, 2, 4), (5, 1, .istore_n 2, 2, 0, 0), (6, 1, .iconst 0, 0, 0, 0), (7, 1, .istore_n 3, 3, 0, 0), (8, 1, .iload_n 3, 3, 0, 0), (9, 3, .sipush 1600, 1600, 0, 0), (12, 3, .if_icmp .ge 46, 58, 0, 0), (15, 1, .iload_n 2, 2, 0, 0), (16, 3, .ifCond .eq 42, 58, 0, 0), (19, 1, .aload_n 0, 0, 0, 0), (20, 3, .getfield 39, 4, 8, 0), (23, 3, .sipush 211, 211, 0, 0), (26, 3, .if_icmp .ne 32, 58, 0, 0), (29, 1, .aload_n 0, 0, 0, 0), (30, 3, .invokevirtual 73, 154, 1, 4), (33, 1, .aload_n 0, 0, 0, 0), (34, 1, .iload_n 1, 1, 0, 0), (35, 3, .invokevirtual 174, 223, 2, 4), (38, 1, .istore_n 2, 2, 0, 0), (39, 1, .aload_n 0, 0, 0, 0), (40, 3, .getfield 23, 4, 3, 2), (43, 3, .getfield 164, 7, 3, 2), (46, 3, .sipush 211, 211, 0, 0), (49, 3, .invokevirtual 168, 211, 2, 2), (52, 3, .iinc 3 1, 3, 1, 0), (55, 3, .goto (-47), 8, 0, 0), (58, 1, .iload_n 2, 2, 0, 0), (59, 1, .ireturn, 1, 0, 0)]
def q_cd217 : List q_I := [(0, 1, .aload_n 0, 0, 0, 0), (1, 1, .iconst 0, 0, 0, 0), (2, 1, .aload_n 0, 0, 0, 0), (3, 3, .getfield 23, 4, 3, 2), (6, 3, .getfield 109, 7, 4, 0), (9, 1, .iconst 1, 1, 0, 0), (10, 1, .isub, 0, 0, 0), (11, 3, .invokevirtual 105, 215, 3, 4), (14, 3, .ifCond .ne 5, 19, 0, 0), (17, 1, .iconst (-1), 4294967295, 0, 0), (18, 1, .ireturn, 0, 0, 0), (19, 1, .aload_n 0, 0, 0, 0), (20, 3, .getfield 42, 4, 9, 0), (23, 1, .istore_n 2, 2, 0, 0), (24, 1, .aload_n 0, 0, 0, 0), (25, 3, .invokevirtual 73, 154, 1, 4), (28, 1, .aload_n 0, 0, 0, 0), (29, 1, .iconst 0, 0, 0, 0), (30, 1, .aload_n 0, 0, 0, 0), (31, 3, .getfield 23, 4, 3, 2), (34, 3, .getfield 112, 7, 5, 0), (37, 1, .iconst 1, 1, 0, 0), (38, 1, .isub, 0, 0, 0), (39, 3, .invokevirtual 105, 215, 3, 4), (42, 3, .ifCond .ne 5, 47, 0, 0), (45, 1, .iconst (-1), 4294967295, 0, 0), (46, 1, .ireturn, 0, 0, 0), (47, 1, .aload_n 0, 0, 0, 0), (48, 3, .getfield 42, 4, 9, 0), (51, 1, .aload_n 0, 0, 0, 0), (52, 3, .getfield 23, 4, 3, 2), (55, 3, .getfield 109, 7, 4, 0), (58, 1, .imul, 0, 0, 0), (59, 1, .iload_n 2, 2, 0, 0), (60, 1, .iadd, 0, 0, 0), (61, 1, .istore_n 3, 3, 0, 0), (62, 1, .iload_n 1, 1, 0, 0), (63, 1, .iload_n 3, 3, 0, 0), (64, 3, .invokestatic 149, 3, 2, 0), (67, 3, .ifCond .eq 11, 78, 0, 0), (70, 1, .aload_n 0, 0, 0, 0), (71, 1, .iconst 3, 3, 0, 0), (72, 3, .invokevirtual 102, 231, 2, 4), (75, 1, .pop, 0, 0, 0), (76, 1, .iconst (-1), 4294967295, 0, 0), (77, 1, .ireturn, 0, 0, 0), (78, 1, .aload_n 0, 0, 0, 0), (79, 3, .invokevirtual 73, 154, 1, 4), (82, 1, .iload_n 3, 3, 0, 0), (83, 1, .ireturn, 0, 0, 0)]
def q_cd218 : List q_I := [(0, 1, .aload_n 0, 0, 0, 0), (1, 3, .getfield 59, 4, 14, 1), (4, 3, .ifCond .eq 9, 13, 0, 0), (7, 1, .aload_n 0, 0, 0, 0), (8, 1, .iconst 2, 2, 0, 0), (9, 3, .invokevirtual 102, 231, 2, 4), (12, 1, .ireturn, 1, 0, 0), (13, 1, .aload_n 0, 0, 0, 0), (14, 1, .iconst 1, 1, 0, 0), (15, 3, .putfield 59, 4, 14, 1), (18, 1, .aload_n 0, 0, 0, 0), (19, 3, .invokevirtual 73, 154, 1, 4), (22, 1, .aload_n 0, 0, 0, 0), (23, 1, .iconst 0, 0, 0, 0), (24, 3, .sipush 999, 999, 0, 0), (27, 3, .invokevirtual 105, 215, 3, 4), (30, 3, .ifCond .ne 5, 35, 0, 0), (33, 1, .iconst 0, 0, 0, 0), (34, 1, .ireturn, 1, 0, 0), (35, 1, .aload_n 0, 0, 0, 0), (36, 3, .getfield 23, 4, 3, 2), (39, 1, .aload_n 0, 0, 0, 0), (40, 3, .getfield 42, 4, 9, 0), (43, 3, .putfield 158, 7, 10, 0), (46, 1, .aload_n 0, 0, 0, 0), (47, 3, .invokevirtual 73, 154, 1, 4), (50, 1, .iconst 1, 1, 0, 0), (51, 1, .ireturn, 1, 0, 0)]
def q_cd219 : List q_I := [(0, 1, .aload_n 0, 0, 0, 0), (1, 1, .iload_n 1, 1, 0, 0), (2, 3, .invokevirtual 161, 216, 2, 4), (5, 1, .istore_n 2, 2, 0, 0), (6, 1, .iconst 0, 0, 0, 0), (7, 1, .istore_n 3, 3, 0, 0), (8, 1, .iload_n 3, 3, 0, 0), (9, 3, .sipush 1600, 1600, 0, 0), (12, 3, .if_icmp .ge 46, 58, 0, 0), (15, 1, .iload_n 2, 2, 0, 0), (16, 3, .ifCond .eq 42, 58, 0, 0), (19, 1, .aload_n 0, 0, 0, 0), (20, 3, .getfield 39, 4, 8, 0), (23, 3, .sipush 210, 210, 0, 0), (26, 3, .if_icmp .ne 32, 58, 0, 0), (29, 1, .aload_n 0, 0, 0, 0), (30, 3, .invokevirtual 73, 154, 1, 4), (33, 1, .aload_n 0, 0, 0, 0), (34, 1, .iload_n 1, 1, 0, 0), (35, 3, .invokevirtual 161, 216, 2, 4), (38, 1, .istore_n 2, 2, 0, 0), (39, 1, .aload_n 0, 0, 0, 0), (40, 3, .getfield 23, 4, 3, 2), (43, 3, .getfield 164, 7, 3, 2), (46, 3, .sipush 210, 210, 0, 0), (49, 3, .invokevirtual 168, 211, 2, 2), (52, 3, .iinc 3 1, 3, 1, 0), (55, 3, .goto (-47), 8, 0, 0), (58, 1, .iload_n 2, 2, 0, 0), (59, 1, .ireturn, 1, 0, 0)]
def q_cd220 : List q_I := [(0, 1, .aload_n 0, 0, 0, 0), (1, 3, .getfield 23, 4, 3, 2), (4, 3, .getfield 115, 7, 6, 0), (7, 3, .invokestatic 118, 36, 1, 0), (10, 1, .iconst 4, 4, 0, 0), (11, 3, .if_icmp .lt 9, 20, 0, 0), (14, 1, .aload_n 0, 0, 0, 0), (15, 1, .iconst 2, 2, 0, 0), (16, 3, .invokevirtual 102, 231, 2, 4), (19, 1, .ireturn, 1, 0, 0), (20, 1, .aload_n 0, 0, 0, 0), (21, 3, .invokevirtual 73, 154, 1, 4), (24, 1, .aload_n 0, 0, 0, 0), (25, 1, .aload_n 0, 0, 0, 0), (26, 3, .getfield 23, 4, 3, 2), (29, 3, .getfield 115, 7, 6, 0), (32, 1, .aload_n 0, 0, 0, 0), (33, 3, .getfield 23, 4, 3, 2), (36, 3, .getfield 124, 7, 7, 0), (39, 1, .ior, 0, 0, 0), (40, 3, .invokevirtual 127, 217, 2, 4), (43, 1, .istore_n 1, 1, 0, 0), (44, 1, .iload_n 1, 1, 0, 0), (45, 1, .iconst (-1), 4294967295, 0, 0), (46, 3, .if_icmp .ne 5, 51, 0, 0), (49, 1, .iconst 0, 0, 0, 0), (50, 1, .ireturn, 1, 0, 0), (51, 1, .aload_n 0, 0, 0, 0), (52, 3, .getfield 23, 4, 3, 2), (55, 1, .dup, 0, 0, 0), (56, 3, .getfield 115, 7, 6, 0), (59, 1, .iload_n 1, 1, 0, 0), (60, 3, .invokestatic 130, 16, 1, 0), (63, 1, .ior, 0, 0, 0), (64, 3, .putfield 115, 7, 6, 0), (67, 1, .iconst 1, 1, 0, 0), (68, 1, .ireturn, 1, 0, 0)]
def q_cd221 : List q_I := [(0, 1, .aload_n 0, 0, 0, 0), (1, 3, .getfield 39, 4, 8, 0), (4, 56, .tableswitch 86 200 209 #[56, 86, 61, 66, 86, 86, 86, 71, 76, 81], 200, 209, 0), (60, 1, .aload_n 0, 0, 0, 0), (61, 3, .invokevirtual 84, 224, 1, 4), (64, 1, .ireturn, 1, 0, 0), (65, 1, .aload_n 0, 0, 0, 0), (66, 3, .invokevirtual 87, 220, 1, 4), (69, 1, .ireturn, 1, 0, 0), (70, 1, .aload_n 0, 0, 0, 0), (71, 3, .invokevirtual 90, 229, 1, 4), (74, 1, .ireturn, 1, 0, 0), (75, 1, .aload_n 0, 0, 0, 0), (76, 3, .invokevirtual 93, 227, 1, 4), (79, 1, .ireturn, 1, 0, 0), (80, 1, .aload_n 0, 0, 0, 0), (81, 3, .invokevirtual 96, 230, 1, 4), (84, 1, .ireturn, 1, 0, 0), (85, 1, .aload_n 0, 0, 0, 0), (86, 3, .invokevirtual 99, 218, 1, 4), (89, 1, .ireturn, 1, 0, 0), (90, 1, .aload_n 0, 0, 0, 0), (91, 1, .iconst 2, 2, 0, 0), (92, 3, .invokevirtual 102, 231, 2, 4), (95, 1, .ireturn, 1, 0, 0)]
def q_cd222 : List q_I := [(0, 1, .aload_n 0, 0, 0, 0), (1, 3, .getfield 39, 4, 8, 0), (4, 1, .iconst 3, 3, 0, 0), (5, 3, .if_icmp .eq 9, 14, 0, 0), (8, 1, .aload_n 0, 0, 0, 0), (9, 1, .iconst 2, 2, 0, 0), (10, 3, .invokevirtual 102, 231, 2, 4), (13, 1, .ireturn, 1, 0, 0), (14, 1, .iconst 0, 0, 0, 0), (15, 1, .istore_n 2, 2, 0, 0), (16, 1, .iload_n 2, 2, 0, 0), (17, 1, .iload_n 1, 1, 0, 0), (18, 3, .if_icmp .ge 34, 52, 0, 0), (21, 1, .iload_n 2, 2, 0, 0), (22, 1, .iconst 5, 5, 0, 0), (23, 3, .if_icmp .ge 29, 52, 0, 0), (26, 1, .aload_n 0, 0, 0, 0), (27, 3, .getfield 9, 4, 0, 2), (30, 1, .iload_n 2, 2, 0, 0), (31, 1, .laload, 0, 0, 0), (32, 1, .aload_n 0, 0, 0, 0), (33, 3, .getfield 45, 4, 10, 3), (36, 1, .lcmp, 0, 0, 0), (37, 3, .ifCond .ne 9, 46, 0, 0), (40, 1, .aload_n 0, 0, 0, 0), (41, 1, .iconst 3, 3, 0, 0), (42, 3, .invokevirtual 102, 231, 2, 4), (45, 1, .ireturn, 1, 0, 0), (46, 3, .iinc 2 1, 2, 1, 0), (49, 3, .goto (-33), 16, 0, 0), (52, 1, .aload_n 0, 0, 0, 0), (53, 3, .getfield 9, 4, 0, 2), (56, 1, .iload_n 1, 1, 0, 0), (57, 1, .aload_n 0, 0, 0, 0), (58, 3, .getfield 45, 4, 10, 3), (61, 1, .lastore, 0, 0, 0), (62, 1, .aload_n 0, 0, 0, 0), (63, 3, .invokevirtual 73, 154, 1, 4), (66, 1, .iconst 1, 1, 0, 0), (67, 1, .ireturn, 1, 0, 0)]
def q_cd223 : List q_I := [(0, 1, .aload_n 0, 0, 0, 0), (1, 3, .getfield 39, 4, 8, 0), (4, 3, .sipush 212, 212, 0, 0), (7, 3, .if_icmp .ne 42, 49, 0, 0), (10, 1, .iload_n 1, 1, 0, 0), (11, 2, .bipush 7, 7, 0, 0), (13, 3, .if_icmp .lt 9, 22, 0, 0), (16, 1, .aload_n 0, 0, 0, 0), (17, 1, .iconst 2, 2, 0, 0), (18, 3, .invokevirtual 102, 231, 2, 4), (21, 1, .ireturn, 1, 0, 0), (22, 1, .aload_n 0, 0, 0, 0), (23, 3, .invokevirtual 73, 154, 1, 4), (26, 1, .aload_n 0, 0, 0, 0), (27, 1, .iload_n 1, 1, 0, 0), (28, 1, .iconst 1, 1, 0, 0), (29, 1, .iadd, 0, 0, 0), (30, 3, .invokevirtual 174, 223, 2, 4), (33, 1, .istore_n 2, 2, 0, 0), (34, 1, .aload_n 0, 0, 0, 0), (35, 3, .getfield 23, 4, 3, 2), (38, 3, .getfield 164, 7, 3, 2), (41, 3, .sipush 212, 212, 0, 0), (44, 3, .invokevirtual 168, 211, 2, 2), (47, 1, .iload_n 2, 2, 0, 0), (48, 1, .ireturn, 1, 0, 0), (49, 1, .aload_n 0, 0, 0, 0), (50, 1, .iload_n 1, 1, 0, 0), (51, 3, .invokevirtual 177, 225, 2, 4), (54, 1, .istore_n 2, 2, 0, 0), (55, 1, .iload_n 2, 2, 0, 0), (56, 3, .ifCond .eq 56, 112, 0, 0), (59, 1, .aload_n 0, 0, 0, 0), (60, 3, .getfield 39, 4, 8, 0), (63, 2, .bipush 60, 60, 0, 0), (65, 3, .if_icmp .eq 21, 86, 0, 0), (68, 1, .aload_n 0, 0, 0, 0), (69, 3, .getfield 39, 4, 8, 0), (72, 2, .bipush 62, 62, 0, 0), (74, 3, .if_icmp .eq 12, 86, 0, 0), (77, 1, .aload_n 0, 0, 0, 0), (78, 3, .getfield 39, 4, 8, 0), (81, 2, .bipush 61, 61, 0, 0), (83, 3, .if_icmp .ne 29, 112, 0, 0), (86, 1, .aload_n 0, 0, 0, 0), (87, 3, .getfield 39, 4, 8, 0), (90, 1, .istore_n 3, 3, 0, 0), (91, 1, .aload_n 0, 0, 0, 0), (92, 3, .invokevirtual 73, 154, 1, 4), (95, 1, .aload_n 0, 0, 0, 0), (96, 1, .iload_n 1, 1, 0, 0), (97, 3, .invokevirtual 177, 225, 2, 4), (100, 1, .istore_n 2, 2, 0, 0), (101, 1, .aload_n 0, 0, 0, 0), (102, 3, .getfield 23, 4, 3, 2), (105, 3, .getfield 164, 7, 3, 2), (108, 1, .iload_n 3, 3, 0, 0), (109, 3, .invokevirtual 168, 211, 2, 2), (112, 1, .iload_n 2, 2, 0, 0), (113, 1, .ireturn, 1, 0, 0)]
def q_cd224 : List q_I := [(0, 1, .aload_n 0, 0, 0, 0), (1, 3, .getfield 49, 4, 11, 0), (4, 3, .ifCond .le 9, 13, 0, 0), (7, 1, .aload_n 0, 0, 0, 0), (8, 1, .iconst 2, 2, 0, 0), (9, 3, .invokevirtual 102, 231, 2, 4), (12, 1, .ireturn, 1, 0, 0), (13, 1, .aload_n 0, 0, 0, 0), (14, 3, .invokevirtual 73, 154, 1, 4), (17, 1, .aload_n 0, 0, 0, 0), (18, 1, .iconst 2, 2, 0, 0), (19, 1, .iconst 5, 5, 0, 0), (20, 3, .invokevirtual 105, 215, 3, 4), (23, 3, .ifCond .ne 5, 28, 0, 0), (26, 1, .iconst 0, 0, 0, 0), (27, 1, .ireturn, 1, 0, 0), (28, 1, .aload_n 0, 0, 0, 0), (29, 3, .getfield 23, 4, 3, 2), (32, 1, .aload_n 0, 0, 0, 0), (33, 3, .getfield 42, 4, 9, 0), (36, 3, .putfield 109, 7, 4, 0), (39, 1, .aload_n 0, 0, 0, 0), (40, 3, .invokevirtual 73, 154, 1, 4), (43, 1, .aload_n 0, 0, 0, 0), (44, 3, .sipush 201, 201, 0, 0), (47, 3, .invokevirtual 80, 213, 2, 4), (50, 3, .ifCond .eq 12, 62, 0, 0), (53, 1, .aload_n 0, 0, 0, 0), (54, 1, .iconst 2, 2, 0, 0), (55, 1, .iconst 5, 5, 0, 0), (56, 3, .invokevirtual 105, 215, 3, 4), (59, 3, .ifCond .ne 5, 64, 0, 0), (62, 1, .iconst 0, 0, 0, 0), (63, 1, .ireturn, 1, 0, 0), (64, 1, .aload_n 0, 0, 0, 0), (65, 3, .getfield 23, 4, 3, 2), (68, 1, .aload_n 0, 0, 0, 0), (69, 3, .getfield 42, 4, 9, 0), (72, 3, .putfield 112, 7, 5, 0), (75, 1, .aload_n 0, 0, 0, 0), (76, 3, .invokevirtual 73, 154, 1, 4), (79, 1, .iconst 1, 1, 0, 0), (80, 1, .ireturn, 1, 0, 0)]
def q_cd225 : List q_I := [(0, 1, .aload_n 0, 0, 0, 0), (1, 1, .iload_n 1, 1, 0, 0), (2, 3, .invokevirtual 180, 226, 2, 4), (5, 1, .istore_n 2, 2, 0, 0), (6, 1, .iconst 0, 0, 0, 0), (7, 1, .istore_n 3, 3, 0, 0), (8, 1, .iload_n 3, 3, 0, 0), (9, 3, .sipush 1600, 1600, 0, 0), (12, 3, .if_icmp .ge 59, 71, 0, 0), (15, 1, .iload_n 2, 2, 0, 0), (16, 3, .ifCond .eq 55, 71, 0, 0), (19, 1, .aload_n 0, 0, 0, 0), (20, 3, .getfield 39, 4, 8, 0), (23, 2, .bipush 43, 43, 0, 0), (25, 3, .if_icmp .eq 12, 37, 0, 0), (28, 1, .aload_n 0, 0, 0, 0), (29, 3, .getfield 39, 4, 8, 0), (32, 2, .bipush 45, 45, 0, 0), (34, 3, .if_icmp .ne 37, 71, 0, 0), (37, 1, .aload_n 0, 0, 0, 0), (38, 3, .getfield 39, 4, 8, 0), (41, 2, .istore 4, 4, 0, 0), (43, 1, .aload_n 0, 0, 0, 0), (44, 3, .invokevirtual 73, 154, 1, 4), (47, 1, .aload_n 0, 0, 0, 0), (48, 1, .iload_n 1, 1, 0, 0), (49, 3, .invokevirtual 180, 226, 2, 4), (52, 1, .istore_n 2, 2, 0, 0), (53, 1, .aload_n 0, 0, 0, 0), (54, 3, .getfield 23, 4, 3, 2), (57, 3, .getfield 164, 7, 3, 2), (60, 2, .iload 4, 4, 0, 0), (62, 3, .invokevirtual 168, 211, 2, 2), (65, 3, .iinc 3 1, 3, 1, 0), (68, 3, .goto (-60), 8, 0, 0), (71, 1, .iload_n 2, 2, 0, 0), (72, 1, .ireturn, 1, 0, 0)]
def q_cd226 : List q_I := [(0, 1, .aload_n 0, 0, 0, 0), (1, 1, .iload_n 1, 1, 0, 0), (2, 3, .invokevirtual 183, 228, 2, 4), (5, 1, .istore_n 2, 2, 0, 0), (6, 1, .iconst 0, 0, 0, 0), (7, 1, .istore_n 3, 3, 0, 0), (8, 1, .iload_n 3, 3, 0, 0), (9, 3, .sipush 1600, 1600, 0, 0), (12, 3, .if_icmp .ge 68, 80, 0, 0), (15, 1, .iload_n 2, 2, 0, 0), (16, 3, .ifCond .eq 64, 80, 0, 0), (19, 1, .aload_n 0, 0, 0, 0), (20, 3, .getfield 39, 4, 8, 0), (23, 2, .bipush 42, 42, 0, 0), (25, 3, .if_icmp .eq 21, 46, 0, 0), (28, 1, .aload_n 0, 0, 0, 0), (29, 3, .getfield 39, 4, 8, 0), (32, 2, .bipush 47, 47, 0, 0), (34, 3, .if_icmp .eq 12, 46, 0, 0), (37, 1, .aload_n 0, 0, 0, 0), (38, 3, .getfield 39, 4, 8, 0), (41, 2, .bipush 37, 37, 0, 0), (43, 3, .if_icmp .ne 37, 80, 0, 0), (46, 1, .aload_n 0, 0, 0, 0), (47, 3, .getfield 39, 4, 8, 0), (50, 2, .istore 4, 4, 0, 0), (52, 1, .aload_n 0, 0, 0, 0), (53, 3, .invokevirtual 73, 154, 1, 4), (56, 1, .aload_n 0, 0, 0, 0), (57, 1, .iload_n 1, 1, 0, 0), (58, 3, .invokevirtual 183, 228, 2, 4), (61, 1, .istore_n 2, 2, 0, 0), (62, 1, .aload_n 0, 0, 0, 0), (63, 3, .getfield 23, 4, 3, 2), (66, 3, .getfield 164, 7, 3, 2), (69, 2, .iload 4, 4, 0, 0), (71, 3, .invokevirtual 168, 211, 2, 2), (74, 3, .iinc 3 1, 3, 1, 0), (77, 3, .goto (-69), 8, 0, 0), (80, 1, .iload_n 2, 2, 0, 0), (81, 1, .ireturn, 1, 0, 0)]
def q_cd227 : List q_I := [(0, 1, .aload_n 0, 0, 0, 0), (1, 3, .getfield 52, 4, 12, 1), (4, 3, .ifCond .eq 9, 13, 0, 0), (7, 1, .aload_n 0, 0, 0, 0), (8, 1, .iconst 2, 2, 0, 0), (9, 3, .invokevirtual 102, 231, 2, 4), (12, 1, .ireturn, 1, 0, 0), (13, 1, .aload_n 0, 0, 0, 0), (14, 1, .iconst 1, 1, 0, 0), (15, 3, .putfield 52, 4, 12, 1), (18, 1, .aload_n 0, 0, 0, 0), (19, 3, .invokevirtual 73, 154, 1, 4), (22, 1, .aload_n 0, 0, 0, 0), (23, 1, .iconst 0, 0, 0, 0), (24, 3, .invokevirtual 152, 219, 2, 4), (27, 1, .ireturn, 1, 0, 0)]
def q_cd228 : List q_I := [(0, 1, .aload_n 0, 0, 0, 0), (1, 3, .getfield 39, 4, 8, 0), (4, 2, .bipush 40, 40, 0, 0), (6, 3, .if_icmp .ne 7, 13, 0, 0), (9, 1, .iconst 1, 1, 0, 0), (10, 3, .goto 4, 14, 0, 0), (13, 1, .iconst 0, 0, 0, 0), (14, 1, .istore_n 2, 2, 0, 0), (15, 1, .aload_n 0, 0, 0, 0), (16, 3, .getfield 39, 4, 8, 0), (19, 3, .sipush 213, 213, 0, 0), (22, 3, .if_icmp .lt 17, 39, 0, 0), (25, 1, .aload_n 0, 0, 0, 0), (26, 3, .getfield 39, 4, 8, 0), (29, 3, .sipush 217, 217, 0, 0), (32, 3, .if_icmp .gt 7, 39, 0, 0), (35, 1, .iconst 1, 1, 0, 0), (36, 3, .goto 4, 40, 0, 0), (39, 1, .iconst 0, 0, 0, 0), (40, 1, .istore_n 3, 3, 0, 0), (41, 1, .aload_n 0, 0, 0, 0), (42, 3, .getfield 39, 4, 8, 0), (45, 1, .iconst 2, 2, 0, 0), (46, 3, .if_icmp .eq 17, 63, 0, 0), (49, 1, .iload_n 3, 3, 0, 0), (50, 3, .ifCond .ne 13, 63, 0, 0), (53, 1, .iload_n 2, 2, 0, 0), (54, 3, .ifCond .eq 13, 67, 0, 0), (57, 1, .iload_n 1, 1, 0, 0), (58, 2, .bipush 7, 7, 0, 0), (60, 3, .if_icmp .ge 7, 67, 0, 0), (63, 1, .iconst 1, 1, 0, 0), (64, 3, .goto 4, 68, 0, 0), (67, 1, .iconst 0, 0, 0, 0), (68, 2, .istore 4, 4, 0, 0), (70, 2, .iload 4, 4, 0, 0), (72, 3, .ifCond .eq 15, 87, 0, 0), (75, 1, .aload_n 0, 0, 0, 0), (76, 3, .getfield 23, 4, 3, 2), (79, 3, .getfield 186, 7, 11, 0), (82, 2, .bipush 30, 30, 0, 0), (84, 3, .if_icmp .lt 9, 93, 0, 0), (87, 1, .aload_n 0, 0, 0, 0), (88, 1, .iconst 2, 2, 0, 0), (89, 3, .invokevirtual 102, 231, 2, 4), (92, 1, .ireturn, 1, 0, 0), (93, 1, .aload_n 0, 0, 0, 0), (94, 3, .getfield 23, 4, 3, 2), (97, 1, .dup, 0, 0, 0), (98, 3, .getfield 186, 7, 11, 0), (101, 1, .iconst 1, 1, 0, 0), (102, 1, .iadd, 0, 0, 0), (103, 3, .putfield 186, 7, 11, 0), (106, 1, .iload_n 2, 2, 0, 0), (107, 3, .ifCond .eq 32, 139, 0, 0), (110, 1, .aload_n 0, 0, 0, 0), (111, 3, .invokevirtual 73, 154, 1, 4), (114, 1, .aload_n 0, 0, 0, 0), (115, 1, .iload_n 1, 1, 0, 0), (116, 1, .iconst 1, 1, 0, 0), (117, 1, .iadd, 0, 0, 0), (118, 3, .invokevirtual 152, 219, 2, 4), (121, 3, .ifCond .eq 16, 137, 0, 0), (124, 1, .aload_n 0, 0, 0, 0), (125, 2, .bipush 41, 41, 0, 0), (127, 3, .invokevirtual 80, 213, 2, 4), (130, 3, .ifCond .eq 7, 137, 0, 0), (133, 1, .iconst 1, 1, 0, 0), (134, 3, .goto 4, 138, 0, 0), (137, 1, .iconst 0, 0, 0, 0), (138, 1, .ireturn, 1, 0, 0), (139, 1, .iload_n 3, 3, 0, 0), (140, 3, .ifCond .eq 20, 160, 0, 0), (143, 1, .aload_n 0, 0, 0, 0), (144, 3, .getfield 23, 4, 3, 2), (147, 3, .getfield 164, 7, 3, 2), (150, 1, .aload_n 0, 0, 0, 0), (151, 3, .getfield 39, 4, 8, 0), (154, 3, .invokevirtual 168, 211, 2, 2), (157, 3, .goto 17, 174, 0, 0), (160, 1, .aload_n 0, 0, 0, 0), (161, 3, .getfield 23, 4, 3, 2), (164, 3, .getfield 164, 7, 3, 2), (167, 1, .aload_n 0, 0, 0, 0), (168, 3, .getfield 42, 4, 9, 0), (171, 3, .invokevirtual 189, 212, 2, 2), (174, 1, .aload_n 0, 0, 0, 0), (175, 3, .invokevirtual 73, 154, 1, 4), (178, 1, .iconst 1, 1, 0, 0), (179, 1, .ireturn, 1, 0, 0)]
def q_cd229 : List q_I := [(0, 1, .aload_n 0, 0, 0, 0), (1, 3, .getfield 23, 4, 3, 2), (4, 3, .getfield 133, 7, 8, 0), (7, 1, .istore_n 1, 1, 0, 0), (8, 1, .iload_n 1, 1, 0, 0), (9, 3, .ifCond .lt 8, 17, 0, 0), (12, 1, .iload_n 1, 1, 0, 0), (13, 1, .iconst 5, 5, 0, 0), (14, 3, .if_icmp .lt 9, 23, 0, 0), (17, 1, .aload_n 0, 0, 0, 0), (18, 1, .iconst 2, 2, 0, 0), (19, 3, .invokevirtual 102, 231, 2, 4), (22, 1, .ireturn, 1, 0, 0), (23, 1, .aload_n 0, 0, 0, 0), (24, 3, .invokevirtual 73, 154, 1, 4), (27, 1, .aload_n 0, 0, 0, 0), (28, 1, .iload_n 1, 1, 0, 0), (29, 3, .invokevirtual 136, 222, 2, 4), (32, 3, .ifCond .eq 13, 45, 0, 0), (35, 1, .aload_n 0, 0, 0, 0), (36, 3, .sipush 204, 204, 0, 0), (39, 3, .invokevirtual 80, 213, 2, 4), (42, 3, .ifCond .ne 5, 47, 0, 0), (45, 1, .iconst 0, 0, 0, 0), (46, 1, .ireturn, 1, 0, 0), (47, 1, .aload_n 0, 0, 0, 0), (48, 1, .aload_n 0, 0, 0, 0), (49, 3, .getfield 23, 4, 3, 2), (52, 3, .getfield 115, 7, 6, 0), (55, 3, .invokevirtual 127, 217, 2, 4), (58, 1, .istore_n 2, 2, 0, 0), (59, 1, .iload_n 2, 2, 0, 0), (60, 1, .iconst (-1), 4294967295, 0, 0), (61, 3, .if_icmp .eq 24, 85, 0, 0), (64, 1, .aload_n 0, 0, 0, 0), (65, 3, .sipush 205, 205, 0, 0), (68, 3, .invokevirtual 80, 213, 2, 4), (71, 3, .ifCond .eq 14, 85, 0, 0), (74, 1, .aload_n 0, 0, 0, 0), (75, 2, .bipush 10, 10, 0, 0), (77, 2, .bipush 99, 99, 0, 0), (79, 3, .invokevirtual 105, 215, 3, 4), (82, 3, .ifCond .ne 5, 87, 0, 0), (85, 1, .iconst 0, 0, 0, 0), (86, 1, .ireturn, 1, 0, 0), (87, 1, .aload_n 0, 0, 0, 0), (88, 3, .getfield 23, 4, 3, 2), (91, 3, .getfield 139, 7, 0, 2), (94, 1, .iload_n 1, 1, 0, 0), (95, 1, .iload_n 2, 2, 0, 0), (96, 1, .iastore, 0, 0, 0), (97, 1, .aload_n 0, 0, 0, 0), (98, 3, .getfield 23, 4, 3, 2), (101, 1, .dup, 0, 0, 0), (102, 3, .getfield 124, 7, 7, 0), (105, 1, .iload_n 2, 2, 0, 0), (106, 3, .invokestatic 130, 16, 1, 0), (109, 1, .ior, 0, 0, 0), (110, 3, .putfield 124, 7, 7, 0), (113, 1, .aload_n 0, 0, 0, 0), (114, 3, .getfield 23, 4, 3, 2), (117, 3, .getfield 143, 7, 1, 2), (120, 1, .iload_n 1, 1, 0, 0), (121, 1, .aload_n 0, 0, 0, 0), (122, 3, .getfield 42, 4, 9, 0), (125, 1, .iastore, 0, 0, 0), (126, 1, .aload_n 0, 0, 0, 0), (127, 3, .getfield 23, 4, 3, 2), (130, 3, .getfield 146, 7, 2, 2), (133, 1, .iload_n 1, 1, 0, 0), (134, 1, .iconst 0, 0, 0, 0), (135, 1, .iastore, 0, 0, 0), (136, 1, .aload_n 0, 0, 0, 0), (137, 3, .invokevirtual 73, 154, 1, 4), (140, 1, .aload_n 0, 0, 0, 0), (141, 3, .getfield 39, 4, 8, 0), (144, 3, .sipush 206, 206, 0, 0), (147, 3, .if_icmp .ne 36, 183, 0, 0), (150, 1, .aload_n 0, 0, 0, 0), (151, 3, .invokevirtual 73, 154, 1, 4), (154, 1, .aload_n 0, 0, 0, 0), (155, 1, .iconst 0, 0, 0, 0), (156, 2, .bipush 9, 9, 0, 0), (158, 3, .invokevirtual 105, 215, 3, 4), (161, 3, .ifCond .ne 5, 166, 0, 0), (164, 1, .iconst 0, 0, 0, 0), (165, 1, .ireturn, 1, 0, 0), (166, 1, .aload_n 0, 0, 0, 0), (167, 3, .getfield 23, 4, 3, 2), (170, 3, .getfield 146, 7, 2, 2), (173, 1, .iload_n 1, 1, 0, 0), (174, 1, .aload_n 0, 0, 0, 0), (175, 3, .getfield 42, 4, 9, 0), (178, 1, .iastore, 0, 0, 0), (179, 1, .aload_n 0, 0, 0, 0), (180, 3, .invokevirtual 73, 154, 1, 4), (183, 1, .aload_n 0, 0, 0, 0), (184, 3, .getfield 23, 4, 3, 2), (187, 1, .dup, 0, 0, 0), (188, 3, .getfield 133, 7, 8, 0), (191, 1, .iconst 1, 1, 0, 0), (192, 1, .iadd, 0, 0, 0), (193, 3, .putfield 133, 7, 8, 0), (196, 1, .iconst 1, 1, 0, 0), (197, 1, .ireturn, 1, 0, 0)]
def q_cd230 : List q_I := [(0, 1, .aload_n 0, 0, 0, 0), (1, 3, .getfield 56, 4, 13, 1), (4, 3, .ifCond .eq 9, 13, 0, 0), (7, 1, .aload_n 0, 0, 0, 0), (8, 1, .iconst 2, 2, 0, 0), (9, 3, .invokevirtual 102, 231, 2, 4), (12, 1, .ireturn, 1, 0, 0), (13, 1, .aload_n 0, 0, 0, 0), (14, 1, .iconst 1, 1, 0, 0), (15, 3, .putfield 56, 4, 13, 1), (18, 1, .aload_n 0, 0, 0, 0), (19, 3, .invokevirtual 73, 154, 1, 4), (22, 1, .aload_n 0, 0, 0, 0), (23, 1, .iconst 0, 0, 0, 0), (24, 2, .bipush 100, 100, 0, 0), (26, 3, .invokevirtual 105, 215, 3, 4), (29, 3, .ifCond .ne 5, 34, 0, 0), (32, 1, .iconst 0, 0, 0, 0), (33, 1, .ireturn, 1, 0, 0), (34, 1, .aload_n 0, 0, 0, 0), (35, 3, .getfield 23, 4, 3, 2), (38, 1, .aload_n 0, 0, 0, 0), (39, 3, .getfield 42, 4, 9, 0), (42, 3, .putfield 155, 7, 9, 0), (45, 1, .aload_n 0, 0, 0, 0), (46, 3, .invokevirtual 73, 154, 1, 4), (49, 1, .iconst 1, 1, 0, 0), (50, 1, .ireturn, 1, 0, 0)]
def q_cd231 : List q_I := [(0, 1, .aload_n 0, 0, 0, 0), (1, 1, .aload_n 0, 0, 0, 0), (2, 3, .getfield 39, 4, 8, 0), (5, 3, .ifCond .ne 7, 12, 0, 0), (8, 1, .iconst 1, 1, 0, 0), (9, 3, .goto 4, 13, 0, 0), (12, 1, .iload_n 1, 1, 0, 0), (13, 3, .putfield 27, 4, 4, 0), (16, 1, .aload_n 0, 0, 0, 0), (17, 1, .aload_n 0, 0, 0, 0), (18, 3, .getfield 33, 4, 6, 0), (21, 3, .putfield 30, 4, 5, 0), (24, 1, .iconst 0, 0, 0, 0), (25, 1, .ireturn, 1, 0, 0)]
def q_cd232 : List q_I := [(0, 1, .aload_n 0, 0, 0, 0), (1, 1, .iconst 0, 0, 0, 0), (2, 3, .putfield 42, 4, 9, 0), (5, 1, .aload_n 0, 0, 0, 0), (6, 1, .aload_n 0, 0, 0, 0), (7, 3, .getfield 33, 4, 6, 0), (10, 3, .putfield 36, 4, 7, 0), (13, 1, .aload_n 0, 0, 0, 0), (14, 3, .getfield 36, 4, 7, 0), (17, 1, .aload_n 0, 0, 0, 0), (18, 3, .getfield 19, 4, 2, 0), (21, 3, .if_icmp .ge 53, 74, 0, 0), (24, 1, .aload_n 0, 0, 0, 0), (25, 1, .aload_n 0, 0, 0, 0), (26, 3, .getfield 36, 4, 7, 0), (29, 3, .invokevirtual 192, 155, 2, 4), (32, 3, .invokestatic 204, 157, 1, 0), (35, 3, .ifCond .eq 39, 74, 0, 0), (38, 1, .aload_n 0, 0, 0, 0), (39, 1, .aload_n 0, 0, 0, 0), (40, 3, .getfield 42, 4, 9, 0), (43, 2, .bipush 10, 10, 0, 0), (45, 1, .imul, 0, 0, 0), (46, 1, .aload_n 0, 0, 0, 0), (47, 1, .aload_n 0, 0, 0, 0), (48, 3, .getfield 36, 4, 7, 0), (51, 3, .invokevirtual 192, 155, 2, 4), (54, 2, .bipush 48, 48, 0, 0), (56, 1, .isub, 0, 0, 0), (57, 1, .iadd, 0, 0, 0), (58, 3, .putfield 42, 4, 9, 0), (61, 1, .aload_n 0, 0, 0, 0), (62, 1, .dup, 0, 0, 0), (63, 3, .getfield 36, 4, 7, 0), (66, 1, .iconst 1, 1, 0, 0), (67, 1, .iadd, 0, 0, 0), (68, 3, .putfield 36, 4, 7, 0), (71, 3, .goto (-58), 13, 0, 0), (74, 1, .aload_n 0, 0, 0, 0), (75, 1, .aload_n 0, 0, 0, 0), (76, 3, .getfield 36, 4, 7, 0), (79, 1, .aload_n 0, 0, 0, 0), (80, 3, .getfield 33, 4, 6, 0), (83, 1, .isub, 0, 0, 0), (84, 1, .iconst 4, 4, 0, 0), (85, 3, .if_icmp .gt 17, 102, 0, 0), (88, 1, .aload_n 0, 0, 0, 0), (89, 1, .aload_n 0, 0, 0, 0), (90, 3, .getfield 36, 4, 7, 0), (93, 3, .invokevirtual 192, 155, 2, 4), (96, 3, .invokestatic 198, 156, 1, 0), (99, 3, .ifCond .eq 7, 106, 0, 0), (102, 1, .iconst 0, 0, 0, 0), (103, 3, .goto 4, 107, 0, 0), (106, 1, .iconst 2, 2, 0, 0), (107, 3, .putfield 39, 4, 8, 0), (110, 1, .return_, 0, 0, 0)]
def q_cd233 : List q_I := [(0, 1, .aload_n 0, 0, 0, 0), (1, 1, .lconst 0, 19, 0, 0), (2, 3, .putfield 45, 4, 10, 3), (5, 1, .aload_n 0, 0, 0, 0), (6, 1, .aload_n 0, 0, 0, 0), (7, 3, .getfield 33, 4, 6, 0), (10, 3, .putfield 36, 4, 7, 0), (13, 1, .aload_n 0, 0, 0, 0), (14, 3, .getfield 36, 4, 7, 0), (17, 1, .aload_n 0, 0, 0, 0), (18, 3, .getfield 19, 4, 2, 0), (21, 3, .if_icmp .ge 57, 78, 0, 0), (24, 1, .aload_n 0, 0, 0, 0), (25, 1, .aload_n 0, 0, 0, 0), (26, 3, .getfield 36, 4, 7, 0), (29, 3, .invokevirtual 192, 155, 2, 4), (32, 3, .invokestatic 198, 156, 1, 0), (35, 3, .ifCond .eq 43, 78, 0, 0), (38, 1, .aload_n 0, 0, 0, 0), (39, 1, .aload_n 0, 0, 0, 0), (40, 3, .getfield 45, 4, 10, 3), (43, 3, .ldc2_w 217, 0, 0, 0), (46, 1, .lmul, 0, 0, 0), (47, 1, .aload_n 0, 0, 0, 0), (48, 1, .aload_n 0, 0, 0, 0), (49, 3, .getfield 36, 4, 7, 0), (52, 3, .invokevirtual 192, 155, 2, 4), (55, 2, .bipush 97, 97, 0, 0), (57, 1, .isub, 0, 0, 0), (58, 1, .iconst 1, 1, 0, 0), (59, 1, .iadd, 0, 0, 0), (60, 1, .i2l, 0, 0, 0), (61, 1, .ladd, 0, 0, 0), (62, 3, .putfield 45, 4, 10, 3), (65, 1, .aload_n 0, 0, 0, 0), (66, 1, .dup, 0, 0, 0), (67, 3, .getfield 36, 4, 7, 0), (70, 1, .iconst 1, 1, 0, 0), (71, 1, .iadd, 0, 0, 0), (72, 3, .putfield 36, 4, 7, 0), (75, 3, .goto (-62), 13, 0, 0), (78, 1, .aload_n 0, 0, 0, 0), (79, 1, .aload_n 0, 0, 0, 0), (80, 3, .getfield 36, 4, 7, 0), (83, 1, .aload_n 0, 0, 0, 0), (84, 3, .getfield 33, 4, 6, 0), (87, 1, .isub, 0, 0, 0), (88, 2, .bipush 8, 8, 0, 0), (90, 3, .if_icmp .le 7, 97, 0, 0), (93, 1, .iconst 0, 0, 0, 0), (94, 3, .goto 4, 98, 0, 0), (97, 1, .iconst 3, 3, 0, 0), (98, 3, .putfield 39, 4, 8, 0), (101, 1, .lconst 0, 19, 0, 0), (102, 1, .lstore_n 1, 1, 0, 0), (103, 3, .sipush 200, 200, 0, 0), (106, 1, .istore_n 3, 3, 0, 0), (107, 1, .iconst 0, 0, 0, 0), (108, 2, .istore 4, 4, 0, 0), (110, 2, .iload 4, 4, 0, 0), (112, 2, .ldc 219, 0, 1, 99), (114, 3, .invokevirtual 221, 0, 88, 99), (117, 3, .if_icmp .ge 74, 191, 0, 0), (120, 1, .aload_n 0, 0, 0, 0), (121, 3, .getfield 39, 4, 8, 0), (124, 1, .iconst 3, 3, 0, 0), (125, 3, .if_icmp .ne 66, 191, 0, 0), (128, 2, .ldc 219, 0, 1, 99), (130, 2, .iload 4, 4, 0, 0), (132, 3, .invokevirtual 224, 1, 88, 99), (135, 2, .istore 5, 5, 0, 0), (137, 2, .iload 5, 5, 0, 0), (139, 2, .bipush 32, 32, 0, 0), (141, 3, .if_icmp .eq 21, 162, 0, 0), (144, 1, .lload_n 1, 1, 0, 0), (145, 3, .ldc2_w 217, 0, 0, 0), (148, 1, .lmul, 0, 0, 0), (149, 2, .iload 5, 5, 0, 0), (151, 2, .bipush 97, 97, 0, 0), (153, 1, .isub, 0, 0, 0), (154, 1, .iconst 1, 1, 0, 0), (155, 1, .iadd, 0, 0, 0), (156, 1, .i2l, 0, 0, 0), (157, 1, .ladd, 0, 0, 0), (158, 1, .lstore_n 1, 1, 0, 0), (159, 3, .goto 26, 185, 0, 0), (162, 1, .aload_n 0, 0, 0, 0), (163, 1, .lload_n 1, 1, 0, 0), (164, 1, .aload_n 0, 0, 0, 0), (165, 3, .getfield 45, 4, 10, 3), (168, 1, .lcmp, 0, 0, 0), (169, 3, .ifCond .ne 7, 176, 0, 0), (172, 1, .iload_n 3, 3, 0, 0), (173, 3, .goto 4, 177, 0, 0), (176, 1, .iconst 3, 3, 0, 0), (177, 3, .putfield 39, 4, 8, 0), (180, 1, .lconst 0, 19, 0, 0), (181, 1, .lstore_n 1, 1, 0, 0), (182, 3, .iinc 3 1, 3, 1, 0), (185, 3, .iinc 4 1, 4, 1, 0), (188, 3, .goto (-78), 110, 0, 0), (191, 1, .return_, 0, 0, 0)]
def q_cd234 : List q_I := [(0, 1, .iconst 0, 0, 0, 0), (1, 1, .istore_n 2, 2, 0, 0), (2, 1, .iconst 0, 0, 0, 0), (3, 1, .istore_n 3, 3, 0, 0), (4, 1, .iload_n 3, 3, 0, 0), (5, 2, .bipush 25, 25, 0, 0), (7, 3, .if_icmp .ge 30, 37, 0, 0), (10, 1, .iload_n 2, 2, 0, 0), (11, 1, .aload_n 0, 0, 0, 0), (12, 3, .getfield 9, 5, 0, 2), (15, 1, .iload_n 3, 3, 0, 0), (16, 1, .iaload, 0, 0, 0), (17, 1, .iload_n 1, 1, 0, 0), (18, 3, .if_icmp .ne 10, 28, 0, 0), (21, 1, .iload_n 3, 3, 0, 0), (22, 3, .invokestatic 74, 16, 1, 0), (25, 3, .goto 4, 29, 0, 0), (28, 1, .iconst 0, 0, 0, 0), (29, 1, .ior, 0, 0, 0), (30, 1, .istore_n 2, 2, 0, 0), (31, 3, .iinc 3 1, 3, 1, 0), (34, 3, .goto (-30), 4, 0, 0), (37, 1, .iload_n 2, 2, 0, 0), (38, 1, .ireturn, 0, 0, 0)]
def q_cd235 : List q_I := [(0, 1, .aload_n 0, 0, 0, 0), (1, 3, .getfield 33, 5, 7, 2), (4, 1, .iload_n 1, 1, 0, 0), (5, 1, .iconst 5, 5, 0, 0), (6, 1, .imul, 0, 0, 0), (7, 1, .iload_n 2, 2, 0, 0), (8, 1, .iadd, 0, 0, 0), (9, 1, .iaload, 0, 0, 0), (10, 1, .ireturn, 0, 0, 0)]
def q_cd236 : List q_I := [(0, 1, .iconst 0, 0, 0, 0), (1, 2, .istore 4, 4, 0, 0), (3, 1, .iconst 0, 0, 0, 0), (4, 2, .istore 5, 5, 0, 0), (6, 2, .iload 5, 5, 0, 0), (8, 1, .iload_n 3, 3, 0, 0), (9, 3, .if_icmp .ge 35, 44, 0, 0), (12, 2, .iload 4, 4, 0, 0), (14, 1, .aload_n 0, 0, 0, 0), (15, 1, .iload_n 1, 1, 0, 0), (16, 2, .iload 5, 5, 0, 0), (18, 3, .invokevirtual 87, 235, 3, 5), (21, 1, .aload_n 0, 0, 0, 0), (22, 1, .iload_n 1, 1, 0, 0), (23, 1, .iload_n 2, 2, 0, 0), (24, 3, .invokevirtual 87, 235, 3, 5), (27, 3, .if_icmp .ne 7, 34, 0, 0), (30, 1, .iconst 1, 1, 0, 0), (31, 3, .goto 4, 35, 0, 0), (34, 1, .iconst 0, 0, 0, 0), (35, 1, .iadd, 0, 0, 0), (36, 2, .istore 4, 4, 0, 0), (38, 3, .iinc 5 1, 5, 1, 0), (41, 3, .goto (-35), 6, 0, 0), (44, 2, .iload 4, 4, 0, 0), (46, 1, .ireturn, 0, 0, 0)]
def q_cd237 : List q_I := [(0, 1, .aload_n 0, 0, 0, 0), (1, 3, .getfield 21, 5, 3, 2), (4, 1, .iload_n 1, 1, 0, 0), (5, 1, .iload_n 2, 2, 0, 0), (6, 1, .iastore, 0, 0, 0), (7, 1, .aload_n 0, 0, 0, 0), (8, 3, .getfield 9, 5, 0, 2), (11, 1, .iload_n 2, 2, 0, 0), (12, 1, .iaload, 0, 0, 0), (13, 1, .istore_n 3, 3, 0, 0), (14, 1, .iload_n 3, 3, 0, 0), (15, 1, .iconst (-1), 4294967295, 0, 0), (16, 3, .if_icmp .eq 22, 38, 0, 0), (19, 1, .iload_n 3, 3, 0, 0), (20, 1, .iload_n 1, 1, 0, 0), (21, 3, .if_icmp .eq 17, 38, 0, 0), (24, 1, .aload_n 0, 0, 0, 0), (25, 3, .getfield 27, 5, 5, 2), (28, 1, .iload_n 1, 1, 0, 0), (29, 1, .iload_n 3, 3, 0, 0), (30, 3, .invokestatic 70, 193, 2, 0), (33, 1, .dup2, 0, 0, 0), (34, 1, .iaload, 0, 0, 0), (35, 1, .iconst 1, 1, 0, 0), (36, 1, .iadd, 0, 0, 0), (37, 1, .iastore, 0, 0, 0), (38, 1, .aload_n 0, 0, 0, 0), (39, 3, .getfield 9, 5, 0, 2), (42, 1, .iload_n 2, 2, 0, 0), (43, 1, .iload_n 1, 1, 0, 0), (44, 1, .iastore, 0, 0, 0), (45, 1, .aload_n 0, 0, 0, 0), (46, 3, .getfield 15, 5, 1, 2), (49, 1, .iload_n 2, 2, 0, 0), (50, 1, .aload_n 0, 0, 0, 0), (51, 3, .getfield 36, 5, 8, 0), (54, 1, .iastore, 0, 0, 0), (55, 1, .aload_n 0, 0, 0, 0), (56, 3, .getfield 18, 5, 2, 2), (59, 1, .iload_n 2, 2, 0, 0), (60, 1, .dup2, 0, 0, 0), (61, 1, .iaload, 0, 0, 0), (62, 1, .iconst 1, 1, 0, 0), (63, 1, .iadd, 0, 0, 0), (64, 1, .iastore, 0, 0, 0), (65, 1, .aload_n 0, 0, 0, 0), (66, 3, .getfield 24, 5, 4, 2), (69, 1, .iload_n 1, 1, 0, 0), (70, 1, .dup2, 0, 0, 0), (71, 1, .iaload, 0, 0, 0), (72, 1, .iload_n 2, 2, 0, 0), (73, 3, .invokestatic 74, 16, 1, 0), (76, 1, .ior, 0, 0, 0), (77, 1, .iastore, 0, 0, 0), (78, 1, .return_, 0, 0, 0)]
def q_cd238 : List q_I := [(0, 1, .iconst 0, 0, 0, 0), (1, 1, .istore_n 3, 3, 0, 0), (2, 1, .iconst 0, 0, 0, 0), (3, 2, .istore 4, 4, 0, 0), (5, 2, .iload 4, 4, 0, 0), (7, 1, .iload_n 2, 2, 0, 0), (8, 3, .if_icmp .ge 35, 43, 0, 0), (11, 1, .iload_n 3, 3, 0, 0), (12, 1, .aload_n 0, 0, 0, 0), (13, 3, .getfield 27, 5, 5, 2), (16, 1, .iload_n 1, 1, 0, 0), (17, 2, .iload 4, 4, 0, 0), (19, 3, .invokestatic 70, 193, 2, 0), (22, 1, .iaload, 0, 0, 0), (23, 3, .ifCond .le 11, 34, 0, 0), (26, 2, .iload 4, 4, 0, 0), (28, 3, .invokestatic 74, 16, 1, 0), (31, 3, .goto 4, 35, 0, 0), (34, 1, .iconst 0, 0, 0, 0), (35, 1, .ior, 0, 0, 0), (36, 1, .istore_n 3, 3, 0, 0), (37, 3, .iinc 4 1, 4, 1, 0), (40, 3, .goto (-35), 5, 0, 0), (43, 1, .iload_n 3, 3, 0, 0), (44, 1, .ireturn, 0, 0, 0)]
def q_cd239 : List q_I := [(0, 1, .aload_n 0, 0, 0, 0), (1, 3, .getfield 21, 6, 3, 2), (4, 1, .iload_n 1, 1, 0, 0), (5, 1, .iaload, 0, 0, 0), (6, 1, .iconst (-1), 4294967295, 0, 0), (7, 3, .if_icmp .eq 17, 24, 0, 0), (10, 1, .aload_n 0, 0, 0, 0), (11, 3, .getfield 21, 6, 3, 2), (14, 1, .iload_n 1, 1, 0, 0), (15, 1, .iaload, 0, 0, 0), (16, 1, .iload_n 2, 2, 0, 0), (17, 3, .if_icmp .gt 7, 24, 0, 0), (20, 1, .iconst 1, 1, 0, 0), (21, 3, .goto 4, 25, 0, 0), (24, 1, .iconst 0, 0, 0, 0), (25, 1, .istore_n 3, 3, 0, 0), (26, 1, .aload_n 0, 0, 0, 0), (27, 3, .getfield 18, 6, 2, 2), (30, 1, .iload_n 1, 1, 0, 0), (31, 1, .iaload, 0, 0, 0), (32, 1, .iload_n 2, 2, 0, 0), (33, 3, .if_icmp .gt 11, 44, 0, 0), (36, 1, .iload_n 3, 3, 0, 0), (37, 3, .ifCond .ne 7, 44, 0, 0), (40, 1, .iconst 1, 1, 0, 0), (41, 3, .goto 4, 45, 0, 0), (44, 1, .iconst 0, 0, 0, 0), (45, 1, .ireturn, 1, 0, 0)]
def q_cd240 : List q_I := [(0, 1, .aload_n 0, 0, 0, 0), (1, 1, .aload_n 0, 0, 0, 0), (2, 1, .lload_n 1, 1, 0, 0), (3, 3, .invokevirtual 254, 259, 2, 9), (6, 3, .invokevirtual 257, 263, 2, 9), (9, 1, .aload_n 0, 0, 0, 0), (10, 1, .iload_n 3, 3, 0, 0), (11, 2, .iload 4, 4, 0, 0), (13, 3, .invokevirtual 261, 264, 3, 9), (16, 1, .ireturn, 0, 0, 0)]
def q_cd241 : List q_I := [(0, 1, .iload_n 1, 1, 0, 0), (1, 51, .lookupswitch 112 #[(99, 66), (105, 90), (109, 81), (114, 51), (116, 99)], 0, 0, 0), (52, 1, .aload_n 0, 0, 0, 0), (53, 3, .getfield 344, 9, 40, 0), (56, 1, .aload_n 0, 0, 0, 0), (57, 3, .getfield 20, 9, 11, 2), (60, 1, .aload_n 0, 0, 0, 0), (61, 3, .getfield 274, 9, 34, 0), (64, 1, .iaload, 0, 0, 0), (65, 1, .idiv, 0, 0, 0), (66, 1, .ireturn, 0, 0, 0), (67, 1, .aload_n 0, 0, 0, 0), (68, 3, .getfield 344, 9, 40, 0), (71, 1, .aload_n 0, 0, 0, 0), (72, 3, .getfield 20, 9, 11, 2), (75, 1, .aload_n 0, 0, 0, 0), (76, 3, .getfield 274, 9, 34, 0), (79, 1, .iaload, 0, 0, 0), (80, 1, .irem, 0, 0, 0), (81, 1, .ireturn, 0, 0, 0), (82, 1, .aload_n 0, 0, 0, 0), (83, 3, .getfield 92, 9, 41, 2), (86, 3, .sipush 435, 435, 0, 0), (89, 1, .iaload, 0, 0, 0), (90, 1, .ireturn, 0, 0, 0), (91, 1, .aload_n 0, 0, 0, 0), (92, 3, .getfield 92, 9, 41, 2), (95, 3, .sipush 436, 436, 0, 0), (98, 1, .iaload, 0, 0, 0), (99, 1, .ireturn, 0, 0, 0), (100, 1, .aload_n 0, 0, 0, 0), (101, 3, .getfield 92, 9, 41, 2), (104, 2, .bipush 55, 55, 0, 0), (106, 1, .aload_n 0, 0, 0, 0), (107, 3, .getfield 344, 9, 40, 0), (110, 1, .iadd, 0, 0, 0), (111, 1, .iaload, 0, 0, 0), (112, 1, .ireturn, 0, 0, 0), (113, 1, .iload_n 2, 2, 0, 0), (114, 1, .ireturn, 0, 0, 0)]
def q_cd242 : List q_I := [(0, 1, .aload_n 0, 0, 0, 0), (1, 3, .invokevirtual 338, 266, 1, 9), (4, 1, .istore_n 1, 1, 0, 0), (5, 1, .iload_n 1, 1, 0, 0), (6, 1, .iconst 4, 4, 0, 0), (7, 3, .if_icmp .ne 16, 23, 0, 0), (10, 1, .aload_n 0, 0, 0, 0), (11, 3, .invokevirtual 341, 252, 1, 9), (14, 3, .ifCond .eq 9, 23, 0, 0), (17, 1, .aload_n 0, 0, 0, 0), (18, 3, .invokevirtual 251, 262, 1, 9), (21, 1, .iconst 1, 1, 0, 0), (22, 1, .ireturn, 1, 0, 0), (23, 1, .aload_n 0, 0, 0, 0), (24, 3, .getfield 83, 9, 31, 2), (27, 1, .aload_n 0, 0, 0, 0), (28, 3, .getfield 317, 9, 38, 0), (31, 1, .iconst 1, 1, 0, 0), (32, 1, .isub, 0, 0, 0), (33, 1, .iaload, 0, 0, 0), (34, 2, .bipush 6, 6, 0, 0), (36, 3, .if_icmp .gt 68, 104, 0, 0), (39, 1, .aload_n 0, 0, 0, 0), (40, 3, .getfield 83, 9, 31, 2), (43, 1, .aload_n 0, 0, 0, 0), (44, 3, .getfield 317, 9, 38, 0), (47, 1, .iconst 1, 1, 0, 0), (48, 1, .isub, 0, 0, 0), (49, 1, .iaload, 0, 0, 0), (50, 1, .iload_n 1, 1, 0, 0), (51, 3, .if_icmp .lt 53, 104, 0, 0), (54, 1, .aload_n 0, 0, 0, 0), (55, 1, .dup, 0, 0, 0), (56, 3, .getfield 317, 9, 38, 0), (59, 1, .iconst 1, 1, 0, 0), (60, 1, .isub, 0, 0, 0), (61, 3, .putfield 317, 9, 38, 0), (64, 1, .aload_n 0, 0, 0, 0), (65, 3, .getfield 83, 9, 31, 2), (68, 1, .aload_n 0, 0, 0, 0), (69, 3, .getfield 317, 9, 38, 0), (72, 1, .iaload, 0, 0, 0), (73, 1, .iconst 3, 3, 0, 0), (74, 3, .if_icmp .ne 13, 87, 0, 0), (77, 1, .aload_n 0, 0, 0, 0), (78, 1, .dup, 0, 0, 0), (79, 3, .getfield 320, 9, 37, 0), (82, 1, .iconst 1, 1, 0, 0), (83, 1, .isub, 0, 0, 0), (84, 3, .putfield 320, 9, 37, 0), (87, 1, .aload_n 0, 0, 0, 0), (88, 1, .aload_n 0, 0, 0, 0), (89, 3, .getfield 86, 9, 32, 2), (92, 1, .aload_n 0, 0, 0, 0), (93, 3, .getfield 317, 9, 38, 0), (96, 1, .iaload, 0, 0, 0), (97, 1, .iconst 0, 0, 0, 0), (98, 3, .invokevirtual 335, 246, 3, 9), (101, 3, .goto (-78), 23, 0, 0), (104, 1, .iload_n 1, 1, 0, 0), (105, 3, .ifCond .le 42, 147, 0, 0), (108, 1, .aload_n 0, 0, 0, 0), (109, 1, .iload_n 1, 1, 0, 0), (110, 1, .iload_n 1, 1, 0, 0), (111, 1, .iconst 2, 2, 0, 0), (112, 3, .if_icmp .ne 8, 120, 0, 0), (115, 2, .bipush 38, 38, 0, 0), (117, 3, .goto 21, 138, 0, 0), (120, 1, .iload_n 1, 1, 0, 0), (121, 1, .iconst 1, 1, 0, 0), (122, 3, .if_icmp .ne 8, 130, 0, 0), (125, 2, .bipush 124, 124, 0, 0), (127, 3, .goto 11, 138, 0, 0), (130, 1, .aload_n 0, 0, 0, 0), (131, 1, .aload_n 0, 0, 0, 0), (132, 3, .getfield 209, 9, 6, 0), (135, 3, .invokevirtual 212, 160, 2, 9), (138, 3, .invokevirtual 323, 265, 3, 9), (141, 1, .aload_n 0, 0, 0, 0), (142, 3, .invokevirtual 248, 159, 1, 9), (145, 1, .iconst 1, 1, 0, 0), (146, 1, .ireturn, 1, 0, 0), (147, 1, .aload_n 0, 0, 0, 0), (148, 1, .dup, 0, 0, 0), (149, 3, .getfield 317, 9, 38, 0), (152, 1, .iconst 1, 1, 0, 0), (153, 1, .isub, 0, 0, 0), (154, 3, .putfield 317, 9, 38, 0), (157, 1, .aload_n 0, 0, 0, 0), (158, 3, .getfield 83, 9, 31, 2), (161, 1, .aload_n 0, 0, 0, 0), (162, 3, .getfield 317, 9, 38, 0), (165, 1, .iaload, 0, 0, 0), (166, 2, .bipush 7, 7, 0, 0), (168, 3, .if_icmp .ne 23, 191, 0, 0), (171, 1, .aload_n 0, 0, 0, 0), (172, 1, .dup, 0, 0, 0), (173, 3, .getfield 320, 9, 37, 0), (176, 1, .iconst 1, 1, 0, 0), (177, 1, .isub, 0, 0, 0), (178, 3, .putfield 320, 9, 37, 0), (181, 1, .aload_n 0, 0, 0, 0), (182, 1, .aload_n 0, 0, 0, 0), (183, 2, .bipush 41, 41, 0, 0), (185, 3, .invokevirtual 297, 258, 2, 9), (188, 3, .invokevirtual 257, 263, 2, 9), (191, 1, .iconst 0, 0, 0, 0), (192, 1, .ireturn, 1, 0, 0)]
def q_cd243 : List q_I := [(0, 1, .iconst 0, 0, 0, 0), (1, 1, .istore_n 3, 3, 0, 0), (2, 1, .iload_n 3, 3, 0, 0), (3, 1, .aload_n 0, 0, 0, 0), (4, 3, .invokevirtual 354, 11, 1, 9), (7, 3, .if_icmp .ge 35, 42, 0, 0), (10, 1, .aload_n 0, 0, 0, 0), (11, 3, .getfield 92, 9, 41, 2), (14, 2, .bipush 85, 85, 0, 0), (16, 1, .iconst 5, 5, 0, 0), (17, 1, .iload_n 1, 1, 0, 0), (18, 1, .imul, 0, 0, 0), (19, 1, .iadd, 0, 0, 0), (20, 1, .iload_n 3, 3, 0, 0), (21, 1, .iadd, 0, 0, 0), (22, 1, .iaload, 0, 0, 0), (23, 3, .ifCond .le 13, 36, 0, 0), (26, 1, .iload_n 2, 2, 0, 0), (27, 1, .iload_n 3, 3, 0, 0), (28, 3, .invokestatic 300, 1, 2, 0), (31, 3, .ifCond .ne 5, 36, 0, 0), (34, 1, .iconst 0, 0, 0, 0), (35, 1, .ireturn, 1, 0, 0), (36, 3, .iinc 3 1, 3, 1, 0), (39, 3, .goto (-37), 2, 0, 0), (42, 1, .iconst 1, 1, 0, 0), (43, 1, .ireturn, 1, 0, 0)]
def q_cd244 : List q_I := [(0, 1, .iconst 0, 0, 0, 0), (1, 1, .istore_n 1, 1, 0, 0), (2, 1, .aload_n 0, 0, 0, 0), (3, 3, .getfield 57, 9, 23, 2), (6, 1, .aload_n 0, 0, 0, 0), (7, 3, .getfield 274, 9, 34, 0), (10, 1, .iaload, 0, 0, 0), (11, 1, .istore_n 2, 2, 0, 0), (12, 1, .iload_n 2, 2, 0, 0), (13, 1, .aload_n 0, 0, 0, 0), (14, 3, .getfield 60, 9, 24, 2), (17, 1, .aload_n 0, 0, 0, 0), (18, 3, .getfield 274, 9, 34, 0), (21, 1, .iaload, 0, 0, 0), (22, 3, .if_icmp .ge 108, 130, 0, 0), (25, 1, .aload_n 0, 0, 0, 0), (26, 3, .getfield 77, 9, 29, 2), (29, 1, .iload_n 2, 2, 0, 0), (30, 1, .iaload, 0, 0, 0), (31, 1, .istore_n 3, 3, 0, 0), (32, 1, .iload_n 3, 3, 0, 0), (33, 2, .bipush 126, 126, 0, 0), (35, 3, .if_icmp .ne 30, 65, 0, 0), (38, 1, .aload_n 0, 0, 0, 0), (39, 3, .getfield 89, 9, 33, 2), (42, 1, .iload_n 1, 1, 0, 0), (43, 1, .iconst 1, 1, 0, 0), (44, 1, .isub, 0, 0, 0), (45, 1, .aload_n 0, 0, 0, 0), (46, 3, .getfield 89, 9, 33, 2), (49, 1, .iload_n 1, 1, 0, 0), (50, 1, .iconst 1, 1, 0, 0), (51, 1, .isub, 0, 0, 0), (52, 1, .iaload, 0, 0, 0), (53, 3, .ifCond .ne 7, 60, 0, 0), (56, 1, .iconst 1, 1, 0, 0), (57, 3, .goto 4, 61, 0, 0), (60, 1, .iconst 0, 0, 0, 0), (61, 1, .iastore, 0, 0, 0), (62, 3, .goto 62, 124, 0, 0), (65, 1, .iload_n 3, 3, 0, 0), (66, 3, .invokestatic 219, 256, 1, 0), (69, 3, .ifCond .eq 26, 95, 0, 0), (72, 1, .aload_n 0, 0, 0, 0), (73, 3, .getfield 89, 9, 33, 2), (76, 1, .iload_n 1, 1, 0, 0), (77, 1, .aload_n 0, 0, 0, 0), (78, 1, .iload_n 3, 3, 0, 0), (79, 1, .aload_n 0, 0, 0, 0), (80, 3, .getfield 80, 9, 30, 2), (83, 1, .iload_n 2, 2, 0, 0), (84, 1, .iaload, 0, 0, 0), (85, 3, .invokevirtual 347, 241, 3, 9), (88, 1, .iastore, 0, 0, 0), (89, 3, .iinc 1 1, 1, 1, 0), (92, 3, .goto 32, 124, 0, 0), (95, 3, .iinc 1 (-1), 1, 4294967295, 0), (98, 1, .aload_n 0, 0, 0, 0), (99, 3, .getfield 89, 9, 33, 2), (102, 1, .iload_n 1, 1, 0, 0), (103, 1, .iconst 1, 1, 0, 0), (104, 1, .isub, 0, 0, 0), (105, 1, .iload_n 3, 3, 0, 0), (106, 1, .aload_n 0, 0, 0, 0), (107, 3, .getfield 89, 9, 33, 2), (110, 1, .iload_n 1, 1, 0, 0), (111, 1, .iconst 1, 1, 0, 0), (112, 1, .isub, 0, 0, 0), (113, 1, .iaload, 0, 0, 0), (114, 1, .aload_n 0, 0, 0, 0), (115, 3, .getfield 89, 9, 33, 2), (118, 1, .iload_n 1, 1, 0, 0), (119, 1, .iaload, 0, 0, 0), (120, 3, .invokestatic 350, 274, 3, 0), (123, 1, .iastore, 0, 0, 0), (124, 3, .iinc 2 1, 2, 1, 0), (127, 3, .goto (-115), 12, 0, 0), (130, 1, .aload_n 0, 0, 0, 0), (131, 3, .getfield 89, 9, 33, 2), (134, 1, .iconst 0, 0, 0, 0), (135, 1, .iaload, 0, 0, 0), (136, 1, .ireturn, 0, 0, 0)]
def q_cd245 : List q_I := [(0, 1, .aload_n 0, 0, 0, 0), (1, 1, .iconst 0, 0, 0, 0), (2, 3, .putfield 317, 9, 38, 0), (5, 1, .aload_n 0, 0, 0, 0), (6, 1, .iconst 0, 0, 0, 0), (7, 3, .putfield 320, 9, 37, 0), (10, 1, .aload_n 0, 0, 0, 0), (11, 2, .bipush 8, 8, 0, 0), (13, 1, .iconst 0, 0, 0, 0), (14, 3, .invokevirtual 323, 265, 3, 9), (17, 1, .iconst 1, 1, 0, 0), (18, 1, .istore_n 1, 1, 0, 0), (19, 1, .aload_n 0, 0, 0, 0), (20, 3, .invokevirtual 244, 116, 1, 9), (23, 3, .ifCond .eq 29, 52, 0, 0), (26, 1, .aload_n 0, 0, 0, 0), (27, 3, .getfield 317, 9, 38, 0), (30, 3, .ifCond .le 22, 52, 0, 0), (33, 1, .iload_n 1, 1, 0, 0), (34, 3, .ifCond .eq 10, 44, 0, 0), (37, 1, .aload_n 0, 0, 0, 0), (38, 3, .invokevirtual 326, 275, 1, 9), (41, 3, .goto 7, 48, 0, 0), (44, 1, .aload_n 0, 0, 0, 0), (45, 3, .invokevirtual 329, 242, 1, 9), (48, 1, .istore_n 1, 1, 0, 0), (49, 3, .goto (-30), 19, 0, 0), (52, 1, .return_, 0, 0, 0)]
def q_cd246 : List q_I := [(0, 1, .aload_n 0, 0, 0, 0), (1, 3, .getfield 77, 9, 29, 2), (4, 1, .aload_n 0, 0, 0, 0), (5, 3, .getfield 268, 9, 36, 0), (8, 1, .iload_n 1, 1, 0, 0), (9, 1, .iastore, 0, 0, 0), (10, 1, .aload_n 0, 0, 0, 0), (11, 3, .getfield 80, 9, 30, 2), (14, 1, .aload_n 0, 0, 0, 0), (15, 3, .getfield 268, 9, 36, 0), (18, 1, .iload_n 2, 2, 0, 0), (19, 1, .iastore, 0, 0, 0), (20, 1, .aload_n 0, 0, 0, 0), (21, 1, .dup, 0, 0, 0), (22, 3, .getfield 268, 9, 36, 0), (25, 1, .iconst 1, 1, 0, 0), (26, 1, .iadd, 0, 0, 0), (27, 3, .putfield 268, 9, 36, 0), (30, 1, .return_, 0, 0, 0)]
def q_cd247 : List q_I := [(0, 1, .iconst 0, 0, 0, 0), (1, 1, .istore_n 1, 1, 0, 0), (2, 1, .iload_n 1, 1, 0, 0), (3, 3, .sipush 438, 438, 0, 0), (6, 3, .if_icmp .ge 53, 59, 0, 0), (9, 1, .aload_n 0, 0, 0, 0), (10, 3, .getfield 95, 9, 42, 2), (13, 3, .sipush 438, 438, 0, 0), (16, 1, .aload_n 0, 0, 0, 0), (17, 3, .getfield 379, 9, 43, 0), (20, 1, .imul, 0, 0, 0), (21, 1, .iload_n 1, 1, 0, 0), (22, 1, .iadd, 0, 0, 0), (23, 1, .iaload, 0, 0, 0), (24, 1, .istore_n 2, 2, 0, 0), (25, 1, .aload_n 0, 0, 0, 0), (26, 3, .getfield 95, 9, 42, 2), (29, 3, .sipush 438, 438, 0, 0), (32, 1, .aload_n 0, 0, 0, 0), (33, 3, .getfield 379, 9, 43, 0), (36, 1, .imul, 0, 0, 0), (37, 1, .iload_n 1, 1, 0, 0), (38, 1, .iadd, 0, 0, 0), (39, 1, .aload_n 0, 0, 0, 0), (40, 3, .getfield 92, 9, 41, 2), (43, 1, .iload_n 1, 1, 0, 0), (44, 1, .iaload, 0, 0, 0), (45, 1, .iastore, 0, 0, 0), (46, 1, .aload_n 0, 0, 0, 0), (47, 3, .getfield 92, 9, 41, 2), (50, 1, .iload_n 1, 1, 0, 0), (51, 1, .iload_n 2, 2, 0, 0), (52, 1, .iastore, 0, 0, 0), (53, 3, .iinc 1 1, 1, 1, 0), (56, 3, .goto (-54), 2, 0, 0), (59, 1, .return_, 0, 0, 0)]
def q_cd248 : List q_I := [(0, 1, .aload_n 0, 0, 0, 0), (1, 3, .getfield 167, 9, 4, 0), (4, 3, .ifCond .le 4, 8, 0, 0), (7, 1, .return_, 0, 0, 0), (8, 1, .aload_n 0, 0, 0, 0), (9, 1, .iload_n 1, 1, 0, 0), (10, 3, .putfield 167, 9, 4, 0), (13, 1, .aload_n 0, 0, 0, 0), (14, 1, .iload_n 2, 2, 0, 0), (15, 3, .putfield 16, 9, 5, 0), (18, 1, .return_, 0, 0, 0)]
def q_cd249 : List q_I := [(0, 1, .iconst 0, 0, 0, 0), (1, 1, .istore_n 3, 3, 0, 0), (2, 1, .iconst 0, 0, 0, 0), (3, 2, .istore 4, 4, 0, 0), (5, 2, .iload 4, 4, 0, 0), (7, 1, .aload_n 0, 0, 0, 0), (8, 3, .invokevirtual 364, 0, 1, 9), (11, 3, .if_icmp .ge 65, 76, 0, 0), (14, 1, .aload_n 0, 0, 0, 0), (15, 2, .iload 4, 4, 0, 0), (17, 3, .invokevirtual 406, 56, 2, 9), (20, 3, .ifCond .eq 50, 70, 0, 0), (23, 1, .aload_n 0, 0, 0, 0), (24, 1, .iload_n 2, 2, 0, 0), (25, 2, .iload 4, 4, 0, 0), (27, 3, .invokevirtual 409, 2, 3, 9), (30, 1, .iconst 1, 1, 0, 0), (31, 3, .if_icmp .le 6, 37, 0, 0), (34, 3, .goto 36, 70, 0, 0), (37, 2, .iload 4, 4, 0, 0), (39, 1, .iload_n 1, 1, 0, 0), (40, 3, .if_icmp .ne 7, 47, 0, 0), (43, 1, .iconst 0, 0, 0, 0), (44, 3, .goto 15, 59, 0, 0), (47, 1, .aload_n 0, 0, 0, 0), (48, 3, .getfield 125, 9, 55, 2), (51, 2, .bipush 25, 25, 0, 0), (53, 1, .iload_n 1, 1, 0, 0), (54, 1, .imul, 0, 0, 0), (55, 2, .iload 4, 4, 0, 0), (57, 1, .iadd, 0, 0, 0), (58, 1, .iaload, 0, 0, 0), (59, 2, .istore 5, 5, 0, 0), (61, 2, .iload 5, 5, 0, 0), (63, 1, .iload_n 3, 3, 0, 0), (64, 3, .if_icmp .le 6, 70, 0, 0), (67, 2, .iload 5, 5, 0, 0), (69, 1, .istore_n 3, 3, 0, 0), (70, 3, .iinc 4 1, 4, 1, 0), (73, 3, .goto (-68), 5, 0, 0), (76, 1, .iload_n 3, 3, 0, 0), (77, 1, .ireturn, 0, 0, 0)]
def q_cd250 : List q_I := [(0, 1, .iconst 0, 0, 0, 0), (1, 1, .istore_n 2, 2, 0, 0), (2, 1, .iconst 0, 0, 0, 0), (3, 1, .istore_n 3, 3, 0, 0), (4, 1, .iload_n 3, 3, 0, 0), (5, 1, .aload_n 0, 0, 0, 0), (6, 3, .invokevirtual 364, 0, 1, 9), (9, 3, .if_icmp .ge 27, 36, 0, 0), (12, 1, .aload_n 0, 0, 0, 0), (13, 3, .getfield 92, 9, 41, 2), (16, 1, .iconst 5, 5, 0, 0), (17, 1, .iload_n 3, 3, 0, 0), (18, 1, .iadd, 0, 0, 0), (19, 1, .iaload, 0, 0, 0), (20, 1, .iload_n 1, 1, 0, 0), (21, 3, .if_icmp .ne 9, 30, 0, 0), (24, 1, .iload_n 2, 2, 0, 0), (25, 1, .iconst 1, 1, 0, 0), (26, 1, .iload_n 3, 3, 0, 0), (27, 1, .ishl, 0, 0, 0), (28, 1, .ior, 0, 0, 0), (29, 1, .istore_n 2, 2, 0, 0), (30, 3, .iinc 3 1, 3, 1, 0), (33, 3, .goto (-29), 4, 0, 0), (36, 1, .iload_n 2, 2, 0, 0), (37, 1, .ireturn, 0, 0, 0)]
def q_cd251 : List q_I := [(0, 3, .sipush 10000, 10000, 0, 0), (3, 1, .istore_n 3, 3, 0, 0), (4, 1, .iconst 0, 0, 0, 0), (5, 2, .istore 4, 4, 0, 0), (7, 2, .iload 4, 4, 0, 0), (9, 1, .aload_n 0, 0, 0, 0), (10, 3, .invokevirtual 364, 0, 1, 9), (13, 3, .if_icmp .ge 62, 75, 0, 0), (16, 1, .aload_n 0, 0, 0, 0), (17, 2, .iload 4, 4, 0, 0), (19, 3, .invokevirtual 406, 56, 2, 9), (22, 3, .ifCond .eq 47, 69, 0, 0), (25, 1, .aload_n 0, 0, 0, 0), (26, 1, .iload_n 1, 1, 0, 0), (27, 2, .iload 4, 4, 0, 0), (29, 3, .invokevirtual 409, 2, 3, 9), (32, 1, .iconst 1, 1, 0, 0), (33, 3, .if_icmp .le 6, 39, 0, 0), (36, 3, .goto 33, 69, 0, 0), (39, 2, .iload 4, 4, 0, 0), (41, 1, .iload_n 2, 2, 0, 0), (42, 3, .if_icmp .ne 7, 49, 0, 0), (45, 1, .iconst 1, 1, 0, 0), (46, 3, .goto 12, 58, 0, 0), (49, 1, .iconst 1, 1, 0, 0), (50, 1, .aload_n 0, 0, 0, 0), (51, 2, .iload 4, 4, 0, 0), (53, 1, .iload_n 2, 2, 0, 0), (54, 3, .invokevirtual 463, 249, 3, 9), (57, 1, .iadd, 0, 0, 0), (58, 2, .istore 5, 5, 0, 0), (60, 2, .iload 5, 5, 0, 0), (62, 1, .iload_n 3, 3, 0, 0), (63, 3, .if_icmp .ge 6, 69, 0, 0), (66, 2, .iload 5, 5, 0, 0), (68, 1, .istore_n 3, 3, 0, 0), (69, 3, .iinc 4 1, 4, 1, 0), (72, 3, .goto (-65), 7, 0, 0), (75, 1, .iload_n 3, 3, 0, 0), (76, 1, .ireturn, 0, 0, 0)]
def q_cd252 : List q_I := [(0, 1, .aload_n 0, 0, 0, 0), (1, 3, .getfield 317, 9, 38, 0), (4, 1, .iconst 1, 1, 0, 0), (5, 1, .isub, 0, 0, 0), (6, 1, .istore_n 1, 1, 0, 0), (7, 1, .aload_n 0, 0, 0, 0), (8, 3, .getfield 83, 9, 31, 2), (11, 1, .iload_n 1, 1, 0, 0), (12, 1, .iaload, 0, 0, 0), (13, 1, .iconst 5, 5, 0, 0), (14, 3, .if_icmp .eq 14, 28, 0, 0), (17, 1, .aload_n 0, 0, 0, 0), (18, 3, .getfield 83, 9, 31, 2), (21, 1, .iload_n 1, 1, 0, 0), (22, 1, .iaload, 0, 0, 0), (23, 2, .bipush 6, 6, 0, 0), (25, 3, .if_icmp .ne 9, 34, 0, 0), (28, 3, .iinc 1 (-1), 1, 4294967295, 0), (31, 3, .goto (-24), 7, 0, 0), (34, 1, .aload_n 0, 0, 0, 0), (35, 3, .getfield 83, 9, 31, 2), (38, 1, .iload_n 1, 1, 0, 0), (39, 1, .iaload, 0, 0, 0), (40, 1, .iconst 4, 4, 0, 0), (41, 3, .if_icmp .ne 7, 48, 0, 0), (44, 1, .iconst 1, 1, 0, 0), (45, 3, .goto 4, 49, 0, 0), (48, 1, .iconst 0, 0, 0, 0), (49, 1, .ireturn, 1, 0, 0)]
def q_cd253 : List q_I := [(0, 1, .iload_n 0, 0, 0, 0), (1, 2, .bipush 48, 48, 0, 0), (3, 3, .if_icmp .lt 13, 16, 0, 0), (6, 1, .iload_n 0, 0, 0, 0), (7, 2, .bipush 57, 57, 0, 0), (9, 3, .if_icmp .gt 7, 16, 0, 0), (12, 1, .iconst 1, 1, 0, 0), (13, 3, .goto 4, 17, 0, 0), (16, 1, .iconst 0, 0, 0, 0), (17, 1, .ireturn, 1, 0, 0)]
def q_cd254 : List q_I := [(0, 1, .aload_n 0, 0, 0, 0), (1, 3, .ldc2_w 170, 1, 0, 0), (4, 3, .invokevirtual 254, 259, 2, 9), (7, 3, .ifCond .eq 21, 28, 0, 0), (10, 1, .aload_n 0, 0, 0, 0), (11, 3, .getfield 27, 9, 13, 2), (14, 1, .aload_n 0, 0, 0, 0), (15, 3, .getfield 265, 9, 35, 0), (18, 1, .iaload, 0, 0, 0), (19, 3, .ifCond .le 7, 26, 0, 0), (22, 1, .iconst 1, 1, 0, 0), (23, 3, .goto 4, 27, 0, 0), (26, 1, .iconst 0, 0, 0, 0), (27, 1, .ireturn, 1, 0, 0), (28, 1, .aload_n 0, 0, 0, 0), (29, 3, .ldc2_w 174, 3, 0, 0), (32, 3, .invokevirtual 254, 259, 2, 9), (35, 3, .ifCond .eq 22, 57, 0, 0), (38, 1, .aload_n 0, 0, 0, 0), (39, 3, .getfield 30, 9, 14, 2), (42, 1, .aload_n 0, 0, 0, 0), (43, 3, .getfield 265, 9, 35, 0), (46, 1, .iaload, 0, 0, 0), (47, 1, .iconst 4, 4, 0, 0), (48, 3, .if_icmp .ne 7, 55, 0, 0), (51, 1, .iconst 1, 1, 0, 0), (52, 3, .goto 4, 56, 0, 0), (55, 1, .iconst 0, 0, 0, 0), (56, 1, .ireturn, 1, 0, 0), (57, 1, .aload_n 0, 0, 0, 0), (58, 3, .ldc2_w 176, 4, 0, 0), (61, 3, .invokevirtual 254, 259, 2, 9), (64, 3, .ifCond .eq 22, 86, 0, 0), (67, 1, .aload_n 0, 0, 0, 0), (68, 3, .getfield 36, 9, 16, 2), (71, 1, .aload_n 0, 0, 0, 0), (72, 3, .getfield 265, 9, 35, 0), (75, 1, .iaload, 0, 0, 0), (76, 1, .iconst 5, 5, 0, 0), (77, 3, .if_icmp .ne 7, 84, 0, 0), (80, 1, .iconst 1, 1, 0, 0), (81, 3, .goto 4, 85, 0, 0), (84, 1, .iconst 0, 0, 0, 0), (85, 1, .ireturn, 1, 0, 0), (86, 1, .aload_n 0, 0, 0, 0), (87, 3, .ldc2_w 184, 8, 0, 0), (90, 3, .invokevirtual 254, 259, 2, 9), (93, 3, .ifCond .eq 13, 106, 0, 0), (96, 1, .aload_n 0, 0, 0, 0), (97, 3, .getfield 63, 9, 25, 2), (100, 1, .aload_n 0, 0, 0, 0), (101, 3, .getfield 265, 9, 35, 0), (104, 1, .baload, 0, 0, 0), (105, 1, .ireturn, 1, 0, 0), (106, 1, .aload_n 0, 0, 0, 0), (107, 3, .ldc2_w 186, 9, 0, 0), (110, 3, .invokevirtual 254, 259, 2, 9), (113, 3, .ifCond .eq 13, 126, 0, 0), (116, 1, .aload_n 0, 0, 0, 0), (117, 3, .getfield 67, 9, 26, 2), (120, 1, .aload_n 0, 0, 0, 0), (121, 3, .getfield 265, 9, 35, 0), (124, 1, .baload, 0, 0, 0), (125, 1, .ireturn, 1, 0, 0), (126, 1, .aload_n 0, 0, 0, 0), (127, 3, .ldc2_w 188, 10, 0, 0), (130, 3, .invokevirtual 254, 259, 2, 9), (133, 3, .ifCond .eq 15, 148, 0, 0), (136, 1, .aload_n 0, 0, 0, 0), (137, 3, .getfield 70, 9, 27, 2), (140, 1, .aload_n 0, 0, 0, 0), (141, 3, .getfield 265, 9, 35, 0), (144, 1, .baload, 0, 0, 0), (145, 3, .ifCond .eq 7, 152, 0, 0), (148, 1, .iconst 1, 1, 0, 0), (149, 3, .goto 4, 153, 0, 0), (152, 1, .iconst 0, 0, 0, 0), (153, 1, .ireturn, 1, 0, 0)]
def q_cd255 : List q_I := [(0, 1, .lload_n 0, 0, 0, 0), (1, 3, .ldc2_w 170, 1, 0, 0), (4, 1, .lcmp, 0, 0, 0), (5, 3, .ifCond .eq 67, 72, 0, 0), (8, 1, .lload_n 0, 0, 0, 0), (9, 3, .ldc2_w 172, 2, 0, 0), (12, 1, .lcmp, 0, 0, 0), (13, 3, .ifCond .eq 59, 72, 0, 0), (16, 1, .lload_n 0, 0, 0, 0), (17, 3, .ldc2_w 174, 3, 0, 0), (20, 1, .lcmp, 0, 0, 0), (21, 3, .ifCond .eq 51, 72, 0, 0), (24, 1, .lload_n 0, 0, 0, 0), (25, 3, .ldc2_w 176, 4, 0, 0), (28, 1, .lcmp, 0, 0, 0), (29, 3, .ifCond .eq 43, 72, 0, 0), (32, 1, .lload_n 0, 0, 0, 0), (33, 3, .ldc2_w 178, 5, 0, 0), (36, 1, .lcmp, 0, 0, 0), (37, 3, .ifCond .eq 35, 72, 0, 0), (40, 1, .lload_n 0, 0, 0, 0), (41, 3, .ldc2_w 180, 6, 0, 0), (44, 1, .lcmp, 0, 0, 0), (45, 3, .ifCond .eq 27, 72, 0, 0), (48, 1, .lload_n 0, 0, 0, 0), (49, 3, .ldc2_w 182, 7, 0, 0), (52, 1, .lcmp, 0, 0, 0), (53, 3, .ifCond .eq 19, 72, 0, 0), (56, 1, .lload_n 0, 0, 0, 0), (57, 3, .ldc2_w 184, 8, 0, 0), (60, 1, .lcmp, 0, 0, 0), (61, 3, .ifCond .eq 11, 72, 0, 0), (64, 1, .lload_n 0, 0, 0, 0), (65, 3, .ldc2_w 186, 9, 0, 0), (68, 1, .lcmp, 0, 0, 0), (69, 3, .ifCond .ne 7, 76, 0, 0), (72, 1, .iconst 1, 1, 0, 0), (73, 3, .goto 4, 77, 0, 0), (76, 1, .iconst 0, 0, 0, 0), (77, 1, .istore_n 2, 2, 0, 0), (78, 1, .iload_n 2, 2, 0, 0), (79, 3, .ifCond .ne 75, 154, 0, 0), (82, 1, .lload_n 0, 0, 0, 0), (83, 3, .ldc2_w 188, 10, 0, 0), (86, 1, .lcmp, 0, 0, 0), (87, 3, .ifCond .eq 67, 154, 0, 0), (90, 1, .lload_n 0, 0, 0, 0), (91, 3, .ldc2_w 190, 11, 0, 0), (94, 1, .lcmp, 0, 0, 0), (95, 3, .ifCond .eq 59, 154, 0, 0), (98, 1, .lload_n 0, 0, 0, 0), (99, 3, .ldc2_w 192, 12, 0, 0), (102, 1, .lcmp, 0, 0, 0), (103, 3, .ifCond .eq 51, 154, 0, 0), (106, 1, .lload_n 0, 0, 0, 0), (107, 3, .ldc2_w 194, 13, 0, 0), (110, 1, .lcmp, 0, 0, 0), (111, 3, .ifCond .eq 43, 154, 0, 0), (114, 1, .lload_n 0, 0, 0, 0), (115, 3, .ldc2_w 196, 14, 0, 0), (118, 1, .lcmp, 0, 0, 0), (119, 3, .ifCond .eq 35, 154, 0, 0), (122, 1, .lload_n 0, 0, 0, 0), (123, 3, .ldc2_w 198, 15, 0, 0), (126, 1, .lcmp, 0, 0, 0), (127, 3, .ifCond .eq 27, 154, 0, 0), (130, 1, .lload_n 0, 0, 0, 0), (131, 3, .ldc2_w 200, 16, 0, 0), (134, 1, .lcmp, 0, 0, 0), (135, 3, .ifCond .eq 19, 154, 0, 0), (138, 1, .lload_n 0, 0, 0, 0), (139, 3, .ldc2_w 202, 17, 0, 0), (142, 1, .lcmp, 0, 0, 0), (143, 3, .ifCond .eq 11, 154, 0, 0), (146, 1, .lload_n 0, 0, 0, 0), (147, 3, .ldc2_w 204, 18, 0, 0), (150, 1, .lcmp, 0, 0, 0), (151, 3, .ifCond .ne 7, 158, 0, 0), (154, 1, .iconst 1, 1, 0, 0), (155, 3, .goto 4, 159, 0, 0), (158, 1, .iconst 0, 0, 0, 0), (159, 1, .ireturn, 1, 0, 0)]
def q_cd256 : List q_I := [(0, 1, .iload_n 0, 0, 0, 0), (1, 2, .bipush 97, 97, 0, 0), (3, 3, .if_icmp .lt 13, 16, 0, 0), (6, 1, .iload_n 0, 0, 0, 0), (7, 2, .bipush 122, 122, 0, 0), (9, 3, .if_icmp .gt 7, 16, 0, 0), (12, 1, .iconst 1, 1, 0, 0), (13, 3, .goto 4, 17, 0, 0), (16, 1, .iconst 0, 0, 0, 0), (17, 1, .ireturn, 1, 0, 0)]
def q_cd257 : List q_I := [(0, 1, .iload_n 0, 0, 0, 0), (1, 2, .bipush 59, 59, 0, 0), (3, 3, .if_icmp .eq 63, 66, 0, 0), (6, 1, .iload_n 0, 0, 0, 0), (7, 2, .bipush 40, 40, 0, 0), (9, 3, .if_icmp .eq 57, 66, 0, 0), (12, 1, .iload_n 0, 0, 0, 0), (13, 2, .bipush 41, 41, 0, 0), (15, 3, .if_icmp .eq 51, 66, 0, 0), (18, 1, .iload_n 0, 0, 0, 0), (19, 2, .bipush 60, 60, 0, 0), (21, 3, .if_icmp .eq 45, 66, 0, 0), (24, 1, .iload_n 0, 0, 0, 0), (25, 2, .bipush 62, 62, 0, 0), (27, 3, .if_icmp .eq 39, 66, 0, 0), (30, 1, .iload_n 0, 0, 0, 0), (31, 2, .bipush 61, 61, 0, 0), (33, 3, .if_icmp .eq 33, 66, 0, 0), (36, 1, .iload_n 0, 0, 0, 0), (37, 2, .bipush 43, 43, 0, 0), (39, 3, .if_icmp .eq 27, 66, 0, 0), (42, 1, .iload_n 0, 0, 0, 0), (43, 2, .bipush 45, 45, 0, 0), (45, 3, .if_icmp .eq 21, 66, 0, 0), (48, 1, .iload_n 0, 0, 0, 0), (49, 2, .bipush 42, 42, 0, 0), (51, 3, .if_icmp .eq 15, 66, 0, 0), (54, 1, .iload_n 0, 0, 0, 0), (55, 2, .bipush 47, 47, 0, 0), (57, 3, .if_icmp .eq 9, 66, 0, 0), (60, 1, .iload_n 0, 0, 0, 0), (61, 2, .bipush 37, 37, 0, 0), (63, 3, .if_icmp .ne 7, 70, 0, 0), (66, 1, .iconst 1, 1, 0, 0), (67, 3, .goto 4, 71, 0, 0), (70, 1, .iconst 0, 0, 0, 0), (71, 1, .ireturn, 1, 0, 0)]
def q_cd258 : List q_I := [(0, 1, .aload_n 0, 0, 0, 0), (1, 3, .getfield 216, 9, 8, 0), (4, 1, .iconst 5, 5, 0, 0), (5, 3, .if_icmp .ne 19, 24, 0, 0), (8, 1, .aload_n 0, 0, 0, 0), (9, 1, .aload_n 0, 0, 0, 0), (10, 3, .getfield 209, 9, 6, 0), (13, 3, .invokevirtual 212, 160, 2, 9), (16, 1, .iload_n 1, 1, 0, 0), (17, 3, .if_icmp .ne 7, 24, 0, 0), (20, 1, .iconst 1, 1, 0, 0), (21, 3, .goto 4, 25, 0, 0), (24, 1, .iconst 0, 0, 0, 0), (25, 1, .ireturn, 1, 0, 0)]
def q_cd259 : List q_I := [(0, 1, .aload_n 0, 0, 0, 0), (1, 3, .getfield 216, 9, 8, 0), (4, 1, .iconst 3, 3, 0, 0), (5, 3, .if_icmp .ne 16, 21, 0, 0), (8, 1, .aload_n 0, 0, 0, 0), (9, 3, .getfield 223, 9, 10, 3), (12, 1, .lload_n 1, 1, 0, 0), (13, 1, .lcmp, 0, 0, 0), (14, 3, .ifCond .ne 7, 21, 0, 0), (17, 1, .iconst 1, 1, 0, 0), (18, 3, .goto 4, 22, 0, 0), (21, 1, .iconst 0, 0, 0, 0), (22, 1, .ireturn, 1, 0, 0)]
def q_cd260 : List q_I := [(0, 1, .iconst 0, 0, 0, 0), (1, 1, .istore_n 1, 1, 0, 0), (2, 1, .iload_n 1, 1, 0, 0), (3, 3, .sipush 625, 625, 0, 0), (6, 3, .if_icmp .ge 33, 39, 0, 0), (9, 1, .aload_n 0, 0, 0, 0), (10, 3, .getfield 125, 9, 55, 2), (13, 1, .iload_n 1, 1, 0, 0), (14, 1, .iload_n 1, 1, 0, 0), (15, 2, .bipush 25, 25, 0, 0), (17, 1, .idiv, 0, 0, 0), (18, 1, .iload_n 1, 1, 0, 0), (19, 2, .bipush 25, 25, 0, 0), (21, 1, .irem, 0, 0, 0), (22, 3, .if_icmp .ne 7, 29, 0, 0), (25, 1, .iconst 0, 0, 0, 0), (26, 3, .goto 6, 32, 0, 0), (29, 3, .sipush 10000, 10000, 0, 0), (32, 1, .iastore, 0, 0, 0), (33, 3, .iinc 1 1, 1, 1, 0), (36, 3, .goto (-34), 2, 0, 0), (39, 1, .iconst 1, 1, 0, 0), (40, 1, .istore_n 1, 1, 0, 0), (41, 1, .iload_n 1, 1, 0, 0), (42, 3, .ifCond .eq 94, 136, 0, 0), (45, 1, .iconst 0, 0, 0, 0), (46, 1, .istore_n 1, 1, 0, 0), (47, 1, .iconst 0, 0, 0, 0), (48, 1, .istore_n 2, 2, 0, 0), (49, 1, .iload_n 2, 2, 0, 0), (50, 3, .sipush 625, 625, 0, 0), (53, 3, .if_icmp .ge 80, 133, 0, 0), (56, 1, .aload_n 0, 0, 0, 0), (57, 1, .iload_n 2, 2, 0, 0), (58, 2, .bipush 25, 25, 0, 0), (60, 1, .idiv, 0, 0, 0), (61, 3, .invokevirtual 406, 56, 2, 9), (64, 3, .ifCond .eq 63, 127, 0, 0), (67, 1, .aload_n 0, 0, 0, 0), (68, 1, .iload_n 2, 2, 0, 0), (69, 2, .bipush 25, 25, 0, 0), (71, 1, .irem, 0, 0, 0), (72, 3, .invokevirtual 406, 56, 2, 9), (75, 3, .ifCond .eq 52, 127, 0, 0), (78, 1, .iload_n 2, 2, 0, 0), (79, 2, .bipush 25, 25, 0, 0), (81, 1, .idiv, 0, 0, 0), (82, 1, .iload_n 2, 2, 0, 0), (83, 2, .bipush 25, 25, 0, 0), (85, 1, .irem, 0, 0, 0), (86, 3, .if_icmp .ne 6, 92, 0, 0), (89, 3, .goto 38, 127, 0, 0), (92, 1, .aload_n 0, 0, 0, 0), (93, 1, .iload_n 2, 2, 0, 0), (94, 2, .bipush 25, 25, 0, 0), (96, 1, .idiv, 0, 0, 0), (97, 1, .iload_n 2, 2, 0, 0), (98, 2, .bipush 25, 25, 0, 0), (100, 1, .irem, 0, 0, 0), (101, 3, .invokevirtual 466, 251, 3, 9), (104, 1, .istore_n 3, 3, 0, 0), (105, 1, .iload_n 3, 3, 0, 0), (106, 1, .aload_n 0, 0, 0, 0), (107, 3, .getfield 125, 9, 55, 2), (110, 1, .iload_n 2, 2, 0, 0), (111, 1, .iaload, 0, 0, 0), (112, 3, .if_icmp .lt 6, 118, 0, 0), (115, 3, .goto 12, 127, 0, 0), (118, 1, .aload_n 0, 0, 0, 0), (119, 3, .getfield 125, 9, 55, 2), (122, 1, .iload_n 2, 2, 0, 0), (123, 1, .iload_n 3, 3, 0, 0), (124, 1, .iastore, 0, 0, 0), (125, 1, .iconst 1, 1, 0, 0), (126, 1, .istore_n 1, 1, 0, 0), (127, 3, .iinc 2 1, 2, 1, 0), (130, 3, .goto (-81), 49, 0, 0), (133, 3, .goto (-92), 41, 0, 0), (136, 1, .return_, 0, 0, 0)]
def q_cd261 : List q_I := [(0, 1, .aload_n 0, 0, 0, 0), (1, 3, .getfield 51, 9, 21, 2), (4, 1, .iconst 5, 5, 0, 0), (5, 1, .aload_n 0, 0, 0, 0), (6, 3, .getfield 274, 9, 34, 0), (9, 1, .imul, 0, 0, 0), (10, 1, .iload_n 1, 1, 0, 0), (11, 1, .iadd, 0, 0, 0), (12, 1, .iaload, 0, 0, 0), (13, 1, .iload_n 2, 2, 0, 0), (14, 1, .isub, 0, 0, 0), (15, 1, .aload_n 0, 0, 0, 0), (16, 3, .getfield 54, 9, 22, 2), (19, 1, .iconst 5, 5, 0, 0), (20, 1, .aload_n 0, 0, 0, 0), (21, 3, .getfield 274, 9, 34, 0), (24, 1, .imul, 0, 0, 0), (25, 1, .iload_n 1, 1, 0, 0), (26, 1, .iadd, 0, 0, 0), (27, 1, .iaload, 0, 0, 0), (28, 1, .ineg, 0, 0, 0), (29, 1, .aload_n 0, 0, 0, 0), (30, 3, .getfield 54, 9, 22, 2), (33, 1, .iconst 5, 5, 0, 0), (34, 1, .aload_n 0, 0, 0, 0), (35, 3, .getfield 274, 9, 34, 0), (38, 1, .imul, 0, 0, 0), (39, 1, .iload_n 1, 1, 0, 0), (40, 1, .iadd, 0, 0, 0), (41, 1, .iaload, 0, 0, 0), (42, 3, .invokestatic 357, 12, 3, 0), (45, 1, .ireturn, 1, 0, 0)]
def q_cd262 : List q_I := [(0, 1, .aload_n 0, 0, 0, 0), (1, 1, .aload_n 0, 0, 0, 0), (2, 3, .getfield 216, 9, 8, 0), (5, 1, .iconst 1, 1, 0, 0), (6, 3, .if_icmp .ne 7, 13, 0, 0), (9, 1, .iconst 1, 1, 0, 0), (10, 3, .goto 4, 14, 0, 0), (13, 1, .iconst 2, 2, 0, 0), (14, 1, .aload_n 0, 0, 0, 0), (15, 3, .getfield 209, 9, 6, 0), (18, 3, .invokevirtual 240, 248, 3, 9), (21, 1, .return_, 0, 0, 0)]
def q_cd263 : List q_I := [(0, 1, .aload_n 0, 0, 0, 0), (1, 3, .invokevirtual 244, 116, 1, 9), (4, 3, .ifCond .ne 4, 8, 0, 0), (7, 1, .return_, 0, 0, 0), (8, 1, .iload_n 1, 1, 0, 0), (9, 3, .ifCond .eq 10, 19, 0, 0), (12, 1, .aload_n 0, 0, 0, 0), (13, 3, .invokevirtual 248, 159, 1, 9), (16, 3, .goto 7, 23, 0, 0), (19, 1, .aload_n 0, 0, 0, 0), (20, 3, .invokevirtual 251, 262, 1, 9), (23, 1, .return_, 0, 0, 0)]
def q_cd264 : List q_I := [(0, 1, .aload_n 0, 0, 0, 0), (1, 3, .invokevirtual 244, 116, 1, 9), (4, 3, .ifCond .ne 5, 9, 0, 0), (7, 1, .iload_n 1, 1, 0, 0), (8, 1, .ireturn, 0, 0, 0), (9, 1, .aload_n 0, 0, 0, 0), (10, 3, .getfield 216, 9, 8, 0), (13, 1, .iconst 4, 4, 0, 0), (14, 3, .if_icmp .eq 7, 21, 0, 0), (17, 1, .aload_n 0, 0, 0, 0), (18, 3, .invokevirtual 251, 262, 1, 9), (21, 1, .aload_n 0, 0, 0, 0), (22, 3, .invokevirtual 244, 116, 1, 9), (25, 3, .ifCond .eq 28, 53, 0, 0), (28, 1, .aload_n 0, 0, 0, 0), (29, 3, .getfield 234, 9, 9, 0), (32, 1, .iload_n 1, 1, 0, 0), (33, 3, .if_icmp .lt 11, 44, 0, 0), (36, 1, .aload_n 0, 0, 0, 0), (37, 3, .getfield 234, 9, 9, 0), (40, 1, .iload_n 2, 2, 0, 0), (41, 3, .if_icmp .le 12, 53, 0, 0), (44, 1, .aload_n 0, 0, 0, 0), (45, 1, .iconst 4, 4, 0, 0), (46, 1, .aload_n 0, 0, 0, 0), (47, 3, .getfield 209, 9, 6, 0), (50, 3, .invokevirtual 240, 248, 3, 9), (53, 1, .aload_n 0, 0, 0, 0), (54, 3, .getfield 234, 9, 9, 0), (57, 1, .istore_n 3, 3, 0, 0), (58, 1, .aload_n 0, 0, 0, 0), (59, 3, .invokevirtual 244, 116, 1, 9), (62, 3, .ifCond .eq 7, 69, 0, 0), (65, 1, .aload_n 0, 0, 0, 0), (66, 3, .invokevirtual 248, 159, 1, 9), (69, 1, .aload_n 0, 0, 0, 0), (70, 3, .invokevirtual 244, 116, 1, 9), (73, 3, .ifCond .eq 7, 80, 0, 0), (76, 1, .iload_n 3, 3, 0, 0), (77, 3, .goto 4, 81, 0, 0), (80, 1, .iload_n 1, 1, 0, 0), (81, 1, .ireturn, 0, 0, 0)]
def q_cd265 : List q_I := [(0, 1, .aload_n 0, 0, 0, 0), (1, 3, .getfield 83, 9, 31, 2), (4, 1, .aload_n 0, 0, 0, 0), (5, 3, .getfield 317, 9, 38, 0), (8, 1, .iload_n 1, 1, 0, 0), (9, 1, .iastore, 0, 0, 0), (10, 1, .aload_n 0, 0, 0, 0), (11, 3, .getfield 86, 9, 32, 2), (14, 1, .aload_n 0, 0, 0, 0), (15, 3, .getfield 317, 9, 38, 0), (18, 1, .iload_n 2, 2, 0, 0), (19, 1, .iastore, 0, 0, 0), (20, 1, .aload_n 0, 0, 0, 0), (21, 1, .dup, 0, 0, 0), (22, 3, .getfield 317, 9, 38, 0), (25, 1, .iconst 1, 1, 0, 0), (26, 1, .iadd, 0, 0, 0), (27, 3, .putfield 317, 9, 38, 0), (30, 1, .return_, 0, 0, 0)]
def q_cd266 : List q_I := [(0, 1, .aload_n 0, 0, 0, 0), (1, 3, .ldc2_w 202, 17, 0, 0), (4, 3, .invokevirtual 254, 259, 2, 9), (7, 3, .ifCond .eq 5, 12, 0, 0), (10, 1, .iconst 2, 2, 0, 0), (11, 1, .ireturn, 0, 0, 0), (12, 1, .aload_n 0, 0, 0, 0), (13, 3, .ldc2_w 200, 16, 0, 0), (16, 3, .invokevirtual 254, 259, 2, 9), (19, 3, .ifCond .eq 5, 24, 0, 0), (22, 1, .iconst 1, 1, 0, 0), (23, 1, .ireturn, 0, 0, 0), (24, 1, .aload_n 0, 0, 0, 0), (25, 2, .bipush 60, 60, 0, 0), (27, 3, .invokevirtual 297, 258, 2, 9), (30, 3, .ifCond .ne 21, 51, 0, 0), (33, 1, .aload_n 0, 0, 0, 0), (34, 2, .bipush 62, 62, 0, 0), (36, 3, .invokevirtual 297, 258, 2, 9), (39, 3, .ifCond .ne 12, 51, 0, 0), (42, 1, .aload_n 0, 0, 0, 0), (43, 2, .bipush 61, 61, 0, 0), (45, 3, .invokevirtual 297, 258, 2, 9), (48, 3, .ifCond .eq 5, 53, 0, 0), (51, 1, .iconst 4, 4, 0, 0), (52, 1, .ireturn, 0, 0, 0), (53, 1, .aload_n 0, 0, 0, 0), (54, 2, .bipush 43, 43, 0, 0), (56, 3, .invokevirtual 297, 258, 2, 9), (59, 3, .ifCond .ne 12, 71, 0, 0), (62, 1, .aload_n 0, 0, 0, 0), (63, 2, .bipush 45, 45, 0, 0), (65, 3, .invokevirtual 297, 258, 2, 9), (68, 3, .ifCond .eq 5, 73, 0, 0), (71, 1, .iconst 5, 5, 0, 0), (72, 1, .ireturn, 0, 0, 0), (73, 1, .aload_n 0, 0, 0, 0), (74, 2, .bipush 42, 42, 0, 0), (76, 3, .invokevirtual 297, 258, 2, 9), (79, 3, .ifCond .ne 21, 100, 0, 0), (82, 1, .aload_n 0, 0, 0, 0), (83, 2, .bipush 47, 47, 0, 0), (85, 3, .invokevirtual 297, 258, 2, 9), (88, 3, .ifCond .ne 12, 100, 0, 0), (91, 1, .aload_n 0, 0, 0, 0), (92, 2, .bipush 37, 37, 0, 0), (94, 3, .invokevirtual 297, 258, 2, 9), (97, 3, .ifCond .eq 8, 105, 0, 0), (100, 2, .bipush 6, 6, 0, 0), (102, 3, .goto 4, 106, 0, 0), (105, 1, .iconst 0, 0, 0, 0), (106, 1, .ireturn, 0, 0, 0)]
def q_cd267 : List q_I := [(0, 1, .aload_n 0, 0, 0, 0), (1, 1, .iconst 0, 0, 0, 0), (2, 1, .aload_n 0, 0, 0, 0), (3, 3, .getfield 20, 9, 11, 2), (6, 1, .aload_n 0, 0, 0, 0), (7, 3, .getfield 265, 9, 35, 0), (10, 1, .iaload, 0, 0, 0), (11, 1, .iconst 1, 1, 0, 0), (12, 1, .isub, 0, 0, 0), (13, 3, .invokevirtual 261, 264, 3, 9), (16, 1, .istore_n 2, 2, 0, 0), (17, 1, .aload_n 0, 0, 0, 0), (18, 3, .getfield 209, 9, 6, 0), (21, 1, .istore_n 3, 3, 0, 0), (22, 1, .aload_n 0, 0, 0, 0), (23, 1, .iconst 0, 0, 0, 0), (24, 1, .aload_n 0, 0, 0, 0), (25, 3, .getfield 24, 9, 12, 2), (28, 1, .aload_n 0, 0, 0, 0), (29, 3, .getfield 265, 9, 35, 0), (32, 1, .iaload, 0, 0, 0), (33, 1, .iconst 1, 1, 0, 0), (34, 1, .isub, 0, 0, 0), (35, 3, .invokevirtual 261, 264, 3, 9), (38, 2, .istore 4, 4, 0, 0), (40, 2, .iload 4, 4, 0, 0), (42, 1, .aload_n 0, 0, 0, 0), (43, 3, .getfield 20, 9, 11, 2), (46, 1, .aload_n 0, 0, 0, 0), (47, 3, .getfield 265, 9, 35, 0), (50, 1, .iaload, 0, 0, 0), (51, 1, .imul, 0, 0, 0), (52, 1, .iload_n 2, 2, 0, 0), (53, 1, .iadd, 0, 0, 0), (54, 2, .istore 5, 5, 0, 0), (56, 1, .aload_n 0, 0, 0, 0), (57, 3, .invokevirtual 244, 116, 1, 9), (60, 3, .ifCond .eq 18, 78, 0, 0), (63, 1, .iload_n 1, 1, 0, 0), (64, 2, .iload 5, 5, 0, 0), (66, 3, .invokestatic 300, 1, 2, 0), (69, 3, .ifCond .eq 9, 78, 0, 0), (72, 1, .aload_n 0, 0, 0, 0), (73, 1, .iconst 3, 3, 0, 0), (74, 1, .iload_n 3, 3, 0, 0), (75, 3, .invokevirtual 240, 248, 3, 9), (78, 2, .iload 5, 5, 0, 0), (80, 1, .ireturn, 0, 0, 0)]
def q_cd268 : List q_I := [(0, 1, .aload_n 0, 0, 0, 0), (1, 3, .getfield 33, 9, 15, 2), (4, 1, .aload_n 0, 0, 0, 0), (5, 3, .getfield 265, 9, 35, 0), (8, 1, .iaload, 0, 0, 0), (9, 1, .istore_n 1, 1, 0, 0), (10, 1, .iconst 0, 0, 0, 0), (11, 1, .istore_n 2, 2, 0, 0), (12, 1, .iload_n 2, 2, 0, 0), (13, 1, .aload_n 0, 0, 0, 0), (14, 3, .getfield 36, 9, 16, 2), (17, 1, .aload_n 0, 0, 0, 0), (18, 3, .getfield 265, 9, 35, 0), (21, 1, .iaload, 0, 0, 0), (22, 3, .if_icmp .ge 27, 49, 0, 0), (25, 1, .iload_n 1, 1, 0, 0), (26, 1, .iconst 1, 1, 0, 0), (27, 1, .aload_n 0, 0, 0, 0), (28, 3, .getfield 48, 9, 20, 2), (31, 1, .iconst 5, 5, 0, 0), (32, 1, .aload_n 0, 0, 0, 0), (33, 3, .getfield 265, 9, 35, 0), (36, 1, .imul, 0, 0, 0), (37, 1, .iload_n 2, 2, 0, 0), (38, 1, .iadd, 0, 0, 0), (39, 1, .iaload, 0, 0, 0), (40, 1, .ishl, 0, 0, 0), (41, 1, .ior, 0, 0, 0), (42, 1, .istore_n 1, 1, 0, 0), (43, 3, .iinc 2 1, 2, 1, 0), (46, 3, .goto (-34), 12, 0, 0), (49, 1, .aload_n 0, 0, 0, 0), (50, 1, .iload_n 1, 1, 0, 0), (51, 3, .invokevirtual 304, 267, 2, 9), (54, 1, .istore_n 2, 2, 0, 0), (55, 1, .aload_n 0, 0, 0, 0), (56, 3, .invokevirtual 244, 116, 1, 9), (59, 3, .ifCond .ne 4, 63, 0, 0), (62, 1, .return_, 0, 0, 0), (63, 1, .aload_n 0, 0, 0, 0), (64, 3, .getfield 33, 9, 15, 2), (67, 1, .aload_n 0, 0, 0, 0), (68, 3, .getfield 265, 9, 35, 0), (71, 1, .dup2, 0, 0, 0), (72, 1, .iaload, 0, 0, 0), (73, 1, .iconst 1, 1, 0, 0), (74, 1, .iload_n 2, 2, 0, 0), (75, 1, .ishl, 0, 0, 0), (76, 1, .ior, 0, 0, 0), (77, 1, .iastore, 0, 0, 0), (78, 1, .aload_n 0, 0, 0, 0), (79, 3, .getfield 30, 9, 14, 2), (82, 1, .aload_n 0, 0, 0, 0), (83, 3, .getfield 265, 9, 35, 0), (86, 1, .dup2, 0, 0, 0), (87, 1, .iaload, 0, 0, 0), (88, 1, .iconst 1, 1, 0, 0), (89, 1, .iadd, 0, 0, 0), (90, 1, .iastore, 0, 0, 0), (91, 1, .return_, 0, 0, 0)]
def q_cd269 : List q_I := [(0, 1, .aload_n 0, 0, 0, 0), (1, 3, .getfield 223, 9, 10, 3), (4, 1, .lstore_n 1, 1, 0, 0), (5, 1, .aload_n 0, 0, 0, 0), (6, 3, .getfield 216, 9, 8, 0), (9, 1, .iconst 3, 3, 0, 0), (10, 3, .if_icmp .ne 10, 20, 0, 0), (13, 1, .aload_n 0, 0, 0, 0), (14, 3, .invokevirtual 280, 254, 1, 9), (17, 3, .ifCond .eq 7, 24, 0, 0), (20, 1, .aload_n 0, 0, 0, 0), (21, 3, .invokevirtual 251, 262, 1, 9), (24, 1, .aload_n 0, 0, 0, 0), (25, 3, .invokevirtual 244, 116, 1, 9), (28, 3, .ifCond .ne 4, 32, 0, 0), (31, 1, .return_, 0, 0, 0), (32, 1, .aload_n 0, 0, 0, 0), (33, 3, .getfield 27, 9, 13, 2), (36, 1, .aload_n 0, 0, 0, 0), (37, 3, .getfield 265, 9, 35, 0), (40, 1, .dup2, 0, 0, 0), (41, 1, .iaload, 0, 0, 0), (42, 1, .iconst 1, 1, 0, 0), (43, 1, .iadd, 0, 0, 0), (44, 1, .iastore, 0, 0, 0), (45, 1, .aload_n 0, 0, 0, 0), (46, 3, .invokevirtual 248, 159, 1, 9), (49, 1, .lload_n 1, 1, 0, 0), (50, 3, .ldc2_w 170, 1, 0, 0), (53, 1, .lcmp, 0, 0, 0), (54, 3, .ifCond .ne 36, 90, 0, 0), (57, 1, .aload_n 0, 0, 0, 0), (58, 3, .getfield 20, 9, 11, 2), (61, 1, .aload_n 0, 0, 0, 0), (62, 3, .getfield 265, 9, 35, 0), (65, 1, .aload_n 0, 0, 0, 0), (66, 1, .iconst 2, 2, 0, 0), (67, 1, .iconst 5, 5, 0, 0), (68, 3, .invokevirtual 261, 264, 3, 9), (71, 1, .iastore, 0, 0, 0), (72, 1, .aload_n 0, 0, 0, 0), (73, 3, .getfield 24, 9, 12, 2), (76, 1, .aload_n 0, 0, 0, 0), (77, 3, .getfield 265, 9, 35, 0), (80, 1, .aload_n 0, 0, 0, 0), (81, 3, .ldc2_w 172, 2, 0, 0), (84, 1, .iconst 2, 2, 0, 0), (85, 1, .iconst 5, 5, 0, 0), (86, 3, .invokevirtual 283, 240, 4, 9), (89, 1, .iastore, 0, 0, 0), (90, 1, .lload_n 1, 1, 0, 0), (91, 3, .ldc2_w 174, 3, 0, 0), (94, 1, .lcmp, 0, 0, 0), (95, 3, .ifCond .ne 7, 102, 0, 0), (98, 1, .aload_n 0, 0, 0, 0), (99, 3, .invokevirtual 287, 268, 1, 9), (102, 1, .lload_n 1, 1, 0, 0), (103, 3, .ldc2_w 176, 4, 0, 0), (106, 1, .lcmp, 0, 0, 0), (107, 3, .ifCond .ne 7, 114, 0, 0), (110, 1, .aload_n 0, 0, 0, 0), (111, 3, .invokevirtual 290, 271, 1, 9), (114, 1, .lload_n 1, 1, 0, 0), (115, 3, .ldc2_w 184, 8, 0, 0), (118, 1, .lcmp, 0, 0, 0), (119, 3, .ifCond .ne 18, 137, 0, 0), (122, 1, .aload_n 0, 0, 0, 0), (123, 3, .getfield 63, 9, 25, 2), (126, 1, .aload_n 0, 0, 0, 0), (127, 3, .getfield 265, 9, 35, 0), (130, 1, .iconst 1, 1, 0, 0), (131, 1, .bastore, 0, 0, 0), (132, 1, .aload_n 0, 0, 0, 0), (133, 1, .iconst 0, 0, 0, 0), (134, 3, .invokevirtual 293, 270, 2, 9), (137, 1, .lload_n 1, 1, 0, 0), (138, 3, .ldc2_w 186, 9, 0, 0), (141, 1, .lcmp, 0, 0, 0), (142, 3, .ifCond .ne 29, 171, 0, 0), (145, 1, .aload_n 0, 0, 0, 0), (146, 3, .getfield 67, 9, 26, 2), (149, 1, .aload_n 0, 0, 0, 0), (150, 3, .getfield 265, 9, 35, 0), (153, 1, .iconst 1, 1, 0, 0), (154, 1, .bastore, 0, 0, 0), (155, 1, .aload_n 0, 0, 0, 0), (156, 3, .getfield 42, 9, 18, 2), (159, 1, .aload_n 0, 0, 0, 0), (160, 3, .getfield 265, 9, 35, 0), (163, 1, .aload_n 0, 0, 0, 0), (164, 1, .iconst 0, 0, 0, 0), (165, 2, .bipush 100, 100, 0, 0), (167, 3, .invokevirtual 261, 264, 3, 9), (170, 1, .iastore, 0, 0, 0), (171, 1, .lload_n 1, 1, 0, 0), (172, 3, .ldc2_w 188, 10, 0, 0), (175, 1, .lcmp, 0, 0, 0), (176, 3, .ifCond .ne 30, 206, 0, 0), (179, 1, .aload_n 0, 0, 0, 0), (180, 3, .getfield 70, 9, 27, 2), (183, 1, .aload_n 0, 0, 0, 0), (184, 3, .getfield 265, 9, 35, 0), (187, 1, .iconst 1, 1, 0, 0), (188, 1, .bastore, 0, 0, 0), (189, 1, .aload_n 0, 0, 0, 0), (190, 3, .getfield 45, 9, 19, 2), (193, 1, .aload_n 0, 0, 0, 0), (194, 3, .getfield 265, 9, 35, 0), (197, 1, .aload_n 0, 0, 0, 0), (198, 1, .iconst 0, 0, 0, 0), (199, 3, .sipush 999, 999, 0, 0), (202, 3, .invokevirtual 261, 264, 3, 9), (205, 1, .iastore, 0, 0, 0), (206, 1, .aload_n 0, 0, 0, 0), (207, 1, .aload_n 0, 0, 0, 0), (208, 2, .bipush 59, 59, 0, 0), (210, 3, .invokevirtual 297, 258, 2, 9), (213, 3, .invokevirtual 257, 263, 2, 9), (216, 1, .return_, 0, 0, 0)]
def q_cd270 : List q_I := [(0, 1, .aload_n 0, 0, 0, 0), (1, 1, .iconst 0, 0, 0, 0), (2, 3, .putfield 311, 9, 39, 0), (5, 1, .aload_n 0, 0, 0, 0), (6, 3, .getfield 57, 9, 23, 2), (9, 1, .aload_n 0, 0, 0, 0), (10, 3, .getfield 265, 9, 35, 0), (13, 1, .iload_n 1, 1, 0, 0), (14, 1, .iadd, 0, 0, 0), (15, 1, .aload_n 0, 0, 0, 0), (16, 3, .getfield 268, 9, 36, 0), (19, 1, .iastore, 0, 0, 0), (20, 1, .aload_n 0, 0, 0, 0), (21, 3, .invokevirtual 314, 245, 1, 9), (24, 1, .aload_n 0, 0, 0, 0), (25, 3, .getfield 60, 9, 24, 2), (28, 1, .aload_n 0, 0, 0, 0), (29, 3, .getfield 265, 9, 35, 0), (32, 1, .iload_n 1, 1, 0, 0), (33, 1, .iadd, 0, 0, 0), (34, 1, .aload_n 0, 0, 0, 0), (35, 3, .getfield 268, 9, 36, 0), (38, 1, .iastore, 0, 0, 0), (39, 1, .return_, 0, 0, 0)]
def q_cd271 : List q_I := [(0, 1, .iconst 5, 5, 0, 0), (1, 1, .aload_n 0, 0, 0, 0), (2, 3, .getfield 265, 9, 35, 0), (5, 1, .imul, 0, 0, 0), (6, 1, .aload_n 0, 0, 0, 0), (7, 3, .getfield 36, 9, 16, 2), (10, 1, .aload_n 0, 0, 0, 0), (11, 3, .getfield 265, 9, 35, 0), (14, 1, .iaload, 0, 0, 0), (15, 1, .iadd, 0, 0, 0), (16, 1, .istore_n 1, 1, 0, 0), (17, 1, .aload_n 0, 0, 0, 0), (18, 3, .getfield 216, 9, 8, 0), (21, 1, .iconst 2, 2, 0, 0), (22, 3, .if_icmp .eq 10, 32, 0, 0), (25, 1, .aload_n 0, 0, 0, 0), (26, 3, .invokevirtual 251, 262, 1, 9), (29, 3, .goto 19, 48, 0, 0), (32, 1, .aload_n 0, 0, 0, 0), (33, 3, .invokevirtual 307, 276, 1, 9), (36, 3, .ifCond .lt 12, 48, 0, 0), (39, 1, .aload_n 0, 0, 0, 0), (40, 1, .iconst 3, 3, 0, 0), (41, 1, .aload_n 0, 0, 0, 0), (42, 3, .getfield 209, 9, 6, 0), (45, 3, .invokevirtual 240, 248, 3, 9), (48, 1, .aload_n 0, 0, 0, 0), (49, 3, .invokevirtual 244, 116, 1, 9), (52, 3, .ifCond .ne 4, 56, 0, 0), (55, 1, .return_, 0, 0, 0), (56, 1, .aload_n 0, 0, 0, 0), (57, 3, .getfield 73, 9, 28, 2), (60, 1, .iload_n 1, 1, 0, 0), (61, 1, .aload_n 0, 0, 0, 0), (62, 3, .getfield 223, 9, 10, 3), (65, 1, .lastore, 0, 0, 0), (66, 1, .aload_n 0, 0, 0, 0), (67, 3, .invokevirtual 248, 159, 1, 9), (70, 1, .aload_n 0, 0, 0, 0), (71, 1, .aload_n 0, 0, 0, 0), (72, 3, .ldc2_w 178, 5, 0, 0), (75, 3, .invokevirtual 254, 259, 2, 9), (78, 3, .invokevirtual 257, 263, 2, 9), (81, 1, .aload_n 0, 0, 0, 0), (82, 3, .getfield 48, 9, 20, 2), (85, 1, .iload_n 1, 1, 0, 0), (86, 1, .aload_n 0, 0, 0, 0), (87, 1, .aload_n 0, 0, 0, 0), (88, 3, .getfield 33, 9, 15, 2), (91, 1, .aload_n 0, 0, 0, 0), (92, 3, .getfield 265, 9, 35, 0), (95, 1, .iaload, 0, 0, 0), (96, 3, .invokevirtual 304, 267, 2, 9), (99, 1, .iastore, 0, 0, 0), (100, 1, .aload_n 0, 0, 0, 0), (101, 3, .getfield 51, 9, 21, 2), (104, 1, .iload_n 1, 1, 0, 0), (105, 1, .aload_n 0, 0, 0, 0), (106, 3, .ldc2_w 180, 6, 0, 0), (109, 2, .bipush 10, 10, 0, 0), (111, 2, .bipush 99, 99, 0, 0), (113, 3, .invokevirtual 283, 240, 4, 9), (116, 1, .iastore, 0, 0, 0), (117, 1, .aload_n 0, 0, 0, 0), (118, 3, .getfield 54, 9, 22, 2), (121, 1, .iload_n 1, 1, 0, 0), (122, 1, .aload_n 0, 0, 0, 0), (123, 3, .invokevirtual 244, 116, 1, 9), (126, 3, .ifCond .eq 26, 152, 0, 0), (129, 1, .aload_n 0, 0, 0, 0), (130, 3, .ldc2_w 182, 7, 0, 0), (133, 3, .invokevirtual 254, 259, 2, 9), (136, 3, .ifCond .eq 16, 152, 0, 0), (139, 1, .aload_n 0, 0, 0, 0), (140, 3, .ldc2_w 182, 7, 0, 0), (143, 1, .iconst 0, 0, 0, 0), (144, 2, .bipush 9, 9, 0, 0), (146, 3, .invokevirtual 283, 240, 4, 9), (149, 3, .goto 4, 153, 0, 0), (152, 1, .iconst 0, 0, 0, 0), (153, 1, .iastore, 0, 0, 0), (154, 1, .aload_n 0, 0, 0, 0), (155, 3, .getfield 36, 9, 16, 2), (158, 1, .aload_n 0, 0, 0, 0), (159, 3, .getfield 265, 9, 35, 0), (162, 1, .dup2, 0, 0, 0), (163, 1, .iaload, 0, 0, 0), (164, 1, .iconst 1, 1, 0, 0), (165, 1, .iadd, 0, 0, 0), (166, 1, .iastore, 0, 0, 0), (167, 1, .return_, 0, 0, 0)]
def q_cd272 : List q_I := [(0, 1, .aload_n 0, 0, 0, 0), (1, 3, .getfield 92, 9, 41, 2), (4, 3, .sipush 135, 135, 0, 0), (7, 2, .bipush 60, 60, 0, 0), (9, 1, .iload_n 1, 1, 0, 0), (10, 1, .imul, 0, 0, 0), (11, 1, .iadd, 0, 0, 0), (12, 1, .iload_n 2, 2, 0, 0), (13, 1, .iadd, 0, 0, 0), (14, 1, .iaload, 0, 0, 0), (15, 1, .ireturn, 0, 0, 0)]
def q_cd273 : List q_I := [(0, 1, .iload_n 1, 1, 0, 0), (1, 1, .istore_n 3, 3, 0, 0), (2, 1, .aload_n 0, 0, 0, 0), (3, 3, .getfield 104, 9, 47, 2), (6, 1, .iconst 0, 0, 0, 0), (7, 1, .iload_n 1, 1, 0, 0), (8, 1, .iastore, 0, 0, 0), (9, 1, .aload_n 0, 0, 0, 0), (10, 1, .iconst 1, 1, 0, 0), (11, 3, .putfield 388, 9, 48, 0), (14, 1, .iload_n 3, 3, 0, 0), (15, 1, .iload_n 2, 2, 0, 0), (16, 3, .if_icmp .eq 90, 106, 0, 0), (19, 1, .iconst 0, 0, 0, 0), (20, 2, .istore 4, 4, 0, 0), (22, 1, .aload_n 0, 0, 0, 0), (23, 3, .getfield 33, 9, 15, 2), (26, 1, .aload_n 0, 0, 0, 0), (27, 3, .getfield 274, 9, 34, 0), (30, 1, .iaload, 0, 0, 0), (31, 2, .iload 4, 4, 0, 0), (33, 3, .invokestatic 300, 1, 2, 0), (36, 3, .ifCond .ne 38, 74, 0, 0), (39, 1, .aload_n 0, 0, 0, 0), (40, 1, .iload_n 3, 3, 0, 0), (41, 2, .iload 4, 4, 0, 0), (43, 3, .invokevirtual 409, 2, 3, 9), (46, 1, .iconst 1, 1, 0, 0), (47, 3, .if_icmp .ne 27, 74, 0, 0), (50, 1, .aload_n 0, 0, 0, 0), (51, 3, .getfield 98, 9, 45, 2), (54, 2, .iload 4, 4, 0, 0), (56, 1, .iaload, 0, 0, 0), (57, 1, .aload_n 0, 0, 0, 0), (58, 3, .getfield 101, 9, 46, 2), (61, 2, .iload 4, 4, 0, 0), (63, 1, .iaload, 0, 0, 0), (64, 1, .iadd, 0, 0, 0), (65, 1, .aload_n 0, 0, 0, 0), (66, 3, .getfield 98, 9, 45, 2), (69, 1, .iload_n 3, 3, 0, 0), (70, 1, .iaload, 0, 0, 0), (71, 3, .if_icmp .eq 9, 80, 0, 0), (74, 3, .iinc 4 1, 4, 1, 0), (77, 3, .goto (-55), 22, 0, 0), (80, 2, .iload 4, 4, 0, 0), (82, 1, .istore_n 3, 3, 0, 0), (83, 1, .aload_n 0, 0, 0, 0), (84, 3, .getfield 104, 9, 47, 2), (87, 1, .aload_n 0, 0, 0, 0), (88, 3, .getfield 388, 9, 48, 0), (91, 1, .iload_n 3, 3, 0, 0), (92, 1, .iastore, 0, 0, 0), (93, 1, .aload_n 0, 0, 0, 0), (94, 1, .dup, 0, 0, 0), (95, 3, .getfield 388, 9, 48, 0), (98, 1, .iconst 1, 1, 0, 0), (99, 1, .iadd, 0, 0, 0), (100, 3, .putfield 388, 9, 48, 0), (103, 3, .goto (-89), 14, 0, 0), (106, 1, .return_, 0, 0, 0)]
def q_cd274 : List q_I := [(0, 1, .iload_n 0, 0, 0, 0), (1, 119, .tableswitch 202 37 62 #[143, 188, 202, 202, 202, 127, 119, 202, 123, 202, 131, 202, 202, 202, 202, 202, 202, 202, 202, 202, 202, 202, 202, 155, 177, 166], 37, 62, 0), (120, 1, .iload_n 1, 1, 0, 0), (121, 1, .iload_n 2, 2, 0, 0), (122, 1, .iadd, 0, 0, 0), (123, 1, .ireturn, 0, 0, 0), (124, 1, .iload_n 1, 1, 0, 0), (125, 1, .iload_n 2, 2, 0, 0), (126, 1, .isub, 0, 0, 0), (127, 1, .ireturn, 0, 0, 0), (128, 1, .iload_n 1, 1, 0, 0), (129, 1, .iload_n 2, 2, 0, 0), (130, 1, .imul, 0, 0, 0), (131, 1, .ireturn, 0, 0, 0), (132, 1, .iload_n 2, 2, 0, 0), (133, 3, .ifCond .ne 7, 140, 0, 0), (136, 1, .iconst 0, 0, 0, 0), (137, 3, .goto 6, 143, 0, 0), (140, 1, .iload_n 1, 1, 0, 0), (141, 1, .iload_n 2, 2, 0, 0), (142, 1, .idiv, 0, 0, 0), (143, 1, .ireturn, 0, 0, 0), (144, 1, .iload_n 2, 2, 0, 0), (145, 3, .ifCond .ne 7, 152, 0, 0), (148, 1, .iconst 0, 0, 0, 0), (149, 3, .goto 6, 155, 0, 0), (152, 1, .iload_n 1, 1, 0, 0), (153, 1, .iload_n 2, 2, 0, 0), (154, 1, .irem, 0, 0, 0), (155, 1, .ireturn, 0, 0, 0), (156, 1, .iload_n 1, 1, 0, 0), (157, 1, .iload_n 2, 2, 0, 0), (158, 3, .if_icmp .ge 7, 165, 0, 0), (161, 1, .iconst 1, 1, 0, 0), (162, 3, .goto 4, 166, 0, 0), (165, 1, .iconst 0, 0, 0, 0), (166, 1, .ireturn, 0, 0, 0), (167, 1, .iload_n 1, 1, 0, 0), (168, 1, .iload_n 2, 2, 0, 0), (169, 3, .if_icmp .le 7, 176, 0, 0), (172, 1, .iconst 1, 1, 0, 0), (173, 3, .goto 4, 177, 0, 0), (176, 1, .iconst 0, 0, 0, 0), (177, 1, .ireturn, 0, 0, 0), (178, 1, .iload_n 1, 1, 0, 0), (179, 1, .iload_n 2, 2, 0, 0), (180, 3, .if_icmp .ne 7, 187, 0, 0), (183, 1, .iconst 1, 1, 0, 0), (184, 3, .goto 4, 188, 0, 0), (187, 1, .iconst 0, 0, 0, 0), (188, 1, .ireturn, 0, 0, 0), (189, 1, .iload_n 1, 1, 0, 0), (190, 3, .ifCond .eq 11, 201, 0, 0), (193, 1, .iload_n 2, 2, 0, 0), (194, 3, .ifCond .eq 7, 201, 0, 0), (197, 1, .iconst 1, 1, 0, 0), (198, 3, .goto 4, 202, 0, 0), (201, 1, .iconst 0, 0, 0, 0), (202, 1, .ireturn, 0, 0, 0), (203, 1, .iload_n 1, 1, 0, 0), (204, 3, .ifCond .ne 7, 211, 0, 0), (207, 1, .iload_n 2, 2, 0, 0), (208, 3, .ifCond .eq 7, 215, 0, 0), (211, 1, .iconst 1, 1, 0, 0), (212, 3, .goto 4, 216, 0, 0), (215, 1, .iconst 0, 0, 0, 0), (216, 1, .ireturn, 0, 0, 0)]
def q_cd275 : List q_I := [(0, 1, .aload_n 0, 0, 0, 0), (1, 3, .getfield 83, 9, 31, 2), (4, 1, .aload_n 0, 0, 0, 0), (5, 3, .getfield 317, 9, 38, 0), (8, 1, .iconst 1, 1, 0, 0), (9, 1, .isub, 0, 0, 0), (10, 1, .iaload, 0, 0, 0), (11, 1, .iconst 3, 3, 0, 0), (12, 3, .if_icmp .le 19, 31, 0, 0), (15, 1, .aload_n 0, 0, 0, 0), (16, 3, .getfield 83, 9, 31, 2), (19, 1, .aload_n 0, 0, 0, 0), (20, 3, .getfield 317, 9, 38, 0), (23, 1, .iconst 1, 1, 0, 0), (24, 1, .isub, 0, 0, 0), (25, 1, .iaload, 0, 0, 0), (26, 2, .bipush 7, 7, 0, 0), (28, 3, .if_icmp .lt 7, 35, 0, 0), (31, 1, .iconst 1, 1, 0, 0), (32, 3, .goto 4, 36, 0, 0), (35, 1, .iconst 0, 0, 0, 0), (36, 1, .istore_n 1, 1, 0, 0), (37, 1, .iload_n 1, 1, 0, 0), (38, 3, .ifCond .eq 17, 55, 0, 0), (41, 1, .aload_n 0, 0, 0, 0), (42, 3, .ldc2_w 204, 18, 0, 0), (45, 3, .invokevirtual 254, 259, 2, 9), (48, 3, .ifCond .eq 7, 55, 0, 0), (51, 1, .iconst 1, 1, 0, 0), (52, 3, .goto 4, 56, 0, 0), (55, 1, .iconst 0, 0, 0, 0), (56, 1, .istore_n 2, 2, 0, 0), (57, 1, .aload_n 0, 0, 0, 0), (58, 2, .bipush 40, 40, 0, 0), (60, 3, .invokevirtual 297, 258, 2, 9), (63, 1, .istore_n 3, 3, 0, 0), (64, 1, .aload_n 0, 0, 0, 0), (65, 3, .invokevirtual 332, 278, 1, 9), (68, 2, .istore 4, 4, 0, 0), (70, 1, .aload_n 0, 0, 0, 0), (71, 3, .getfield 39, 9, 17, 2), (74, 1, .aload_n 0, 0, 0, 0), (75, 3, .getfield 265, 9, 35, 0), (78, 1, .iaload, 0, 0, 0), (79, 2, .bipush 60, 60, 0, 0), (81, 3, .if_icmp .eq 12, 93, 0, 0), (84, 1, .aload_n 0, 0, 0, 0), (85, 3, .getfield 311, 9, 39, 0), (88, 2, .bipush 30, 30, 0, 0), (90, 3, .if_icmp .ne 7, 97, 0, 0), (93, 1, .iconst 1, 1, 0, 0), (94, 3, .goto 4, 98, 0, 0), (97, 1, .iconst 0, 0, 0, 0), (98, 2, .istore 5, 5, 0, 0), (100, 1, .iload_n 2, 2, 0, 0), (101, 3, .ifCond .ne 25, 126, 0, 0), (104, 2, .iload 4, 4, 0, 0), (106, 3, .ifCond .ne 15, 121, 0, 0), (109, 1, .aload_n 0, 0, 0, 0), (110, 3, .getfield 216, 9, 8, 0), (113, 1, .iconst 4, 4, 0, 0), (114, 3, .if_icmp .eq 7, 121, 0, 0), (117, 1, .iload_n 3, 3, 0, 0), (118, 3, .ifCond .eq 25, 143, 0, 0), (121, 2, .iload 5, 5, 0, 0), (123, 3, .ifCond .ne 20, 143, 0, 0), (126, 1, .iload_n 2, 2, 0, 0), (127, 3, .ifCond .ne 7, 134, 0, 0), (130, 1, .iload_n 3, 3, 0, 0), (131, 3, .ifCond .eq 16, 147, 0, 0), (134, 1, .aload_n 0, 0, 0, 0), (135, 3, .getfield 320, 9, 37, 0), (138, 2, .bipush 7, 7, 0, 0), (140, 3, .if_icmp .ne 7, 147, 0, 0), (143, 1, .aload_n 0, 0, 0, 0), (144, 3, .invokevirtual 251, 262, 1, 9), (147, 1, .aload_n 0, 0, 0, 0), (148, 3, .invokevirtual 244, 116, 1, 9), (151, 3, .ifCond .ne 5, 156, 0, 0), (154, 1, .iconst 1, 1, 0, 0), (155, 1, .ireturn, 1, 0, 0), (156, 1, .aload_n 0, 0, 0, 0), (157, 3, .getfield 39, 9, 17, 2), (160, 1, .aload_n 0, 0, 0, 0), (161, 3, .getfield 265, 9, 35, 0), (164, 1, .dup2, 0, 0, 0), (165, 1, .iaload, 0, 0, 0), (166, 1, .iload_n 2, 2, 0, 0), (167, 3, .ifCond .eq 7, 174, 0, 0), (170, 1, .iconst 0, 0, 0, 0), (171, 3, .goto 4, 175, 0, 0), (174, 1, .iconst 1, 1, 0, 0), (175, 1, .iadd, 0, 0, 0), (176, 1, .iastore, 0, 0, 0), (177, 1, .aload_n 0, 0, 0, 0), (178, 1, .dup, 0, 0, 0), (179, 3, .getfield 311, 9, 39, 0), (182, 1, .iload_n 2, 2, 0, 0), (183, 3, .ifCond .eq 7, 190, 0, 0), (186, 1, .iconst 0, 0, 0, 0), (187, 3, .goto 4, 191, 0, 0), (190, 1, .iconst 1, 1, 0, 0), (191, 1, .iadd, 0, 0, 0), (192, 3, .putfield 311, 9, 39, 0), (195, 2, .iload 4, 4, 0, 0), (197, 3, .ifCond .ne 10, 207, 0, 0), (200, 1, .aload_n 0, 0, 0, 0), (201, 3, .getfield 234, 9, 9, 0), (204, 3, .goto 4, 208, 0, 0), (207, 1, .iconst 0, 0, 0, 0), (208, 2, .istore 6, 6, 0, 0), (210, 1, .aload_n 0, 0, 0, 0), (211, 3, .invokevirtual 248, 159, 1, 9), (214, 1, .iload_n 2, 2, 0, 0), (215, 3, .ifCond .ne 7, 222, 0, 0), (218, 1, .iload_n 3, 3, 0, 0), (219, 3, .ifCond .eq 31, 250, 0, 0), (222, 1, .aload_n 0, 0, 0, 0), (223, 1, .iload_n 2, 2, 0, 0), (224, 3, .ifCond .eq 7, 231, 0, 0), (227, 1, .iconst 3, 3, 0, 0), (228, 3, .goto 5, 233, 0, 0), (231, 2, .bipush 7, 7, 0, 0), (233, 2, .bipush 126, 126, 0, 0), (235, 3, .invokevirtual 323, 265, 3, 9), (238, 1, .aload_n 0, 0, 0, 0), (239, 1, .dup, 0, 0, 0), (240, 3, .getfield 320, 9, 37, 0), (243, 1, .iconst 1, 1, 0, 0), (244, 1, .iadd, 0, 0, 0), (245, 3, .putfield 320, 9, 37, 0), (248, 1, .iconst 1, 1, 0, 0), (249, 1, .ireturn, 1, 0, 0), (250, 1, .aload_n 0, 0, 0, 0), (251, 2, .iload 4, 4, 0, 0), (253, 3, .ifCond .ne 8, 261, 0, 0), (256, 2, .bipush 110, 110, 0, 0), (258, 3, .goto 5, 263, 0, 0), (261, 2, .iload 4, 4, 0, 0), (263, 2, .iload 6, 6, 0, 0), (265, 3, .invokevirtual 335, 246, 3, 9), (268, 1, .iconst 0, 0, 0, 0), (269, 1, .ireturn, 1, 0, 0)]
def q_cd276 : List q_I := [(0, 1, .iconst 0, 0, 0, 0), (1, 1, .istore_n 1, 1, 0, 0), (2, 1, .iload_n 1, 1, 0, 0), (3, 1, .aload_n 0, 0, 0, 0), (4, 3, .getfield 36, 9, 16, 2), (7, 1, .aload_n 0, 0, 0, 0), (8, 3, .getfield 265, 9, 35, 0), (11, 1, .iaload, 0, 0, 0), (12, 3, .if_icmp .ge 40, 52, 0, 0), (15, 1, .aload_n 0, 0, 0, 0), (16, 3, .getfield 216, 9, 8, 0), (19, 1, .iconst 2, 2, 0, 0), (20, 3, .if_icmp .ne 26, 46, 0, 0), (23, 1, .aload_n 0, 0, 0, 0), (24, 3, .getfield 73, 9, 28, 2), (27, 1, .iconst 5, 5, 0, 0), (28, 1, .aload_n 0, 0, 0, 0), (29, 3, .getfield 265, 9, 35, 0), (32, 1, .imul, 0, 0, 0), (33, 1, .iload_n 1, 1, 0, 0), (34, 1, .iadd, 0, 0, 0), (35, 1, .laload, 0, 0, 0), (36, 1, .aload_n 0, 0, 0, 0), (37, 3, .getfield 223, 9, 10, 3), (40, 1, .lcmp, 0, 0, 0), (41, 3, .ifCond .ne 5, 46, 0, 0), (44, 1, .iload_n 1, 1, 0, 0), (45, 1, .ireturn, 0, 0, 0), (46, 3, .iinc 1 1, 1, 1, 0), (49, 3, .goto (-47), 2, 0, 0), (52, 1, .iconst (-1), 4294967295, 0, 0), (53, 1, .ireturn, 0, 0, 0)]
def q_cd277 : List q_I := [(0, 1, .iconst 0, 0, 0, 0), (1, 1, .istore_n 3, 3, 0, 0), (2, 1, .iconst 0, 0, 0, 0), (3, 2, .istore 4, 4, 0, 0), (5, 2, .iload 4, 4, 0, 0), (7, 1, .aload_n 0, 0, 0, 0), (8, 3, .invokevirtual 354, 11, 1, 9), (11, 3, .if_icmp .ge 42, 53, 0, 0), (14, 1, .iload_n 3, 3, 0, 0), (15, 1, .aload_n 0, 0, 0, 0), (16, 1, .iload_n 1, 1, 0, 0), (17, 1, .iload_n 2, 2, 0, 0), (18, 3, .invokevirtual 442, 272, 3, 9), (21, 3, .ifCond .lt 23, 44, 0, 0), (24, 1, .aload_n 0, 0, 0, 0), (25, 2, .iload 4, 4, 0, 0), (27, 1, .iload_n 2, 2, 0, 0), (28, 3, .invokevirtual 442, 272, 3, 9), (31, 1, .aload_n 0, 0, 0, 0), (32, 1, .iload_n 1, 1, 0, 0), (33, 1, .iload_n 2, 2, 0, 0), (34, 3, .invokevirtual 442, 272, 3, 9), (37, 3, .if_icmp .ne 7, 44, 0, 0), (40, 1, .iconst 1, 1, 0, 0), (41, 3, .goto 4, 45, 0, 0), (44, 1, .iconst 0, 0, 0, 0), (45, 1, .iadd, 0, 0, 0), (46, 1, .istore_n 3, 3, 0, 0), (47, 3, .iinc 4 1, 4, 1, 0), (50, 3, .goto (-45), 5, 0, 0), (53, 1, .iload_n 3, 3, 0, 0), (54, 1, .ireturn, 0, 0, 0)]
def q_cd278 : List q_I := [(0, 1, .aload_n 0, 0, 0, 0), (1, 3, .ldc2_w 190, 11, 0, 0), (4, 3, .invokevirtual 254, 259, 2, 9), (7, 3, .ifCond .eq 6, 13, 0, 0), (10, 2, .bipush 114, 114, 0, 0), (12, 1, .ireturn, 0, 0, 0), (13, 1, .aload_n 0, 0, 0, 0), (14, 3, .ldc2_w 192, 12, 0, 0), (17, 3, .invokevirtual 254, 259, 2, 9), (20, 3, .ifCond .eq 6, 26, 0, 0), (23, 2, .bipush 99, 99, 0, 0), (25, 1, .ireturn, 0, 0, 0), (26, 1, .aload_n 0, 0, 0, 0), (27, 3, .ldc2_w 194, 13, 0, 0), (30, 3, .invokevirtual 254, 259, 2, 9), (33, 3, .ifCond .eq 6, 39, 0, 0), (36, 2, .bipush 109, 109, 0, 0), (38, 1, .ireturn, 0, 0, 0), (39, 1, .aload_n 0, 0, 0, 0), (40, 3, .ldc2_w 196, 14, 0, 0), (43, 3, .invokevirtual 254, 259, 2, 9), (46, 3, .ifCond .eq 6, 52, 0, 0), (49, 2, .bipush 105, 105, 0, 0), (51, 1, .ireturn, 0, 0, 0), (52, 1, .aload_n 0, 0, 0, 0), (53, 3, .ldc2_w 198, 15, 0, 0), (56, 3, .invokevirtual 254, 259, 2, 9), (59, 3, .ifCond .eq 8, 67, 0, 0), (62, 2, .bipush 116, 116, 0, 0), (64, 3, .goto 4, 68, 0, 0), (67, 1, .iconst 0, 0, 0, 0), (68, 1, .ireturn, 0, 0, 0)]
def q_cd279 : List q_I := [(0, 1, .iload_n 0, 0, 0, 0), (1, 3, .ifCond .ge 8, 9, 0, 0), (4, 1, .iload_n 0, 0, 0, 0), (5, 1, .ineg, 0, 0, 0), (6, 3, .goto 4, 10, 0, 0), (9, 1, .iload_n 0, 0, 0, 0), (10, 1, .ireturn, 0, 0, 0)]
def q_cd280 : List q_I := [(0, 1, .iload_n 0, 0, 0, 0), (1, 1, .iload_n 1, 1, 0, 0), (2, 1, .irem, 0, 0, 0), (3, 1, .istore_n 2, 2, 0, 0), (4, 1, .iload_n 0, 0, 0, 0), (5, 1, .iload_n 1, 1, 0, 0), (6, 1, .ixor, 0, 0, 0), (7, 3, .ifCond .ge 11, 18, 0, 0), (10, 1, .iload_n 2, 2, 0, 0), (11, 3, .ifCond .eq 7, 18, 0, 0), (14, 1, .iload_n 2, 2, 0, 0), (15, 1, .iload_n 1, 1, 0, 0), (16, 1, .iadd, 0, 0, 0), (17, 1, .ireturn, 0, 0, 0), (18, 1, .iload_n 2, 2, 0, 0), (19, 1, .ireturn, 0, 0, 0)]
def q_tab : List (List (List q_I)) := [[q_cd0, q_cd1, q_cd2, q_cd3, q_cd4, q_cd5, q_cd6, q_cd7, q_cd8, q_cd9, q_cd10, q_cd11, q_cd12, q_cd13], [q_cd14, q_cd15, q_cd16, q_cd17, q_cd18, q_cd19, q_cd20, q_cd21, q_cd22, q_cd23, q_cd24, q_cd25, q_cd26, q_cd27], [q_cd28, q_cd29, q_cd30, q_cd31, q_cd32, q_cd33, q_cd34, q_cd35, q_cd36, q_cd37, q_cd38, q_cd39, q_cd40, q_cd41], [q_cd42, q_cd43, q_cd44, q_cd45, q_cd46, q_cd47, q_cd48, q_cd49, q_cd50, q_cd51, q_cd52, q_cd53, q_cd54, q_cd55], [q_cd56, q_cd57, q_cd58, q_cd59, q_cd60, q_cd61, q_cd62, q_cd63, q_cd64, q_cd65, q_cd66, q_cd67, q_cd68, q_cd69], [q_cd70, q_cd71, q_cd72, q_cd73, q_cd74, q_cd75, q_cd76, q_cd77, q_cd78, q_cd79, q_cd80, q_cd81, q_cd82, q_cd83], [q_cd84, q_cd85, q_cd86, q_cd87, q_cd88, q_cd89, q_cd90, q_cd91, q_cd92, q_cd93, q_cd94, q_cd95, q_cd96, q_cd97], [q_cd98, q_cd99, q_cd100, q_cd101, q_cd102, q_cd103, q_cd104, q_cd105, q_cd106, q_cd107, q_cd108, q_cd109, q_cd110, q_cd111], [q_cd112, q_cd113, q_cd114, q_cd115, q_cd116, q_cd117, q_cd118, q_cd119, q_cd120, q_cd121, q_cd122, q_cd123, q_cd124, q_cd125], [q_cd126, q_cd127, q_cd128, q_cd129, q_cd130, q_cd131, q_cd132, q_cd133, q_cd134, q_cd135, q_cd136, q_cd137, q_cd138, q_cd139], [q_cd140, q_cd141, q_cd142, q_cd143, q_cd144, q_cd145, q_cd146, q_cd147, q_cd148, q_cd149, q_cd150, q_cd151, q_cd152, q_cd153], [q_cd154, q_cd155, q_cd156, q_cd157, q_cd158, q_cd159, q_cd160, q_cd161, q_cd162, q_cd163, q_cd164, q_cd165, q_cd166, q_cd167], [q_cd168, q_cd169, q_cd170, q_cd171, q_cd172, q_cd173, q_cd174, q_cd175, q_cd176, q_cd177, q_cd178, q_cd179, q_cd180, q_cd181], [q_cd182, q_cd183, q_cd184, q_cd185, q_cd186, q_cd187, q_cd188, q_cd189, q_cd190, q_cd191, q_cd192, q_cd193, q_cd194, q_cd195], [q_cd196, q_cd197, q_cd198, q_cd199, q_cd200, q_cd201, q_cd202, q_cd203, q_cd204, q_cd205, q_cd206, q_cd207, q_cd208, q_cd209], [q_cd210, q_cd211, q_cd212, q_cd213, q_cd214, q_cd215, q_cd216, q_cd217, q_cd218, q_cd219, q_cd220, q_cd221, q_cd222, q_cd223], [q_cd224, q_cd225, q_cd226, q_cd227, q_cd228, q_cd229, q_cd230, q_cd231, q_cd232, q_cd233, q_cd234, q_cd235, q_cd236, q_cd237], [q_cd238, q_cd239, q_cd240, q_cd241, q_cd242, q_cd243, q_cd244, q_cd245, q_cd246, q_cd247, q_cd248, q_cd249, q_cd250, q_cd251], [q_cd252, q_cd253, q_cd254, q_cd255, q_cd256, q_cd257, q_cd258, q_cd259, q_cd260, q_cd261, q_cd262, q_cd263, q_cd264, q_cd265], [q_cd266, q_cd267, q_cd268, q_cd269, q_cd270, q_cd271, q_cd272, q_cd273, q_cd274, q_cd275, q_cd276, q_cd277, q_cd278, q_cd279], [q_cd280]]
noncomputable def q_code (i : Nat) : List q_I := q_ll q_tab [] i
end
section
/-! ===== what packed numbers and trees of cells give back ===== -/
theorem q_get_eq (N j : Nat) : q_get N j = (N >>> (34 * j)) % 2 ^ 34 := rfl
theorem q_get_lt (N j : Nat) : q_get N j < 2 ^ 34 := by rw [q_get_eq]; exact Nat.mod_lt _ (by decide)
theorem q_set_eq (N j v : Nat) : q_set N j v = N ^^^ ((q_get N j ^^^ v) <<< (34 * j)) := rfl
theorem q_get_set (N j v i : Nat) (hv : v < 2 ^ 34) : q_get (q_set N j v) i = if i = j then v else q_get N i := by
  have hg : q_get N j ^^^ v < 2 ^ 34 := Nat.xor_lt_two_pow (q_get_lt N j) hv
  apply Nat.eq_of_testBit_eq
  intro b
  rw [q_get_eq, q_set_eq, Nat.testBit_mod_two_pow, Nat.testBit_shiftRight, Nat.testBit_xor, Nat.testBit_shiftLeft]
  by_cases hb : b < 34
  · by_cases hij : i = j
    · subst hij
      rw [if_pos rfl]
      have e : 34 * i + b - 34 * i = b := by omega
      have e2 : 34 * i ≤ 34 * i + b := by omega
      rw [e, Nat.testBit_xor, q_get_eq, Nat.testBit_mod_two_pow, Nat.testBit_shiftRight]
      simp [hb]
    · rw [if_neg hij, q_get_eq N i, Nat.testBit_mod_two_pow, Nat.testBit_shiftRight]
      rcases Nat.lt_or_gt_of_ne hij with h | h
      · have : ¬ 34 * i + b ≥ 34 * j := by omega
        simp [this]
      · have : 2 ^ 34 ≤ 2 ^ (34 * i + b - 34 * j) := Nat.pow_le_pow_right (by decide) (by omega)
        rw [Nat.testBit_lt_two_pow (Nat.lt_of_lt_of_le hg this)]
        simp
  · have h1 : (if i = j then v else q_get N i) < 2 ^ b := by
      have : 2 ^ 34 ≤ 2 ^ b := Nat.pow_le_pow_right (by decide) (by omega)
      split
      · omega
      · have := q_get_lt N i; omega
    rw [Nat.testBit_lt_two_pow h1]
    simp [hb]
theorem q_pk_cons (a : Nat) (l : List Nat) : q_pk (a :: l) = (a + 1) + (q_pk l) <<< 34 := rfl
theorem q_get_0 (j : Nat) : q_get 0 j = 0 := by rw [q_get_eq, Nat.zero_shiftRight]; try rfl
theorem q_pk_get : ∀ (l : List Nat) (_ : ∀ a ∈ l, a + 1 < 2 ^ 34) (j : Nat), q_get (q_pk l) j = (match l[j]? with | some a => a + 1 | none => 0)
  | [], _, j => by
    show q_get 0 j = _
    rw [q_get_0]; simp
  | a :: l, h, 0 => by
    have ha := h a List.mem_cons_self
    rw [q_pk_cons, q_get_eq]
    simp only [Nat.mul_zero, Nat.shiftRight_zero, List.getElem?_cons_zero]
    rw [Nat.shiftLeft_eq, Nat.add_mul_mod_self_right, Nat.mod_eq_of_lt ha]
  | a :: l, h, j + 1 => by
    have ha := h a List.mem_cons_self
    have ih := q_pk_get l (fun x hx => h x (List.mem_cons_of_mem _ hx)) j
    rw [List.getElem?_cons_succ, ← ih, q_pk_cons, q_get_eq, q_get_eq]
    have e : 34 * (j + 1) = 34 + 34 * j := by omega
    rw [e, Nat.shiftRight_add]
    have e2 : ((a + 1) + (q_pk l) <<< 34) >>> 34 = q_pk l := by
      rw [Nat.shiftRight_eq_div_pow, Nat.shiftLeft_eq, Nat.add_mul_div_right _ _ (by decide), Nat.div_eq_of_lt ha, Nat.zero_add]
    rw [e2]
theorem q_tg_0 (n : Nat) (t : q_T (n + 1)) (j : Nat) (h : Nat.beq (Nat.mod j 2) 0 = true) : q_tg (n + 1) t j = q_tg n (Prod.fst (α := q_T n) (β := q_T n) t) (j / 2) := by
  show Bool.rec (motive := fun _ => q_C) (q_tg n (Prod.snd (α := q_T n) (β := q_T n) t) (Nat.div j 2)) (q_tg n (Prod.fst (α := q_T n) (β := q_T n) t) (Nat.div j 2)) (Nat.beq (Nat.mod j 2) 0) = _
  rw [h]; rfl
theorem q_tg_1 (n : Nat) (t : q_T (n + 1)) (j : Nat) (h : Nat.beq (Nat.mod j 2) 0 = false) : q_tg (n + 1) t j = q_tg n (Prod.snd (α := q_T n) (β := q_T n) t) (j / 2) := by
  show Bool.rec (motive := fun _ => q_C) (q_tg n (Prod.snd (α := q_T n) (β := q_T n) t) (Nat.div j 2)) (q_tg n (Prod.fst (α := q_T n) (β := q_T n) t) (Nat.div j 2)) (Nat.beq (Nat.mod j 2) 0) = _
  rw [h]; rfl
theorem q_ts_0 (n : Nat) (t : q_T (n + 1)) (j : Nat) (c : q_C) (h : Nat.beq (Nat.mod j 2) 0 = true) : q_ts (n + 1) t j c = ((q_ts n (Prod.fst (α := q_T n) (β := q_T n) t) (j / 2) c, Prod.snd (α := q_T n) (β := q_T n) t) : q_T n × q_T n) := by
  show Bool.rec (motive := fun _ => q_T (n + 1)) ((Prod.fst (α := q_T n) (β := q_T n) t, q_ts n (Prod.snd (α := q_T n) (β := q_T n) t) (Nat.div j 2) c) : q_T n × q_T n) ((q_ts n (Prod.fst (α := q_T n) (β := q_T n) t) (Nat.div j 2) c, Prod.snd (α := q_T n) (β := q_T n) t) : q_T n × q_T n) (Nat.beq (Nat.mod j 2) 0) = _
  rw [h]; rfl
theorem q_ts_1 (n : Nat) (t : q_T (n + 1)) (j : Nat) (c : q_C) (h : Nat.beq (Nat.mod j 2) 0 = false) : q_ts (n + 1) t j c = ((Prod.fst (α := q_T n) (β := q_T n) t, q_ts n (Prod.snd (α := q_T n) (β := q_T n) t) (j / 2) c) : q_T n × q_T n) := by
  show Bool.rec (motive := fun _ => q_T (n + 1)) ((Prod.fst (α := q_T n) (β := q_T n) t, q_ts n (Prod.snd (α := q_T n) (β := q_T n) t) (Nat.div j 2) c) : q_T n × q_T n) ((q_ts n (Prod.fst (α := q_T n) (β := q_T n) t) (Nat.div j 2) c, Prod.snd (α := q_T n) (β := q_T n) t) : q_T n × q_T n) (Nat.beq (Nat.mod j 2) 0) = _
  rw [h]; rfl
theorem q_ev (j : Nat) : (Nat.beq (Nat.mod j 2) 0 = true ∧ j % 2 = 0) ∨ (Nat.beq (Nat.mod j 2) 0 = false ∧ j % 2 = 1) := by
  rcases Nat.mod_two_eq_zero_or_one j with h | h
  · exact Or.inl ⟨by show Nat.beq (j % 2) 0 = true; rw [h]; rfl, h⟩
  · exact Or.inr ⟨by show Nat.beq (j % 2) 0 = false; rw [h]; rfl, h⟩
theorem q_ifc {α : Type} {p q : Prop} [Decidable p] [Decidable q] (h : p ↔ q) (a b : α) : (if p then a else b) = if q then a else b := by
  by_cases hp : p
  · rw [if_pos hp, if_pos (h.mp hp)]
  · rw [if_neg hp, if_neg (fun x => hp (h.mpr x))]
theorem q_tg_ts : ∀ (n : Nat) (t : q_T n) (k j : Nat) (c : q_C), k < 2 ^ n → j < 2 ^ n → q_tg n (q_ts n t k c) j = if j = k then c else q_tg n t j
  | 0, t, k, j, c, hk, hj => by
    have e1 : k = 0 := by simpa using hk
    have e2 : j = 0 := by simpa using hj
    subst e1; subst e2
    rfl
  | n + 1, t, k, j, c, hk, hj => by
    have hk2 : k / 2 < 2 ^ n := by rw [Nat.pow_succ] at hk; omega
    have hj2 : j / 2 < 2 ^ n := by rw [Nat.pow_succ] at hj; omega
    have ih1 := q_tg_ts n (Prod.fst (α := q_T n) (β := q_T n) t) (k / 2) (j / 2) c hk2 hj2
    have ih2 := q_tg_ts n (Prod.snd (α := q_T n) (β := q_T n) t) (k / 2) (j / 2) c hk2 hj2
    rcases q_ev k with ⟨hk0, hkm⟩ | ⟨hk0, hkm⟩ <;> rcases q_ev j with ⟨hj0, hjm⟩ | ⟨hj0, hjm⟩
    · refine (congrArg (fun u => q_tg (n + 1) u j) (q_ts_0 n t k c hk0)).trans ((q_tg_0 n _ j hj0).trans (ih1.trans ((q_ifc (by omega) _ _).trans (congrArg (fun u => if j = k then c else u) (q_tg_0 n t j hj0).symm))))
    · refine (congrArg (fun u => q_tg (n + 1) u j) (q_ts_0 n t k c hk0)).trans ((q_tg_1 n _ j hj0).trans ((q_tg_1 n t j hj0).symm.trans (if_neg (by omega)).symm))
    · refine (congrArg (fun u => q_tg (n + 1) u j) (q_ts_1 n t k c hk0)).trans ((q_tg_0 n _ j hj0).trans ((q_tg_0 n t j hj0).symm.trans (if_neg (by omega)).symm))
    · refine (congrArg (fun u => q_tg (n + 1) u j) (q_ts_1 n t k c hk0)).trans ((q_tg_1 n _ j hj0).trans (ih2.trans ((q_ifc (by omega) _ _).trans (congrArg (fun u => if j = k then c else u) (q_tg_1 n t j hj0).symm))))
/-- how many fields and elements the first n cells have -/
noncomputable def q_s1 (t : q_T 7) (n : Nat) : Nat := Nat.rec 0 (fun k ih => ih + (q_tg 7 t k).2.1) n
noncomputable def q_ss (h : q_H) : Nat := q_s1 h.2 h.1
theorem q_s1_cong {t u : q_T 7} : ∀ {n : Nat}, (∀ k, k < n → (q_tg 7 t k).2.1 = (q_tg 7 u k).2.1) → q_s1 t n = q_s1 u n
  | 0, _ => rfl
  | n + 1, h => by
    show q_s1 t n + (q_tg 7 t n).2.1 = q_s1 u n + (q_tg 7 u n).2.1
    rw [q_s1_cong (n := n) (fun k hk => h k (by omega)), h n (by omega)]
theorem q_fr_eq {α : Type} (n : Nat) (k : Nat → α) : q_fr n k = k n := by cases n <;> rfl
theorem q_len_eq {α : Type} : ∀ (l : List α), q_len l = l.length
  | [] => rfl
  | a :: l => by show Nat.succ (q_len l) = _; rw [q_len_eq l]; rfl
theorem q_nth_eq {α : Type} : ∀ (l : List α) (d : α) (k : Nat), q_nth l d k = l.getD k d
  | [], d, k => by simp [q_nth]
  | a :: l, d, 0 => by show a = _; simp
  | a :: l, d, k + 1 => by show q_nth l d k = _; rw [q_nth_eq l d k]; simp
end
section
/-! ===== ints by their bits, biased ===== -/
def q_qb (x : Int32) : Nat := (x.toInt + 2147483648).toNat
theorem q_bv (n : Nat) : (nI n).toBitVec = BitVec.ofNat 32 n := rfl
theorem q_nw_ (n : Nat) : nI (n % 4294967296) = nI n := by
  apply Int32.toBitVec_inj.mp
  rw [q_bv, q_bv]
  apply BitVec.eq_of_toNat_eq
  simp
theorem q_nI_w (n : Nat) : nI (q_w n) = nI n := q_nw_ n
theorem q_toInt {c : Nat} (h : c ≤ 4294967295) : (nI c).toInt = if c < 2147483648 then (c : Int) else (c : Int) - 4294967296 := by
  show (nI c).toBitVec.toInt = _
  rw [q_bv, BitVec.toInt_eq_toNat_cond, BitVec.toNat_ofNat, Nat.mod_eq_of_lt (by omega)]
  split <;> split <;> omega
theorem q_qb_nI {c : Nat} (h : c ≤ 4294967295) : q_qb (nI c) = q_bi c := by
  unfold q_qb
  rw [q_toInt h]
  show _ = (c + 2147483648) % 4294967296
  split <;> omega
theorem q_rng (x : Int32) : -2147483648 ≤ x.toInt ∧ x.toInt < 2147483648 := by
  have h1 := Int32.le_toInt x
  have h2 := Int32.toInt_lt x
  omega
theorem q_qb_hi (x : Int32) : q_qb x ≤ 4294967295 := by
  unfold q_qb
  have := q_rng x
  omega
theorem q_lt_iff (x y : Int32) : x < y ↔ q_qb x < q_qb y := by
  rw [Int32.lt_iff_toInt_lt]
  unfold q_qb
  have := q_rng x
  have := q_rng y
  omega
theorem q_le_iff (x y : Int32) : x ≤ y ↔ q_qb x ≤ q_qb y := by
  rw [Int32.le_iff_toInt_le]
  unfold q_qb
  have := q_rng x
  have := q_rng y
  omega
theorem q_eq_iff (x y : Int32) : x = y ↔ q_qb x = q_qb y := by
  rw [← Int32.toInt_inj]
  unfold q_qb
  have := q_rng x
  have := q_rng y
  omega
theorem q_sub (a b : Nat) (hb : b ≤ 4294967296) : nI a - nI b = nI (a + 4294967296 - b) := by
  have h : nI (a + 4294967296 - b) + nI b = nI a := by
    rw [nI_add, ← q_nw_, Nat.sub_add_cancel (by omega), Nat.add_mod_right, q_nw_]
  rw [← h]
  apply Int32.toBitVec_inj.mp
  rw [Int32.toBitVec_sub, Int32.toBitVec_add, BitVec.add_sub_cancel]
theorem q_neg (a : Nat) (ha : a ≤ 4294967295) : - nI a = nI (4294967296 - a) := by
  have h := q_sub 0 a (by omega)
  rw [nI_0] at h
  rw [← Int32.zero_sub, h]
  first | done | (congr 1; omega)
theorem q_and (a b : Nat) : nI a &&& nI b = nI (a &&& b) := by
  apply Int32.toBitVec_inj.mp
  rw [Int32.toBitVec_and, q_bv, q_bv, q_bv]
  apply BitVec.eq_of_toNat_eq
  simp [BitVec.toNat_and, BitVec.toNat_ofNat, ← Nat.and_mod_two_pow]
theorem q_or (a b : Nat) : nI a ||| nI b = nI (a ||| b) := by
  apply Int32.toBitVec_inj.mp
  rw [Int32.toBitVec_or, q_bv, q_bv, q_bv]
  apply BitVec.eq_of_toNat_eq
  simp [BitVec.toNat_or, BitVec.toNat_ofNat, ← Nat.or_mod_two_pow]
theorem q_xor (a b : Nat) : nI a ^^^ nI b = nI (a ^^^ b) := by
  apply Int32.toBitVec_inj.mp
  rw [Int32.toBitVec_xor, q_bv, q_bv, q_bv]
  apply BitVec.eq_of_toNat_eq
  simp [BitVec.toNat_xor, BitVec.toNat_ofNat, ← Nat.xor_mod_two_pow]
theorem q_bits {x : Int32} {n : Nat} (h : x.toBitVec.toNat = n % 4294967296) : x = nI n := by
  apply Int32.toBitVec_inj.mp
  rw [q_bv]
  apply BitVec.eq_of_toNat_eq
  rw [h, BitVec.toNat_ofNat]
theorem q_nIn {n : Nat} : (nI n).toBitVec.toNat = n % 4294967296 := by rw [q_bv, BitVec.toNat_ofNat]
theorem q_smod : ∀ b : Nat, b < 32 → ((nI b).toBitVec.smod 32).toNat = b := by decide +kernel
theorem q_umod : ∀ b : Nat, b < 32 → (((nI b).toUInt32 &&& Int32.toUInt32 31).toBitVec % 32).toNat = b := by decide +kernel
theorem q_shl (a b : Nat) (hb : b < 32) : nI a <<< nI b = nI (a <<< b) := by
  apply q_bits
  rw [pk_shl _ _ b (q_smod b hb), q_nIn, Nat.shiftLeft_eq, Nat.mod_mul_mod]
theorem q_ushr (a b : Nat) (ha : a ≤ 4294967295) (hb : b < 32) : ((nI a).toUInt32 >>> ((nI b).toUInt32 &&& Int32.toUInt32 31)).toInt32 = nI (a >>> b) := by
  apply q_bits
  rw [pk_ushr _ _ b (q_umod b hb), q_nIn, Nat.mod_eq_of_lt (by omega), Nat.shiftRight_eq_div_pow, Nat.mod_eq_of_lt]
  exact Nat.lt_of_le_of_lt (Nat.div_le_self _ _) (by omega)
theorem q_shr_neg (a b p k : Nat) (hpk : p * k = 4294967296) (hp : 0 < p) (ha : a ≤ 4294967295) (h : 2147483648 ≤ a) : ((a : Int) - 4294967296) / (p : Int) = (a / p : Nat) - (k : Int) ∧ a / p < k ∧ k ≤ 2 * (a / p) + 1 ∧ 1 ≤ k ∧ k ≤ 4294967296 := by
  have hr : a % p < p := Nat.mod_lt _ hp
  have hd : p * (a / p) + a % p = a := Nat.div_add_mod a p
  generalize a / p = d at hd ⊢
  generalize a % p = r at hd hr
  have hdk : d < k := by
    rcases Nat.lt_or_ge d k with g | g
    · exact g
    · have := Nat.mul_le_mul_left p g
      omega
  have hk2 : k ≤ 2 * d + 1 := by
    rcases Nat.lt_or_ge (2 * d + 1) k with g | g
    · have h1 := Nat.mul_le_mul_left p (show 2 * d + 2 ≤ k from g)
      have h2 : p * (2 * d + 2) = 2 * (p * d) + 2 * p := by rw [Nat.mul_add, Nat.mul_left_comm, Nat.mul_comm p 2]
      omega
    · exact g
  have hk3 : k ≤ 4294967296 := by
    have := Nat.le_mul_of_pos_left k hp
    omega
  refine ⟨?_, hdk, hk2, by omega, hk3⟩
  have e1 : (a : Int) - 4294967296 = (r : Int) + (p : Int) * ((d : Int) - (k : Int)) := by
    have z1 : (p : Int) * (k : Int) = 4294967296 := by
      have h9 : ((p * k : Nat) : Int) = 4294967296 := by omega
      rw [Int.natCast_mul] at h9
      exact h9
    have z2 : (p : Int) * (d : Int) + (r : Int) = (a : Int) := by
      have h9 : ((p * d + r : Nat) : Int) = (a : Int) := by rw [hd]
      rw [Int.natCast_add, Int.natCast_mul] at h9
      exact h9
    rw [Int.mul_sub, z1, ← z2]
    omega
  rw [e1, Int.add_mul_ediv_left _ _ (by omega), Int.ediv_eq_zero_of_lt (by omega) (by omega)]
  omega
theorem q_shr (a b : Nat) (ha : a ≤ 4294967295) (hb : b < 32) : nI a >>> nI b = nI (bif Nat.ble a 2147483647 then Nat.shiftRight a b else Nat.sub (Nat.add (Nat.shiftRight a b) 4294967296) (Nat.pow 2 (Nat.sub 32 b))) := by
  by_cases h : a ≤ 2147483647
  · have e : Nat.ble a 2147483647 = true := Nat.ble_eq_true_of_le h
    rw [e]
    show nI a >>> nI b = nI (a >>> b)
    rw [pk_shrN (by omega) _ b (q_smod b hb), Nat.shiftRight_eq_div_pow]
  · have e : Nat.ble a 2147483647 = false := by
      cases hh : Nat.ble a 2147483647 with
      | false => rfl
      | true => exact absurd (Nat.le_of_ble_eq_true hh) h
    rw [e]
    show nI a >>> nI b = nI (a >>> b + 4294967296 - 2 ^ (32 - b))
    obtain ⟨h1, h2, h3, h4, h5⟩ := q_shr_neg a b (2 ^ b) (2 ^ (32 - b)) (by rw [← Nat.pow_add, show b + (32 - b) = 32 by omega]) (Nat.pow_pos (by decide)) ha (by omega)
    apply Int32.toInt_inj.mp
    rw [pk_shr _ _ b (q_smod b hb), q_toInt ha, if_neg (by omega), Int.shiftRight_eq_div_pow, h1, Nat.shiftRight_eq_div_pow]
    generalize a / 2 ^ b = d at h2 h3 ⊢
    generalize 2 ^ (32 - b) = k at h2 h3 h4 h5 ⊢
    rw [q_toInt (by omega), if_neg (by omega)]
    omega
end
section
/-! ===== what a code says of a value, a packed cell of a cell, a tree of the world ===== -/
def q_rgs (env : Nat → Int32) (rg : Nat → Nat × Nat) : Prop := ∀ i, i < 13 → (rg i).1 ≤ q_qb (env i) ∧ q_qb (env i) ≤ (rg i).2
def q_v (env : Nat → Int32) (ad : List Nat) (c : Nat) (v : Value) : Prop :=
  (c ≤ 4294967295 ∧ v = .int (nI c)) ∨ ((c = 4294967296 ∨ c = 4294967310 ∨ c = 4294967311) ∧ ∃ x, v = .int x ∧ (c = 4294967310 → 2147483649 ≤ q_qb x) ∧ (c = 4294967311 → q_qb x ≤ 2147483647)) ∨ (4294967297 ≤ c ∧ c ≤ 4294967309 ∧ v = .int (env (c - 4294967297))) ∨ (c = 4294967312 ∧ v = .null) ∨ (c = 4294967314 ∧ ∃ x, v = .long x) ∨ (4294967328 ≤ c ∧ c < 4294967456 ∧ ∃ a, ad[c - 4294967328]? = some a ∧ v = .ref a)
theorem q_ble {a b : Nat} : Nat.ble a b = true ↔ a ≤ b := ⟨Nat.le_of_ble_eq_true, Nat.ble_eq_true_of_le⟩
theorem q_blt {a b : Nat} : Nat.blt a b = true ↔ a < b := by unfold Nat.blt; rw [q_ble]; omega
theorem q_beq {a b : Nat} : Nat.beq a b = true ↔ a = b := ⟨Nat.eq_of_beq_eq_true, fun h => by rw [h]; exact Nat.beq_refl b⟩
theorem q_bnle {a b : Nat} : Nat.ble a b = false ↔ b < a := by
  cases h : Nat.ble a b with
  | true => have := q_ble.mp h; simp; omega
  | false => simp; rcases Nat.lt_or_ge b a with g | g; exact g; rw [q_ble.mpr g] at h; cases h
theorem q_bneq {a b : Nat} : Nat.beq a b = false ↔ ¬ a = b := by
  cases h : Nat.beq a b with
  | true => have := q_beq.mp h; simp [this]
  | false => simp; intro g; rw [q_beq.mpr g] at h; cases h
theorem q_in_iff {c : Nat} : q_in c = true ↔ c ≤ 4294967311 := q_ble
theorem q_ex_iff {c : Nat} : q_ex c = true ↔ c ≤ 4294967295 := q_ble
theorem q_v.lt {env : Nat → Int32} {ad : List Nat} {c : Nat} {v : Value} (h : q_v env ad c v) : c + 1 < 2 ^ 34 := by
  rcases h with h | h | h | h | h | h <;> omega
theorem q_v.mono {env : Nat → Int32} {ad ad' : List Nat} {c : Nat} {v : Value} (h : q_v env ad c v) (hp : ad <+: ad') : q_v env ad' c v := by
  rcases h with h | h | h | h | h | ⟨h1, h2, a, h3, h4⟩
  · exact Or.inl h
  · exact Or.inr (Or.inl h)
  · exact Or.inr (Or.inr (Or.inl h))
  · exact Or.inr (Or.inr (Or.inr (Or.inl h)))
  · exact Or.inr (Or.inr (Or.inr (Or.inr (Or.inl h))))
  · refine Or.inr (Or.inr (Or.inr (Or.inr (Or.inr ⟨h1, h2, a, ?_, h4⟩))))
    obtain ⟨t, rfl⟩ := hp
    rw [List.getElem?_append_left (List.getElem?_eq_some_iff.mp h3).1]
    exact h3
theorem q_ift {α : Type} {b : Bool} (x y : α) (h : b = true) : (bif b then x else y) = x := by cases b with
  | true => rfl
  | false => cases h
theorem q_iff {α : Type} {b : Bool} (x y : α) (h : b = false) : (bif b then x else y) = y := by cases b with
  | true => cases h
  | false => rfl
theorem q_lo_ex (rg : Nat → Nat × Nat) {c : Nat} (h : q_ex c = true) : q_lo rg c = q_bi c := q_ift _ _ h
theorem q_hi_ex (rg : Nat → Nat × Nat) {c : Nat} (h : q_ex c = true) : q_hi rg c = q_bi c := q_ift _ _ h
theorem q_lo_top (rg : Nat → Nat × Nat) {c : Nat} (h : q_ex c = false) (h2 : Nat.beq c 4294967296 = true) : q_lo rg c = 0 := (q_iff _ _ h).trans (q_ift _ _ h2)
theorem q_hi_top (rg : Nat → Nat × Nat) {c : Nat} (h : q_ex c = false) (h2 : Nat.beq c 4294967296 = true) : q_hi rg c = 4294967295 := (q_iff _ _ h).trans (q_ift _ _ h2)
theorem q_lo_pos (rg : Nat → Nat × Nat) {c : Nat} (h : q_ex c = false) (h2 : Nat.beq c 4294967296 = false) (h3 : Nat.beq c 4294967310 = true) : q_lo rg c = 2147483649 := (q_iff _ _ h).trans ((q_iff _ _ h2).trans (q_ift _ _ h3))
theorem q_hi_pos (rg : Nat → Nat × Nat) {c : Nat} (h : q_ex c = false) (h2 : Nat.beq c 4294967296 = false) (h3 : Nat.beq c 4294967310 = true) : q_hi rg c = 4294967295 := (q_iff _ _ h).trans ((q_iff _ _ h2).trans (q_ift _ _ h3))
theorem q_lo_neg (rg : Nat → Nat × Nat) {c : Nat} (h : q_ex c = false) (h2 : Nat.beq c 4294967296 = false) (h3 : Nat.beq c 4294967310 = false) (h4 : Nat.beq c 4294967311 = true) : q_lo rg c = 0 := (q_iff _ _ h).trans ((q_iff _ _ h2).trans ((q_iff _ _ h3).trans (q_ift _ _ h4)))
theorem q_hi_neg (rg : Nat → Nat × Nat) {c : Nat} (h : q_ex c = false) (h2 : Nat.beq c 4294967296 = false) (h3 : Nat.beq c 4294967310 = false) (h4 : Nat.beq c 4294967311 = true) : q_hi rg c = 2147483647 := (q_iff _ _ h).trans ((q_iff _ _ h2).trans ((q_iff _ _ h3).trans (q_ift _ _ h4)))
theorem q_lo_sym (rg : Nat → Nat × Nat) {c : Nat} (h : q_ex c = false) (h2 : Nat.beq c 4294967296 = false) (h3 : Nat.beq c 4294967310 = false) (h4 : Nat.beq c 4294967311 = false) : q_lo rg c = (rg (c - 4294967297)).1 := (q_iff _ _ h).trans ((q_iff _ _ h2).trans ((q_iff _ _ h3).trans (q_iff _ _ h4)))
theorem q_hi_sym (rg : Nat → Nat × Nat) {c : Nat} (h : q_ex c = false) (h2 : Nat.beq c 4294967296 = false) (h3 : Nat.beq c 4294967310 = false) (h4 : Nat.beq c 4294967311 = false) : q_hi rg c = (rg (c - 4294967297)).2 := (q_iff _ _ h).trans ((q_iff _ _ h2).trans ((q_iff _ _ h3).trans (q_iff _ _ h4)))
/-- an int: which one, where it is told; within which bounds -/
theorem q_v.int {env : Nat → Int32} {rg : Nat → Nat × Nat} (hrg : q_rgs env rg) {ad : List Nat} {c : Nat} {v : Value} (h : q_v env ad c v) (hc : c ≤ 4294967311) : ∃ x, v = .int x ∧ (c ≤ 4294967295 → x = nI c) ∧ q_lo rg c ≤ q_qb x ∧ q_qb x ≤ q_hi rg c := by
  rcases h with ⟨h1, h2⟩ | ⟨h1, x, h2, h5, h6⟩ | ⟨h1, h2, h3⟩ | ⟨h1, h2⟩ | ⟨h1, h2⟩ | ⟨h1, h2⟩
  · refine ⟨_, h2, fun _ => rfl, ?_⟩
    have e : q_ex c = true := q_ex_iff.mpr h1
    rw [q_lo_ex rg e, q_hi_ex rg e, q_qb_nI h1]
    exact ⟨Nat.le_refl (q_bi c), Nat.le_refl (q_bi c)⟩
  · have e : q_ex c = false := q_bnle.mpr (by omega)
    refine ⟨x, h2, fun h => by omega, ?_⟩
    rcases h1 with h1 | h1 | h1
    · have e2 : Nat.beq c 4294967296 = true := q_beq.mpr h1
      rw [q_lo_top rg e e2, q_hi_top rg e e2]
      exact ⟨Nat.zero_le (q_qb x), q_qb_hi x⟩
    · have e2 : Nat.beq c 4294967296 = false := q_bneq.mpr (by omega)
      have e3 : Nat.beq c 4294967310 = true := q_beq.mpr h1
      rw [q_lo_pos rg e e2 e3, q_hi_pos rg e e2 e3]
      exact ⟨h5 h1, q_qb_hi x⟩
    · have e2 : Nat.beq c 4294967296 = false := q_bneq.mpr (by omega)
      have e3 : Nat.beq c 4294967310 = false := q_bneq.mpr (by omega)
      have e4 : Nat.beq c 4294967311 = true := q_beq.mpr h1
      rw [q_lo_neg rg e e2 e3 e4, q_hi_neg rg e e2 e3 e4]
      exact ⟨Nat.zero_le (q_qb x), h6 h1⟩
  · refine ⟨_, h3, fun h => by omega, ?_⟩
    have e : q_ex c = false := q_bnle.mpr (by omega)
    have e2 : Nat.beq c 4294967296 = false := q_bneq.mpr (by omega)
    have e3 : Nat.beq c 4294967310 = false := q_bneq.mpr (by omega)
    have e4 : Nat.beq c 4294967311 = false := q_bneq.mpr (by omega)
    rw [q_lo_sym rg e e2 e3 e4, q_hi_sym rg e e2 e3 e4]
    exact hrg (c - 4294967297) (by omega)
  · omega
  · omega
  · omega
theorem q_v.ref {env : Nat → Int32} {ad : List Nat} {c : Nat} {v : Value} (h : q_v env ad c v) (hc : 4294967328 ≤ c) : ∃ a, ad[c - 4294967328]? = some a ∧ v = .ref a := by
  rcases h with h | h | h | h | h | ⟨h1, h2, h3⟩ <;> first | exact h3 | omega
theorem q_v.nul {env : Nat → Int32} {ad : List Nat} {v : Value} (h : q_v env ad 4294967312 v) : v = .null := by
  rcases h with h | h | h | ⟨_, h⟩ | h | h <;> first | exact h | omega
theorem q_v.lng {env : Nat → Int32} {ad : List Nat} {v : Value} (h : q_v env ad 4294967314 v) : ∃ x, v = .long x := by
  rcases h with h | h | h | h | ⟨_, h⟩ | h <;> first | exact h | omega
theorem q_v.cat {env : Nat → Int32} {ad : List Nat} {c : Nat} {v : Value} (h : q_v env ad c v) (hc : ¬ c = 4294967314) : v.category = 1 := by
  rcases h with ⟨h1, h2⟩ | ⟨h1, x, h2, _⟩ | ⟨h1, h3, h2⟩ | ⟨h1, h2⟩ | ⟨h1, h2⟩ | ⟨h1, h3, a, h4, h2⟩ <;> first | (subst h2; rfl) | exact absurd h1 hc
theorem q_v.cat2 {env : Nat → Int32} {ad : List Nat} {c : Nat} {v : Value} (_ : q_v env ad c v) : v.category ≤ 2 := by
  rcases lv_cat v with h | h <;> omega
theorem q_v.ex {env : Nat → Int32} (ad : List Nat) {c : Nat} (hc : c ≤ 4294967295) : q_v env ad c (.int (nI c)) := Or.inl ⟨hc, rfl⟩
theorem q_v.top {env : Nat → Int32} (ad : List Nat) (x : Int32) : q_v env ad 4294967296 (.int x) := Or.inr (Or.inl ⟨Or.inl rfl, x, rfl, fun h => absurd h (by decide), fun h => absurd h (by decide)⟩)
theorem q_v.mkref {env : Nat → Int32} {ad : List Nat} {k a : Nat} (h : ad[k]? = some a) (hk : k < 128) : q_v env ad (4294967328 + k) (.ref a) := Or.inr (Or.inr (Or.inr (Or.inr (Or.inr ⟨by omega, by omega, a, by rw [Nat.add_sub_cancel_left]; exact h, rfl⟩))))
/-- the sort of an array's cell: what its numbers say of its elements -/
def q_ca (env : Nat → Int32) (tys : List (ClassId × FieldType)) (ty : FieldType) (ln N : Nat) (e : va_E) : Prop := ∃ (cA : ClassId) (t : Nat) (f : Nat → Int32), e = .inl (cA, ln, .inl f) ∧ tys[t]? = some (cA, ty) ∧ ln ≤ 100000 ∧ ∀ j, j < ln → q_get N j ≤ 4294967311 ∧ q_v env [] (q_get N j) (.int (f j))
def q_cl (tys : List (ClassId × FieldType)) (ln : Nat) (e : va_E) : Prop := ∃ (cA : ClassId) (t : Nat) (f : Nat → Int64), e = .inl (cA, ln, .inr (.inl f)) ∧ tys[t]? = some (cA, .long) ∧ ln ≤ 100000
def q_cq (ad : List Nat) (tys : List (ClassId × FieldType)) (ln N : Nat) (e : va_E) : Prop := ∃ (cA : ClassId) (t : Nat) (f : Nat → Option Nat), e = .inl (cA, ln, .inr (.inr (.inr (.inr f)))) ∧ tys[t]? = some (cA, .object "SandNights$Sand") ∧ ln ≤ 100000 ∧ ∀ j, j < ln → (q_get N j = 0 ∧ f j = none) ∨ (4294967328 ≤ q_get N j ∧ q_get N j < 4294967456 ∧ ∃ a, ad[q_get N j - 4294967328]? = some a ∧ f j = some a)
def q_co (env : Nat → Int32) (ad : List Nat) (kd ln N : Nat) (e : va_E) : Prop := ∃ (ci : Nat) (fs : List Value), kd = 2 * ci ∧ e = .inr (ci, fs) ∧ fs.length = ln ∧ ∀ (j : Nat) (v : Value), fs[j]? = some v → q_get N j = 4294967313 ∨ q_v env ad (q_get N j) v
def q_c (env : Nat → Int32) (ad : List Nat) (tys : List (ClassId × FieldType)) (c : q_C) (e : va_E) : Prop :=
  q_co env ad c.1 c.2.1 c.2.2 e ∨ (c.1 = 1 ∧ q_ca env tys .int c.2.1 c.2.2 e) ∨ (c.1 = 3 ∧ q_ca env tys .byte c.2.1 c.2.2 e) ∨ (c.1 = 5 ∧ q_ca env tys .boolean c.2.1 c.2.2 e) ∨ (c.1 = 7 ∧ q_cl tys c.2.1 e) ∨ (c.1 = 9 ∧ q_cq ad tys c.2.1 c.2.2 e)
theorem q_at_mono {ad ad' : List Nat} (hp : ad <+: ad') {k a : Nat} (h : ad[k]? = some a) : ad'[k]? = some a := by
  obtain ⟨t, rfl⟩ := hp
  rw [List.getElem?_append_left (List.getElem?_eq_some_iff.mp h).1]
  exact h
theorem q_c.mono {env : Nat → Int32} {ad ad' : List Nat} {tys tys' : List (ClassId × FieldType)} {c : q_C} {e : va_E} (h : q_c env ad tys c e) (hp : ad <+: ad') (ht : tys <+: tys') : q_c env ad' tys' c e := by
  have tm : ∀ {t : Nat} {z : ClassId × FieldType}, tys[t]? = some z → tys'[t]? = some z := by
    intro t z h
    obtain ⟨u, rfl⟩ := ht
    rw [List.getElem?_append_left (List.getElem?_eq_some_iff.mp h).1]
    exact h
  rcases h with ⟨ci, fs, h1, h2, h3, h4⟩ | ⟨h0, cA, t, f, h1, h2, h3⟩ | ⟨h0, cA, t, f, h1, h2, h3⟩ | ⟨h0, cA, t, f, h1, h2, h3⟩ | ⟨h0, cA, t, f, h1, h2, h3⟩ | ⟨h0, cA, t, f, h1, h2, h5, h3⟩
  · refine Or.inl ⟨ci, fs, h1, h2, h3, fun j v hv => ?_⟩
    rcases h4 j v hv with g | g
    · exact Or.inl g
    · exact Or.inr (g.mono hp)
  · exact Or.inr (Or.inl ⟨h0, cA, t, f, h1, tm h2, h3⟩)
  · exact Or.inr (Or.inr (Or.inl ⟨h0, cA, t, f, h1, tm h2, h3⟩))
  · exact Or.inr (Or.inr (Or.inr (Or.inl ⟨h0, cA, t, f, h1, tm h2, h3⟩)))
  · exact Or.inr (Or.inr (Or.inr (Or.inr (Or.inl ⟨h0, cA, t, f, h1, tm h2, h3⟩))))
  · refine Or.inr (Or.inr (Or.inr (Or.inr (Or.inr ⟨h0, cA, t, f, h1, tm h2, h5, fun j hj => ?_⟩))))
    rcases h3 j hj with g | ⟨g1, g2, a, g3, g4⟩
    · exact Or.inl g
    · exact Or.inr ⟨g1, g2, a, q_at_mono hp g3, g4⟩
abbrev q_ad (ws : va_W) : List Nat := ws.map (fun q => q.1)
def q_W (env : Nat → Int32) (h : q_H) (ws : va_W) (tys : List (ClassId × FieldType)) : Prop := ws.length = h.1 ∧ h.1 ≤ 128 ∧ ∀ k, k < h.1 → ∃ (a : Nat) (e : va_E), ws[k]? = some (a, e) ∧ q_c env (q_ad ws) tys (q_tg 7 h.2 k) e
theorem q_ad_set (ws : va_W) (k a : Nat) (e e' : va_E) (h : ws[k]? = some (a, e)) : q_ad (ws.set k (a, e')) = q_ad ws := by
  unfold q_ad
  rw [List.map_set]
  apply List.ext_getElem?
  intro j
  rw [List.getElem?_set]
  split
  · rename_i e1
    subst e1
    have hl := (List.getElem?_eq_some_iff.mp h).1
    rw [if_pos (by rw [List.length_map]; exact hl), List.getElem?_map, h]
    rfl
  · rfl
/-- a cell is written: the rest stays -/
theorem q_W.set {env : Nat → Int32} {h : q_H} {ws : va_W} {tys : List (ClassId × FieldType)} (hw : q_W env h ws tys) {k a : Nat} {e e' : va_E} (he : ws[k]? = some (a, e)) {kd ln N : Nat} (hc : q_c env (q_ad ws) tys (kd, ln, N) e') : q_W env (q_up h k kd ln N) (ws.set k (a, e')) tys := by
  obtain ⟨h1, h2, h3⟩ := hw
  have hk : k < h.1 := by rw [← h1]; exact (List.getElem?_eq_some_iff.mp he).1
  refine ⟨by rw [List.length_set]; exact h1, h2, fun j hj => ?_⟩
  have hj : j < h.1 := hj
  have eT : q_tg 7 (q_ts 7 h.2 k (kd, ln, N)) j = if j = k then (kd, ln, N) else q_tg 7 h.2 j := q_tg_ts 7 h.2 k j (kd, ln, N) (by show k < 128; omega) (by show j < 128; omega)
  show ∃ (a2 : Nat) (e2 : va_E), (ws.set k (a, e'))[j]? = some (a2, e2) ∧ q_c env (q_ad (ws.set k (a, e'))) tys (q_tg 7 (q_ts 7 h.2 k (kd, ln, N)) j) e2
  rw [eT, q_ad_set ws k a e e' he]
  by_cases e1 : j = k
  · subst e1
    rw [if_pos rfl]
    exact ⟨a, e', by rw [List.getElem?_set_self (by rw [h1]; exact hk)], hc⟩
  · rw [if_neg e1, List.getElem?_set_ne (fun z => e1 z.symm)]
    exact h3 j hj
theorem q_ad_app (ws : va_W) (a : Nat) (e : va_E) : q_ad (ws ++ [(a, e)]) = q_ad ws ++ [a] := by simp [q_ad]
/-- a cell is made -/
theorem q_W.push {env : Nat → Int32} {h : q_H} {ws : va_W} {tys tys' : List (ClassId × FieldType)} (hw : q_W env h ws tys) (ht : tys <+: tys') (hlt : h.1 < 128) {a : Nat} {e : va_E} {kd ln N : Nat} (hc : q_c env (q_ad (ws ++ [(a, e)])) tys' (kd, ln, N) e) : q_W env (h.1 + 1, q_ts 7 h.2 h.1 (kd, ln, N)) (ws ++ [(a, e)]) tys' := by
  obtain ⟨h1, h2, h3⟩ := hw
  refine ⟨by simp [h1], hlt, fun j hj => ?_⟩
  have hj : j < h.1 + 1 := hj
  have eT : q_tg 7 (q_ts 7 h.2 h.1 (kd, ln, N)) j = if j = h.1 then (kd, ln, N) else q_tg 7 h.2 j := q_tg_ts 7 h.2 h.1 j (kd, ln, N) (by show h.1 < 128; omega) (by show j < 128; omega)
  show ∃ (a2 : Nat) (e2 : va_E), (ws ++ [(a, e)])[j]? = some (a2, e2) ∧ q_c env (q_ad (ws ++ [(a, e)])) tys' (q_tg 7 (q_ts 7 h.2 h.1 (kd, ln, N)) j) e2
  rw [eT]
  by_cases e1 : j = h.1
  · subst e1
    rw [if_pos rfl]
    exact ⟨a, e, by rw [← h1, List.getElem?_append_right (Nat.le_refl _), Nat.sub_self]; rfl, hc⟩
  · rw [if_neg e1]
    obtain ⟨a2, e2, g1, g2⟩ := h3 j (by omega)
    exact ⟨a2, e2, by rw [List.getElem?_append_left (by omega)]; exact g1, g2.mono (by rw [q_ad_app]; exact List.prefix_append _ _) ht⟩
theorem q_ss_up (h : q_H) (k kd ln N : Nat) (hk : k < h.1) (hh : h.1 ≤ 128) (hl : (q_tg 7 h.2 k).2.1 = ln) : q_ss (q_up h k kd ln N) = q_ss h := by
  refine q_s1_cong (fun j hj => ?_)
  have hj : j < h.1 := hj
  have eT : q_tg 7 (q_ts 7 h.2 k (kd, ln, N)) j = if j = k then (kd, ln, N) else q_tg 7 h.2 j := q_tg_ts 7 h.2 k j (kd, ln, N) (by show k < 128; omega) (by show j < 128; omega)
  show (q_tg 7 (q_ts 7 h.2 k (kd, ln, N)) j).2.1 = _
  rw [eT]
  by_cases e : j = k
  · subst e; rw [if_pos rfl]; exact hl.symm
  · rw [if_neg e]
theorem q_ss_nw (h : q_H) (kd ln N : Nat) (hh : h.1 < 128) : q_ss (h.1 + 1, q_ts 7 h.2 h.1 (kd, ln, N)) = q_ss h + ln := by
  have e1 : q_s1 (q_ts 7 h.2 h.1 (kd, ln, N)) h.1 = q_s1 h.2 h.1 := q_s1_cong (fun j hj => by
    rw [q_tg_ts 7 h.2 h.1 j (kd, ln, N) (by show h.1 < 128; omega) (by show j < 128; omega), if_neg (by omega)])
  show q_s1 (q_ts 7 h.2 h.1 (kd, ln, N)) h.1 + (q_tg 7 (q_ts 7 h.2 h.1 (kd, ln, N)) h.1).2.1 = _
  rw [e1, q_tg_ts 7 h.2 h.1 h.1 (kd, ln, N) (by show h.1 < 128; omega) (by show h.1 < 128; omega), if_pos rfl]
  rfl
/-- the locals -/
def q_L (env : Nat → Int32) (ad : List Nat) (loc nL : Nat) (ls : Array Slot) : Prop := ∃ lv : List (Nat × Value), lv_has ls nL lv ∧ (∀ q ∈ lv, q.2.category = 1) ∧ ∀ i c, q_get loc i = c + 1 → ∃ v, (i, v) ∈ lv ∧ q_v env ad c v
theorem q_L.mono {env : Nat → Int32} {ad ad' : List Nat} {loc nL : Nat} {ls : Array Slot} (h : q_L env ad loc nL ls) (hp : ad <+: ad') : q_L env ad' loc nL ls := by
  obtain ⟨lv, h1, h0, h2⟩ := h
  refine ⟨lv, h1, h0, fun i c hc => ?_⟩
  obtain ⟨v, g1, g2⟩ := h2 i c hc
  exact ⟨v, g1, g2.mono hp⟩
theorem q_L.store {env : Nat → Int32} {ad : List Nat} {loc i c : Nat} {lv : List (Nat × Value)} {v : Value} (h2 : ∀ i c, q_get loc i = c + 1 → ∃ v, (i, v) ∈ lv ∧ q_v env ad c v) (hv : q_v env ad c v) (hcat : ∀ q ∈ lv, q.2.category = 1) : ∀ i2 c2, q_get (q_set loc i (c + 1)) i2 = c2 + 1 → ∃ v2, (i2, v2) ∈ ((i, v) :: lv.filter (fun q => !(q.1 == i) && !(q.1 + 1 == i && q.2.category == 2))) ∧ q_v env ad c2 v2 := by
  intro i2 c2 hc
  rw [q_get_set loc i (c + 1) i2 hv.lt] at hc
  by_cases e : i2 = i
  · subst e
    rw [if_pos rfl] at hc
    have e2 : c = c2 := by omega
    subst e2
    exact ⟨v, List.mem_cons_self, hv⟩
  · rw [if_neg e] at hc
    obtain ⟨v2, g1, g2⟩ := h2 i2 c2 hc
    refine ⟨v2, List.mem_cons_of_mem _ (List.mem_filter.mpr ⟨g1, ?_⟩), g2⟩
    have := hcat _ g1
    simp [e, this]
end
section
/-! ===== names: the classes with their fields, the methods (printed by wip/p1/gen.py) ===== -/
def q_F0 : u_T := fun k => match k with
  | 0 => ("SandNights$Acts", "kept", "[LSandNights$Sand;", true)
  | 1 => ("SandNights$Acts", "oldest", "I", false)
  | 2 => ("SandNights$Acts", "done", "I", false)
  | _ => ("SandNights$Acts", "undone", "I", false)
def q_ft0 : Nat → FieldType := fun k => match k with
  | 0 => .array (.object "SandNights$Sand")
  | 1 => .int
  | 2 => .int
  | _ => .int
theorem q_fn0 : ∀ a, a < 4 → ∀ b, b < 4 → a ≠ b → (q_F0 a).2.1 ≠ (q_F0 b).2.1 := by decide +kernel
theorem q_fp0 : ∀ k, k < 4 → parseFieldDescriptor (q_F0 k).2.2.1 = some (q_ft0 k) := by decide +kernel
def q_F1 : u_T := fun k => match k with
  | 0 => ("SandNights$Finder", "lie", "[I", true)
  | 1 => ("SandNights$Finder", "lieCount", "I", false)
  | 2 => ("SandNights$Finder", "price", "[I", true)
  | 3 => ("SandNights$Finder", "count", "[I", true)
  | _ => ("SandNights$Finder", "next", "[I", true)
def q_ft1 : Nat → FieldType := fun k => match k with
  | 0 => .array (.int)
  | 1 => .int
  | 2 => .array (.int)
  | 3 => .array (.int)
  | _ => .array (.int)
theorem q_fn1 : ∀ a, a < 5 → ∀ b, b < 5 → a ≠ b → (q_F1 a).2.1 ≠ (q_F1 b).2.1 := by decide +kernel
theorem q_fp1 : ∀ k, k < 5 → parseFieldDescriptor (q_F1 k).2.2.1 = some (q_ft1 k) := by decide +kernel
def q_F2 : u_T := fun k => match k with
  | 0 => ("SandNights$Formula", "code", "[I", true)
  | 1 => ("SandNights$Formula", "stack", "[I", true)
  | 2 => ("SandNights$Formula", "given", "[I", true)
  | _ => ("SandNights$Formula", "length", "I", false)
def q_ft2 : Nat → FieldType := fun k => match k with
  | 0 => .array (.int)
  | 1 => .array (.int)
  | 2 => .array (.int)
  | _ => .int
theorem q_fn2 : ∀ a, a < 4 → ∀ b, b < 4 → a ≠ b → (q_F2 a).2.1 ≠ (q_F2 b).2.1 := by decide +kernel
theorem q_fp2 : ∀ k, k < 4 → parseFieldDescriptor (q_F2 k).2.2.1 = some (q_ft2 k) := by decide +kernel
def q_F3 : u_T := fun k => match k with
  | 0 => ("SandNights$Ground", "near", "[I", true)
  | 1 => ("SandNights$Ground", "rowOf", "[I", true)
  | 2 => ("SandNights$Ground", "columnOf", "[I", true)
  | 3 => ("SandNights$Ground", "columns", "I", false)
  | 4 => ("SandNights$Ground", "rows", "I", false)
  | 5 => ("SandNights$Ground", "cells", "I", false)
  | 6 => ("SandNights$Ground", "all", "I", false)
  | 7 => ("SandNights$Ground", "free", "I", false)
  | 8 => ("SandNights$Ground", "firstColumn", "I", false)
  | _ => ("SandNights$Ground", "lastColumn", "I", false)
def q_ft3 : Nat → FieldType := fun k => match k with
  | 0 => .array (.int)
  | 1 => .array (.int)
  | 2 => .array (.int)
  | 3 => .int
  | 4 => .int
  | 5 => .int
  | 6 => .int
  | 7 => .int
  | 8 => .int
  | _ => .int
theorem q_fn3 : ∀ a, a < 10 → ∀ b, b < 10 → a ≠ b → (q_F3 a).2.1 ≠ (q_F3 b).2.1 := by decide +kernel
theorem q_fp3 : ∀ k, k < 10 → parseFieldDescriptor (q_F3 k).2.2.1 = some (q_ft3 k) := by decide +kernel
def q_F4 : u_T := fun k => match k with
  | 0 => ("SandNights$Reader", "names", "[J", true)
  | 1 => ("SandNights$Reader", "text", "[B", false)
  | 2 => ("SandNights$Reader", "length", "I", false)
  | 3 => ("SandNights$Reader", "told", "LSandNights$Told;", false)
  | 4 => ("SandNights$Reader", "fault", "I", false)
  | 5 => ("SandNights$Reader", "faultPlace", "I", false)
  | 6 => ("SandNights$Reader", "at", "I", false)
  | 7 => ("SandNights$Reader", "behind", "I", false)
  | 8 => ("SandNights$Reader", "kind", "I", false)
  | 9 => ("SandNights$Reader", "value", "I", false)
  | 10 => ("SandNights$Reader", "word", "J", false)
  | 11 => ("SandNights$Reader", "lines", "I", false)
  | 12 => ("SandNights$Reader", "tideTold", "Z", false)
  | 13 => ("SandNights$Reader", "windTold", "Z", false)
  | _ => ("SandNights$Reader", "drawTold", "Z", false)
def q_ft4 : Nat → FieldType := fun k => match k with
  | 0 => .array (.long)
  | 1 => .array (.byte)
  | 2 => .int
  | 3 => .object "SandNights$Told"
  | 4 => .int
  | 5 => .int
  | 6 => .int
  | 7 => .int
  | 8 => .int
  | 9 => .int
  | 10 => .long
  | 11 => .int
  | 12 => .boolean
  | 13 => .boolean
  | _ => .boolean
theorem q_fn4 : ∀ a, a < 15 → ∀ b, b < 15 → a ≠ b → (q_F4 a).2.1 ≠ (q_F4 b).2.1 := by decide +kernel
theorem q_fp4 : ∀ k, k < 15 → parseFieldDescriptor (q_F4 k).2.2.1 = some (q_ft4 k) := by decide +kernel
def q_F5 : u_T := fun k => match k with
  | 0 => ("SandNights$Sand", "top", "[I", true)
  | 1 => ("SandNights$Sand", "topMinute", "[I", true)
  | 2 => ("SandNights$Sand", "trod", "[I", true)
  | 3 => ("SandNights$Sand", "at", "[I", true)
  | 4 => ("SandNights$Sand", "trodBy", "[I", true)
  | 5 => ("SandNights$Sand", "over", "[I", true)
  | 6 => ("SandNights$Sand", "met", "[I", true)
  | 7 => ("SandNights$Sand", "route", "[I", true)
  | 8 => ("SandNights$Sand", "minute", "I", false)
  | 9 => ("SandNights$Sand", "night", "I", false)
  | _ => ("SandNights$Sand", "seed", "I", false)
def q_ft5 : Nat → FieldType := fun k => match k with
  | 0 => .array (.int)
  | 1 => .array (.int)
  | 2 => .array (.int)
  | 3 => .array (.int)
  | 4 => .array (.int)
  | 5 => .array (.int)
  | 6 => .array (.int)
  | 7 => .array (.int)
  | 8 => .int
  | 9 => .int
  | _ => .int
theorem q_fn5 : ∀ a, a < 11 → ∀ b, b < 11 → a ≠ b → (q_F5 a).2.1 ≠ (q_F5 b).2.1 := by decide +kernel
theorem q_fp5 : ∀ k, k < 11 → parseFieldDescriptor (q_F5 k).2.2.1 = some (q_ft5 k) := by decide +kernel
def q_F6 : u_T := fun k => match k with
  | 0 => ("SandNights$Sights", "minuteOf", "[I", true)
  | 1 => ("SandNights$Sights", "allowed", "[I", true)
  | 2 => ("SandNights$Sights", "toldAt", "[I", true)
  | 3 => ("SandNights$Sights", "untoldAt", "[I", true)
  | 4 => ("SandNights$Sights", "told", "I", false)
  | 5 => ("SandNights$Sights", "ahead", "[I", true)
  | _ => ("SandNights$Sights", "onward", "[I", true)
def q_ft6 : Nat → FieldType := fun k => match k with
  | 0 => .array (.int)
  | 1 => .array (.int)
  | 2 => .array (.int)
  | 3 => .array (.int)
  | 4 => .int
  | 5 => .array (.int)
  | _ => .array (.int)
theorem q_fn6 : ∀ a, a < 7 → ∀ b, b < 7 → a ≠ b → (q_F6 a).2.1 ≠ (q_F6 b).2.1 := by decide +kernel
theorem q_fp6 : ∀ k, k < 7 → parseFieldDescriptor (q_F6 k).2.2.1 = some (q_ft6 k) := by decide +kernel
def q_F7 : u_T := fun k => match k with
  | 0 => ("SandNights$Told", "home", "[I", true)
  | 1 => ("SandNights$Told", "stride", "[I", true)
  | 2 => ("SandNights$Told", "slip", "[I", true)
  | 3 => ("SandNights$Told", "tide", "LSandNights$Formula;", true)
  | 4 => ("SandNights$Told", "columns", "I", false)
  | 5 => ("SandNights$Told", "rows", "I", false)
  | 6 => ("SandNights$Told", "huts", "I", false)
  | 7 => ("SandNights$Told", "homes", "I", false)
  | 8 => ("SandNights$Told", "walkers", "I", false)
  | 9 => ("SandNights$Told", "wind", "I", false)
  | 10 => ("SandNights$Told", "draw", "I", false)
  | _ => ("SandNights$Told", "units", "I", false)
def q_ft7 : Nat → FieldType := fun k => match k with
  | 0 => .array (.int)
  | 1 => .array (.int)
  | 2 => .array (.int)
  | 3 => .object "SandNights$Formula"
  | 4 => .int
  | 5 => .int
  | 6 => .int
  | 7 => .int
  | 8 => .int
  | 9 => .int
  | 10 => .int
  | _ => .int
theorem q_fn7 : ∀ a, a < 12 → ∀ b, b < 12 → a ≠ b → (q_F7 a).2.1 ≠ (q_F7 b).2.1 := by decide +kernel
theorem q_fp7 : ∀ k, k < 12 → parseFieldDescriptor (q_F7 k).2.2.1 = some (q_ft7 k) := by decide +kernel
def q_F8 : u_T := fun k => match k with
  | 0 => ("SandNights", "tape", "[B", true)
  | 1 => ("SandNights", "tapeBytes", "I", false)
  | 2 => ("SandNights", "reader", "LSandNights$Reader;", true)
  | 3 => ("SandNights", "told", "LSandNights$Told;", false)
  | 4 => ("SandNights", "spare", "LSandNights$Told;", false)
  | 5 => ("SandNights", "ground", "LSandNights$Ground;", true)
  | 6 => ("SandNights", "sand", "LSandNights$Sand;", false)
  | 7 => ("SandNights", "acts", "LSandNights$Acts;", true)
  | 8 => ("SandNights", "boxes", "[LSandNights$Sand;", true)
  | 9 => ("SandNights", "boxesKept", "I", false)
  | 10 => ("SandNights", "finder", "LSandNights$Finder;", true)
  | 11 => ("SandNights", "sights", "LSandNights$Sights;", true)
  | _ => ("SandNights", "time", "I", false)
def q_ft8 : Nat → FieldType := fun k => match k with
  | 0 => .array (.byte)
  | 1 => .int
  | 2 => .object "SandNights$Reader"
  | 3 => .object "SandNights$Told"
  | 4 => .object "SandNights$Told"
  | 5 => .object "SandNights$Ground"
  | 6 => .object "SandNights$Sand"
  | 7 => .object "SandNights$Acts"
  | 8 => .array (.object "SandNights$Sand")
  | 9 => .int
  | 10 => .object "SandNights$Finder"
  | 11 => .object "SandNights$Sights"
  | _ => .int
theorem q_fn8 : ∀ a, a < 13 → ∀ b, b < 13 → a ≠ b → (q_F8 a).2.1 ≠ (q_F8 b).2.1 := by decide +kernel
theorem q_fp8 : ∀ k, k < 13 → parseFieldDescriptor (q_F8 k).2.2.1 = some (q_ft8 k) := by decide +kernel
def q_F9 : u_T := fun k => match k with
  | 0 => ("SandNightsModel", "tape", "[B", true)
  | 1 => ("SandNightsModel", "text", "[B", true)
  | 2 => ("SandNightsModel", "taped", "I", false)
  | 3 => ("SandNightsModel", "size", "I", false)
  | 4 => ("SandNightsModel", "faultKind", "I", false)
  | 5 => ("SandNightsModel", "faultPlace", "I", false)
  | 6 => ("SandNightsModel", "at", "I", false)
  | 7 => ("SandNightsModel", "end", "I", false)
  | 8 => ("SandNightsModel", "token", "I", false)
  | 9 => ("SandNightsModel", "number", "I", false)
  | 10 => ("SandNightsModel", "name", "J", false)
  | 11 => ("SandNightsModel", "columns", "[I", true)
  | 12 => ("SandNightsModel", "rows", "[I", true)
  | 13 => ("SandNightsModel", "lines", "[I", true)
  | 14 => ("SandNightsModel", "huts", "[I", true)
  | 15 => ("SandNightsModel", "hutSet", "[I", true)
  | 16 => ("SandNightsModel", "walkers", "[I", true)
  | 17 => ("SandNightsModel", "units", "[I", true)
  | 18 => ("SandNightsModel", "wind", "[I", true)
  | 19 => ("SandNightsModel", "draw", "[I", true)
  | 20 => ("SandNightsModel", "home", "[I", true)
  | 21 => ("SandNightsModel", "stride", "[I", true)
  | 22 => ("SandNightsModel", "slip", "[I", true)
  | 23 => ("SandNightsModel", "ruleFrom", "[I", true)
  | 24 => ("SandNightsModel", "ruleTo", "[I", true)
  | 25 => ("SandNightsModel", "hasTide", "[Z", true)
  | 26 => ("SandNightsModel", "hasWind", "[Z", true)
  | 27 => ("SandNightsModel", "isDraw", "[Z", true)
  | 28 => ("SandNightsModel", "wName", "[J", true)
  | 29 => ("SandNightsModel", "code", "[I", true)
  | 30 => ("SandNightsModel", "codeNumber", "[I", true)
  | 31 => ("SandNightsModel", "eWhat", "[I", true)
  | 32 => ("SandNightsModel", "eSign", "[I", true)
  | 33 => ("SandNightsModel", "pile", "[I", true)
  | 34 => ("SandNightsModel", "bank", "I", false)
  | 35 => ("SandNightsModel", "rb", "I", false)
  | 36 => ("SandNightsModel", "codes", "I", false)
  | 37 => ("SandNightsModel", "within", "I", false)
  | 38 => ("SandNightsModel", "piled", "I", false)
  | 39 => ("SandNightsModel", "unitsInRule", "I", false)
  | 40 => ("SandNightsModel", "askCell", "I", false)
  | 41 => ("SandNightsModel", "all", "[I", true)
  | 42 => ("SandNightsModel", "was", "[I", true)
  | 43 => ("SandNightsModel", "acts", "I", false)
  | 44 => ("SandNightsModel", "undone", "I", false)
  | 45 => ("SandNightsModel", "far", "[I", true)
  | 46 => ("SandNightsModel", "weight", "[I", true)
  | 47 => ("SandNightsModel", "laidRow", "[I", true)
  | 48 => ("SandNightsModel", "laid", "I", false)
  | 49 => ("SandNightsModel", "farOne", "[I", true)
  | 50 => ("SandNightsModel", "waysTo", "[I", true)
  | 51 => ("SandNightsModel", "waysThen", "[I", true)
  | 52 => ("SandNightsModel", "ordersOf", "[I", true)
  | 53 => ("SandNightsModel", "lengths", "[I", true)
  | 54 => ("SandNightsModel", "usedWays", "[I", true)
  | 55 => ("SandNightsModel", "caught", "[I", true)
  | 56 => ("SandNightsModel", "sMinute", "[I", true)
  | 57 => ("SandNightsModel", "sCell", "[I", true)
  | 58 => ("SandNightsModel", "sRow", "[I", true)
  | 59 => ("SandNightsModel", "sIs", "[I", true)
  | 60 => ("SandNightsModel", "sTold", "[I", true)
  | 61 => ("SandNightsModel", "sUntold", "[I", true)
  | 62 => ("SandNightsModel", "waysAt", "[I", true)
  | 63 => ("SandNightsModel", "waysOn", "[I", true)
  | 64 => ("SandNightsModel", "sights", "I", false)
  | 65 => ("SandNightsModel", "time", "I", false)
  | 66 => ("SandNightsModel", "boxAll", "[I", true)
  | _ => ("SandNightsModel", "isBoxed", "[Z", true)
def q_ft9 : Nat → FieldType := fun k => match k with
  | 0 => .array (.byte)
  | 1 => .array (.byte)
  | 2 => .int
  | 3 => .int
  | 4 => .int
  | 5 => .int
  | 6 => .int
  | 7 => .int
  | 8 => .int
  | 9 => .int
  | 10 => .long
  | 11 => .array (.int)
  | 12 => .array (.int)
  | 13 => .array (.int)
  | 14 => .array (.int)
  | 15 => .array (.int)
  | 16 => .array (.int)
  | 17 => .array (.int)
  | 18 => .array (.int)
  | 19 => .array (.int)
  | 20 => .array (.int)
  | 21 => .array (.int)
  | 22 => .array (.int)
  | 23 => .array (.int)
  | 24 => .array (.int)
  | 25 => .array (.boolean)
  | 26 => .array (.boolean)
  | 27 => .array (.boolean)
  | 28 => .array (.long)
  | 29 => .array (.int)
  | 30 => .array (.int)
  | 31 => .array (.int)
  | 32 => .array (.int)
  | 33 => .array (.int)
  | 34 => .int
  | 35 => .int
  | 36 => .int
  | 37 => .int
  | 38 => .int
  | 39 => .int
  | 40 => .int
  | 41 => .array (.int)
  | 42 => .array (.int)
  | 43 => .int
  | 44 => .int
  | 45 => .array (.int)
  | 46 => .array (.int)
  | 47 => .array (.int)
  | 48 => .int
  | 49 => .array (.int)
  | 50 => .array (.int)
  | 51 => .array (.int)
  | 52 => .array (.int)
  | 53 => .array (.int)
  | 54 => .array (.int)
  | 55 => .array (.int)
  | 56 => .array (.int)
  | 57 => .array (.int)
  | 58 => .array (.int)
  | 59 => .array (.int)
  | 60 => .array (.int)
  | 61 => .array (.int)
  | 62 => .array (.int)
  | 63 => .array (.int)
  | 64 => .int
  | 65 => .int
  | 66 => .array (.int)
  | _ => .array (.boolean)
theorem q_fn9 : ∀ a, a < 68 → ∀ b, b < 68 → a ≠ b → (q_F9 a).2.1 ≠ (q_F9 b).2.1 := by decide +kernel
theorem q_fp9 : ∀ k, k < 68 → parseFieldDescriptor (q_F9 k).2.2.1 = some (q_ft9 k) := by decide +kernel
def q_cls : List vw_C := [("SandNights$Acts", q_F0, 4), ("SandNights$Finder", q_F1, 5), ("SandNights$Formula", q_F2, 4), ("SandNights$Ground", q_F3, 10), ("SandNights$Reader", q_F4, 15), ("SandNights$Sand", q_F5, 11), ("SandNights$Sights", q_F6, 7), ("SandNights$Told", q_F7, 12), ("SandNights", q_F8, 13), ("SandNightsModel", q_F9, 68)]
def q_fty : List (Nat → FieldType) := [q_ft0, q_ft1, q_ft2, q_ft3, q_ft4, q_ft5, q_ft6, q_ft7, q_ft8, q_ft9]
def q_nM : Nat := 281
def q_yl : List MethodName := [⟨"SandNightsModel", "cells", "()I"⟩, ⟨"SandNightsModel", "has", "(II)Z"⟩, ⟨"SandNightsModel", "stepsBetween", "(II)I"⟩, ⟨"SandNights", "has", "(II)Z"⟩, ⟨"SandNights", "sumOf", "([III)I"⟩, ⟨"SandNightsModel", "closedAt", "(II)I"⟩, ⟨"SandNightsModel", "layFar", "(II)V"⟩, ⟨"SandNightsModel", "isGuarded", "(III)Z"⟩, ⟨"SandNights$Sights", "through", "(II)I"⟩, ⟨"java/lang/Math", "max", "(II)I"⟩, ⟨"SandNightsModel", "pathsBy", "(II)I"⟩, ⟨"SandNightsModel", "many", "()I"⟩, ⟨"SandNightsModel", "isIn", "(III)Z"⟩, ⟨"SandNights", "isCell", "(I)Z"⟩, ⟨"SandNightsModel", "isCell", "(I)Z"⟩, ⟨"SandNights", "sand", "(II)I"⟩, ⟨"SandNights", "bit", "(I)I"⟩, ⟨"SandNightsModel", "sand", "(II)I"⟩, ⟨"SandNightsModel", "isTide", "(I)Z"⟩, ⟨"SandNights$Sights", "possible", "(LSandNights$Ground;II)I"⟩, ⟨"SandNights$Sights", "fill", "(LSandNights$Ground;[IIII)V"⟩, ⟨"SandNightsModel", "stepOn", "(I)V"⟩, ⟨"SandNights", "isPart", "(I)Z"⟩, ⟨"SandNightsModel", "lift", "(I)V"⟩, ⟨"SandNights", "power", "(II)I"⟩, ⟨"SandNights", "isWalker", "(I)Z"⟩, ⟨"SandNights$Ground", "spread", "(I)I"⟩, ⟨"SandNights", "seen", "(IIZ)I"⟩, ⟨"SandNights", "inRow", "(IIZ)I"⟩, ⟨"SandNightsModel", "isWalker", "(I)Z"⟩, ⟨"SandNights", "lasts", "(II)I"⟩, ⟨"SandNightsModel", "seen", "(IIZ)I"⟩, ⟨"SandNightsModel", "inRow", "(IIZ)I"⟩, ⟨"SandNights", "remains", "(II)I"⟩, ⟨"SandNights$Sights", "tell", "(III)I"⟩, ⟨"SandNights", "isFree", "(I)Z"⟩, ⟨"java/lang/Integer", "bitCount", "(I)I"⟩, ⟨"SandNights", "lowestTerms", "(III)I"⟩, ⟨"SandNightsModel", "oddsOf", "(III)I"⟩, ⟨"SandNightsModel", "divisor", "(II)I"⟩, ⟨"SandNights", "about", "(I)I"⟩, ⟨"SandNights", "isWet", "(II)Z"⟩, ⟨"SandNights$Formula", "value", "(IIIII)I"⟩, ⟨"SandNightsModel", "about", "(I)I"⟩, ⟨"SandNights$Sights", "mostAt", "(I)I"⟩, ⟨"SandNights", "arePair", "(II)Z"⟩, ⟨"SandNights", "prints", "()I"⟩, ⟨"SandNights$Sand", "printed", "()I"⟩, ⟨"SandNightsModel", "lasts", "(II)I"⟩, ⟨"java/util/Arrays", "fill", "([II)V"⟩, ⟨"SandNights", "isLength", "(I)Z"⟩, ⟨"SandNightsModel", "remains", "(II)I"⟩, ⟨"SandNights", "may", "(I)I"⟩, ⟨"SandNightsModel", "areTwo", "(II)Z"⟩, ⟨"SandNights$Ground", "rowCells", "(I)I"⟩, ⟨"SandNightsModel", "prints", "()I"⟩, ⟨"SandNightsModel", "isFree", "(I)Z"⟩, ⟨"SandNights", "image", "(I)I"⟩, ⟨"SandNights", "back", "(I)I"⟩, ⟨"SandNights$Sand", "<init>", "()V"⟩, ⟨"SandNights", "fault", "(I)I"⟩, ⟨"SandNights", "crowd", "(I)I"⟩, ⟨"java/lang/Math", "min", "(II)I"⟩, ⟨"SandNights", "putBytes", "(I)V"⟩, ⟨"SandNights", "end", "(I)I"⟩, ⟨"SandNights$Sand", "copyOf", "(LSandNights$Sand;)V"⟩, ⟨"SandNights", "guard", "(III)I"⟩, ⟨"SandNightsModel", "guard", "(III)I"⟩, ⟨"SandNightsModel", "image", "(I)I"⟩, ⟨"SandNightsModel", "back", "(I)I"⟩, ⟨"SandNightsModel", "fault", "(I)I"⟩, ⟨"SandNightsModel", "crowd", "(I)I"⟩, ⟨"SandNightsModel", "tell", "(IIIZ)I"⟩, ⟨"SandNights", "matched", "(IIII)I"⟩, ⟨"SandNightsModel", "matched", "(IIII)I"⟩, ⟨"SandNights", "cover", "(II)I"⟩, ⟨"SandNightsModel", "cover", "(II)I"⟩, ⟨"SandNights$Sights", "count", "(LSandNights$Ground;I)V"⟩, ⟨"SandNightsModel", "layPaths", "(I)V"⟩, ⟨"SandNightsModel", "allPaths", "()I"⟩, ⟨"SandNights$Sand", "beginDay", "(LSandNights$Told;)V"⟩, ⟨"SandNightsModel", "goHome", "()V"⟩, ⟨"SandNightsModel", "end", "(I)I"⟩, ⟨"SandNights", "walker", "(II)I"⟩, ⟨"SandNights", "over", "(II)I"⟩, ⟨"SandNights", "met", "(II)I"⟩, ⟨"SandNights", "step", "(II)I"⟩, ⟨"SandNights", "way", "(II)I"⟩, ⟨"SandNights", "ways", "(II)I"⟩, ⟨"SandNights", "sly", "(III)I"⟩, ⟨"SandNights", "reach", "(II)I"⟩, ⟨"SandNights", "join", "(III)I"⟩, ⟨"SandNights", "rounds", "(II)I"⟩, ⟨"SandNights", "trail", "(I)I"⟩, ⟨"SandNights", "ghost", "(II)I"⟩, ⟨"SandNights", "first", "(II)I"⟩, ⟨"SandNights", "alone", "(I)I"⟩, ⟨"SandNightsModel", "may", "(I)I"⟩, ⟨"SandNights", "catches", "(II)I"⟩, ⟨"SandNights", "lies", "(I)I"⟩, ⟨"SandNights", "untell", "(I)Z"⟩, ⟨"SandNights$Sights", "takeOff", "(II)Z"⟩, ⟨"SandNights$Sand", "trodByAll", "(I)I"⟩, ⟨"SandNights", "later", "(I)I"⟩, ⟨"SandNightsModel", "later", "(I)I"⟩, ⟨"SandNights", "tides", "(I)I"⟩, ⟨"SandNightsModel", "tides", "(I)I"⟩, ⟨"SandNights$Sights", "all", "()I"⟩, ⟨"SandNights$Told", "<init>", "()V"⟩, ⟨"SandNights$Formula", "<init>", "()V"⟩, ⟨"SandNights", "begin", "()V"⟩, ⟨"SandNights$Ground", "shape", "(III)V"⟩, ⟨"SandNights$Sand", "beginAnew", "(LSandNights$Told;)V"⟩, ⟨"SandNights$Acts", "forget", "()V"⟩, ⟨"SandNightsModel", "clearBank", "()V"⟩, ⟨"SandNightsModel", "startAnew", "()V"⟩, ⟨"SandNightsModel", "isGood", "()Z"⟩, ⟨"SandNightsModel", "walker", "(II)I"⟩, ⟨"SandNightsModel", "over", "(II)I"⟩, ⟨"SandNightsModel", "met", "(II)I"⟩, ⟨"SandNightsModel", "step", "(II)I"⟩, ⟨"SandNights$Acts", "keep", "(LSandNights$Sand;)V"⟩, ⟨"SandNightsModel", "keepAct", "()V"⟩, ⟨"SandNightsModel", "way", "(II)I"⟩, ⟨"SandNightsModel", "ways", "(II)I"⟩, ⟨"SandNightsModel", "sly", "(III)I"⟩, ⟨"SandNightsModel", "reach", "(II)I"⟩, ⟨"SandNightsModel", "weighAlike", "()V"⟩, ⟨"SandNightsModel", "join", "(III)I"⟩, ⟨"SandNightsModel", "rounds", "(II)I"⟩, ⟨"SandNightsModel", "trail", "(I)I"⟩, ⟨"SandNightsModel", "ghost", "(II)I"⟩, ⟨"SandNightsModel", "first", "(II)I"⟩, ⟨"SandNightsModel", "alone", "(I)I"⟩, ⟨"SandNights$Sand", "routeLength", "()I"⟩, ⟨"SandNightsModel", "catches", "(II)I"⟩, ⟨"SandNightsModel", "lies", "(I)I"⟩, ⟨"SandNightsModel", "untell", "(I)Z"⟩, ⟨"SandNights", "waysToMatch", "(IIIII)I"⟩, ⟨"SandNightsModel", "bitsOf", "(I)I"⟩, ⟨"SandNights", "ask", "(II)I"⟩, ⟨"SandNightsModel", "ask", "(II)I"⟩, ⟨"SandNights", "<init>", "()V"⟩, ⟨"SandNights$Reader", "<init>", "()V"⟩, ⟨"SandNights$Ground", "<init>", "()V"⟩, ⟨"SandNights$Acts", "<init>", "()V"⟩, ⟨"SandNights$Finder", "<init>", "()V"⟩, ⟨"SandNights$Sights", "<init>", "()V"⟩, ⟨"SandNightsModel", "<init>", "()V"⟩, ⟨"SandNights", "feed", "(IIIII)I"⟩, ⟨"SandNightsModel", "feed", "(IIIII)I"⟩, ⟨"SandNights", "beach", "()I"⟩, ⟨"SandNights$Reader", "read", "([BILSandNights$Told;)Z"⟩, ⟨"SandNights$Told", "clear", "()V"⟩, ⟨"SandNights$Reader", "advance", "()V"⟩, ⟨"SandNights$Reader", "byteAt", "(I)I"⟩, ⟨"SandNights$Reader", "isLetter", "(I)Z"⟩, ⟨"SandNights$Reader", "isDigit", "(I)Z"⟩, ⟨"SandNightsModel", "beach", "()I"⟩, ⟨"SandNightsModel", "goOn", "()V"⟩, ⟨"SandNightsModel", "sign", "(I)I"⟩, ⟨"SandNights$Sand", "walkersIn", "(II)I"⟩, ⟨"SandNightsModel", "walkersAt", "(I)I"⟩, ⟨"SandNights", "minute", "()I"⟩, ⟨"SandNights$Sand", "passMinute", "(I)V"⟩, ⟨"SandNightsModel", "minute", "()I"⟩, ⟨"SandNightsModel", "ebb", "()I"⟩, ⟨"SandNights", "night", "()I"⟩, ⟨"SandNights$Sand", "blow", "(I)I"⟩, ⟨"SandNightsModel", "night", "()I"⟩, ⟨"SandNights", "undo", "()Z"⟩, ⟨"SandNightsModel", "undo", "()Z"⟩, ⟨"SandNights", "redo", "()Z"⟩, ⟨"SandNightsModel", "redo", "()Z"⟩, ⟨"SandNights", "parts", "()I"⟩, ⟨"SandNights$Ground", "partsOf", "(I)I"⟩, ⟨"SandNights$Ground", "flood", "(III)I"⟩, ⟨"SandNightsModel", "parts", "()I"⟩, ⟨"SandNightsModel", "partsOf", "(I)I"⟩, ⟨"SandNights$Ground", "leastGuards", "(II)I"⟩, ⟨"SandNightsModel", "guardOf", "(II)I"⟩, ⟨"SandNights", "orders", "()I"⟩, ⟨"SandNights", "ordersOf", "(II)I"⟩, ⟨"SandNightsModel", "orders", "()I"⟩, ⟨"SandNights", "boldest", "()I"⟩, ⟨"SandNightsModel", "boldest", "()I"⟩, ⟨"SandNights", "paths", "(I)I"⟩, ⟨"SandNightsModel", "paths", "(I)I"⟩, ⟨"SandNights", "sure", "(II)I"⟩, ⟨"SandNights$Sights", "cellsAt", "(I)I"⟩, ⟨"SandNightsModel", "sure", "(II)I"⟩, ⟨"SandNights$Ground", "guardsOf", "(IIIII)I"⟩, ⟨"SandNights", "lowest", "(I)I"⟩, ⟨"SandNights", "pair", "(II)I"⟩, ⟨"SandNights", "staysDry", "(II)Z"⟩, ⟨"SandNights$Acts", "doAgain", "(LSandNights$Sand;)LSandNights$Sand;"⟩, ⟨"SandNights$Acts", "exchange", "(LSandNights$Sand;)LSandNights$Sand;"⟩, ⟨"SandNights$Acts", "takeBack", "(LSandNights$Sand;)LSandNights$Sand;"⟩, ⟨"SandNights$Finder", "caughtFrom", "(LSandNights$Ground;I)I"⟩, ⟨"SandNights$Finder", "cheapestStep", "(LSandNights$Ground;II)I"⟩, ⟨"SandNights$Finder", "countNearer", "(LSandNights$Ground;I)I"⟩, ⟨"SandNights$Finder", "countRounds", "(LSandNights$Ground;II)I"⟩, ⟨"SandNights$Finder", "countWays", "(LSandNights$Ground;II)I"⟩, ⟨"SandNights$Finder", "dearLies", "(I)I"⟩, ⟨"SandNights$Finder", "layWay", "(LSandNights$Ground;III)Z"⟩, ⟨"SandNights$Finder", "priceAll", "(LSandNights$Ground;II)V"⟩, ⟨"SandNights$Finder", "stepsToCatch", "(LSandNights$Ground;II)I"⟩, ⟨"SandNights$Finder", "unionOf", "([II)I"⟩, ⟨"SandNights$Finder", "weight", "(II)I"⟩, ⟨"SandNights$Formula", "joined", "(III)I"⟩, ⟨"SandNights$Formula", "put", "(I)V"⟩, ⟨"SandNights$Formula", "putKind", "(I)V"⟩, ⟨"SandNights$Formula", "putNumber", "(I)V"⟩, ⟨"SandNights$Reader", "accept", "(I)Z"⟩, ⟨"SandNights$Reader", "isBlank", "(I)Z"⟩, ⟨"SandNights$Reader", "isNumber", "(II)Z"⟩, ⟨"SandNights$Reader", "readBoth", "(I)Z"⟩, ⟨"SandNights$Reader", "readCell", "(I)I"⟩, ⟨"SandNights$Reader", "readDraw", "()Z"⟩, ⟨"SandNights$Reader", "readEither", "(I)Z"⟩, ⟨"SandNights$Reader", "readHut", "()Z"⟩, ⟨"SandNights$Reader", "readLine", "()Z"⟩, ⟨"SandNights$Reader", "readName", "(I)Z"⟩, ⟨"SandNights$Reader", "readOne", "(I)Z"⟩, ⟨"SandNights$Reader", "readSize", "()Z"⟩, ⟨"SandNights$Reader", "readSum", "(I)Z"⟩, ⟨"SandNights$Reader", "readTerm", "(I)Z"⟩, ⟨"SandNights$Reader", "readTide", "()Z"⟩, ⟨"SandNights$Reader", "readUnit", "(I)Z"⟩, ⟨"SandNights$Reader", "readWalker", "()Z"⟩, ⟨"SandNights$Reader", "readWind", "()Z"⟩, ⟨"SandNights$Reader", "refuse", "(I)Z"⟩, ⟨"SandNights$Reader", "takeNumber", "()V"⟩, ⟨"SandNights$Reader", "takeWord", "()V"⟩, ⟨"SandNights$Sand", "fresh", "(I)I"⟩, ⟨"SandNights$Sand", "routeAt", "(II)I"⟩, ⟨"SandNights$Sand", "routeCompany", "(III)I"⟩, ⟨"SandNights$Sand", "tread", "(II)V"⟩, ⟨"SandNights$Sand", "under", "(II)I"⟩, ⟨"SandNights$Sights", "counts", "(II)Z"⟩, ⟨"SandNightsModel", "after", "(JII)I"⟩, ⟨"SandNightsModel", "asked", "(II)I"⟩, ⟨"SandNightsModel", "behindUnit", "()Z"⟩, ⟨"SandNightsModel", "canWalk", "(II)Z"⟩, ⟨"SandNightsModel", "comes", "()I"⟩, ⟨"SandNightsModel", "e", "()V"⟩, ⟨"SandNightsModel", "emit", "(II)V"⟩, ⟨"SandNightsModel", "exchange", "()V"⟩, ⟨"SandNightsModel", "fails", "(II)V"⟩, ⟨"SandNightsModel", "flee", "(II)I"⟩, ⟨"SandNightsModel", "freshOf", "(I)I"⟩, ⟨"SandNightsModel", "hunt", "(II)I"⟩, ⟨"SandNightsModel", "isCompared", "()Z"⟩, ⟨"SandNightsModel", "isDigit", "(I)Z"⟩, ⟨"SandNightsModel", "isFull", "()Z"⟩, ⟨"SandNightsModel", "isKept", "(J)Z"⟩, ⟨"SandNightsModel", "isLetter", "(I)Z"⟩, ⟨"SandNightsModel", "isSign", "(I)Z"⟩, ⟨"SandNightsModel", "isSignHere", "(I)Z"⟩, ⟨"SandNightsModel", "isWord", "(J)Z"⟩, ⟨"SandNightsModel", "layCaught", "()V"⟩, ⟨"SandNightsModel", "mayBe", "(II)Z"⟩, ⟨"SandNightsModel", "misplaced", "()V"⟩, ⟨"SandNightsModel", "must", "(Z)V"⟩, ⟨"SandNightsModel", "numeral", "(II)I"⟩, ⟨"SandNightsModel", "pushE", "(II)V"⟩, ⟨"SandNightsModel", "rankHere", "()I"⟩, ⟨"SandNightsModel", "readCell", "(I)I"⟩, ⟨"SandNightsModel", "readHut", "()V"⟩, ⟨"SandNightsModel", "readLine", "()V"⟩, ⟨"SandNightsModel", "readRule", "(I)V"⟩, ⟨"SandNightsModel", "readWalker", "()V"⟩, ⟨"SandNightsModel", "routeAt", "(II)I"⟩, ⟨"SandNightsModel", "showWay", "(II)V"⟩, ⟨"SandNightsModel", "two", "(III)I"⟩, ⟨"SandNightsModel", "unit", "()Z"⟩, ⟨"SandNightsModel", "walkerHere", "()I"⟩, ⟨"SandNightsModel", "withAt", "(II)I"⟩, ⟨"SandNightsModel", "wordHere", "()I"⟩, ⟨"java/lang/Math", "abs", "(I)I"⟩, ⟨"java/lang/Math", "floorMod", "(II)I"⟩]
def q_y (i : Nat) : MethodName := q_yl.getD i ⟨"", "", ""⟩
def q_bl : List ByteArray := [prog_11_method_42_code, prog_11_method_38_code, prog_11_method_47_code, prog_1_method_62_code, prog_1_method_67_code, prog_11_method_110_code, prog_11_method_69_code, prog_11_method_82_code, prog_8_method_9_code, prog_14_method_65_code, prog_11_method_112_code, prog_11_method_41_code, prog_11_method_37_code, prog_1_method_53_code, prog_11_method_45_code, prog_1_method_7_code, prog_1_method_61_code, prog_11_method_55_code, prog_11_method_48_code, prog_8_method_5_code, prog_8_method_7_code, prog_11_method_80_code, prog_1_method_60_code, prog_11_method_50_code, prog_1_method_65_code, prog_1_method_51_code, prog_5_method_4_code, prog_1_method_39_code, prog_1_method_40_code, prog_11_method_43_code, prog_1_method_35_code, prog_11_method_106_code, prog_11_method_107_code, prog_1_method_29_code, prog_8_method_2_code, prog_1_method_54_code, prog_13_method_49_code, prog_1_method_66_code, prog_11_method_91_code, prog_11_method_40_code, prog_1_method_48_code, prog_1_method_55_code, prog_4_method_5_code, prog_11_method_119_code, prog_8_method_11_code, prog_1_method_52_code, prog_1_method_10_code, prog_7_method_9_code, prog_11_method_93_code, prog_19_method_103_code, prog_1_method_59_code, prog_11_method_92_code, prog_1_method_32_code, prog_11_method_44_code, prog_5_method_3_code, prog_11_method_58_code, prog_11_method_46_code, prog_1_method_46_code, prog_1_method_47_code, prog_7_method_1_code, prog_1_method_5_code, prog_1_method_28_code, prog_14_method_69_code, prog_1_method_49_code, prog_1_method_3_code, prog_7_method_2_code, prog_1_method_23_code, prog_11_method_84_code, prog_11_method_117_code, prog_11_method_118_code, prog_11_method_36_code, prog_11_method_90_code, prog_11_method_105_code, prog_1_method_33_code, prog_11_method_100_code, prog_1_method_30_code, prog_11_method_95_code, prog_8_method_6_code, prog_11_method_111_code, prog_11_method_113_code, prog_7_method_4_code, prog_11_method_51_code, prog_11_method_121_code, prog_1_method_6_code, prog_1_method_8_code, prog_1_method_9_code, prog_1_method_11_code, prog_1_method_16_code, prog_1_method_17_code, prog_1_method_18_code, prog_1_method_19_code, prog_1_method_21_code, prog_1_method_22_code, prog_1_method_24_code, prog_1_method_25_code, prog_1_method_26_code, prog_1_method_27_code, prog_11_method_99_code, prog_1_method_34_code, prog_1_method_38_code, prog_1_method_41_code, prog_8_method_3_code, prog_7_method_11_code, prog_1_method_42_code, prog_11_method_109_code, prog_1_method_36_code, prog_11_method_94_code, prog_8_method_8_code, prog_9_method_1_code, prog_4_method_1_code, prog_1_method_50_code, prog_5_method_2_code, prog_7_method_3_code, prog_2_method_2_code, prog_11_method_16_code, prog_11_method_49_code, prog_11_method_6_code, prog_11_method_53_code, prog_11_method_56_code, prog_11_method_57_code, prog_11_method_62_code, prog_2_method_3_code, prog_11_method_60_code, prog_11_method_72_code, prog_11_method_73_code, prog_11_method_74_code, prog_11_method_75_code, prog_11_method_70_code, prog_11_method_79_code, prog_11_method_81_code, prog_11_method_78_code, prog_11_method_86_code, prog_11_method_87_code, prog_11_method_89_code, prog_7_method_13_code, prog_11_method_104_code, prog_11_method_68_code, prog_11_method_108_code, prog_1_method_58_code, prog_11_method_39_code, prog_1_method_45_code, prog_11_method_116_code, prog_1_method_1_code, prog_6_method_1_code, prog_5_method_1_code, prog_2_method_1_code, prog_3_method_1_code, prog_8_method_1_code, prog_11_method_1_code, prog_1_method_2_code, prog_11_method_120_code, prog_1_method_4_code, prog_6_method_2_code, prog_9_method_2_code, prog_6_method_21_code, prog_6_method_24_code, prog_6_method_26_code, prog_6_method_27_code, prog_11_method_17_code, prog_11_method_9_code, prog_11_method_2_code, prog_7_method_10_code, prog_11_method_54_code, prog_1_method_12_code, prog_7_method_6_code, prog_11_method_64_code, prog_11_method_63_code, prog_1_method_13_code, prog_7_method_7_code, prog_11_method_65_code, prog_1_method_14_code, prog_11_method_66_code, prog_1_method_15_code, prog_11_method_67_code, prog_1_method_20_code, prog_5_method_6_code, prog_5_method_5_code, prog_11_method_77_code, prog_11_method_76_code, prog_5_method_7_code, prog_11_method_83_code, prog_1_method_31_code, prog_1_method_57_code, prog_11_method_97_code, prog_1_method_37_code, prog_11_method_59_code, prog_1_method_43_code, prog_11_method_114_code, prog_1_method_44_code, prog_8_method_10_code, prog_11_method_115_code, prog_5_method_8_code, prog_1_method_63_code, prog_1_method_64_code, prog_1_method_56_code, prog_2_method_5_code, prog_2_method_6_code, prog_2_method_4_code, prog_3_method_11_code, prog_3_method_4_code, prog_3_method_8_code, prog_3_method_9_code, prog_3_method_7_code, prog_3_method_6_code, prog_3_method_5_code, prog_3_method_3_code, prog_3_method_10_code, prog_3_method_12_code, prog_3_method_2_code, prog_4_method_6_code, prog_4_method_4_code, prog_4_method_3_code, prog_4_method_2_code, prog_6_method_18_code, prog_6_method_25_code, prog_6_method_19_code, prog_6_method_13_code, prog_6_method_8_code, prog_6_method_11_code, prog_6_method_12_code, prog_6_method_5_code, prog_6_method_3_code, prog_6_method_7_code, prog_6_method_14_code, prog_6_method_4_code, prog_6_method_15_code, prog_6_method_16_code, prog_6_method_9_code, prog_6_method_17_code, prog_6_method_6_code, prog_6_method_10_code, prog_6_method_20_code, prog_6_method_23_code, prog_6_method_22_code, prog_7_method_8_code, prog_7_method_14_code, prog_7_method_15_code, prog_7_method_5_code, prog_7_method_12_code, prog_8_method_4_code, prog_11_method_15_code, prog_11_method_34_code, prog_11_method_32_code, prog_11_method_96_code, prog_11_method_35_code, prog_11_method_27_code, prog_11_method_25_code, prog_11_method_61_code, prog_11_method_5_code, prog_11_method_101_code, prog_11_method_52_code, prog_11_method_102_code, prog_11_method_31_code, prog_11_method_4_code, prog_11_method_18_code, prog_11_method_7_code, prog_11_method_3_code, prog_11_method_8_code, prog_11_method_10_code, prog_11_method_11_code, prog_11_method_103_code, prog_11_method_98_code, prog_11_method_12_code, prog_11_method_13_code, prog_11_method_14_code, prog_11_method_26_code, prog_11_method_30_code, prog_11_method_20_code, prog_11_method_21_code, prog_11_method_19_code, prog_11_method_24_code, prog_11_method_23_code, prog_11_method_85_code, prog_11_method_71_code, prog_11_method_33_code, prog_11_method_29_code, prog_11_method_22_code, prog_11_method_88_code, prog_11_method_28_code, prog_14_method_59_code, prog_14_method_50_code]
def q_b (i : Nat) : ByteArray := q_bl.getD i ByteArray.empty
def q_mll : List Nat := [1, 2, 5, 2, 5, 7, 6, 4, 3, 2, 3, 1, 3, 2, 2, 3, 1, 3, 2, 6, 7, 5, 1, 2, 4, 2, 4, 4, 5, 2, 3, 4, 4, 3, 4, 2, 1, 7, 7, 5, 2, 3, 9, 2, 4, 3, 1, 3, 3, 4, 1, 3, 4, 3, 2, 3, 2, 3, 3, 1, 2, 8, 2, 3, 2, 2, 5, 5, 3, 3, 2, 6, 5, 11, 10, 6, 7, 5, 4, 3, 2, 2, 2, 3, 3, 3, 3, 3, 4, 5, 5, 8, 3, 2, 3, 5, 5, 4, 3, 2, 2, 3, 4, 2, 2, 4, 6, 3, 1, 1, 1, 7, 2, 1, 1, 2, 1, 3, 3, 3, 4, 4, 2, 3, 7, 5, 5, 2, 8, 4, 2, 3, 4, 4, 1, 4, 2, 2, 7, 3, 7, 8, 1, 1, 1, 1, 1, 1, 1, 6, 8, 2, 5, 1, 2, 2, 1, 1, 2, 3, 2, 5, 4, 3, 4, 3, 3, 2, 4, 3, 1, 1, 1, 1, 1, 5, 7, 1, 6, 5, 10, 1, 5, 3, 5, 3, 2, 2, 4, 4, 5, 8, 1, 2, 4, 3, 4, 2, 5, 7, 5, 6, 6, 4, 7, 8, 8, 4, 2, 3, 2, 2, 2, 2, 1, 3, 4, 4, 1, 4, 2, 1, 3, 4, 1, 5, 5, 1, 5, 3, 1, 2, 1, 6, 4, 3, 6, 4, 5, 4, 5, 3, 2, 4, 4, 2, 3, 3, 3, 6, 4, 6, 2, 1, 1, 3, 1, 1, 2, 3, 4, 3, 1, 2, 4, 3, 1, 6, 3, 3, 2, 2, 3, 5, 3, 7, 2, 5, 1, 1, 3]
def q_ml (i : Nat) : Nat := q_mll.getD i 0
def q_rtl : List (Option FieldType) := [(some .int), (some .boolean), (some .int), (some .boolean), (some .int), (some .int), none, (some .boolean), (some .int), (some .int), (some .int), (some .int), (some .boolean), (some .boolean), (some .boolean), (some .int), (some .int), (some .int), (some .boolean), (some .int), none, none, (some .boolean), none, (some .int), (some .boolean), (some .int), (some .int), (some .int), (some .boolean), (some .int), (some .int), (some .int), (some .int), (some .int), (some .boolean), (some .int), (some .int), (some .int), (some .int), (some .int), (some .boolean), (some .int), (some .int), (some .int), (some .boolean), (some .int), (some .int), (some .int), none, (some .boolean), (some .int), (some .int), (some .boolean), (some .int), (some .int), (some .boolean), (some .int), (some .int), none, (some .int), (some .int), (some .int), none, (some .int), none, (some .int), (some .int), (some .int), (some .int), (some .int), (some .int), (some .int), (some .int), (some .int), (some .int), (some .int), none, none, (some .int), none, none, (some .int), (some .int), (some .int), (some .int), (some .int), (some .int), (some .int), (some .int), (some .int), (some .int), (some .int), (some .int), (some .int), (some .int), (some .int), (some .int), (some .int), (some .int), (some .boolean), (some .boolean), (some .int), (some .int), (some .int), (some .int), (some .int), (some .int), none, none, none, none, none, none, none, none, (some .boolean), (some .int), (some .int), (some .int), (some .int), none, none, (some .int), (some .int), (some .int), (some .int), none, (some .int), (some .int), (some .int), (some .int), (some .int), (some .int), (some .int), (some .int), (some .int), (some .boolean), (some .int), (some .int), (some .int), (some .int), none, none, none, none, none, none, none, (some .int), (some .int), (some .int), (some .boolean), none, none, (some .int), (some .boolean), (some .boolean), (some .int), none, (some .int), (some .int), (some .int), (some .int), none, (some .int), (some .int), (some .int), (some .int), (some .int), (some .boolean), (some .boolean), (some .boolean), (some .boolean), (some .int), (some .int), (some .int), (some .int), (some .int), (some .int), (some .int), (some .int), (some .int), (some .int), (some .int), (some .int), (some .int), (some .int), (some .int), (some .int), (some .int), (some .int), (some .int), (some .int), (some .boolean), (some (.object "SandNights$Sand")), (some (.object "SandNights$Sand")), (some (.object "SandNights$Sand")), (some .int), (some .int), (some .int), (some .int), (some .int), (some .int), (some .boolean), none, (some .int), (some .int), (some .int), (some .int), none, none, none, (some .boolean), (some .boolean), (some .boolean), (some .boolean), (some .int), (some .boolean), (some .boolean), (some .boolean), (some .boolean), (some .boolean), (some .boolean), (some .boolean), (some .boolean), (some .boolean), (some .boolean), (some .boolean), (some .boolean), (some .boolean), (some .boolean), none, none, (some .int), (some .int), (some .int), none, (some .int), (some .boolean), (some .int), (some .int), (some .boolean), (some .boolean), (some .int), none, none, none, none, (some .int), (some .int), (some .int), (some .boolean), (some .boolean), (some .boolean), (some .boolean), (some .boolean), (some .boolean), (some .boolean), (some .boolean), none, (some .boolean), none, none, (some .int), none, (some .int), (some .int), none, none, none, none, (some .int), none, (some .int), (some .boolean), (some .int), (some .int), (some .int), (some .int), (some .int)]
def q_rt (i : Nat) : Option FieldType := q_rtl.getD i none
def q_w0 : List Cond := lw_tbl.filter goodWord
abbrev q_NL : Type := String × Nat × MethodName × String
def q_nest : List q_NL := [("SandNights", 19, ⟨"SandNights$Reader", "<init>", "()V"⟩, "SandNights"), ("SandNights", 26, ⟨"SandNights$Told", "<init>", "()V"⟩, "SandNights"), ("SandNights$Told", 23, ⟨"SandNights$Formula", "<init>", "()V"⟩, "SandNights"), ("SandNights", 36, ⟨"SandNights$Ground", "<init>", "()V"⟩, "SandNights"), ("SandNights", 43, ⟨"SandNights$Sand", "<init>", "()V"⟩, "SandNights"), ("SandNights", 50, ⟨"SandNights$Acts", "<init>", "()V"⟩, "SandNights"), ("SandNights", 64, ⟨"SandNights$Finder", "<init>", "()V"⟩, "SandNights"), ("SandNights", 71, ⟨"SandNights$Sights", "<init>", "()V"⟩, "SandNights"), ("SandNights$Ground", 49, ⟨"SandNights", "bit", "(I)I"⟩, "SandNights"), ("SandNights$Ground", 53, ⟨"SandNights", "has", "(II)Z"⟩, "SandNights"), ("SandNights$Reader", 149, ⟨"SandNights", "has", "(II)Z"⟩, "SandNights"), ("SandNights$Reader", 130, ⟨"SandNights", "bit", "(I)I"⟩, "SandNights"), ("SandNights$Sand", 74, ⟨"SandNights", "bit", "(I)I"⟩, "SandNights"), ("SandNights$Acts", 27, ⟨"SandNights$Sand", "<init>", "()V"⟩, "SandNights"), ("SandNights$Sand", 70, ⟨"SandNights", "pair", "(II)I"⟩, "SandNights"), ("SandNights$Finder", 28, ⟨"SandNights", "has", "(II)Z"⟩, "SandNights"), ("SandNights$Finder", 66, ⟨"SandNights", "sumOf", "([III)I"⟩, "SandNights"), ("SandNights$Sand", 78, ⟨"SandNights", "has", "(II)Z"⟩, "SandNights"), ("SandNights$Finder", 76, ⟨"SandNights", "bit", "(I)I"⟩, "SandNights"), ("SandNights$Sights", 51, ⟨"SandNights", "has", "(II)Z"⟩, "SandNights"), ("SandNights$Sights", 57, ⟨"SandNights", "sumOf", "([III)I"⟩, "SandNights"), ("SandNights$Sights", 65, ⟨"SandNights", "bit", "(I)I"⟩, "SandNights")]
/-! the long constants, the texts -/
def z_lcs : List Nat := [32, 422607676264, 25209, 6845812, 131260314510706, 24948, 126943972910181, 1936484720, 1953064037, 2003398244, 1685217655, 7499639, 109330212154734, 120299592184933, 474214787188, 1953656676, 28530, 6385252, 7237492, 0, 1]
def z_lcv (k : Nat) : Int64 := Int64.ofNat (z_lcs.getD k 0)
def z_lens : List Nat := [90, 11]
end
section
/-! ===== what the tables must say; what a run of the evaluator means for the machine ===== -/
def q_lnk (i : Nat) (pc ln : Nat) (ins : Instr) (x y z : Nat) : Prop := match ins with
  | .iconst n => ln = 1 ∧ x ≤ 4294967295 ∧ Int32.ofInt n = nI x
  | .bipush n => ln = 2 ∧ x ≤ 4294967295 ∧ (Int8.ofInt n).toInt32 = nI x
  | .sipush n => ln = 3 ∧ x ≤ 4294967295 ∧ (Int16.ofInt n).toInt32 = nI x
  | .ldc n => z = 99 ∨ (ln = 2 ∧ x ≤ 4294967295 ∧ Cond.constant (q_y i).cls n (nI x) ∈ q_w0)
  | .ldc_w n => z = 99 ∨ (ln = 3 ∧ x ≤ 4294967295 ∧ Cond.constant (q_y i).cls n (nI x) ∈ q_w0)
  | .iload n => ln = 2 ∧ n = x
  | .aload n => ln = 2 ∧ n = x
  | .iload_n n => ln = 1 ∧ (n : Nat) = x
  | .aload_n n => ln = 1 ∧ (n : Nat) = x
  | .istore n => ln = 2 ∧ n = x ∧ x < q_ml i
  | .astore n => ln = 2 ∧ n = x ∧ x < q_ml i
  | .istore_n n => ln = 1 ∧ (n : Nat) = x ∧ x < q_ml i
  | .astore_n n => ln = 1 ∧ (n : Nat) = x ∧ x < q_ml i
  | .iinc n k => ln = 3 ∧ n = x ∧ x < q_ml i ∧ y ≤ 4294967295 ∧ Int32.ofInt k = nI y
  | .ifCond _ off => ln = 3 ∧ (pc : Int) + off = (x : Int)
  | .if_icmp _ off => ln = 3 ∧ (pc : Int) + off = (x : Int)
  | .ifnull off => ln = 3 ∧ (pc : Int) + off = (x : Int)
  | .ifnonnull off => ln = 3 ∧ (pc : Int) + off = (x : Int)
  | .goto off => ln = 3 ∧ (pc : Int) + off = (x : Int)
  | .tableswitch df lo hi offs => lo = (x : Int) ∧ hi = (y : Int) ∧ y < 2147483648 ∧ 0 ≤ (pc : Int) + df ∧ ∀ j, j < y + 1 - x → ∃ o, offs[j]? = some o ∧ 0 ≤ (pc : Int) + o
  | .new n => ln = 3 ∧ ∃ r, q_cls[x]? = some r ∧ y = r.2.2 ∧ Cond.classLink (q_y i).cls n r.1 ∈ q_w0 ∧ Cond.instantiable r.1 y ∈ q_w0 ∧ Cond.initialized r.1 ∈ q_w0 ∧ ∀ j, j < y → (q_get z j = 4294967313 ∧ (q_fty.getD x (fun _ => .int)) j = .long) ∨ (q_get z j = 0 ∧ (q_fty.getD x (fun _ => .int)) j = .int) ∨ (q_get z j = 0 ∧ (q_fty.getD x (fun _ => .int)) j = .boolean) ∨ (q_get z j = 4294967312 ∧ defaultValue ((q_fty.getD x (fun _ => .int)) j) = .null)
  | .newarray t => ln = 2 ∧ Cond.arrayClass (newarray.typeOf t) ∈ q_w0 ∧ ((x = 1 ∧ newarray.typeOf t = .int) ∨ (x = 3 ∧ newarray.typeOf t = .byte) ∨ (x = 5 ∧ newarray.typeOf t = .boolean) ∨ (x = 7 ∧ newarray.typeOf t = .long))
  | .anewarray n => ln = 3 ∧ Cond.classLink (q_y i).cls n "SandNights$Sand" ∈ q_w0
  | .getfield n => ln = 3 ∧ ∃ r, q_cls[x]? = some r ∧ y < r.2.2 ∧ Cond.fieldLink (q_y i).cls n (r.2.1 y).1 (r.2.1 y).2.1 (r.2.1 y).2.2.1 ∈ q_w0
  | .putfield n => ln = 3 ∧ ∃ r, q_cls[x]? = some r ∧ y < r.2.2 ∧ Cond.fieldLink (q_y i).cls n (r.2.1 y).1 (r.2.1 y).2.1 (r.2.1 y).2.2.1 ∈ q_w0 ∧ ((r.2.1 y).2.2.2 = false ∨ ((r.2.1 y).2.2.2 = true ∧ (q_y i).name = "<init>" ∧ (r.2.1 y).1 = (q_y i).cls)) ∧ ∃ ty, parseFieldDescriptor (r.2.1 y).2.2.1 = some ty ∧ ((z = 0 ∧ ty = .int) ∨ (z = 1 ∧ ty = .boolean) ∨ (z = 2 ∧ ((∃ n, ty = .object n) ∨ ∃ t, ty = .array t)) ∨ (z = 3 ∧ ty = .long))
  | .invokevirtual n => z = 99 ∨ (ln = 3 ∧ x < q_nM ∧ y ≤ q_ml x ∧ 0 < y ∧ (parseMethodDescriptor (q_y x).desc).map (fun d => d.parameters.length) = some (y - 1) ∧ Cond.instanceMethod (q_y x) ∈ q_w0 ∧ Cond.selects (q_y x).cls (q_y x) (q_y x) ∈ q_w0 ∧ (∃ r, q_cls[z]? = some r ∧ r.1 = (q_y x).cls) ∧ Cond.methodLink (q_y i).cls n (q_y x) ∈ q_w0)
  | .invokestatic n => z = 99 ∨ (ln = 3 ∧ ((z = 77 ∧ Cond.methodLink (q_y i).cls n arraycopyName ∈ q_w0) ∨ (¬ z = 77 ∧ x < q_nM ∧ y ≤ q_ml x ∧ (parseMethodDescriptor (q_y x).desc).map (fun d => d.parameters.length) = some y ∧ Cond.static (q_y x) ∈ q_w0 ∧ (Cond.methodLink (q_y i).cls n (q_y x) ∈ q_w0 ∨ ∃ host, ((q_y i).cls, n, q_y x, host) ∈ q_nest))))
  | .invokespecial n => z = 99 ∨ (ln = 3 ∧ ((z = 78 ∧ Cond.methodLink (q_y i).cls n Lib.objectInit ∈ q_w0) ∨ (¬ z = 78 ∧ x < q_nM ∧ y ≤ q_ml x ∧ 0 < y ∧ (parseMethodDescriptor (q_y x).desc).map (fun d => d.parameters.length) = some (y - 1) ∧ (q_y x).name = "<init>" ∧ q_rt x = none ∧ Cond.instanceMethod (q_y x) ∈ q_w0 ∧ (Cond.methodLink (q_y i).cls n (q_y x) ∈ q_w0 ∨ ∃ host, ((q_y i).cls, n, q_y x, host) ∈ q_nest))))
  | .ireturn => ln = 1 ∧ ((x = 0 ∧ q_rt i = some .int) ∨ (x = 1 ∧ q_rt i = some .boolean) ∨ 2 ≤ x)
  | .areturn => ln = 1 ∧ ∃ rt, q_rt i = some rt ∧ ((∃ n, rt = .object n) ∨ ∃ t, rt = .array t)
  | .return_ => ln = 1 ∧ q_rt i = none
  | .lconst _ | .aconst_null | .iadd | .isub | .imul | .iand | .ior | .ixor | .ineg | .idiv | .irem | .ishl | .ishr | .iushr | .i2b | .dup | .dup2 | .pop | .arraylength | .iaload | .baload | .aaload | .iastore | .bastore | .aastore => ln = 1
  | _ => True
/-- each instruction stands where the one before it ends -/
def q_chn : List q_I → Bool
  | [] => true
  | [_] => true
  | a :: b :: t => Nat.beq b.1 (a.1 + a.2.1) && q_chn (b :: t)
def q_mok (i : Nat) : Prop := Cond.code (q_y i) (q_b i) (q_ml i) (q_rt i) ∈ q_w0 ∧ plainFor (q_y i) = true ∧ Cond.initialized (q_y i).cls ∈ q_w0 ∧ (q_y i).cls ≠ "java/lang/invoke/MethodHandle" ∧ (q_y i).cls ≠ "java/lang/invoke/VarHandle" ∧ q_ml i ≤ 21 ∧ q_chn (q_code i) = true ∧ (∃ t, (q_code i).head? = some t ∧ t.1 = 0) ∧ ∀ e ∈ q_code i, decode (q_b i) e.1 = .ok (e.2.2.1, e.2.1) ∧ q_lnk i e.1 e.2.1 e.2.2.1 e.2.2.2.1 e.2.2.2.2.1 e.2.2.2.2.2
/-- what holds beside the tables' plain words -/
def q_X (U : State) : Prop := (∀ w ∈ q_nest, va_Nw (.methodLinkNest w.1 w.2.1 w.2.2.1 w.2.2.2) U) ∧ va_AO "SandNights$Sand" U
theorem q_X.warm {s U : State} (hW : s.WarmedH U.vm) (h : q_X s) : q_X U := ⟨fun w hw => va_Nw.warmM hW (h.1 w hw), va_AO.moved hW.alike h.2⟩
abbrev q_A (base : Nat) : Nat → Prop := fun q => base ≤ q
def q_Pc (base : Nat) (D : va_G) (env : Nat → Int32) (ad0 : List Nat) (av : List Value) (h : q_H) : Array Value → State → Prop := va_Pc av (fun U => base ≤ U.heap.size ∧ q_X U ∧ ∃ (ws : va_W) (tys : List (ClassId × FieldType)), q_ad ws = ad0 ∧ q_W env h ws tys ∧ va_P D q_cls ws U.heap ∧ va_K D q_cls tys U ∧ va_D (q_A base) ws)
def q_rv (env : Nat → Int32) (ad : List Nat) (r : List Nat) (v : Option Value) : Prop := (r = [] ∧ v = none) ∨ ∃ c x, r = [c] ∧ v = some x ∧ q_v env ad c x
def q_Qc (base : Nat) (D : va_G) (env : Nat → Int32) (ad0 : List Nat) (hf : q_H) (r : List Nat) : Array Value → State → Outcome → State → Prop := fun _ st oc t => (∃ (v : Option Value) (ws : va_W) (tys : List (ClassId × FieldType)), oc = .returned v ∧ q_rv env (q_ad ws) r v ∧ ad0 <+: q_ad ws ∧ q_W env hf ws tys ∧ va_P D q_cls ws t.heap ∧ va_K D q_cls tys t ∧ va_D (q_A base) ws) ∧ va_F (q_A base) st t
def q_S (env : Nat → Int32) (ad : List Nat) : List Nat → List Value → Prop
  | [], [] => True
  | c :: st, v :: sv => q_v env ad c v ∧ q_S env ad st sv
  | _, _ => False
def q_rm (d mc ms : Nat) : Room := { frames := d, cells := mc, slots := ms, locals := 40 * d }
def q_wy (i : Nat) : List Cond := .code (q_y i) (q_b i) (q_ml i) (q_rt i) :: q_w0
/-- a method's run from a heap to another, as a contract -/
def q_Met (l : Launch) (base : Nat) (D : va_G) (env : Nat → Int32) (d i : Nat) (as : List Nat) (h hf : q_H) (r : List Nat) : Prop := (h.1 ≤ hf.1 ∧ q_ss h ≤ q_ss hf) ∧ ∀ (ad0 : List Nat) (av : List Value), q_S env ad0 as av → Met l (q_y i) (q_wy i) (q_rm d (hf.1 - h.1) (q_ss hf - q_ss h)) (q_Pc base D env ad0 av h) (q_Qc base D env ad0 hf r) (hf.1 - h.1) (q_ss hf - q_ss h) (q_A base)
/-- what stays through a method's body -/
def q_Cx (base i : Nat) (p : Program) (s : State) (m : MethodId) (args : Array Value) (meth : Method) (c : Code) : Prop := p.tables.exec = Jvm.exec ∧ c.code = q_b i ∧ meth.sig.returnType = q_rt i ∧ c.maxLocals = q_ml i ∧ s.vm.findClass (q_y i).cls = some m.cls ∧ (∀ w ∈ q_w0, w.before args s = true) ∧ q_X s ∧ meth.locks = false ∧ meth.name = (q_y i).name ∧ base ≤ s.heap.size
/-- the machine at an instruction comes to the method's end as the evaluator says -/
def q_G (l : Launch) (base : Nat) (D : va_G) (env : Nat → Int32) (d i pc loc : Nat) (st : List Nat) (h hf : q_H) (r : List Nat) : Prop :=
  (h.1 ≤ hf.1 ∧ q_ss h ≤ q_ss hf) ∧ ∀ (p : Program) (e : Env) (s : State) (m : MethodId) (args : Array Value) (below : List Frame) (meth : Method) (c : Code) (H : Heap) (locs : List Loc) (ls : Array Slot) (sv : List Value) (ws : va_W) (tys : List (ClassId × FieldType)) (ad0 : List Nat) (n0 s0 : Nat),
    q_Cx base i p s m args meth c → q_W env h ws tys → va_P D q_cls ws H → va_K D q_cls tys s → va_D (q_A base) ws → va_S (q_A base) s.heap H locs → ad0 <+: q_ad ws → q_L env (q_ad ws) loc (q_ml i) ls → q_S env (q_ad ws) st sv → n0 ≤ h.1 → s0 ≤ q_ss h →
    W p l e (q_rm d (hf.1 - n0) (q_ss hf - s0)) s m args below meth c H locs (h.1 - n0) (q_ss h - s0) (MQ below (q_Qc base D env ad0 hf r) args s (hf.1 - n0) (q_ss hf - s0) (q_A base)) (F0 m pc ls sv)
theorem q_S.mono {env : Nat → Int32} {ad ad' : List Nat} (hp : ad <+: ad') : ∀ {st : List Nat} {sv : List Value}, q_S env ad st sv → q_S env ad' st sv
  | [], [], _ => trivial
  | _ :: _, _ :: _, h => ⟨h.1.mono hp, q_S.mono hp h.2⟩
  | [], _ :: _, h => h.elim
  | _ :: _, [], h => h.elim
theorem q_S.cons {env : Nat → Int32} {ad : List Nat} {c : Nat} {st : List Nat} {sv : List Value} (h : q_S env ad (c :: st) sv) : ∃ v sv', sv = v :: sv' ∧ q_v env ad c v ∧ q_S env ad st sv' := by
  cases sv with
  | nil => exact h.elim
  | cons v sv' => exact ⟨v, sv', rfl, h.1, h.2⟩
theorem q_S.nil {env : Nat → Int32} {ad : List Nat} {sv : List Value} (h : q_S env ad [] sv) : sv = [] := by
  cases sv with
  | nil => rfl
  | cons v sv' => exact h.elim
theorem q_S.cats {env : Nat → Int32} {ad : List Nat} : ∀ {st : List Nat} {sv : List Value}, q_S env ad st sv → sv.length = st.length ∧ (sv.map fun v => v.category).sum ≤ 2 * st.length
  | [], [], _ => ⟨rfl, by simp⟩
  | c :: st, v :: sv, h => by
    have ih := q_S.cats h.2
    have := h.1.cat2
    simp only [List.length_cons, List.map_cons, List.sum_cons]
    omega
  | [], _ :: _, h => h.elim
  | _ :: _, [], h => h.elim
theorem q_bifs {α : Type} {b : Bool} {X : Option α} {R : α} (h : (bif b then X else none) = some R) : b = true ∧ X = some R := by
  cases b with
  | true => exact ⟨rfl, h⟩
  | false => cases h
theorem q_ands {a b : Bool} (h : (a && b) = true) : a = true ∧ b = true := by
  cases a with
  | true => exact ⟨rfl, h⟩
  | false => cases h
theorem q_ors {a b : Bool} (h : (a || b) = true) : a = true ∨ b = true := by
  cases a with
  | true => exact Or.inl rfl
  | false => exact Or.inr h
theorem q_at_inv {α : Type} {h : q_H} {c : Nat} {k : Nat → Nat → Nat → Nat → Option α} {R : α} (hr : q_at h c k = some R) : ∃ j, 4294967328 ≤ c ∧ j = c - 4294967328 ∧ j < h.1 ∧ h.1 ≤ 128 ∧ k j (q_tg 7 h.2 j).1 (q_tg 7 h.2 j).2.1 (q_tg 7 h.2 j).2.2 = some R := by
  obtain ⟨h1, h2⟩ := q_bifs hr
  obtain ⟨h3, h4⟩ := q_ands h1
  rw [q_fr_eq] at h2
  obtain ⟨h4, h6⟩ := q_ands h4
  have h5 := q_blt.mp h4
  refine ⟨q_rf c, q_ble.mp h3, q_rf_eq c, h5, q_ble.mp h6, h2⟩
theorem q_nw_inv {α : Type} {h : q_H} {kd ln N : Nat} {k : q_H → Nat → Option α} {R : α} (hr : q_nw h kd ln N k = some R) : h.1 < 128 ∧ k (h.1 + 1, q_ts 7 h.2 h.1 (kd, ln, N)) (4294967328 + h.1) = some R := by
  obtain ⟨h1, h2⟩ := q_bifs hr
  rw [q_fr_eq] at h2
  have e : Nat.add 4294967328 h.1 = 4294967328 + h.1 := Nat.add_eq
  rw [e] at h2
  exact ⟨q_blt.mp h1, h2⟩
theorem q_ar_inv {α : Type} {f : Nat → Nat → Nat} {st : List Nat} {k : List Nat → Option α} {R : α} (hr : q_ar f st k = some R) : ∃ b a r, st = b :: a :: r ∧ ((a ≤ 4294967295 ∧ b ≤ 4294967295 ∧ k (f a b :: r) = some R) ∨ (a ≤ 4294967311 ∧ b ≤ 4294967311 ∧ k (4294967296 :: r) = some R)) := by
  match st, hr with
  | [], hr => cases hr
  | [_], hr => cases hr
  | b :: a :: r, hr =>
    refine ⟨b, a, r, rfl, ?_⟩
    cases hb : q_e2 a b with
    | true =>
      have hr : (bif q_e2 a b then q_fr (f a b) (fun v => k (v :: r)) else bif q_i2 a b then k (4294967296 :: r) else none) = some R := hr
      rw [q_ift _ _ hb, q_fr_eq] at hr
      obtain ⟨h1, h2⟩ := q_ands hb
      exact Or.inl ⟨q_ble.mp h1, q_ble.mp h2, hr⟩
    | false =>
      have hr : (bif q_e2 a b then q_fr (f a b) (fun v => k (v :: r)) else bif q_i2 a b then k (4294967296 :: r) else none) = some R := hr
      rw [q_iff _ _ hb] at hr
      obtain ⟨h1, h2⟩ := q_bifs hr
      obtain ⟨h3, h4⟩ := q_ands h1
      exact Or.inr ⟨q_ble.mp h3, q_ble.mp h4, h2⟩
theorem q_br_inv {α : Type} {o : Option Bool} {t f : Option α} {R : α} (hr : q_br o t f = some R) : (o = some true ∧ t = some R) ∨ (o = some false ∧ f = some R) := by
  match o, hr with
  | some true, hr => exact Or.inl ⟨rfl, hr⟩
  | some false, hr => exact Or.inr ⟨rfl, hr⟩
  | none, hr => cases hr
end
section
/-! ===== instruction by instruction ===== -/
def q_HN (l : Launch) (base : Nat) (D : va_G) (env : Nat → Int32) (ih : q_F) (i pc ln : Nat) (tl : List q_I) : Prop := ∀ (d loc : Nat) (st : List Nat) (h hf : q_H) (r : List Nat), ih d i (q_code i) tl loc st h = some (hf, r) → q_G l base D env d i (pc + ln) loc st h hf r
def q_HJ (l : Launch) (base : Nat) (D : va_G) (env : Nat → Int32) (ih : q_F) (i : Nat) : Prop := ∀ (t d loc : Nat) (st : List Nat) (h hf : q_H) (r : List Nat), ih d i (q_code i) (q_jm (q_code i) t) loc st h = some (hf, r) → q_G l base D env d i t loc st h hf r
theorem q_v.exq {env : Nat → Int32} (ad : List Nat) {c : Nat} {x : Int32} (hc : c ≤ 4294967295) (hx : x = nI c) : q_v env ad c (.int x) := Or.inl ⟨hc, by rw [hx]⟩
theorem q_w_le (n : Nat) : q_w n ≤ 4294967295 := by
  have : n % 4294967296 < 4294967296 := Nat.mod_lt _ (by decide)
  show n % 4294967296 ≤ 4294967295
  omega
theorem q_v_add {env : Nat → Int32} (ad : List Nat) {a b : Nat} (_ : a ≤ 4294967295) (_ : b ≤ 4294967295) : q_v env ad (q_w (Nat.add a b)) (.int (nI a + nI b)) := q_v.exq ad (q_w_le _) ((nI_add a b).trans (q_nI_w _).symm)
theorem q_v_sub {env : Nat → Int32} (ad : List Nat) {a b : Nat} (_ : a ≤ 4294967295) (hb : b ≤ 4294967295) : q_v env ad (q_w (Nat.sub (Nat.add a 4294967296) b)) (.int (nI a - nI b)) := by
  have e : Nat.sub (Nat.add a 4294967296) b = a + 4294967296 - b := by rw [Nat.sub_eq, Nat.add_eq]
  rw [e]
  exact q_v.exq ad (q_w_le _) ((q_sub a b (by omega)).trans (q_nI_w _).symm)
theorem q_v_mul {env : Nat → Int32} (ad : List Nat) {a b : Nat} (_ : a ≤ 4294967295) (_ : b ≤ 4294967295) : q_v env ad (q_w (Nat.mul a b)) (.int (nI a * nI b)) := q_v.exq ad (q_w_le _) ((pk_mul a b).trans (q_nI_w _).symm)
theorem q_v_and {env : Nat → Int32} (ad : List Nat) {a b : Nat} (ha : a ≤ 4294967295) (_ : b ≤ 4294967295) : q_v env ad (Nat.land a b) (.int (nI a &&& nI b)) := q_v.exq ad (Nat.le_trans (show a &&& b ≤ a from Nat.and_le_left) ha) (q_and a b)
theorem q_v_or {env : Nat → Int32} (ad : List Nat) {a b : Nat} (ha : a ≤ 4294967295) (hb : b ≤ 4294967295) : q_v env ad (Nat.lor a b) (.int (nI a ||| nI b)) := q_v.exq ad (Nat.le_of_lt_succ (show a ||| b < 2 ^ 32 from Nat.or_lt_two_pow (by omega) (by omega))) (q_or a b)
theorem q_v_xor {env : Nat → Int32} (ad : List Nat) {a b : Nat} (ha : a ≤ 4294967295) (hb : b ≤ 4294967295) : q_v env ad (Nat.xor a b) (.int (nI a ^^^ nI b)) := q_v.exq ad (Nat.le_of_lt_succ (show a ^^^ b < 2 ^ 32 from Nat.xor_lt_two_pow (by omega) (by omega))) (q_xor a b)
theorem q_ld_inv {α : Type} {f : Nat → Option α} {n : Nat} {R : α} (h : Nat.rec (motive := fun _ => Option α) none (fun c _ => f c) n = some R) : ∃ c, n = c + 1 ∧ f c = some R := by
  cases n with
  | zero => cases h
  | succ c => exact ⟨c, rfl, h⟩
theorem q_an_inv {α : Type} {rg : Nat → Nat × Nat} {st : List Nat} {k : List Nat → Option α} {R : α} (hr : q_an rg st k = some R) : ∃ b a r, st = b :: a :: r ∧ ((a ≤ 4294967295 ∧ b ≤ 4294967295 ∧ k (Nat.land a b :: r) = some R) ∨ (a ≤ 4294967311 ∧ b ≤ 4294967311 ∧ k (q_ax rg a b :: r) = some R)) := by
  match st, hr with
  | [], hr => cases hr
  | [_], hr => cases hr
  | b :: a :: r, hr =>
    refine ⟨b, a, r, rfl, ?_⟩
    have hr : (bif q_e2 a b then q_fr (Nat.land a b) (fun v => k (v :: r)) else bif q_i2 a b then q_fr (q_ax rg a b) (fun v => k (v :: r)) else none) = some R := hr
    cases hb : q_e2 a b with
    | true =>
      rw [q_ift _ _ hb, q_fr_eq] at hr
      obtain ⟨h1, h2⟩ := q_ands hb
      exact Or.inl ⟨q_ble.mp h1, q_ble.mp h2, hr⟩
    | false =>
      rw [q_iff _ _ hb] at hr
      obtain ⟨h1, h2⟩ := q_bifs hr
      rw [q_fr_eq] at h2
      obtain ⟨h3, h4⟩ := q_ands h1
      exact Or.inr ⟨q_ble.mp h3, q_ble.mp h4, h2⟩
theorem q_and_hi (n : Nat) (h : n < 4294967296) : n &&& 4294901760 = n / 65536 * 65536 := by
  apply Nat.eq_of_testBit_eq
  intro j
  rw [Nat.testBit_and, show (65536 : Nat) = 2 ^ 16 from rfl, show (4294901760 : Nat) = (2 ^ 16 - 1) * 2 ^ 16 from rfl, Nat.testBit_mul_two_pow, Nat.testBit_mul_two_pow, Nat.testBit_two_pow_sub_one, Nat.testBit_div_two_pow]
  by_cases h1 : 16 ≤ j
  · rw [show j - 16 + 16 = j by omega]
    by_cases h2 : j < 32
    · simp [h1, show j - 16 < 16 by omega]
    · rw [Nat.testBit_lt_two_pow (Nat.lt_of_lt_of_le h (show 2 ^ 32 ≤ 2 ^ j from Nat.pow_le_pow_right (by decide) (by omega)))]
      simp
  · simp [h1]
theorem q_self (x : Int32) : x = nI x.toBitVec.toNat ∧ x.toBitVec.toNat < 4294967296 := by
  have h := x.toBitVec.isLt
  exact ⟨q_bits (by rw [Nat.mod_eq_of_lt h]), h⟩
theorem q_v_ax {env : Nat → Int32} {rg : Nat → Nat × Nat} {ad : List Nat} {a b : Nat} {xa xb : Int32} (hva : q_v env ad a (.int xa)) (ha : (a ≤ 4294967295 → xa = nI a) ∧ q_lo rg a ≤ q_qb xa ∧ q_qb xa ≤ q_hi rg a) (hb : b ≤ 4294967295 → xb = nI b) : q_v env ad (q_ax rg a b) (.int (xa &&& xb)) := by
  unfold q_ax
  cases h1 : Nat.beq b 4294967295 with
  | true =>
    rw [q_ift _ _ rfl]
    have h1 := q_beq.mp h1
    have e : xa &&& xb = xa := by
      rw [hb (by omega), h1, show nI 4294967295 = (-1 : Int32) by decide, Int32.and_neg_one]
    rw [e]
    exact hva
  | false =>
    rw [q_iff _ _ rfl]
    obtain ⟨e0, hlt⟩ := q_self xa
    have a1 := ha.2.1
    have a2 := ha.2.2
    have hqb : q_qb xa = q_bi xa.toBitVec.toNat := by
      have := q_qb_nI (c := xa.toBitVec.toNat) (by omega)
      rw [← e0] at this
      exact this
    generalize xa.toBitVec.toNat = n at e0 hlt hqb
    have hbi : q_bi n = (n + 2147483648) % 4294967296 := rfl
    rw [hbi] at hqb
    cases h2 : (Nat.ble 2147483648 (q_lo rg a) && (Nat.ble (q_hi rg a) 2147549183 && Nat.beq b 4294901760)) with
    | true =>
      rw [q_ift _ _ rfl]
      obtain ⟨h3, h4⟩ := q_ands h2
      obtain ⟨h4, h5⟩ := q_ands h4
      have h3 := q_ble.mp h3
      have h4 := q_ble.mp h4
      have h5 := q_beq.mp h5
      refine q_v.exq ad (Nat.zero_le _) ?_
      rw [hb (by omega), h5, e0, q_and, q_and_hi n hlt, Nat.div_eq_of_lt (by omega), Nat.zero_mul]
    | false =>
      rw [q_iff _ _ rfl]
      cases h3 : (Nat.ble (q_hi rg a) 2147483647 && Nat.beq b 4294901760) with
      | true =>
        rw [q_ift _ _ rfl]
        obtain ⟨h3, h5⟩ := q_ands h3
        have h3 := q_ble.mp h3
        have h5 := q_beq.mp h5
        refine Or.inr (Or.inl ⟨Or.inr (Or.inr rfl), _, rfl, fun h => absurd h (by decide), fun _ => ?_⟩)
        rw [hb (by omega), h5, e0, q_and, q_and_hi n hlt, q_qb_nI (by omega)]
        show (n / 65536 * 65536 + 2147483648) % 4294967296 ≤ 2147483647
        omega
      | false =>
        rw [q_iff _ _ rfl]
        cases h4 : (Nat.ble 2147549184 (q_lo rg a) && Nat.beq b 4294901760) with
        | true =>
          rw [q_ift _ _ rfl]
          obtain ⟨h4, h5⟩ := q_ands h4
          have h4 := q_ble.mp h4
          have h5 := q_beq.mp h5
          refine Or.inr (Or.inl ⟨Or.inr (Or.inl rfl), _, rfl, fun _ => ?_, fun h => absurd h (by decide)⟩)
          rw [hb (by omega), h5, e0, q_and, q_and_hi n hlt, q_qb_nI (by omega)]
          show 2147483649 ≤ (n / 65536 * 65536 + 2147483648) % 4294967296
          omega
        | false =>
          rw [q_iff _ _ rfl]
          exact q_v.top ad _
theorem q_m31 : ∀ b : Nat, b < 32 → nI b &&& 31 = nI b := by decide +kernel
theorem q_bifn {α : Type} {b : Bool} {X : Option α} {R : α} (h : (bif b then none else X) = some R) : b = false ∧ X = some R := by
  cases b with
  | false => exact ⟨rfl, h⟩
  | true => cases h
section QI
variable {l : Launch} {base : Nat} {D : va_G} {env : Nat → Int32} {rg : Nat → Nat × Nat} {mem : q_M} {ih : q_F} {d i pc ln x y z loc : Nat} {tl : List q_I} {st : List Nat} {h hf : q_H} {r : List Nat}
theorem q_s_iconst {n : Int} (hrg : q_rgs env rg) (hd : decode (q_b i) pc = .ok (.iconst n, ln)) (hk : q_lnk i pc ln (.iconst n) x y z) (hN : q_HN l base D env ih i pc ln tl) (hr : q_step rg q_code mem ih d i (q_code i) pc (.iconst n) x y z tl loc st h = some (hf, r)) : q_G l base D env d i pc loc st h hf r := by
  obtain ⟨e1, e2, e3⟩ := hk
  subst e1
  obtain ⟨hm, hg⟩ := hN d loc (x :: st) h hf r hr
  refine ⟨hm, fun p e s m args below meth c H locs ls sv ws tys ad0 n0 s0 C hw hP hK hD hS hp hL hs hn0 hs0 => ?_⟩
  exact lv_iconst C.1 C.2.1 hd e3 (hg p e s m args below meth c H locs ls (.int (nI x) :: sv) ws tys ad0 n0 s0 C hw hP hK hD hS hp hL (⟨q_v.ex _ e2, hs⟩) hn0 hs0)
theorem q_s_bipush {n : Int} (hrg : q_rgs env rg) (hd : decode (q_b i) pc = .ok (.bipush n, ln)) (hk : q_lnk i pc ln (.bipush n) x y z) (hN : q_HN l base D env ih i pc ln tl) (hr : q_step rg q_code mem ih d i (q_code i) pc (.bipush n) x y z tl loc st h = some (hf, r)) : q_G l base D env d i pc loc st h hf r := by
  obtain ⟨e1, e2, e3⟩ := hk
  subst e1
  obtain ⟨hm, hg⟩ := hN d loc (x :: st) h hf r hr
  refine ⟨hm, fun p e s m args below meth c H locs ls sv ws tys ad0 n0 s0 C hw hP hK hD hS hp hL hs hn0 hs0 => ?_⟩
  exact lv_bipush C.1 C.2.1 hd e3 (hg p e s m args below meth c H locs ls (.int (nI x) :: sv) ws tys ad0 n0 s0 C hw hP hK hD hS hp hL (⟨q_v.ex _ e2, hs⟩) hn0 hs0)
theorem q_s_sipush {n : Int} (hrg : q_rgs env rg) (hd : decode (q_b i) pc = .ok (.sipush n, ln)) (hk : q_lnk i pc ln (.sipush n) x y z) (hN : q_HN l base D env ih i pc ln tl) (hr : q_step rg q_code mem ih d i (q_code i) pc (.sipush n) x y z tl loc st h = some (hf, r)) : q_G l base D env d i pc loc st h hf r := by
  obtain ⟨e1, e2, e3⟩ := hk
  subst e1
  obtain ⟨hm, hg⟩ := hN d loc (x :: st) h hf r hr
  refine ⟨hm, fun p e s m args below meth c H locs ls sv ws tys ad0 n0 s0 C hw hP hK hD hS hp hL hs hn0 hs0 => ?_⟩
  exact lv_sipush C.1 C.2.1 hd e3 (hg p e s m args below meth c H locs ls (.int (nI x) :: sv) ws tys ad0 n0 s0 C hw hP hK hD hS hp hL (⟨q_v.ex _ e2, hs⟩) hn0 hs0)
theorem q_s_ldc {n : Nat} (hrg : q_rgs env rg) (hd : decode (q_b i) pc = .ok (.ldc n, ln)) (hk : q_lnk i pc ln (.ldc n) x y z) (hN : q_HN l base D env ih i pc ln tl) (hr : q_step rg q_code mem ih d i (q_code i) pc (.ldc n) x y z tl loc st h = some (hf, r)) : q_G l base D env d i pc loc st h hf r := by
  have hr : (bif Nat.beq z 99 then none else ih d i (q_code i) tl loc (x :: st) h) = some (hf, r) := hr
  obtain ⟨hz, hr⟩ := q_bifn hr
  rcases hk with hk | ⟨e1, e2, e3⟩
  · exact absurd hk (q_bneq.mp hz)
  subst e1
  obtain ⟨hm, hg⟩ := hN d loc (x :: st) h hf r hr
  refine ⟨hm, fun p e s m args below meth c H locs ls sv ws tys ad0 n0 s0 C hw hP hK hD hS hp hL hs hn0 hs0 => ?_⟩
  exact lv_ldc C.1 C.2.1 C.2.2.2.2.1 (C.2.2.2.2.2.1 _ e3) hd (hg p e s m args below meth c H locs ls (.int (nI x) :: sv) ws tys ad0 n0 s0 C hw hP hK hD hS hp hL (⟨q_v.ex _ e2, hs⟩) hn0 hs0)
theorem q_s_ldc_w {n : Nat} (hrg : q_rgs env rg) (hd : decode (q_b i) pc = .ok (.ldc_w n, ln)) (hk : q_lnk i pc ln (.ldc_w n) x y z) (hN : q_HN l base D env ih i pc ln tl) (hr : q_step rg q_code mem ih d i (q_code i) pc (.ldc_w n) x y z tl loc st h = some (hf, r)) : q_G l base D env d i pc loc st h hf r := by
  have hr : (bif Nat.beq z 99 then none else ih d i (q_code i) tl loc (x :: st) h) = some (hf, r) := hr
  obtain ⟨hz, hr⟩ := q_bifn hr
  rcases hk with hk | ⟨e1, e2, e3⟩
  · exact absurd hk (q_bneq.mp hz)
  subst e1
  obtain ⟨hm, hg⟩ := hN d loc (x :: st) h hf r hr
  refine ⟨hm, fun p e s m args below meth c H locs ls sv ws tys ad0 n0 s0 C hw hP hK hD hS hp hL hs hn0 hs0 => ?_⟩
  exact lv_ldcw C.1 C.2.1 C.2.2.2.2.1 (C.2.2.2.2.2.1 _ e3) hd (hg p e s m args below meth c H locs ls (.int (nI x) :: sv) ws tys ad0 n0 s0 C hw hP hK hD hS hp hL (⟨q_v.ex _ e2, hs⟩) hn0 hs0)
theorem q_s_lconst {n : Fin 2} (hrg : q_rgs env rg) (hd : decode (q_b i) pc = .ok (.lconst n, ln)) (hk : q_lnk i pc ln (.lconst n) x y z) (hN : q_HN l base D env ih i pc ln tl) (hr : q_step rg q_code mem ih d i (q_code i) pc (.lconst n) x y z tl loc st h = some (hf, r)) : q_G l base D env d i pc loc st h hf r := by
  have e1 : ln = 1 := hk
  subst e1
  obtain ⟨hm, hg⟩ := hN d loc (4294967314 :: st) h hf r hr
  refine ⟨hm, fun p e s m args below meth c H locs ls sv ws tys ad0 n0 s0 C hw hP hK hD hS hp hL hs hn0 hs0 => ?_⟩
  exact lv_lconst C.1 C.2.1 hd rfl (hg p e s m args below meth c H locs ls (.long (Int64.ofNat (n : Nat)) :: sv) ws tys ad0 n0 s0 C hw hP hK hD hS hp hL (⟨Or.inr (Or.inr (Or.inr (Or.inr (Or.inl ⟨rfl, _, rfl⟩)))), hs⟩) hn0 hs0)
theorem q_s_null (hrg : q_rgs env rg) (hd : decode (q_b i) pc = .ok (.aconst_null, ln)) (hk : q_lnk i pc ln (.aconst_null) x y z) (hN : q_HN l base D env ih i pc ln tl) (hr : q_step rg q_code mem ih d i (q_code i) pc (.aconst_null) x y z tl loc st h = some (hf, r)) : q_G l base D env d i pc loc st h hf r := by
  have e1 : ln = 1 := hk
  subst e1
  obtain ⟨hm, hg⟩ := hN d loc (4294967312 :: st) h hf r hr
  refine ⟨hm, fun p e s m args below meth c H locs ls sv ws tys ad0 n0 s0 C hw hP hK hD hS hp hL hs hn0 hs0 => ?_⟩
  exact lv_null C.1 C.2.1 hd (hg p e s m args below meth c H locs ls (.null :: sv) ws tys ad0 n0 s0 C hw hP hK hD hS hp hL (⟨Or.inr (Or.inr (Or.inr (Or.inl ⟨rfl, rfl⟩))), hs⟩) hn0 hs0)
theorem q_s_iload {n : Nat} (hrg : q_rgs env rg) (hd : decode (q_b i) pc = .ok (.iload n, ln)) (hk : q_lnk i pc ln (.iload n) x y z) (hN : q_HN l base D env ih i pc ln tl) (hr : q_step rg q_code mem ih d i (q_code i) pc (.iload n) x y z tl loc st h = some (hf, r)) : q_G l base D env d i pc loc st h hf r := by
  obtain ⟨e1, e2⟩ := hk
  subst e1
  obtain ⟨cc, hc, hr⟩ := q_ld_inv hr
  obtain ⟨hq, hr⟩ := q_bifs hr
  obtain ⟨hm, hg⟩ := hN d loc (cc :: st) h hf r hr
  refine ⟨hm, fun p e s m args below meth c H locs ls sv ws tys ad0 n0 s0 C hw hP hK hD hS hp hL hs hn0 hs0 => ?_⟩
  obtain ⟨lv, hl, hcat, hL2⟩ := id hL
  obtain ⟨v, hv1, hv2⟩ := hL2 x cc hc
  subst e2
  obtain ⟨a, rfl, ha⟩ := hv2.int hrg (q_ble.mp hq)
  exact lv_iload C.1 C.2.1 hd (hl.2.2 _ hv1) (hg p e s m args below meth c H locs ls (.int a :: sv) ws tys ad0 n0 s0 C hw hP hK hD hS hp hL (⟨hv2, hs⟩) hn0 hs0)
theorem q_s_iload_n {n : Fin 4} (hrg : q_rgs env rg) (hd : decode (q_b i) pc = .ok (.iload_n n, ln)) (hk : q_lnk i pc ln (.iload_n n) x y z) (hN : q_HN l base D env ih i pc ln tl) (hr : q_step rg q_code mem ih d i (q_code i) pc (.iload_n n) x y z tl loc st h = some (hf, r)) : q_G l base D env d i pc loc st h hf r := by
  obtain ⟨e1, e2⟩ := hk
  subst e1
  obtain ⟨cc, hc, hr⟩ := q_ld_inv hr
  obtain ⟨hq, hr⟩ := q_bifs hr
  obtain ⟨hm, hg⟩ := hN d loc (cc :: st) h hf r hr
  refine ⟨hm, fun p e s m args below meth c H locs ls sv ws tys ad0 n0 s0 C hw hP hK hD hS hp hL hs hn0 hs0 => ?_⟩
  obtain ⟨lv, hl, hcat, hL2⟩ := id hL
  obtain ⟨v, hv1, hv2⟩ := hL2 x cc hc
  obtain ⟨a, rfl, ha⟩ := hv2.int hrg (q_ble.mp hq)
  exact lv_iload_n C.1 C.2.1 hd e2 (hl.2.2 _ hv1) (hg p e s m args below meth c H locs ls (.int a :: sv) ws tys ad0 n0 s0 C hw hP hK hD hS hp hL (⟨hv2, hs⟩) hn0 hs0)
theorem q_s_aload {n : Nat} (hrg : q_rgs env rg) (hd : decode (q_b i) pc = .ok (.aload n, ln)) (hk : q_lnk i pc ln (.aload n) x y z) (hN : q_HN l base D env ih i pc ln tl) (hr : q_step rg q_code mem ih d i (q_code i) pc (.aload n) x y z tl loc st h = some (hf, r)) : q_G l base D env d i pc loc st h hf r := by
  obtain ⟨e1, e2⟩ := hk
  subst e1
  obtain ⟨cc, hc, hr⟩ := q_ld_inv hr
  obtain ⟨hq, hr⟩ := q_bifs hr
  obtain ⟨hm, hg⟩ := hN d loc (cc :: st) h hf r hr
  refine ⟨hm, fun p e s m args below meth c H locs ls sv ws tys ad0 n0 s0 C hw hP hK hD hS hp hL hs hn0 hs0 => ?_⟩
  obtain ⟨lv, hl, hcat, hL2⟩ := id hL
  obtain ⟨v, hv1, hv2⟩ := hL2 x cc hc
  subst e2
  rcases q_ors hq with hq | hq
  · obtain ⟨a, ha, rfl⟩ := hv2.ref (q_ble.mp hq)
    exact lv_aload C.1 C.2.1 hd (hl.2.2 _ hv1) (hg p e s m args below meth c H locs ls (.ref a :: sv) ws tys ad0 n0 s0 C hw hP hK hD hS hp hL (⟨hv2, hs⟩) hn0 hs0)
  · have hq := q_beq.mp hq
    subst hq
    have hv3 := hv2.nul
    subst hv3
    exact lv_aloadN C.1 C.2.1 hd (hl.2.2 _ hv1) (hg p e s m args below meth c H locs ls (.null :: sv) ws tys ad0 n0 s0 C hw hP hK hD hS hp hL (⟨hv2, hs⟩) hn0 hs0)
theorem q_s_aload_n {n : Fin 4} (hrg : q_rgs env rg) (hd : decode (q_b i) pc = .ok (.aload_n n, ln)) (hk : q_lnk i pc ln (.aload_n n) x y z) (hN : q_HN l base D env ih i pc ln tl) (hr : q_step rg q_code mem ih d i (q_code i) pc (.aload_n n) x y z tl loc st h = some (hf, r)) : q_G l base D env d i pc loc st h hf r := by
  obtain ⟨e1, e2⟩ := hk
  subst e1
  obtain ⟨cc, hc, hr⟩ := q_ld_inv hr
  obtain ⟨hq, hr⟩ := q_bifs hr
  obtain ⟨hm, hg⟩ := hN d loc (cc :: st) h hf r hr
  refine ⟨hm, fun p e s m args below meth c H locs ls sv ws tys ad0 n0 s0 C hw hP hK hD hS hp hL hs hn0 hs0 => ?_⟩
  obtain ⟨lv, hl, hcat, hL2⟩ := id hL
  obtain ⟨v, hv1, hv2⟩ := hL2 x cc hc
  rcases q_ors hq with hq | hq
  · obtain ⟨a, ha, rfl⟩ := hv2.ref (q_ble.mp hq)
    exact lv_aload_n C.1 C.2.1 hd e2 (hl.2.2 _ hv1) (hg p e s m args below meth c H locs ls (.ref a :: sv) ws tys ad0 n0 s0 C hw hP hK hD hS hp hL (⟨hv2, hs⟩) hn0 hs0)
  · have hq := q_beq.mp hq
    subst hq
    have hv3 := hv2.nul
    subst hv3
    exact lv_aload_nN C.1 C.2.1 hd e2 (hl.2.2 _ hv1) (hg p e s m args below meth c H locs ls (.null :: sv) ws tys ad0 n0 s0 C hw hP hK hD hS hp hL (⟨hv2, hs⟩) hn0 hs0)
theorem q_s_istore {n : Nat} (hrg : q_rgs env rg) (hd : decode (q_b i) pc = .ok (.istore n, ln)) (hk : q_lnk i pc ln (.istore n) x y z) (hN : q_HN l base D env ih i pc ln tl) (hr : q_step rg q_code mem ih d i (q_code i) pc (.istore n) x y z tl loc st h = some (hf, r)) : q_G l base D env d i pc loc st h hf r := by
  obtain ⟨e1, e2, e3⟩ := hk
  subst e1
  cases st with
  | nil => cases hr
  | cons cc rr =>
    obtain ⟨hq, hr⟩ := q_bifs hr
    rw [q_fr_eq] at hr
    obtain ⟨hm, hg⟩ := hN d (q_set loc x (Nat.succ cc)) rr h hf r hr
    refine ⟨hm, fun p e s m args below meth c H locs ls sv ws tys ad0 n0 s0 C hw hP hK hD hS hp hL hs hn0 hs0 => ?_⟩
    obtain ⟨lv, hl, hcat, hL2⟩ := id hL
    obtain ⟨v, sv1, rfl, hv, hs1⟩ := hs.cons
    subst e2
    obtain ⟨a, rfl, ha⟩ := hv.int hrg (q_ble.mp hq)
    refine lv_istore C.1 C.2.1 hd hl e3 rfl (fun ls hl => ?_)
    refine (hg p e s m args below meth c H locs ls (sv1) ws tys ad0 n0 s0 C hw hP hK hD hS hp ⟨_, hl, ?_, q_L.store hL2 hv hcat⟩ (hs1) hn0 hs0)
    intro q hq2
    rcases List.mem_cons.mp hq2 with rfl | hq2
    · rfl
    · exact hcat q (List.mem_filter.mp hq2).1
theorem q_s_istore_n {n : Fin 4} (hrg : q_rgs env rg) (hd : decode (q_b i) pc = .ok (.istore_n n, ln)) (hk : q_lnk i pc ln (.istore_n n) x y z) (hN : q_HN l base D env ih i pc ln tl) (hr : q_step rg q_code mem ih d i (q_code i) pc (.istore_n n) x y z tl loc st h = some (hf, r)) : q_G l base D env d i pc loc st h hf r := by
  obtain ⟨e1, e2, e3⟩ := hk
  subst e1
  cases st with
  | nil => cases hr
  | cons cc rr =>
    obtain ⟨hq, hr⟩ := q_bifs hr
    rw [q_fr_eq] at hr
    obtain ⟨hm, hg⟩ := hN d (q_set loc x (Nat.succ cc)) rr h hf r hr
    refine ⟨hm, fun p e s m args below meth c H locs ls sv ws tys ad0 n0 s0 C hw hP hK hD hS hp hL hs hn0 hs0 => ?_⟩
    obtain ⟨lv, hl, hcat, hL2⟩ := id hL
    obtain ⟨v, sv1, rfl, hv, hs1⟩ := hs.cons
    obtain ⟨a, rfl, ha⟩ := hv.int hrg (q_ble.mp hq)
    refine lv_istore_n C.1 C.2.1 hd e2 hl e3 rfl (fun ls hl => ?_)
    refine (hg p e s m args below meth c H locs ls (sv1) ws tys ad0 n0 s0 C hw hP hK hD hS hp ⟨_, hl, ?_, q_L.store hL2 hv hcat⟩ (hs1) hn0 hs0)
    intro q hq2
    rcases List.mem_cons.mp hq2 with rfl | hq2
    · rfl
    · exact hcat q (List.mem_filter.mp hq2).1
theorem q_s_astore {n : Nat} (hrg : q_rgs env rg) (hd : decode (q_b i) pc = .ok (.astore n, ln)) (hk : q_lnk i pc ln (.astore n) x y z) (hN : q_HN l base D env ih i pc ln tl) (hr : q_step rg q_code mem ih d i (q_code i) pc (.astore n) x y z tl loc st h = some (hf, r)) : q_G l base D env d i pc loc st h hf r := by
  obtain ⟨e1, e2, e3⟩ := hk
  subst e1
  cases st with
  | nil => cases hr
  | cons cc rr =>
    obtain ⟨hq, hr⟩ := q_bifs hr
    rw [q_fr_eq] at hr
    obtain ⟨hm, hg⟩ := hN d (q_set loc x (Nat.succ cc)) rr h hf r hr
    refine ⟨hm, fun p e s m args below meth c H locs ls sv ws tys ad0 n0 s0 C hw hP hK hD hS hp hL hs hn0 hs0 => ?_⟩
    obtain ⟨lv, hl, hcat, hL2⟩ := id hL
    obtain ⟨v, sv1, rfl, hv, hs1⟩ := hs.cons
    subst e2
    rcases q_ors hq with hq | hq
    · obtain ⟨a, ha, rfl⟩ := hv.ref (q_ble.mp hq)
      refine lv_astore C.1 C.2.1 hd hl e3 rfl (fun ls hl => ?_)
      refine (hg p e s m args below meth c H locs ls (sv1) ws tys ad0 n0 s0 C hw hP hK hD hS hp ⟨_, hl, ?_, q_L.store hL2 hv hcat⟩ (hs1) hn0 hs0)
      intro q hq2
      rcases List.mem_cons.mp hq2 with rfl | hq2
      · rfl
      · exact hcat q (List.mem_filter.mp hq2).1
    · have hq := q_beq.mp hq
      subst hq
      have hv3 := hv.nul
      subst hv3
      refine lv_astoreN C.1 C.2.1 hd hl e3 rfl (fun ls hl => ?_)
      refine (hg p e s m args below meth c H locs ls (sv1) ws tys ad0 n0 s0 C hw hP hK hD hS hp ⟨_, hl, ?_, q_L.store hL2 hv hcat⟩ (hs1) hn0 hs0)
      intro q hq2
      rcases List.mem_cons.mp hq2 with rfl | hq2
      · rfl
      · exact hcat q (List.mem_filter.mp hq2).1
theorem q_s_astore_n {n : Fin 4} (hrg : q_rgs env rg) (hd : decode (q_b i) pc = .ok (.astore_n n, ln)) (hk : q_lnk i pc ln (.astore_n n) x y z) (hN : q_HN l base D env ih i pc ln tl) (hr : q_step rg q_code mem ih d i (q_code i) pc (.astore_n n) x y z tl loc st h = some (hf, r)) : q_G l base D env d i pc loc st h hf r := by
  obtain ⟨e1, e2, e3⟩ := hk
  subst e1
  cases st with
  | nil => cases hr
  | cons cc rr =>
    obtain ⟨hq, hr⟩ := q_bifs hr
    rw [q_fr_eq] at hr
    obtain ⟨hm, hg⟩ := hN d (q_set loc x (Nat.succ cc)) rr h hf r hr
    refine ⟨hm, fun p e s m args below meth c H locs ls sv ws tys ad0 n0 s0 C hw hP hK hD hS hp hL hs hn0 hs0 => ?_⟩
    obtain ⟨lv, hl, hcat, hL2⟩ := id hL
    obtain ⟨v, sv1, rfl, hv, hs1⟩ := hs.cons
    rcases q_ors hq with hq | hq
    · obtain ⟨a, ha, rfl⟩ := hv.ref (q_ble.mp hq)
      refine lv_astore_n C.1 C.2.1 hd e2 hl e3 rfl (fun ls hl => ?_)
      refine (hg p e s m args below meth c H locs ls (sv1) ws tys ad0 n0 s0 C hw hP hK hD hS hp ⟨_, hl, ?_, q_L.store hL2 hv hcat⟩ (hs1) hn0 hs0)
      intro q hq2
      rcases List.mem_cons.mp hq2 with rfl | hq2
      · rfl
      · exact hcat q (List.mem_filter.mp hq2).1
    · have hq := q_beq.mp hq
      subst hq
      have hv3 := hv.nul
      subst hv3
      refine lv_astore_nN C.1 C.2.1 hd e2 hl e3 rfl (fun ls hl => ?_)
      refine (hg p e s m args below meth c H locs ls (sv1) ws tys ad0 n0 s0 C hw hP hK hD hS hp ⟨_, hl, ?_, q_L.store hL2 hv hcat⟩ (hs1) hn0 hs0)
      intro q hq2
      rcases List.mem_cons.mp hq2 with rfl | hq2
      · rfl
      · exact hcat q (List.mem_filter.mp hq2).1
theorem q_s_iinc {n : Nat} {k : Int} (hrg : q_rgs env rg) (hd : decode (q_b i) pc = .ok (.iinc n k, ln)) (hk : q_lnk i pc ln (.iinc n k) x y z) (hN : q_HN l base D env ih i pc ln tl) (hr : q_step rg q_code mem ih d i (q_code i) pc (.iinc n k) x y z tl loc st h = some (hf, r)) : q_G l base D env d i pc loc st h hf r := by
  obtain ⟨e1, e2, e3, e4, e5⟩ := hk
  subst e1
  subst e2
  obtain ⟨cc, hc, hr⟩ := q_ld_inv hr
  obtain ⟨hq, hr⟩ := q_bifs hr
  rw [q_fr_eq] at hr
  obtain ⟨hm, hg⟩ := hN d _ st h hf r hr
  refine ⟨hm, fun p e s m args below meth c H locs ls sv ws tys ad0 n0 s0 C hw hP hK hD hS hp hL hs hn0 hs0 => ?_⟩
  obtain ⟨lv, hl, hcat, hL2⟩ := id hL
  obtain ⟨v, hv1, hv2⟩ := hL2 n cc hc
  obtain ⟨a, rfl, ha, -⟩ := hv2.int hrg (Nat.le_trans (q_ble.mp hq) (by decide))
  obtain ⟨kk, hkk⟩ := List.getElem?_of_mem hv1
  have hv3 : q_v env (q_ad ws) (q_w (Nat.add cc y)) (.int (a + Int32.ofInt k)) := by
    rw [ha (q_ble.mp hq), e5]
    exact q_v_add _ (q_ble.mp hq) e4
  refine lv_iinc C.1 C.2.1 hd hl hkk rfl e3 rfl (fun ls hl => ?_)
  refine (hg p e s m args below meth c H locs ls (sv) ws tys ad0 n0 s0 C hw hP hK hD hS hp ⟨_, hl, ?_, q_L.store hL2 hv3 hcat⟩ (hs) hn0 hs0)
  intro q hq2
  rcases List.mem_cons.mp hq2 with rfl | hq2
  · rfl
  · exact hcat q (List.mem_filter.mp hq2).1
theorem q_s_iadd (hrg : q_rgs env rg) (hd : decode (q_b i) pc = .ok (.iadd, ln)) (hk : q_lnk i pc ln (.iadd) x y z) (hN : q_HN l base D env ih i pc ln tl) (hr : q_step rg q_code mem ih d i (q_code i) pc (.iadd) x y z tl loc st h = some (hf, r)) : q_G l base D env d i pc loc st h hf r := by
  have e1 : ln = 1 := hk
  subst e1
  have hr : q_ar (fun a b => q_w (Nat.add a b)) st (fun s => ih d i (q_code i) tl loc s h) = some (hf, r) := hr
  obtain ⟨b, a, rr, rfl, hc⟩ := q_ar_inv hr
  rcases hc with ⟨ha, hb, hr⟩ | ⟨ha, hb, hr⟩
  · obtain ⟨hm, hg⟩ := hN d loc _ h hf r hr
    refine ⟨hm, fun p e s m args below meth c H locs ls sv ws tys ad0 n0 s0 C hw hP hK hD hS hp hL hs hn0 hs0 => ?_⟩
    obtain ⟨vb, sv1, rfl, hvb, hs1⟩ := hs.cons
    obtain ⟨va, sv2, rfl, hva, hs2⟩ := hs1.cons
    obtain ⟨xb, rfl, xb1, -⟩ := hvb.int hrg (by omega)
    obtain ⟨xa, rfl, xa1, -⟩ := hva.int hrg (by omega)
    refine lv_iadd C.1 C.2.1 hd (hg p e s m args below meth c H locs ls (.int (xa + xb) :: sv2) ws tys ad0 n0 s0 C hw hP hK hD hS hp hL (⟨?_, hs2⟩) hn0 hs0)
    rw [xa1 ha, xb1 hb]
    exact q_v_add _ ha hb
  · obtain ⟨hm, hg⟩ := hN d loc _ h hf r hr
    refine ⟨hm, fun p e s m args below meth c H locs ls sv ws tys ad0 n0 s0 C hw hP hK hD hS hp hL hs hn0 hs0 => ?_⟩
    obtain ⟨vb, sv1, rfl, hvb, hs1⟩ := hs.cons
    obtain ⟨va, sv2, rfl, hva, hs2⟩ := hs1.cons
    obtain ⟨xb, rfl, xb1, -⟩ := hvb.int hrg (by omega)
    obtain ⟨xa, rfl, xa1, -⟩ := hva.int hrg (by omega)
    exact lv_iadd C.1 C.2.1 hd (hg p e s m args below meth c H locs ls (.int (xa + xb) :: sv2) ws tys ad0 n0 s0 C hw hP hK hD hS hp hL (⟨q_v.top _ _, hs2⟩) hn0 hs0)
theorem q_s_isub (hrg : q_rgs env rg) (hd : decode (q_b i) pc = .ok (.isub, ln)) (hk : q_lnk i pc ln (.isub) x y z) (hN : q_HN l base D env ih i pc ln tl) (hr : q_step rg q_code mem ih d i (q_code i) pc (.isub) x y z tl loc st h = some (hf, r)) : q_G l base D env d i pc loc st h hf r := by
  have e1 : ln = 1 := hk
  subst e1
  have hr : q_ar (fun a b => q_w (Nat.sub (Nat.add a 4294967296) b)) st (fun s => ih d i (q_code i) tl loc s h) = some (hf, r) := hr
  obtain ⟨b, a, rr, rfl, hc⟩ := q_ar_inv hr
  rcases hc with ⟨ha, hb, hr⟩ | ⟨ha, hb, hr⟩
  · obtain ⟨hm, hg⟩ := hN d loc _ h hf r hr
    refine ⟨hm, fun p e s m args below meth c H locs ls sv ws tys ad0 n0 s0 C hw hP hK hD hS hp hL hs hn0 hs0 => ?_⟩
    obtain ⟨vb, sv1, rfl, hvb, hs1⟩ := hs.cons
    obtain ⟨va, sv2, rfl, hva, hs2⟩ := hs1.cons
    obtain ⟨xb, rfl, xb1, -⟩ := hvb.int hrg (by omega)
    obtain ⟨xa, rfl, xa1, -⟩ := hva.int hrg (by omega)
    refine lv_isub C.1 C.2.1 hd (hg p e s m args below meth c H locs ls (.int (xa - xb) :: sv2) ws tys ad0 n0 s0 C hw hP hK hD hS hp hL (⟨?_, hs2⟩) hn0 hs0)
    rw [xa1 ha, xb1 hb]
    exact q_v_sub _ ha hb
  · obtain ⟨hm, hg⟩ := hN d loc _ h hf r hr
    refine ⟨hm, fun p e s m args below meth c H locs ls sv ws tys ad0 n0 s0 C hw hP hK hD hS hp hL hs hn0 hs0 => ?_⟩
    obtain ⟨vb, sv1, rfl, hvb, hs1⟩ := hs.cons
    obtain ⟨va, sv2, rfl, hva, hs2⟩ := hs1.cons
    obtain ⟨xb, rfl, xb1, -⟩ := hvb.int hrg (by omega)
    obtain ⟨xa, rfl, xa1, -⟩ := hva.int hrg (by omega)
    exact lv_isub C.1 C.2.1 hd (hg p e s m args below meth c H locs ls (.int (xa - xb) :: sv2) ws tys ad0 n0 s0 C hw hP hK hD hS hp hL (⟨q_v.top _ _, hs2⟩) hn0 hs0)
theorem q_s_imul (hrg : q_rgs env rg) (hd : decode (q_b i) pc = .ok (.imul, ln)) (hk : q_lnk i pc ln (.imul) x y z) (hN : q_HN l base D env ih i pc ln tl) (hr : q_step rg q_code mem ih d i (q_code i) pc (.imul) x y z tl loc st h = some (hf, r)) : q_G l base D env d i pc loc st h hf r := by
  have e1 : ln = 1 := hk
  subst e1
  have hr : q_ar (fun a b => q_w (Nat.mul a b)) st (fun s => ih d i (q_code i) tl loc s h) = some (hf, r) := hr
  obtain ⟨b, a, rr, rfl, hc⟩ := q_ar_inv hr
  rcases hc with ⟨ha, hb, hr⟩ | ⟨ha, hb, hr⟩
  · obtain ⟨hm, hg⟩ := hN d loc _ h hf r hr
    refine ⟨hm, fun p e s m args below meth c H locs ls sv ws tys ad0 n0 s0 C hw hP hK hD hS hp hL hs hn0 hs0 => ?_⟩
    obtain ⟨vb, sv1, rfl, hvb, hs1⟩ := hs.cons
    obtain ⟨va, sv2, rfl, hva, hs2⟩ := hs1.cons
    obtain ⟨xb, rfl, xb1, -⟩ := hvb.int hrg (by omega)
    obtain ⟨xa, rfl, xa1, -⟩ := hva.int hrg (by omega)
    refine lv_imul C.1 C.2.1 hd (hg p e s m args below meth c H locs ls (.int (xa * xb) :: sv2) ws tys ad0 n0 s0 C hw hP hK hD hS hp hL (⟨?_, hs2⟩) hn0 hs0)
    rw [xa1 ha, xb1 hb]
    exact q_v_mul _ ha hb
  · obtain ⟨hm, hg⟩ := hN d loc _ h hf r hr
    refine ⟨hm, fun p e s m args below meth c H locs ls sv ws tys ad0 n0 s0 C hw hP hK hD hS hp hL hs hn0 hs0 => ?_⟩
    obtain ⟨vb, sv1, rfl, hvb, hs1⟩ := hs.cons
    obtain ⟨va, sv2, rfl, hva, hs2⟩ := hs1.cons
    obtain ⟨xb, rfl, xb1, -⟩ := hvb.int hrg (by omega)
    obtain ⟨xa, rfl, xa1, -⟩ := hva.int hrg (by omega)
    exact lv_imul C.1 C.2.1 hd (hg p e s m args below meth c H locs ls (.int (xa * xb) :: sv2) ws tys ad0 n0 s0 C hw hP hK hD hS hp hL (⟨q_v.top _ _, hs2⟩) hn0 hs0)
theorem q_s_iand (hrg : q_rgs env rg) (hd : decode (q_b i) pc = .ok (.iand, ln)) (hk : q_lnk i pc ln (.iand) x y z) (hN : q_HN l base D env ih i pc ln tl) (hr : q_step rg q_code mem ih d i (q_code i) pc (.iand) x y z tl loc st h = some (hf, r)) : q_G l base D env d i pc loc st h hf r := by
  have e1 : ln = 1 := hk
  subst e1
  have hr : q_an rg st (fun s => ih d i (q_code i) tl loc s h) = some (hf, r) := hr
  obtain ⟨b, a, rr, rfl, hc⟩ := q_an_inv hr
  rcases hc with ⟨ha, hb, hr⟩ | ⟨ha, hb, hr⟩
  · obtain ⟨hm, hg⟩ := hN d loc _ h hf r hr
    refine ⟨hm, fun p e s m args below meth c H locs ls sv ws tys ad0 n0 s0 C hw hP hK hD hS hp hL hs hn0 hs0 => ?_⟩
    obtain ⟨vb, sv1, rfl, hvb, hs1⟩ := hs.cons
    obtain ⟨va, sv2, rfl, hva, hs2⟩ := hs1.cons
    obtain ⟨xb, rfl, xb1, -⟩ := hvb.int hrg (by omega)
    obtain ⟨xa, rfl, xa1, -⟩ := hva.int hrg (by omega)
    refine lv_iand C.1 C.2.1 hd (hg p e s m args below meth c H locs ls (.int (xa &&& xb) :: sv2) ws tys ad0 n0 s0 C hw hP hK hD hS hp hL (⟨?_, hs2⟩) hn0 hs0)
    rw [xa1 ha, xb1 hb]
    exact q_v_and _ ha hb
  · obtain ⟨hm, hg⟩ := hN d loc _ h hf r hr
    refine ⟨hm, fun p e s m args below meth c H locs ls sv ws tys ad0 n0 s0 C hw hP hK hD hS hp hL hs hn0 hs0 => ?_⟩
    obtain ⟨vb, sv1, rfl, hvb, hs1⟩ := hs.cons
    obtain ⟨va, sv2, rfl, hva, hs2⟩ := hs1.cons
    obtain ⟨xb, rfl, xb1, -⟩ := hvb.int hrg (by omega)
    obtain ⟨xa, rfl, xa1⟩ := hva.int hrg (by omega)
    exact lv_iand C.1 C.2.1 hd (hg p e s m args below meth c H locs ls (.int (xa &&& xb) :: sv2) ws tys ad0 n0 s0 C hw hP hK hD hS hp hL (⟨q_v_ax hva xa1 xb1, hs2⟩) hn0 hs0)
theorem q_s_ior (hrg : q_rgs env rg) (hd : decode (q_b i) pc = .ok (.ior, ln)) (hk : q_lnk i pc ln (.ior) x y z) (hN : q_HN l base D env ih i pc ln tl) (hr : q_step rg q_code mem ih d i (q_code i) pc (.ior) x y z tl loc st h = some (hf, r)) : q_G l base D env d i pc loc st h hf r := by
  have e1 : ln = 1 := hk
  subst e1
  have hr : q_ar Nat.lor st (fun s => ih d i (q_code i) tl loc s h) = some (hf, r) := hr
  obtain ⟨b, a, rr, rfl, hc⟩ := q_ar_inv hr
  rcases hc with ⟨ha, hb, hr⟩ | ⟨ha, hb, hr⟩
  · obtain ⟨hm, hg⟩ := hN d loc _ h hf r hr
    refine ⟨hm, fun p e s m args below meth c H locs ls sv ws tys ad0 n0 s0 C hw hP hK hD hS hp hL hs hn0 hs0 => ?_⟩
    obtain ⟨vb, sv1, rfl, hvb, hs1⟩ := hs.cons
    obtain ⟨va, sv2, rfl, hva, hs2⟩ := hs1.cons
    obtain ⟨xb, rfl, xb1, -⟩ := hvb.int hrg (by omega)
    obtain ⟨xa, rfl, xa1, -⟩ := hva.int hrg (by omega)
    refine lv_ior C.1 C.2.1 hd (hg p e s m args below meth c H locs ls (.int (xa ||| xb) :: sv2) ws tys ad0 n0 s0 C hw hP hK hD hS hp hL (⟨?_, hs2⟩) hn0 hs0)
    rw [xa1 ha, xb1 hb]
    exact q_v_or _ ha hb
  · obtain ⟨hm, hg⟩ := hN d loc _ h hf r hr
    refine ⟨hm, fun p e s m args below meth c H locs ls sv ws tys ad0 n0 s0 C hw hP hK hD hS hp hL hs hn0 hs0 => ?_⟩
    obtain ⟨vb, sv1, rfl, hvb, hs1⟩ := hs.cons
    obtain ⟨va, sv2, rfl, hva, hs2⟩ := hs1.cons
    obtain ⟨xb, rfl, xb1, -⟩ := hvb.int hrg (by omega)
    obtain ⟨xa, rfl, xa1, -⟩ := hva.int hrg (by omega)
    exact lv_ior C.1 C.2.1 hd (hg p e s m args below meth c H locs ls (.int (xa ||| xb) :: sv2) ws tys ad0 n0 s0 C hw hP hK hD hS hp hL (⟨q_v.top _ _, hs2⟩) hn0 hs0)
theorem q_s_ixor (hrg : q_rgs env rg) (hd : decode (q_b i) pc = .ok (.ixor, ln)) (hk : q_lnk i pc ln (.ixor) x y z) (hN : q_HN l base D env ih i pc ln tl) (hr : q_step rg q_code mem ih d i (q_code i) pc (.ixor) x y z tl loc st h = some (hf, r)) : q_G l base D env d i pc loc st h hf r := by
  have e1 : ln = 1 := hk
  subst e1
  have hr : q_ar Nat.xor st (fun s => ih d i (q_code i) tl loc s h) = some (hf, r) := hr
  obtain ⟨b, a, rr, rfl, hc⟩ := q_ar_inv hr
  rcases hc with ⟨ha, hb, hr⟩ | ⟨ha, hb, hr⟩
  · obtain ⟨hm, hg⟩ := hN d loc _ h hf r hr
    refine ⟨hm, fun p e s m args below meth c H locs ls sv ws tys ad0 n0 s0 C hw hP hK hD hS hp hL hs hn0 hs0 => ?_⟩
    obtain ⟨vb, sv1, rfl, hvb, hs1⟩ := hs.cons
    obtain ⟨va, sv2, rfl, hva, hs2⟩ := hs1.cons
    obtain ⟨xb, rfl, xb1, -⟩ := hvb.int hrg (by omega)
    obtain ⟨xa, rfl, xa1, -⟩ := hva.int hrg (by omega)
    refine lv_ixor C.1 C.2.1 hd (hg p e s m args below meth c H locs ls (.int (xa ^^^ xb) :: sv2) ws tys ad0 n0 s0 C hw hP hK hD hS hp hL (⟨?_, hs2⟩) hn0 hs0)
    rw [xa1 ha, xb1 hb]
    exact q_v_xor _ ha hb
  · obtain ⟨hm, hg⟩ := hN d loc _ h hf r hr
    refine ⟨hm, fun p e s m args below meth c H locs ls sv ws tys ad0 n0 s0 C hw hP hK hD hS hp hL hs hn0 hs0 => ?_⟩
    obtain ⟨vb, sv1, rfl, hvb, hs1⟩ := hs.cons
    obtain ⟨va, sv2, rfl, hva, hs2⟩ := hs1.cons
    obtain ⟨xb, rfl, xb1, -⟩ := hvb.int hrg (by omega)
    obtain ⟨xa, rfl, xa1, -⟩ := hva.int hrg (by omega)
    exact lv_ixor C.1 C.2.1 hd (hg p e s m args below meth c H locs ls (.int (xa ^^^ xb) :: sv2) ws tys ad0 n0 s0 C hw hP hK hD hS hp hL (⟨q_v.top _ _, hs2⟩) hn0 hs0)
end QI
end
section
/-! ===== instruction by instruction: divisions, shifts, the stack, branches ===== -/
def q_iv (rg : Nat → Nat × Nat) (c : Nat) (x : Int32) : Prop := (c ≤ 4294967295 → x = nI c) ∧ q_lo rg c ≤ q_qb x ∧ q_qb x ≤ q_hi rg c
theorem q_lt_in {rg : Nat → Nat × Nat} {a b : Nat} {t : Bool} (h : q_lt rg a b = some t) : a ≤ 4294967311 ∧ b ≤ 4294967311 := by
  cases he : q_e2 a b with
  | true =>
    obtain ⟨h1, h2⟩ := q_ands he
    exact ⟨Nat.le_trans (q_ble.mp h1) (by decide), Nat.le_trans (q_ble.mp h2) (by decide)⟩
  | false =>
    have h : (bif q_e2 a b then some (Nat.blt (q_bi a) (q_bi b)) else bif q_i2 a b then (bif Nat.blt (q_hi rg a) (q_lo rg b) then some true else bif Nat.ble (q_hi rg b) (q_lo rg a) then some false else none) else none) = some t := h
    rw [q_iff _ _ he] at h
    obtain ⟨h1, -⟩ := q_bifs h
    obtain ⟨h3, h4⟩ := q_ands h1
    exact ⟨q_ble.mp h3, q_ble.mp h4⟩
theorem q_lt_ok {rg : Nat → Nat × Nat} {a b : Nat} {t : Bool} {xa xb : Int32} (h : q_lt rg a b = some t) (ha : q_iv rg a xa) (hb : q_iv rg b xb) : t = true ↔ xa < xb := by
  have h : (bif q_e2 a b then some (Nat.blt (q_bi a) (q_bi b)) else bif q_i2 a b then (bif Nat.blt (q_hi rg a) (q_lo rg b) then some true else bif Nat.ble (q_hi rg b) (q_lo rg a) then some false else none) else none) = some t := h
  rw [q_lt_iff]
  cases he : q_e2 a b with
  | true =>
    rw [q_ift _ _ he] at h
    obtain ⟨h1, h2⟩ := q_ands he
    have e := Option.some.inj h
    rw [← e, q_blt, ha.1 (q_ble.mp h1), hb.1 (q_ble.mp h2), q_qb_nI (q_ble.mp h1), q_qb_nI (q_ble.mp h2)]
  | false =>
    rw [q_iff _ _ he] at h
    obtain ⟨-, h⟩ := q_bifs h
    have a1 := ha.2.1
    have a2 := ha.2.2
    have b1 := hb.2.1
    have b2 := hb.2.2
    cases h1 : Nat.blt (q_hi rg a) (q_lo rg b) with
    | true =>
      rw [q_ift _ _ h1] at h
      have e := Option.some.inj h
      have := q_blt.mp h1
      rw [← e]
      simp
      omega
    | false =>
      rw [q_iff _ _ h1] at h
      obtain ⟨h2, h⟩ := q_bifs h
      have e := Option.some.inj h
      have := q_ble.mp h2
      rw [← e]
      simp
      omega
theorem q_eq_in {rg : Nat → Nat × Nat} {a b : Nat} {t : Bool} (h : q_eq rg a b = some t) : a ≤ 4294967311 ∧ b ≤ 4294967311 := by
  cases he : q_e2 a b with
  | true =>
    obtain ⟨h1, h2⟩ := q_ands he
    exact ⟨Nat.le_trans (q_ble.mp h1) (by decide), Nat.le_trans (q_ble.mp h2) (by decide)⟩
  | false =>
    have h : (bif q_e2 a b then some (Nat.beq a b) else bif q_i2 a b then (bif Nat.blt (q_hi rg a) (q_lo rg b) || Nat.blt (q_hi rg b) (q_lo rg a) then some false else none) else none) = some t := h
    rw [q_iff _ _ he] at h
    obtain ⟨h1, -⟩ := q_bifs h
    obtain ⟨h3, h4⟩ := q_ands h1
    exact ⟨q_ble.mp h3, q_ble.mp h4⟩
theorem q_eq_ok {rg : Nat → Nat × Nat} {a b : Nat} {t : Bool} {xa xb : Int32} (h : q_eq rg a b = some t) (ha : q_iv rg a xa) (hb : q_iv rg b xb) : t = true ↔ xa = xb := by
  have h : (bif q_e2 a b then some (Nat.beq a b) else bif q_i2 a b then (bif Nat.blt (q_hi rg a) (q_lo rg b) || Nat.blt (q_hi rg b) (q_lo rg a) then some false else none) else none) = some t := h
  rw [q_eq_iff]
  cases he : q_e2 a b with
  | true =>
    rw [q_ift _ _ he] at h
    obtain ⟨h1, h2⟩ := q_ands he
    have e := Option.some.inj h
    rw [← e, q_beq, ha.1 (q_ble.mp h1), hb.1 (q_ble.mp h2), ← q_eq_iff]
    constructor
    · intro e; rw [e]
    · intro e
      have e2 := congrArg (fun z : Int32 => z.toBitVec.toNat) e
      simp only [q_nIn] at e2
      have := q_ble.mp h1
      have := q_ble.mp h2
      omega
  | false =>
    rw [q_iff _ _ he] at h
    obtain ⟨-, h⟩ := q_bifs h
    have a1 := ha.2.1
    have a2 := ha.2.2
    have b1 := hb.2.1
    have b2 := hb.2.2
    obtain ⟨h1, h⟩ := q_bifs h
    have e := Option.some.inj h
    rw [← e]
    rcases q_ors h1 with h2 | h2
    · have := q_blt.mp h2
      simp
      omega
    · have := q_blt.mp h2
      simp
      omega
theorem q_not_inv {o : Option Bool} {t : Bool} (h : q_not o = some t) : o = some (!t) := by
  match o, h with
  | some b, h =>
    have e : (!b) = t := Option.some.inj h
    rw [← e, Bool.not_not]
  | none, h => cases h
def q_cp (c : ClassFile.Cond) (x y : Int32) : Prop := match c with
  | .eq => x = y
  | .ne => ¬ x = y
  | .lt => x < y
  | .ge => y ≤ x
  | .gt => y < x
  | .le => x ≤ y
theorem q_cm_in {rg : Nat → Nat × Nat} {c : ClassFile.Cond} {a b : Nat} {t : Bool} (h : q_cm rg c a b = some t) : a ≤ 4294967311 ∧ b ≤ 4294967311 := by
  cases c with
  | eq => exact q_eq_in h
  | ne => exact q_eq_in (q_not_inv h)
  | lt => exact q_lt_in h
  | ge => exact q_lt_in (q_not_inv h)
  | gt => exact (q_lt_in h).symm
  | le => exact (q_lt_in (q_not_inv h)).symm
theorem q_nt {t : Bool} {P Q : Prop} (h : (!t) = true ↔ P) (hQ : Q ↔ ¬ P) : t = true ↔ Q := by
  rw [hQ, ← h]
  cases t <;> simp
theorem q_cm_ok {rg : Nat → Nat × Nat} {c : ClassFile.Cond} {a b : Nat} {t : Bool} {xa xb : Int32} (h : q_cm rg c a b = some t) (ha : q_iv rg a xa) (hb : q_iv rg b xb) : t = true ↔ q_cp c xa xb := by
  cases c with
  | eq => exact q_eq_ok h ha hb
  | ne => exact q_nt (q_eq_ok (q_not_inv h) ha hb) Iff.rfl
  | lt => exact q_lt_ok h ha hb
  | ge => exact q_nt (q_lt_ok (q_not_inv h) ha hb) Int32.not_lt.symm
  | gt => exact q_lt_ok h hb ha
  | le => exact q_nt (q_lt_ok (q_not_inv h) hb ha) Int32.not_lt.symm
section QI
variable {l : Launch} {base : Nat} {D : va_G} {env : Nat → Int32} {rg : Nat → Nat × Nat} {mem : q_M} {ih : q_F} {d i pc ln x y z loc : Nat} {tl : List q_I} {st : List Nat} {h hf : q_H} {r : List Nat}
theorem q_norn {a b : Bool} (h : (a || b) = false) : a = false ∧ b = false := by
  cases a with
  | false => exact ⟨rfl, h⟩
  | true => cases h
theorem q_shr_le (a b : Nat) (ha : a ≤ 4294967295) (hb : b < 32) : (bif Nat.ble a 2147483647 then Nat.shiftRight a b else Nat.sub (Nat.add (Nat.shiftRight a b) 4294967296) (Nat.pow 2 (Nat.sub 32 b))) ≤ 4294967295 := by
  by_cases h : a ≤ 2147483647
  · rw [q_ift _ _ (q_ble.mpr h)]
    exact Nat.le_trans (show a >>> b ≤ a by rw [Nat.shiftRight_eq_div_pow]; exact Nat.div_le_self _ _) ha
  · rw [q_iff _ _ (q_bnle.mpr (by omega))]
    obtain ⟨h1, h2, h3, h4, h5⟩ := q_shr_neg a b (2 ^ b) (2 ^ (32 - b)) (by rw [← Nat.pow_add, show b + (32 - b) = 32 by omega]) (Nat.pow_pos (by decide)) ha (by omega)
    have e : Nat.sub (Nat.add (Nat.shiftRight a b) 4294967296) (Nat.pow 2 (Nat.sub 32 b)) = a / 2 ^ b + 4294967296 - 2 ^ (32 - b) := by
      rw [← Nat.shiftRight_eq_div_pow, Nat.sub_eq, Nat.add_eq, Nat.sub_eq]; rfl
    rw [e]
    omega
theorem q_s_ineg (hrg : q_rgs env rg) (hd : decode (q_b i) pc = .ok (.ineg, ln)) (hk : q_lnk i pc ln (.ineg) x y z) (hN : q_HN l base D env ih i pc ln tl) (hr : q_step rg q_code mem ih d i (q_code i) pc (.ineg) x y z tl loc st h = some (hf, r)) : q_G l base D env d i pc loc st h hf r := by
  have e1 : ln = 1 := hk
  subst e1
  cases st with
  | nil => cases hr
  | cons a rr =>
    have hr : (bif q_ex a then q_fr (q_w (Nat.sub 4294967296 a)) (fun v => ih d i (q_code i) tl loc (v :: rr) h) else none) = some (hf, r) := hr
    obtain ⟨hq, hr⟩ := q_bifs hr
    rw [q_fr_eq] at hr
    have hq := q_ble.mp hq
    obtain ⟨hm, hg⟩ := hN d loc _ h hf r hr
    refine ⟨hm, fun p e s m args below meth c H locs ls sv ws tys ad0 n0 s0 C hw hP hK hD hS hp hL hs hn0 hs0 => ?_⟩
    obtain ⟨va, sv1, rfl, hva, hs1⟩ := hs.cons
    obtain ⟨xa, rfl, xa1, -⟩ := hva.int hrg (by omega)
    refine lv_ineg C.1 C.2.1 hd (hg p e s m args below meth c H locs ls (.int (-xa) :: sv1) ws tys ad0 n0 s0 C hw hP hK hD hS hp hL (⟨?_, hs1⟩) hn0 hs0)
    rw [xa1 hq, Nat.sub_eq]
    exact q_v.exq _ (q_w_le _) ((q_neg a hq).trans (q_nI_w _).symm)
theorem q_s_idiv (hrg : q_rgs env rg) (hd : decode (q_b i) pc = .ok (.idiv, ln)) (hk : q_lnk i pc ln (.idiv) x y z) (hN : q_HN l base D env ih i pc ln tl) (hr : q_step rg q_code mem ih d i (q_code i) pc (.idiv) x y z tl loc st h = some (hf, r)) : q_G l base D env d i pc loc st h hf r := by
  have e1 : ln = 1 := hk
  subst e1
  match st, hr with
  | [], hr => cases hr
  | [_], hr => cases hr
  | b :: a :: rr, hr =>
    have hr : (bif Nat.ble a 2147483647 && (Nat.ble b 2147483647 && Nat.blt 0 b) then q_fr (Nat.div a b) (fun v => ih d i (q_code i) tl loc (v :: rr) h) else none) = some (hf, r) := hr
    obtain ⟨hq, hr⟩ := q_bifs hr
    rw [q_fr_eq] at hr
    obtain ⟨h1, h2⟩ := q_ands hq
    obtain ⟨h2, h3⟩ := q_ands h2
    have h1 := q_ble.mp h1
    have h2 := q_ble.mp h2
    have h3 := q_blt.mp h3
    obtain ⟨hm, hg⟩ := hN d loc _ h hf r hr
    refine ⟨hm, fun p e s m args below meth c H locs ls sv ws tys ad0 n0 s0 C hw hP hK hD hS hp hL hs hn0 hs0 => ?_⟩
    obtain ⟨vb, sv1, rfl, hvb, hs1⟩ := hs.cons
    obtain ⟨va, sv2, rfl, hva, hs2⟩ := hs1.cons
    obtain ⟨xb, rfl, xb1, -⟩ := hvb.int hrg (by omega)
    obtain ⟨xa, rfl, xa1, -⟩ := hva.int hrg (by omega)
    have hne : ¬ xb = 0 := by rw [xb1 (by omega)]; exact nI_ne0 h3 (by omega)
    refine lv_idiv C.1 C.2.1 hd hne (hg p e s m args below meth c H locs ls (.int (xa / xb) :: sv2) ws tys ad0 n0 s0 C hw hP hK hD hS hp hL (⟨?_, hs2⟩) hn0 hs0)
    rw [xa1 (by omega), xb1 (by omega), pk_div (by omega) h3 (by omega)]
    exact q_v.ex _ (Nat.le_trans (Nat.div_le_self a b) (by omega))
theorem q_s_irem (hrg : q_rgs env rg) (hd : decode (q_b i) pc = .ok (.irem, ln)) (hk : q_lnk i pc ln (.irem) x y z) (hN : q_HN l base D env ih i pc ln tl) (hr : q_step rg q_code mem ih d i (q_code i) pc (.irem) x y z tl loc st h = some (hf, r)) : q_G l base D env d i pc loc st h hf r := by
  have e1 : ln = 1 := hk
  subst e1
  match st, hr with
  | [], hr => cases hr
  | [_], hr => cases hr
  | b :: a :: rr, hr =>
    have hr : (bif Nat.ble a 2147483647 && (Nat.ble b 2147483647 && Nat.blt 0 b) then q_fr (Nat.mod a b) (fun v => ih d i (q_code i) tl loc (v :: rr) h) else none) = some (hf, r) := hr
    obtain ⟨hq, hr⟩ := q_bifs hr
    rw [q_fr_eq] at hr
    obtain ⟨h1, h2⟩ := q_ands hq
    obtain ⟨h2, h3⟩ := q_ands h2
    have h1 := q_ble.mp h1
    have h2 := q_ble.mp h2
    have h3 := q_blt.mp h3
    obtain ⟨hm, hg⟩ := hN d loc _ h hf r hr
    refine ⟨hm, fun p e s m args below meth c H locs ls sv ws tys ad0 n0 s0 C hw hP hK hD hS hp hL hs hn0 hs0 => ?_⟩
    obtain ⟨vb, sv1, rfl, hvb, hs1⟩ := hs.cons
    obtain ⟨va, sv2, rfl, hva, hs2⟩ := hs1.cons
    obtain ⟨xb, rfl, xb1, -⟩ := hvb.int hrg (by omega)
    obtain ⟨xa, rfl, xa1, -⟩ := hva.int hrg (by omega)
    have hne : ¬ xb = 0 := by rw [xb1 (by omega)]; exact nI_ne0 h3 (by omega)
    refine lv_irem C.1 C.2.1 hd hne (hg p e s m args below meth c H locs ls (.int (xa - xa / xb * xb) :: sv2) ws tys ad0 n0 s0 C hw hP hK hD hS hp hL (⟨?_, hs2⟩) hn0 hs0)
    rw [xa1 (by omega), xb1 (by omega), pk_rem (by omega) h3 (by omega)]
    exact q_v.ex _ (Nat.le_trans (Nat.mod_le a b) (by omega))
theorem q_s_ishl (hrg : q_rgs env rg) (hd : decode (q_b i) pc = .ok (.ishl, ln)) (hk : q_lnk i pc ln (.ishl) x y z) (hN : q_HN l base D env ih i pc ln tl) (hr : q_step rg q_code mem ih d i (q_code i) pc (.ishl) x y z tl loc st h = some (hf, r)) : q_G l base D env d i pc loc st h hf r := by
  have e1 : ln = 1 := hk
  subst e1
  match st, hr with
  | [], hr => cases hr
  | [_], hr => cases hr
  | b :: a :: rr, hr =>
    have hr : (bif Nat.blt b 32 && q_in a then (bif q_ex a then q_fr (q_w (Nat.shiftLeft a b)) (fun v => ih d i (q_code i) tl loc (v :: rr) h) else ih d i (q_code i) tl loc (4294967296 :: rr) h) else none) = some (hf, r) := hr
    obtain ⟨hq, hr⟩ := q_bifs hr
    obtain ⟨h1, h2⟩ := q_ands hq
    have h1 := q_blt.mp h1
    have h2 := q_ble.mp h2
    cases hx : q_ex a with
    | true =>
      rw [q_ift _ _ hx, q_fr_eq] at hr
      have hq := q_ble.mp hx
      obtain ⟨hm, hg⟩ := hN d loc _ h hf r hr
      refine ⟨hm, fun p e s m args below meth c H locs ls sv ws tys ad0 n0 s0 C hw hP hK hD hS hp hL hs hn0 hs0 => ?_⟩
      obtain ⟨vb, sv1, rfl, hvb, hs1⟩ := hs.cons
      obtain ⟨va, sv2, rfl, hva, hs2⟩ := hs1.cons
      obtain ⟨xb, rfl, xb1, -⟩ := hvb.int hrg (by omega)
      obtain ⟨xa, rfl, xa1, -⟩ := hva.int hrg (by omega)
      refine lv_ishl C.1 C.2.1 hd (hg p e s m args below meth c H locs ls (.int (xa <<< (xb &&& 31)) :: sv2) ws tys ad0 n0 s0 C hw hP hK hD hS hp hL (⟨?_, hs2⟩) hn0 hs0)
      rw [xa1 hq, xb1 (by omega), q_m31 b h1, q_shl a b h1]
      exact q_v.exq _ (q_w_le _) (q_nI_w _).symm
    | false =>
      rw [q_iff _ _ hx] at hr
      obtain ⟨hm, hg⟩ := hN d loc _ h hf r hr
      refine ⟨hm, fun p e s m args below meth c H locs ls sv ws tys ad0 n0 s0 C hw hP hK hD hS hp hL hs hn0 hs0 => ?_⟩
      obtain ⟨vb, sv1, rfl, hvb, hs1⟩ := hs.cons
      obtain ⟨va, sv2, rfl, hva, hs2⟩ := hs1.cons
      obtain ⟨xb, rfl, xb1, -⟩ := hvb.int hrg (by omega)
      obtain ⟨xa, rfl, xa1, -⟩ := hva.int hrg (by omega)
      exact lv_ishl C.1 C.2.1 hd (hg p e s m args below meth c H locs ls (.int (xa <<< (xb &&& 31)) :: sv2) ws tys ad0 n0 s0 C hw hP hK hD hS hp hL (⟨q_v.top _ _, hs2⟩) hn0 hs0)
theorem q_s_ishr (hrg : q_rgs env rg) (hd : decode (q_b i) pc = .ok (.ishr, ln)) (hk : q_lnk i pc ln (.ishr) x y z) (hN : q_HN l base D env ih i pc ln tl) (hr : q_step rg q_code mem ih d i (q_code i) pc (.ishr) x y z tl loc st h = some (hf, r)) : q_G l base D env d i pc loc st h hf r := by
  have e1 : ln = 1 := hk
  subst e1
  match st, hr with
  | [], hr => cases hr
  | [_], hr => cases hr
  | b :: a :: rr, hr =>
    have hr : (bif Nat.blt b 32 && q_in a then (bif q_ex a then q_fr (bif Nat.ble a 2147483647 then Nat.shiftRight a b else Nat.sub (Nat.add (Nat.shiftRight a b) 4294967296) (Nat.pow 2 (Nat.sub 32 b))) (fun v => ih d i (q_code i) tl loc (v :: rr) h) else ih d i (q_code i) tl loc (4294967296 :: rr) h) else none) = some (hf, r) := hr
    obtain ⟨hq, hr⟩ := q_bifs hr
    obtain ⟨h1, h2⟩ := q_ands hq
    have h1 := q_blt.mp h1
    have h2 := q_ble.mp h2
    cases hx : q_ex a with
    | true =>
      rw [q_ift _ _ hx, q_fr_eq] at hr
      have hq := q_ble.mp hx
      obtain ⟨hm, hg⟩ := hN d loc _ h hf r hr
      refine ⟨hm, fun p e s m args below meth c H locs ls sv ws tys ad0 n0 s0 C hw hP hK hD hS hp hL hs hn0 hs0 => ?_⟩
      obtain ⟨vb, sv1, rfl, hvb, hs1⟩ := hs.cons
      obtain ⟨va, sv2, rfl, hva, hs2⟩ := hs1.cons
      obtain ⟨xb, rfl, xb1, -⟩ := hvb.int hrg (by omega)
      obtain ⟨xa, rfl, xa1, -⟩ := hva.int hrg (by omega)
      refine lv_ishr C.1 C.2.1 hd (hg p e s m args below meth c H locs ls (.int (xa >>> (xb &&& 31)) :: sv2) ws tys ad0 n0 s0 C hw hP hK hD hS hp hL (⟨?_, hs2⟩) hn0 hs0)
      rw [xa1 hq, xb1 (by omega), q_m31 b h1, q_shr a b hq h1]
      exact q_v.ex _ (q_shr_le a b hq h1)
    | false =>
      rw [q_iff _ _ hx] at hr
      obtain ⟨hm, hg⟩ := hN d loc _ h hf r hr
      refine ⟨hm, fun p e s m args below meth c H locs ls sv ws tys ad0 n0 s0 C hw hP hK hD hS hp hL hs hn0 hs0 => ?_⟩
      obtain ⟨vb, sv1, rfl, hvb, hs1⟩ := hs.cons
      obtain ⟨va, sv2, rfl, hva, hs2⟩ := hs1.cons
      obtain ⟨xb, rfl, xb1, -⟩ := hvb.int hrg (by omega)
      obtain ⟨xa, rfl, xa1, -⟩ := hva.int hrg (by omega)
      exact lv_ishr C.1 C.2.1 hd (hg p e s m args below meth c H locs ls (.int (xa >>> (xb &&& 31)) :: sv2) ws tys ad0 n0 s0 C hw hP hK hD hS hp hL (⟨q_v.top _ _, hs2⟩) hn0 hs0)
theorem q_s_iushr (hrg : q_rgs env rg) (hd : decode (q_b i) pc = .ok (.iushr, ln)) (hk : q_lnk i pc ln (.iushr) x y z) (hN : q_HN l base D env ih i pc ln tl) (hr : q_step rg q_code mem ih d i (q_code i) pc (.iushr) x y z tl loc st h = some (hf, r)) : q_G l base D env d i pc loc st h hf r := by
  have e1 : ln = 1 := hk
  subst e1
  match st, hr with
  | [], hr => cases hr
  | [_], hr => cases hr
  | b :: a :: rr, hr =>
    have hr : (bif Nat.blt b 32 && q_in a then (bif q_ex a then q_fr (Nat.shiftRight a b) (fun v => ih d i (q_code i) tl loc (v :: rr) h) else ih d i (q_code i) tl loc (4294967296 :: rr) h) else none) = some (hf, r) := hr
    obtain ⟨hq, hr⟩ := q_bifs hr
    obtain ⟨h1, h2⟩ := q_ands hq
    have h1 := q_blt.mp h1
    have h2 := q_ble.mp h2
    cases hx : q_ex a with
    | true =>
      rw [q_ift _ _ hx, q_fr_eq] at hr
      have hq := q_ble.mp hx
      obtain ⟨hm, hg⟩ := hN d loc _ h hf r hr
      refine ⟨hm, fun p e s m args below meth c H locs ls sv ws tys ad0 n0 s0 C hw hP hK hD hS hp hL hs hn0 hs0 => ?_⟩
      obtain ⟨vb, sv1, rfl, hvb, hs1⟩ := hs.cons
      obtain ⟨va, sv2, rfl, hva, hs2⟩ := hs1.cons
      obtain ⟨xb, rfl, xb1, -⟩ := hvb.int hrg (by omega)
      obtain ⟨xa, rfl, xa1, -⟩ := hva.int hrg (by omega)
      refine lv_iushr C.1 C.2.1 hd rfl (hg p e s m args below meth c H locs ls (.int ((xa.toUInt32 >>> (xb.toUInt32 &&& Int32.toUInt32 31)).toInt32) :: sv2) ws tys ad0 n0 s0 C hw hP hK hD hS hp hL (⟨?_, hs2⟩) hn0 hs0)
      rw [xa1 hq, xb1 (by omega), q_ushr a b hq h1]
      exact q_v.ex _ (Nat.le_trans (show a >>> b ≤ a by rw [Nat.shiftRight_eq_div_pow]; exact Nat.div_le_self _ _) hq)
    | false =>
      rw [q_iff _ _ hx] at hr
      obtain ⟨hm, hg⟩ := hN d loc _ h hf r hr
      refine ⟨hm, fun p e s m args below meth c H locs ls sv ws tys ad0 n0 s0 C hw hP hK hD hS hp hL hs hn0 hs0 => ?_⟩
      obtain ⟨vb, sv1, rfl, hvb, hs1⟩ := hs.cons
      obtain ⟨va, sv2, rfl, hva, hs2⟩ := hs1.cons
      obtain ⟨xb, rfl, xb1, -⟩ := hvb.int hrg (by omega)
      obtain ⟨xa, rfl, xa1, -⟩ := hva.int hrg (by omega)
      exact lv_iushr C.1 C.2.1 hd rfl (hg p e s m args below meth c H locs ls (.int ((xa.toUInt32 >>> (xb.toUInt32 &&& Int32.toUInt32 31)).toInt32) :: sv2) ws tys ad0 n0 s0 C hw hP hK hD hS hp hL (⟨q_v.top _ _, hs2⟩) hn0 hs0)
theorem q_s_i2b (hrg : q_rgs env rg) (hd : decode (q_b i) pc = .ok (.i2b, ln)) (hk : q_lnk i pc ln (.i2b) x y z) (hN : q_HN l base D env ih i pc ln tl) (hr : q_step rg q_code mem ih d i (q_code i) pc (.i2b) x y z tl loc st h = some (hf, r)) : q_G l base D env d i pc loc st h hf r := by
  have e1 : ln = 1 := hk
  subst e1
  cases st with
  | nil => cases hr
  | cons a rr =>
    have hr : (bif q_in a then ih d i (q_code i) tl loc (4294967296 :: rr) h else none) = some (hf, r) := hr
    obtain ⟨hq, hr⟩ := q_bifs hr
    obtain ⟨hm, hg⟩ := hN d loc _ h hf r hr
    refine ⟨hm, fun p e s m args below meth c H locs ls sv ws tys ad0 n0 s0 C hw hP hK hD hS hp hL hs hn0 hs0 => ?_⟩
    obtain ⟨va, sv1, rfl, hva, hs1⟩ := hs.cons
    obtain ⟨xa, rfl, xa1, -⟩ := hva.int hrg (q_ble.mp hq)
    exact lv_i2b C.1 C.2.1 hd rfl (hg p e s m args below meth c H locs ls (.int xa.toInt8.toInt32 :: sv1) ws tys ad0 n0 s0 C hw hP hK hD hS hp hL (⟨q_v.top _ _, hs1⟩) hn0 hs0)
theorem q_s_dup (hrg : q_rgs env rg) (hd : decode (q_b i) pc = .ok (.dup, ln)) (hk : q_lnk i pc ln (.dup) x y z) (hN : q_HN l base D env ih i pc ln tl) (hr : q_step rg q_code mem ih d i (q_code i) pc (.dup) x y z tl loc st h = some (hf, r)) : q_G l base D env d i pc loc st h hf r := by
  have e1 : ln = 1 := hk
  subst e1
  cases st with
  | nil => cases hr
  | cons a rr =>
    have hr : (bif Nat.beq a 4294967314 then none else ih d i (q_code i) tl loc (a :: a :: rr) h) = some (hf, r) := hr
    obtain ⟨hq, hr⟩ := q_bifn hr
    obtain ⟨hm, hg⟩ := hN d loc _ h hf r hr
    refine ⟨hm, fun p e s m args below meth c H locs ls sv ws tys ad0 n0 s0 C hw hP hK hD hS hp hL hs hn0 hs0 => ?_⟩
    obtain ⟨va, sv1, rfl, hva, hs1⟩ := hs.cons
    exact lv_dup C.1 C.2.1 hd (hva.cat (q_bneq.mp hq)) (hg p e s m args below meth c H locs ls (va :: va :: sv1) ws tys ad0 n0 s0 C hw hP hK hD hS hp hL (⟨hva, hva, hs1⟩) hn0 hs0)
theorem q_s_pop (hrg : q_rgs env rg) (hd : decode (q_b i) pc = .ok (.pop, ln)) (hk : q_lnk i pc ln (.pop) x y z) (hN : q_HN l base D env ih i pc ln tl) (hr : q_step rg q_code mem ih d i (q_code i) pc (.pop) x y z tl loc st h = some (hf, r)) : q_G l base D env d i pc loc st h hf r := by
  have e1 : ln = 1 := hk
  subst e1
  cases st with
  | nil => cases hr
  | cons a rr =>
    have hr : (bif Nat.beq a 4294967314 then none else ih d i (q_code i) tl loc rr h) = some (hf, r) := hr
    obtain ⟨hq, hr⟩ := q_bifn hr
    obtain ⟨hm, hg⟩ := hN d loc _ h hf r hr
    refine ⟨hm, fun p e s m args below meth c H locs ls sv ws tys ad0 n0 s0 C hw hP hK hD hS hp hL hs hn0 hs0 => ?_⟩
    obtain ⟨va, sv1, rfl, hva, hs1⟩ := hs.cons
    exact lv_pop C.1 C.2.1 hd (hva.cat (q_bneq.mp hq)) (hg p e s m args below meth c H locs ls (sv1) ws tys ad0 n0 s0 C hw hP hK hD hS hp hL (hs1) hn0 hs0)
theorem q_s_dup2 (hrg : q_rgs env rg) (hd : decode (q_b i) pc = .ok (.dup2, ln)) (hk : q_lnk i pc ln (.dup2) x y z) (hN : q_HN l base D env ih i pc ln tl) (hr : q_step rg q_code mem ih d i (q_code i) pc (.dup2) x y z tl loc st h = some (hf, r)) : q_G l base D env d i pc loc st h hf r := by
  have e1 : ln = 1 := hk
  subst e1
  match st, hr with
  | [], hr => cases hr
  | [_], hr => cases hr
  | b :: a :: rr, hr =>
    have hr : (bif Nat.beq a 4294967314 || Nat.beq b 4294967314 then none else ih d i (q_code i) tl loc (b :: a :: b :: a :: rr) h) = some (hf, r) := hr
    obtain ⟨hq, hr⟩ := q_bifn hr
    obtain ⟨h1, h2⟩ := q_norn hq
    obtain ⟨hm, hg⟩ := hN d loc _ h hf r hr
    refine ⟨hm, fun p e s m args below meth c H locs ls sv ws tys ad0 n0 s0 C hw hP hK hD hS hp hL hs hn0 hs0 => ?_⟩
    obtain ⟨vb, sv1, rfl, hvb, hs1⟩ := hs.cons
    obtain ⟨va, sv2, rfl, hva, hs2⟩ := hs1.cons
    exact lv_dup2_11 C.1 C.2.1 hd (hvb.cat (q_bneq.mp h2)) (hva.cat (q_bneq.mp h1)) (hg p e s m args below meth c H locs ls (vb :: va :: vb :: va :: sv2) ws tys ad0 n0 s0 C hw hP hK hD hS hp hL (⟨hvb, hva, hvb, hva, hs2⟩) hn0 hs0)
theorem q_s_ifCond {cd : ClassFile.Cond} {off : Int} (hrg : q_rgs env rg) (hd : decode (q_b i) pc = .ok (.ifCond cd off, ln)) (hk : q_lnk i pc ln (.ifCond cd off) x y z) (hN : q_HN l base D env ih i pc ln tl) (hJ : q_HJ l base D env ih i) (hr : q_step rg q_code mem ih d i (q_code i) pc (.ifCond cd off) x y z tl loc st h = some (hf, r)) : q_G l base D env d i pc loc st h hf r := by
  obtain ⟨e1, e2⟩ := hk
  subst e1
  match st, hr with
  | [], hr => cases hr
  | a :: rr, hr =>
    have hr : q_br (q_cm rg cd a 0) (ih d i (q_code i) (q_jm (q_code i) x) loc rr h) (ih d i (q_code i) tl loc rr h) = some (hf, r) := hr
    rcases q_br_inv hr with ⟨ho, hr⟩ | ⟨ho, hr⟩
    · obtain ⟨hm, hg⟩ := hJ x d loc rr h hf r hr
      refine ⟨hm, fun p e s m args below meth c H locs ls sv ws tys ad0 n0 s0 C hw hP hK hD hS hp hL hs hn0 hs0 => ?_⟩
      obtain ⟨va, sv1, rfl, hva, hs1⟩ := hs.cons
      obtain ⟨xa, rfl, xa1⟩ := hva.int hrg (q_cm_in ho).1
      have h0 : q_iv rg 0 0 := by
        obtain ⟨z0, z1, z2⟩ := (q_v.ex (env := env) [] (Nat.zero_le 4294967295)).int hrg (by decide)
        rw [nI_0] at z1
        cases z1
        exact z2
      have hc := q_cm_ok ho xa1 h0
      cases cd with
      | eq => exact lv_if_eq C.1 C.2.1 hd e2 (fun _ => (hg p e s m args below meth c H locs ls (sv1) ws tys ad0 n0 s0 C hw hP hK hD hS hp hL (hs1) hn0 hs0)) (fun hz => absurd (hc.mp rfl) hz)
      | ne => exact lv_if_ne C.1 C.2.1 hd e2 (fun _ => (hg p e s m args below meth c H locs ls (sv1) ws tys ad0 n0 s0 C hw hP hK hD hS hp hL (hs1) hn0 hs0)) (fun hz => absurd hz (hc.mp rfl))
      | lt => exact lv_if_lt C.1 C.2.1 hd e2 (fun _ => (hg p e s m args below meth c H locs ls (sv1) ws tys ad0 n0 s0 C hw hP hK hD hS hp hL (hs1) hn0 hs0)) (fun hz => absurd (hc.mp rfl) hz)
      | ge => exact lv_if_ge C.1 C.2.1 hd e2 (fun _ => (hg p e s m args below meth c H locs ls (sv1) ws tys ad0 n0 s0 C hw hP hK hD hS hp hL (hs1) hn0 hs0)) (fun hz => absurd (hc.mp rfl) hz)
      | gt => exact lv_if_gt C.1 C.2.1 hd e2 (fun _ => (hg p e s m args below meth c H locs ls (sv1) ws tys ad0 n0 s0 C hw hP hK hD hS hp hL (hs1) hn0 hs0)) (fun hz => absurd (hc.mp rfl) hz)
      | le => exact lv_if_le C.1 C.2.1 hd e2 (fun _ => (hg p e s m args below meth c H locs ls (sv1) ws tys ad0 n0 s0 C hw hP hK hD hS hp hL (hs1) hn0 hs0)) (fun hz => absurd (hc.mp rfl) hz)
    · obtain ⟨hm, hg⟩ := hN d loc rr h hf r hr
      refine ⟨hm, fun p e s m args below meth c H locs ls sv ws tys ad0 n0 s0 C hw hP hK hD hS hp hL hs hn0 hs0 => ?_⟩
      obtain ⟨va, sv1, rfl, hva, hs1⟩ := hs.cons
      obtain ⟨xa, rfl, xa1⟩ := hva.int hrg (q_cm_in ho).1
      have h0 : q_iv rg 0 0 := by
        obtain ⟨z0, z1, z2⟩ := (q_v.ex (env := env) [] (Nat.zero_le 4294967295)).int hrg (by decide)
        rw [nI_0] at z1
        cases z1
        exact z2
      have hc := q_cm_ok ho xa1 h0
      cases cd with
      | eq => exact lv_if_eq C.1 C.2.1 hd e2 (fun hz => absurd (hc.mpr hz) (by decide)) (fun _ => (hg p e s m args below meth c H locs ls (sv1) ws tys ad0 n0 s0 C hw hP hK hD hS hp hL (hs1) hn0 hs0))
      | ne => exact lv_if_ne C.1 C.2.1 hd e2 (fun hz => absurd (hc.mpr hz) (by decide)) (fun _ => (hg p e s m args below meth c H locs ls (sv1) ws tys ad0 n0 s0 C hw hP hK hD hS hp hL (hs1) hn0 hs0))
      | lt => exact lv_if_lt C.1 C.2.1 hd e2 (fun hz => absurd (hc.mpr hz) (by decide)) (fun _ => (hg p e s m args below meth c H locs ls (sv1) ws tys ad0 n0 s0 C hw hP hK hD hS hp hL (hs1) hn0 hs0))
      | ge => exact lv_if_ge C.1 C.2.1 hd e2 (fun hz => absurd (hc.mpr hz) (by decide)) (fun _ => (hg p e s m args below meth c H locs ls (sv1) ws tys ad0 n0 s0 C hw hP hK hD hS hp hL (hs1) hn0 hs0))
      | gt => exact lv_if_gt C.1 C.2.1 hd e2 (fun hz => absurd (hc.mpr hz) (by decide)) (fun _ => (hg p e s m args below meth c H locs ls (sv1) ws tys ad0 n0 s0 C hw hP hK hD hS hp hL (hs1) hn0 hs0))
      | le => exact lv_if_le C.1 C.2.1 hd e2 (fun hz => absurd (hc.mpr hz) (by decide)) (fun _ => (hg p e s m args below meth c H locs ls (sv1) ws tys ad0 n0 s0 C hw hP hK hD hS hp hL (hs1) hn0 hs0))
theorem q_s_if_icmp {cd : ClassFile.Cond} {off : Int} (hrg : q_rgs env rg) (hd : decode (q_b i) pc = .ok (.if_icmp cd off, ln)) (hk : q_lnk i pc ln (.if_icmp cd off) x y z) (hN : q_HN l base D env ih i pc ln tl) (hJ : q_HJ l base D env ih i) (hr : q_step rg q_code mem ih d i (q_code i) pc (.if_icmp cd off) x y z tl loc st h = some (hf, r)) : q_G l base D env d i pc loc st h hf r := by
  obtain ⟨e1, e2⟩ := hk
  subst e1
  match st, hr with
  | [], hr => cases hr
  | [_], hr => cases hr
  | b :: a :: rr, hr =>
    have hr : q_br (q_cm rg cd a b) (ih d i (q_code i) (q_jm (q_code i) x) loc rr h) (ih d i (q_code i) tl loc rr h) = some (hf, r) := hr
    rcases q_br_inv hr with ⟨ho, hr⟩ | ⟨ho, hr⟩
    · obtain ⟨hm, hg⟩ := hJ x d loc rr h hf r hr
      refine ⟨hm, fun p e s m args below meth c H locs ls sv ws tys ad0 n0 s0 C hw hP hK hD hS hp hL hs hn0 hs0 => ?_⟩
      obtain ⟨vb, sv1, rfl, hvb, hs1⟩ := hs.cons
      obtain ⟨va, sv2, rfl, hva, hs2⟩ := hs1.cons
      obtain ⟨xb, rfl, xb1⟩ := hvb.int hrg (q_cm_in ho).2
      obtain ⟨xa, rfl, xa1⟩ := hva.int hrg (q_cm_in ho).1
      have hc := q_cm_ok ho xa1 xb1
      cases cd with
      | eq => exact lv_icmp_eq C.1 C.2.1 hd e2 (fun _ => (hg p e s m args below meth c H locs ls (sv2) ws tys ad0 n0 s0 C hw hP hK hD hS hp hL (hs2) hn0 hs0)) (fun hz => absurd (hc.mp rfl) hz)
      | ne => exact lv_icmp_ne C.1 C.2.1 hd e2 (fun _ => (hg p e s m args below meth c H locs ls (sv2) ws tys ad0 n0 s0 C hw hP hK hD hS hp hL (hs2) hn0 hs0)) (fun hz => absurd hz (hc.mp rfl))
      | lt => exact lv_icmp_lt C.1 C.2.1 hd e2 (fun _ => (hg p e s m args below meth c H locs ls (sv2) ws tys ad0 n0 s0 C hw hP hK hD hS hp hL (hs2) hn0 hs0)) (fun hz => absurd (hc.mp rfl) hz)
      | ge => exact lv_icmp_ge C.1 C.2.1 hd e2 (fun _ => (hg p e s m args below meth c H locs ls (sv2) ws tys ad0 n0 s0 C hw hP hK hD hS hp hL (hs2) hn0 hs0)) (fun hz => absurd (hc.mp rfl) hz)
      | gt => exact lv_icmp_gt C.1 C.2.1 hd e2 (fun _ => (hg p e s m args below meth c H locs ls (sv2) ws tys ad0 n0 s0 C hw hP hK hD hS hp hL (hs2) hn0 hs0)) (fun hz => absurd (hc.mp rfl) hz)
      | le => exact lv_icmp_le C.1 C.2.1 hd e2 (fun _ => (hg p e s m args below meth c H locs ls (sv2) ws tys ad0 n0 s0 C hw hP hK hD hS hp hL (hs2) hn0 hs0)) (fun hz => absurd (hc.mp rfl) hz)
    · obtain ⟨hm, hg⟩ := hN d loc rr h hf r hr
      refine ⟨hm, fun p e s m args below meth c H locs ls sv ws tys ad0 n0 s0 C hw hP hK hD hS hp hL hs hn0 hs0 => ?_⟩
      obtain ⟨vb, sv1, rfl, hvb, hs1⟩ := hs.cons
      obtain ⟨va, sv2, rfl, hva, hs2⟩ := hs1.cons
      obtain ⟨xb, rfl, xb1⟩ := hvb.int hrg (q_cm_in ho).2
      obtain ⟨xa, rfl, xa1⟩ := hva.int hrg (q_cm_in ho).1
      have hc := q_cm_ok ho xa1 xb1
      cases cd with
      | eq => exact lv_icmp_eq C.1 C.2.1 hd e2 (fun hz => absurd (hc.mpr hz) (by decide)) (fun _ => (hg p e s m args below meth c H locs ls (sv2) ws tys ad0 n0 s0 C hw hP hK hD hS hp hL (hs2) hn0 hs0))
      | ne => exact lv_icmp_ne C.1 C.2.1 hd e2 (fun hz => absurd (hc.mpr hz) (by decide)) (fun _ => (hg p e s m args below meth c H locs ls (sv2) ws tys ad0 n0 s0 C hw hP hK hD hS hp hL (hs2) hn0 hs0))
      | lt => exact lv_icmp_lt C.1 C.2.1 hd e2 (fun hz => absurd (hc.mpr hz) (by decide)) (fun _ => (hg p e s m args below meth c H locs ls (sv2) ws tys ad0 n0 s0 C hw hP hK hD hS hp hL (hs2) hn0 hs0))
      | ge => exact lv_icmp_ge C.1 C.2.1 hd e2 (fun hz => absurd (hc.mpr hz) (by decide)) (fun _ => (hg p e s m args below meth c H locs ls (sv2) ws tys ad0 n0 s0 C hw hP hK hD hS hp hL (hs2) hn0 hs0))
      | gt => exact lv_icmp_gt C.1 C.2.1 hd e2 (fun hz => absurd (hc.mpr hz) (by decide)) (fun _ => (hg p e s m args below meth c H locs ls (sv2) ws tys ad0 n0 s0 C hw hP hK hD hS hp hL (hs2) hn0 hs0))
      | le => exact lv_icmp_le C.1 C.2.1 hd e2 (fun hz => absurd (hc.mpr hz) (by decide)) (fun _ => (hg p e s m args below meth c H locs ls (sv2) ws tys ad0 n0 s0 C hw hP hK hD hS hp hL (hs2) hn0 hs0))
theorem q_s_goto {off : Int} (hrg : q_rgs env rg) (hd : decode (q_b i) pc = .ok (.goto off, ln)) (hk : q_lnk i pc ln (.goto off) x y z) (hN : q_HN l base D env ih i pc ln tl) (hJ : q_HJ l base D env ih i) (hr : q_step rg q_code mem ih d i (q_code i) pc (.goto off) x y z tl loc st h = some (hf, r)) : q_G l base D env d i pc loc st h hf r := by
  obtain ⟨e1, e2⟩ := hk
  subst e1
  obtain ⟨hm, hg⟩ := hJ x d loc st h hf r hr
  refine ⟨hm, fun p e s m args below meth c H locs ls sv ws tys ad0 n0 s0 C hw hP hK hD hS hp hL hs hn0 hs0 => ?_⟩
  exact lv_goto C.1 C.2.1 hd e2 (hg p e s m args below meth c H locs ls (sv) ws tys ad0 n0 s0 C hw hP hK hD hS hp hL (hs) hn0 hs0)
theorem q_s_ifnull {off : Int} (hrg : q_rgs env rg) (hd : decode (q_b i) pc = .ok (.ifnull off, ln)) (hk : q_lnk i pc ln (.ifnull off) x y z) (hN : q_HN l base D env ih i pc ln tl) (hr : q_step rg q_code mem ih d i (q_code i) pc (.ifnull off) x y z tl loc st h = some (hf, r)) : q_G l base D env d i pc loc st h hf r := by
  obtain ⟨e1, e2⟩ := hk
  subst e1
  cases st with
  | nil => cases hr
  | cons a rr =>
    have hr : (bif Nat.ble 4294967328 a then ih d i (q_code i) tl loc rr h else none) = some (hf, r) := hr
    obtain ⟨hq, hr⟩ := q_bifs hr
    obtain ⟨hm, hg⟩ := hN d loc _ h hf r hr
    refine ⟨hm, fun p e s m args below meth c H locs ls sv ws tys ad0 n0 s0 C hw hP hK hD hS hp hL hs hn0 hs0 => ?_⟩
    obtain ⟨va, sv1, rfl, hva, hs1⟩ := hs.cons
    obtain ⟨k, hk2, rfl⟩ := hva.ref (q_ble.mp hq)
    exact lv_ifnull C.1 C.2.1 hd (hg p e s m args below meth c H locs ls (sv1) ws tys ad0 n0 s0 C hw hP hK hD hS hp hL (hs1) hn0 hs0)
theorem q_s_ifnonnull {off : Int} (hrg : q_rgs env rg) (hd : decode (q_b i) pc = .ok (.ifnonnull off, ln)) (hk : q_lnk i pc ln (.ifnonnull off) x y z) (hN : q_HN l base D env ih i pc ln tl) (hJ : q_HJ l base D env ih i) (hr : q_step rg q_code mem ih d i (q_code i) pc (.ifnonnull off) x y z tl loc st h = some (hf, r)) : q_G l base D env d i pc loc st h hf r := by
  obtain ⟨e1, e2⟩ := hk
  subst e1
  cases st with
  | nil => cases hr
  | cons a rr =>
    have hr : (bif Nat.ble 4294967328 a then ih d i (q_code i) (q_jm (q_code i) x) loc rr h else bif Nat.beq a 4294967312 then ih d i (q_code i) tl loc rr h else none) = some (hf, r) := hr
    cases hq : Nat.ble 4294967328 a with
    | true =>
      rw [q_ift _ _ hq] at hr
      obtain ⟨hm, hg⟩ := hJ x d loc rr h hf r hr
      refine ⟨hm, fun p e s m args below meth c H locs ls sv ws tys ad0 n0 s0 C hw hP hK hD hS hp hL hs hn0 hs0 => ?_⟩
      obtain ⟨va, sv1, rfl, hva, hs1⟩ := hs.cons
      obtain ⟨k, hk2, rfl⟩ := hva.ref (q_ble.mp hq)
      exact lv_ifnonnull C.1 C.2.1 hd e2 (hg p e s m args below meth c H locs ls (sv1) ws tys ad0 n0 s0 C hw hP hK hD hS hp hL (hs1) hn0 hs0)
    | false =>
      rw [q_iff _ _ hq] at hr
      obtain ⟨hq2, hr⟩ := q_bifs hr
      have hq2 := q_beq.mp hq2
      obtain ⟨hm, hg⟩ := hN d loc rr h hf r hr
      refine ⟨hm, fun p e s m args below meth c H locs ls sv ws tys ad0 n0 s0 C hw hP hK hD hS hp hL hs hn0 hs0 => ?_⟩
      obtain ⟨va, sv1, rfl, hva, hs1⟩ := hs.cons
      rw [hq2] at hva
      have hv := hva.nul
      subst hv
      exact lv_ifnonnullN C.1 C.2.1 hd (hg p e s m args below meth c H locs ls (sv1) ws tys ad0 n0 s0 C hw hP hK hD hS hp hL (hs1) hn0 hs0)
theorem q_s_table {df lo hi : Int} {offs : Array Int} (hrg : q_rgs env rg) (hd : decode (q_b i) pc = .ok (.tableswitch df lo hi offs, ln)) (hk : q_lnk i pc ln (.tableswitch df lo hi offs) x y z) (hN : q_HN l base D env ih i pc ln tl) (hJ : q_HJ l base D env ih i) (hr : q_step rg q_code mem ih d i (q_code i) pc (.tableswitch df lo hi offs) x y z tl loc st h = some (hf, r)) : q_G l base D env d i pc loc st h hf r := by
  obtain ⟨e1, e2, e3, e4, e5⟩ := hk
  cases st with
  | nil => cases hr
  | cons a rr =>
    have hr : (bif q_ex a && (Nat.ble x a && Nat.ble a y) then ih d i (q_code i) (q_jm (q_code i) (Int.toNat (Int.add (Int.ofNat pc) (q_nth offs.toList 0 (Nat.sub a x))))) loc rr h else bif q_in a && (Nat.blt (q_hi rg a) (q_bi x) || Nat.blt (q_bi y) (q_lo rg a)) then ih d i (q_code i) (q_jm (q_code i) (Int.toNat (Int.add (Int.ofNat pc) df))) loc rr h else none) = some (hf, r) := hr
    cases hq : (q_ex a && (Nat.ble x a && Nat.ble a y)) with
    | true =>
      rw [q_ift _ _ hq] at hr
      obtain ⟨h1, h2⟩ := q_ands hq
      obtain ⟨h2, h3⟩ := q_ands h2
      have h1 := q_ble.mp h1
      have h2 := q_ble.mp h2
      have h3 := q_ble.mp h3
      obtain ⟨o, ho, hpos⟩ := e5 (a - x) (by omega)
      have eo : q_nth offs.toList 0 (Nat.sub a x) = o := by
        rw [q_nth_eq, Nat.sub_eq, List.getD_eq_getElem?_getD, Array.getElem?_toList, ho]
        rfl
      rw [eo] at hr
      obtain ⟨hm, hg⟩ := hJ _ d loc rr h hf r hr
      refine ⟨hm, fun p e s m args below meth c H locs ls sv ws tys ad0 n0 s0 C hw hP hK hD hS hp hL hs hn0 hs0 => ?_⟩
      obtain ⟨va, sv1, rfl, hva, hs1⟩ := hs.cons
      obtain ⟨xa, rfl, xa1, -⟩ := hva.int hrg (by omega)
      have ex : xa.toInt = (a : Int) := by rw [xa1 h1, q_toInt h1, if_pos (by omega)]
      refine lv_tableIn (off := o) C.1 C.2.1 hd (by omega) (by omega) ?_ ?_ (hg p e s m args below meth c H locs ls (sv1) ws tys ad0 n0 s0 C hw hP hK hD hS hp hL (hs1) hn0 hs0)
      · rw [ex, e1, show ((a : Int) - (x : Int)).toNat = a - x by omega]
        exact ho
      · show (pc : Int) + o = ((((pc : Int) + o).toNat : Nat) : Int)
        exact (Int.toNat_of_nonneg hpos).symm
    | false =>
      rw [q_iff _ _ hq] at hr
      obtain ⟨h1, hr⟩ := q_bifs hr
      obtain ⟨h1, h2⟩ := q_ands h1
      obtain ⟨hm, hg⟩ := hJ _ d loc rr h hf r hr
      refine ⟨hm, fun p e s m args below meth c H locs ls sv ws tys ad0 n0 s0 C hw hP hK hD hS hp hL hs hn0 hs0 => ?_⟩
      obtain ⟨va, sv1, rfl, hva, hs1⟩ := hs.cons
      obtain ⟨xa, rfl, xa1, xa2, xa3⟩ := hva.int hrg (q_ble.mp h1)
      refine lv_tableOut C.1 C.2.1 hd ?_ ?_ (hg p e s m args below meth c H locs ls (sv1) ws tys ad0 n0 s0 C hw hP hK hD hS hp hL (hs1) hn0 hs0)
      · have b1 : ∀ k : Nat, k < 2147483648 → q_bi k = k + 2147483648 := fun k hk => by
          show (k + 2147483648) % 4294967296 = _
          omega
        have hx := q_rng xa
        unfold q_qb at xa2 xa3
        rcases q_ors h2 with h2 | h2
        · have h2 := q_blt.mp h2
          left
          rcases Nat.lt_or_ge x 2147483648 with hx2 | hx2
          · rw [b1 x hx2] at h2
            omega
          · omega
        · have h2 := q_blt.mp h2
          rw [b1 y e3] at h2
          right
          omega
      · show (pc : Int) + df = ((((pc : Int) + df).toNat : Nat) : Int)
        exact (Int.toNat_of_nonneg e4).symm
end QI
end
section
/-! ===== instruction by instruction: cells ===== -/
def q_clok : Prop := ∀ (k : Nat) (r : vw_C), q_cls[k]? = some r → (∀ w ∈ u_ws r.1 r.2.1 r.2.2, w ∈ q_w0) ∧ (∀ j, j < r.2.2 → parseFieldDescriptor (r.2.1 j).2.2.1 = some ((q_fty.getD k (fun _ => .int)) j)) ∧ ∀ a, a < r.2.2 → ∀ b, b < r.2.2 → a ≠ b → (r.2.1 a).2.1 ≠ (r.2.1 b).2.1
theorem q_cell {env : Nat → Int32} {h : q_H} {ws : va_W} {tys : List (ClassId × FieldType)} (hw : q_W env h ws tys) {c j : Nat} {v : Value} (hv : q_v env (q_ad ws) c v) (hc : 4294967328 ≤ c) (ej : j = c - 4294967328) (hj : j < h.1) : ∃ a e, v = .ref a ∧ ws[j]? = some (a, e) ∧ q_c env (q_ad ws) tys (q_tg 7 h.2 j) e := by
  obtain ⟨a, ha, rfl⟩ := hv.ref hc
  rw [← ej] at ha
  obtain ⟨a2, e, h1, h2⟩ := hw.2.2 _ hj
  have h3 : (q_ad ws)[j]? = some a2 := by rw [List.getElem?_map, h1]; rfl
  have h4 : a = a2 := Option.some.inj (ha.symm.trans h3)
  subst h4
  exact ⟨a, e, rfl, h1, h2⟩
theorem q_c.obj {env : Nat → Int32} {ad : List Nat} {tys : List (ClassId × FieldType)} {c : q_C} {e : va_E} (h : q_c env ad tys c e) {x : Nat} (hx : c.1 = 2 * x) : ∃ fs : List Value, e = .inr (x, fs) ∧ fs.length = c.2.1 ∧ ∀ (j : Nat) (v : Value), fs[j]? = some v → q_get c.2.2 j = 4294967313 ∨ q_v env ad (q_get c.2.2 j) v := by
  rcases h with ⟨ci, fs, h1, h2, h3, h4⟩ | ⟨h0, _⟩ | ⟨h0, _⟩ | ⟨h0, _⟩ | ⟨h0, _⟩ | ⟨h0, _⟩
  · have e1 : ci = x := by omega
    subst e1
    exact ⟨fs, h2, h3, h4⟩
  all_goals omega
theorem q_c.arr {env : Nat → Int32} {ad : List Nat} {tys : List (ClassId × FieldType)} {c : q_C} {e : va_E} (h : q_c env ad tys c e) (hx : c.1 = 1) : q_ca env tys .int c.2.1 c.2.2 e := by
  rcases h with ⟨ci, fs, h1, _⟩ | ⟨h0, h⟩ | ⟨h0, _⟩ | ⟨h0, _⟩ | ⟨h0, _⟩ | ⟨h0, _⟩
  · omega
  · exact h
  all_goals omega
theorem q_c.arb {env : Nat → Int32} {ad : List Nat} {tys : List (ClassId × FieldType)} {c : q_C} {e : va_E} (h : q_c env ad tys c e) (hx : c.1 = 3) : q_ca env tys .byte c.2.1 c.2.2 e := by
  rcases h with ⟨ci, fs, h1, _⟩ | ⟨h0, _⟩ | ⟨h0, h⟩ | ⟨h0, _⟩ | ⟨h0, _⟩ | ⟨h0, _⟩
  · omega
  · omega
  · exact h
  all_goals omega
theorem q_c.arz {env : Nat → Int32} {ad : List Nat} {tys : List (ClassId × FieldType)} {c : q_C} {e : va_E} (h : q_c env ad tys c e) (hx : c.1 = 5) : q_ca env tys .boolean c.2.1 c.2.2 e := by
  rcases h with ⟨ci, fs, h1, _⟩ | ⟨h0, _⟩ | ⟨h0, _⟩ | ⟨h0, h⟩ | ⟨h0, _⟩ | ⟨h0, _⟩
  · omega
  · omega
  · omega
  · exact h
  all_goals omega
theorem q_c.arq {env : Nat → Int32} {ad : List Nat} {tys : List (ClassId × FieldType)} {c : q_C} {e : va_E} (h : q_c env ad tys c e) (hx : c.1 = 9) : q_cq ad tys c.2.1 c.2.2 e := by
  rcases h with ⟨ci, fs, h1, _⟩ | ⟨h0, _⟩ | ⟨h0, _⟩ | ⟨h0, _⟩ | ⟨h0, _⟩ | ⟨h0, h⟩
  · omega
  · omega
  · omega
  · omega
  · omega
  · exact h
theorem q_v.int0 {env : Nat → Int32} {ad ad' : List Nat} {c : Nat} {v : Value} (h : q_v env ad c v) (hc : c ≤ 4294967311) : q_v env ad' c v := by
  rcases h with h | h | h | h | h | h
  · exact Or.inl h
  · exact Or.inr (Or.inl h)
  · exact Or.inr (Or.inr (Or.inl h))
  all_goals omega
theorem q_clamp {j n : Nat} (h : j < n) (hn : n ≤ 100000) : (nI j).toNatClampNeg = j := nI_clamp (by omega)
theorem q_hmo {h hf : q_H} {k kd ln N : Nat} (hm : (q_up h k kd ln N).1 ≤ hf.1 ∧ q_ss (q_up h k kd ln N) ≤ q_ss hf) (e : q_ss (q_up h k kd ln N) = q_ss h) : h.1 ≤ hf.1 ∧ q_ss h ≤ q_ss hf := ⟨hm.1, by rw [← e]; exact hm.2⟩
section QI
variable {l : Launch} {base : Nat} {D : va_G} {env : Nat → Int32} {rg : Nat → Nat × Nat} {mem : q_M} {ih : q_F} {d i pc ln x y z loc : Nat} {tl : List q_I} {st : List Nat} {h hf : q_H} {r : List Nat}
theorem q_s_alen (hrg : q_rgs env rg) (hd : decode (q_b i) pc = .ok (.arraylength, ln)) (hk : q_lnk i pc ln (.arraylength) x y z) (hN : q_HN l base D env ih i pc ln tl) (hr : q_step rg q_code mem ih d i (q_code i) pc (.arraylength) x y z tl loc st h = some (hf, r)) : q_G l base D env d i pc loc st h hf r := by
  have e1 : ln = 1 := hk
  subst e1
  cases st with
  | nil => cases hr
  | cons a rr =>
    have hr : q_at h a (fun _ kd ln _ => bif Nat.beq (Nat.mod kd 2) 1 && Nat.ble ln 100000 then ih d i (q_code i) tl loc (ln :: rr) h else none) = some (hf, r) := hr
    obtain ⟨j, hc1, ej, hj, hh, hr⟩ := q_at_inv hr
    obtain ⟨hq, hr⟩ := q_bifs hr
    obtain ⟨h1, h2⟩ := q_ands hq
    have h1 := q_beq.mp h1
    have h1 : (q_tg 7 h.2 j).1 % 2 = 1 := h1
    have h2 := q_ble.mp h2
    obtain ⟨hm, hg⟩ := hN d loc _ h hf r hr
    refine ⟨hm, fun p e s m args below meth c H locs ls sv ws tys ad0 n0 s0 C hw hP hK hD hS hp hL hs hn0 hs0 => ?_⟩
    obtain ⟨va, sv1, rfl, hva, hs1⟩ := hs.cons
    obtain ⟨a2, e2, rfl, he, hc⟩ := q_cell hw hva hc1 ej hj
    rcases hc with ⟨ci, fs, q1, _⟩ | ⟨q0, cA, t, f, q1, q2, q3, _⟩ | ⟨q0, cA, t, f, q1, q2, q3, _⟩ | ⟨q0, cA, t, f, q1, q2, q3, _⟩ | ⟨q0, cA, t, f, q1, q2, q3⟩ | ⟨q0, cA, t, f, q1, q2, q3, _⟩
    · omega
    all_goals
      subst q1
      exact va_alen C.1 C.2.1 hK hP _ t he q2 rfl hd (hg p e s m args below meth c H locs ls (.int (Int32.ofNat (q_tg 7 h.2 j).2.1) :: sv1) (ws) (tys) ad0 n0 s0 C (hw) hP hK hD hS (hp) (hL) (⟨q_v.exq _ (by omega) rfl, hs1⟩) (hn0) (hs0))
theorem q_s_iaload (hrg : q_rgs env rg) (hd : decode (q_b i) pc = .ok (.iaload, ln)) (hk : q_lnk i pc ln (.iaload) x y z) (hN : q_HN l base D env ih i pc ln tl) (hr : q_step rg q_code mem ih d i (q_code i) pc (.iaload) x y z tl loc st h = some (hf, r)) : q_G l base D env d i pc loc st h hf r := by
  have e1 : ln = 1 := hk
  subst e1
  match st, hr with
  | [], hr => cases hr
  | [_], hr => cases hr
  | b :: a :: rr, hr =>
    have hr : q_at h a (fun _ kd ln N => bif Nat.beq kd 1 && Nat.blt b ln then q_fr (q_get N b) (fun v => ih d i (q_code i) tl loc (v :: rr) h) else none) = some (hf, r) := hr
    obtain ⟨j, hc1, ej, hj, hh, hr⟩ := q_at_inv hr
    obtain ⟨hq, hr⟩ := q_bifs hr
    rw [q_fr_eq] at hr
    obtain ⟨h1, h2⟩ := q_ands hq
    have h2 := q_blt.mp h2
    obtain ⟨hm, hg⟩ := hN d loc _ h hf r hr
    refine ⟨hm, fun p e s m args below meth c H locs ls sv ws tys ad0 n0 s0 C hw hP hK hD hS hp hL hs hn0 hs0 => ?_⟩
    obtain ⟨vb, sv1, rfl, hvb, hs1⟩ := hs.cons
    obtain ⟨va, sv2, rfl, hva, hs2⟩ := hs1.cons
    obtain ⟨a2, e2, rfl, he, hc⟩ := q_cell hw hva hc1 ej hj
    obtain ⟨cA, t, f, rfl, q2, q3, q4⟩ := hc.arr (q_beq.mp h1)
    obtain ⟨xb, rfl, xb1, -⟩ := hvb.int hrg (by omega)
    have ex := xb1 (by omega)
    subst ex
    refine va_iald C.1 C.2.1 hK hP _ t he q2 (vp_in_nI h2 (by omega)) hd (hg p e s m args below meth c H locs ls (.int (f (nI b).toNatClampNeg) :: sv2) (ws) (tys) ad0 n0 s0 C (hw) hP hK hD hS (hp) (hL) (⟨?_, hs2⟩) (hn0) (hs0))
    rw [q_clamp h2 q3]
    exact (q4 b h2).2.int0 (q4 b h2).1
theorem q_s_baload (hrg : q_rgs env rg) (hd : decode (q_b i) pc = .ok (.baload, ln)) (hk : q_lnk i pc ln (.baload) x y z) (hN : q_HN l base D env ih i pc ln tl) (hr : q_step rg q_code mem ih d i (q_code i) pc (.baload) x y z tl loc st h = some (hf, r)) : q_G l base D env d i pc loc st h hf r := by
  have e1 : ln = 1 := hk
  subst e1
  match st, hr with
  | [], hr => cases hr
  | [_], hr => cases hr
  | b :: a :: rr, hr =>
    have hr : q_at h a (fun _ kd ln N => bif (Nat.beq kd 3 || Nat.beq kd 5) && Nat.blt b ln then q_fr (q_get N b) (fun v => ih d i (q_code i) tl loc (v :: rr) h) else none) = some (hf, r) := hr
    obtain ⟨j, hc1, ej, hj, hh, hr⟩ := q_at_inv hr
    obtain ⟨hq, hr⟩ := q_bifs hr
    rw [q_fr_eq] at hr
    obtain ⟨h1, h2⟩ := q_ands hq
    have h2 := q_blt.mp h2
    obtain ⟨hm, hg⟩ := hN d loc _ h hf r hr
    refine ⟨hm, fun p e s m args below meth c H locs ls sv ws tys ad0 n0 s0 C hw hP hK hD hS hp hL hs hn0 hs0 => ?_⟩
    obtain ⟨vb, sv1, rfl, hvb, hs1⟩ := hs.cons
    obtain ⟨va, sv2, rfl, hva, hs2⟩ := hs1.cons
    obtain ⟨a2, e2, rfl, he, hc⟩ := q_cell hw hva hc1 ej hj
    rcases q_ors h1 with h1 | h1
    · obtain ⟨cA, t, f, rfl, q2, q3, q4⟩ := hc.arb (q_beq.mp h1)
      obtain ⟨xb, rfl, xb1, -⟩ := hvb.int hrg (by omega)
      have ex := xb1 (by omega)
      subst ex
      refine va_bald C.1 C.2.1 hK hP _ t he q2 (vp_in_nI h2 (by omega)) hd (hg p e s m args below meth c H locs ls (.int (f (nI b).toNatClampNeg) :: sv2) (ws) (tys) ad0 n0 s0 C (hw) hP hK hD hS (hp) (hL) (⟨?_, hs2⟩) (hn0) (hs0))
      rw [q_clamp h2 q3]
      exact (q4 b h2).2.int0 (q4 b h2).1
    · obtain ⟨cA, t, f, rfl, q2, q3, q4⟩ := hc.arz (q_beq.mp h1)
      obtain ⟨xb, rfl, xb1, -⟩ := hvb.int hrg (by omega)
      have ex := xb1 (by omega)
      subst ex
      refine va_zald C.1 C.2.1 hK hP _ t he q2 (vp_in_nI h2 (by omega)) hd (hg p e s m args below meth c H locs ls (.int (f (nI b).toNatClampNeg) :: sv2) (ws) (tys) ad0 n0 s0 C (hw) hP hK hD hS (hp) (hL) (⟨?_, hs2⟩) (hn0) (hs0))
      rw [q_clamp h2 q3]
      exact (q4 b h2).2.int0 (q4 b h2).1
theorem q_s_aaload (hrg : q_rgs env rg) (hd : decode (q_b i) pc = .ok (.aaload, ln)) (hk : q_lnk i pc ln (.aaload) x y z) (hN : q_HN l base D env ih i pc ln tl) (hr : q_step rg q_code mem ih d i (q_code i) pc (.aaload) x y z tl loc st h = some (hf, r)) : q_G l base D env d i pc loc st h hf r := by
  have e1 : ln = 1 := hk
  subst e1
  match st, hr with
  | [], hr => cases hr
  | [_], hr => cases hr
  | b :: a :: rr, hr =>
    have hr : q_at h a (fun _ kd ln N => bif Nat.beq kd 9 && Nat.blt b ln then q_fr (q_get N b) (fun v => ih d i (q_code i) tl loc ((bif Nat.beq v 0 then 4294967312 else v) :: rr) h) else none) = some (hf, r) := hr
    obtain ⟨j, hc1, ej, hj, hh, hr⟩ := q_at_inv hr
    obtain ⟨hq, hr⟩ := q_bifs hr
    rw [q_fr_eq] at hr
    obtain ⟨h1, h2⟩ := q_ands hq
    have h1 := q_beq.mp h1
    have h2 := q_blt.mp h2
    obtain ⟨hm, hg⟩ := hN d loc _ h hf r hr
    refine ⟨hm, fun p e s m args below meth c H locs ls sv ws tys ad0 n0 s0 C hw hP hK hD hS hp hL hs hn0 hs0 => ?_⟩
    obtain ⟨vb, sv1, rfl, hvb, hs1⟩ := hs.cons
    obtain ⟨va, sv2, rfl, hva, hs2⟩ := hs1.cons
    obtain ⟨a2, e2, rfl, he, hc⟩ := q_cell hw hva hc1 ej hj
    obtain ⟨cA, t, f, rfl, q2, q3, q4⟩ := hc.arq h1
    obtain ⟨xb, rfl, xb1, -⟩ := hvb.int hrg (by omega)
    have ex := xb1 (by omega)
    subst ex
    refine va_aldq C.1 C.2.1 hK hP _ t he q2 (vp_in_nI h2 (by omega)) hd (hg p e s m args below meth c H locs ls (va_rf (f (nI b).toNatClampNeg) :: sv2) (ws) (tys) ad0 n0 s0 C (hw) hP hK hD hS (hp) (hL) (⟨?_, hs2⟩) (hn0) (hs0))
    rw [q_clamp h2 q3]
    rcases q4 b h2 with ⟨g1, g2⟩ | ⟨g1, g3, a3, g4, g2⟩
    · rw [g1, g2, q_ift _ _ (q_beq.mpr rfl)]
      exact Or.inr (Or.inr (Or.inr (Or.inl ⟨rfl, rfl⟩)))
    · rw [g2, q_iff _ _ (q_bneq.mpr (by omega))]
      exact Or.inr (Or.inr (Or.inr (Or.inr (Or.inr ⟨g1, g3, a3, g4, rfl⟩))))
theorem q_s_get {n : Nat} (hrg : q_rgs env rg) (hd : decode (q_b i) pc = .ok (.getfield n, ln)) (hcl : q_clok) (hk : q_lnk i pc ln (.getfield n) x y z) (hN : q_HN l base D env ih i pc ln tl) (hr : q_step rg q_code mem ih d i (q_code i) pc (.getfield n) x y z tl loc st h = some (hf, r)) : q_G l base D env d i pc loc st h hf r := by
  obtain ⟨e1, rc, hrc, hy, hlk⟩ := hk
  subst e1
  cases st with
  | nil => cases hr
  | cons a rr =>
    have hr : q_at h a (fun _ kd ln N => bif Nat.beq kd (Nat.mul 2 x) && Nat.blt y ln then q_fr (q_get N y) (fun v => bif Nat.beq v 4294967313 then none else ih d i (q_code i) tl loc (v :: rr) h) else none) = some (hf, r) := hr
    obtain ⟨j, hc1, ej, hj, hh, hr⟩ := q_at_inv hr
    obtain ⟨hq, hr⟩ := q_bifs hr
    rw [q_fr_eq] at hr
    obtain ⟨hz, hr⟩ := q_bifn hr
    obtain ⟨h1, h2⟩ := q_ands hq
    have h1 : (q_tg 7 h.2 j).1 = 2 * x := q_beq.mp h1
    have h2 := q_blt.mp h2
    obtain ⟨hm, hg⟩ := hN d loc _ h hf r hr
    refine ⟨hm, fun p e s m args below meth c H locs ls sv ws tys ad0 n0 s0 C hw hP hK hD hS hp hL hs hn0 hs0 => ?_⟩
    obtain ⟨va, sv1, rfl, hva, hs1⟩ := hs.cons
    obtain ⟨a2, e2, rfl, he, hc⟩ := q_cell hw hva hc1 ej hj
    obtain ⟨fs, rfl, q2, q3⟩ := hc.obj h1
    obtain ⟨v, hv⟩ : ∃ v, fs[y]? = some v := ⟨_, List.getElem?_eq_getElem (by omega)⟩
    have hv2 : q_v env (q_ad ws) (q_get (q_tg 7 h.2 j).2.2 y) v := by
      rcases q3 y v hv with g | g
      · exact absurd g (q_bneq.mp hz)
      · exact g
    exact va_get (D := D) (ci := x) (C := rc.1) (T := rc.2.1) (N := rc.2.2) C.1 C.2.1 C.2.2.2.2.2.1 (hcl x rc hrc).1 C.2.2.2.2.1 hK hP _ he hrc y hy (C.2.2.2.2.2.1 _ hlk) (fun _ h9 => h9) hv hd (hg p e s m args below meth c H locs ls (v :: sv1) (ws) (tys) ad0 n0 s0 C (hw) hP hK hD hS (hp) (hL) (⟨hv2, hs1⟩) (hn0) (hs0))
end QI
end
section
/-! ===== instruction by instruction: cells are written and made ===== -/
/-- a world with one cell written, for what follows -/
theorem q_wset {env : Nat → Int32} {h : q_H} {ws : va_W} {tys : List (ClassId × FieldType)} (hw : q_W env h ws tys) {k a : Nat} {e e' : va_E} (he : ws[k]? = some (a, e)) {kd ln N : Nat} (hc : q_c env (q_ad ws) tys (kd, ln, N) e') (hl : (q_tg 7 h.2 k).2.1 = ln) : q_W env (q_up h k kd ln N) (ws.set k (a, e')) tys ∧ q_ad (ws.set k (a, e')) = q_ad ws ∧ q_ss (q_up h k kd ln N) = q_ss h := by
  have hk : k < h.1 := by rw [← hw.1]; exact (List.getElem?_eq_some_iff.mp he).1
  exact ⟨hw.set he hc, q_ad_set ws k a e e' he, q_ss_up h k kd ln N hk hw.2.1 hl⟩
theorem q_ss_up2 {h : q_H} {k kd ln N : Nat} (hk : k < h.1) (hh : h.1 ≤ 128) (hl : (q_tg 7 h.2 k).2.1 = ln) : q_ss (q_up h k kd ln N) = q_ss h := q_ss_up h k kd ln N hk hh hl
/-- the numbers of an array with one written -/
theorem q_ca_set {env : Nat → Int32} {N ln b v : Nat} {f : Nat → Int32} {xv : Int32} (q4 : ∀ j, j < ln → q_get N j ≤ 4294967311 ∧ q_v env [] (q_get N j) (.int (f j))) (hv : v ≤ 4294967311) (hvv : q_v env [] v (.int xv)) : ∀ j, j < ln → q_get (q_set N b v) j ≤ 4294967311 ∧ q_v env [] (q_get (q_set N b v) j) (.int (upd f b xv j)) := by
  intro j hj
  rw [q_get_set N b v j (by omega)]
  by_cases e : j = b
  · subst e
    rw [if_pos rfl, pk_us]
    exact ⟨hv, hvv⟩
  · rw [if_neg e, pk_un e]
    exact q4 j hj
theorem q_nar_b : ∀ v : Nat, v < 2 → vp_nar .byte (nI v) = nI v := by decide +kernel
theorem q_nar_z : ∀ v : Nat, v < 2 → vp_nar .boolean (nI v) = nI v := by decide +kernel
theorem q_fit_z : ∀ v : Nat, v < 2 → narrow .boolean (.int (nI v)) = .int (nI v) ∧ fits .boolean (.int (nI v)) = true := by decide +kernel
section QI
variable {l : Launch} {base : Nat} {D : va_G} {env : Nat → Int32} {rg : Nat → Nat × Nat} {mem : q_M} {ih : q_F} {d i pc ln x y z loc : Nat} {tl : List q_I} {st : List Nat} {h hf : q_H} {r : List Nat}
theorem q_s_iastore (hrg : q_rgs env rg) (hd : decode (q_b i) pc = .ok (.iastore, ln)) (hk : q_lnk i pc ln (.iastore) x y z) (hN : q_HN l base D env ih i pc ln tl) (hr : q_step rg q_code mem ih d i (q_code i) pc (.iastore) x y z tl loc st h = some (hf, r)) : q_G l base D env d i pc loc st h hf r := by
  have e1 : ln = 1 := hk
  subst e1
  match st, hr with
  | [], hr => cases hr
  | [_], hr => cases hr
  | [_, _], hr => cases hr
  | v :: b :: a :: rr, hr =>
    have hr : q_at h a (fun k kd ln N => bif Nat.beq kd 1 && (Nat.blt b ln && q_in v) then q_fr (q_set N b v) (fun N' => ih d i (q_code i) tl loc rr (q_up h k kd ln N')) else none) = some (hf, r) := hr
    obtain ⟨j, hc1, ej, hj, hh, hr⟩ := q_at_inv hr
    obtain ⟨hq, hr⟩ := q_bifs hr
    rw [q_fr_eq] at hr
    obtain ⟨h1, h2⟩ := q_ands hq
    obtain ⟨h2, h3⟩ := q_ands h2
    have h1 := q_beq.mp h1
    have h2 := q_blt.mp h2
    have h3 := q_ble.mp h3
    obtain ⟨hm, hg⟩ := hN d loc _ _ hf r hr
    refine ⟨q_hmo hm (q_ss_up2 hj hh rfl), fun p e s m args below meth c H locs ls sv ws tys ad0 n0 s0 C hw hP hK hD hS hp hL hs hn0 hs0 => ?_⟩
    obtain ⟨vv, sv1, rfl, hvv, hs1⟩ := hs.cons
    obtain ⟨vb, sv2, rfl, hvb, hs2⟩ := hs1.cons
    obtain ⟨va, sv3, rfl, hva, hs3⟩ := hs2.cons
    obtain ⟨a2, e2, rfl, he, hc⟩ := q_cell hw hva hc1 ej hj
    obtain ⟨cA, t, f, rfl, q2, q3, q4⟩ := hc.arr h1
    obtain ⟨xb, rfl, xb1, -⟩ := hvb.int hrg (by omega)
    have ex := xb1 (by omega)
    subst ex
    obtain ⟨xv, rfl, -⟩ := hvv.int hrg h3
    have hc2 : q_c env (q_ad ws) tys ((q_tg 7 h.2 j).1, (q_tg 7 h.2 j).2.1, q_set (q_tg 7 h.2 j).2.2 b v) (.inl (cA, (q_tg 7 h.2 j).2.1, .inl (upd f b xv))) := Or.inr (Or.inl ⟨h1, cA, t, _, rfl, q2, q3, q_ca_set q4 h3 (hvv.int0 h3)⟩)
    obtain ⟨w1, w2, w3⟩ := q_wset hw he hc2 rfl
    refine va_iast C.1 C.2.1 hK hP hD hS _ t he q2 (vp_in_nI h2 (by omega)) hd (fun H1 locs1 hP1 hD1 hS1 => ?_)
    rw [q_clamp h2 q3] at hP1 hD1
    have := (hg p e s m args below meth c H1 locs1 ls (sv3) (ws.set j (a2, .inl (cA, (q_tg 7 h.2 j).2.1, .inl (upd f b xv)))) (tys) ad0 n0 s0 C (w1) hP1 hK hD1 hS1 (by rw [w2]; exact hp) (by rw [w2]; exact hL) (by rw [w2]; exact hs3) (hn0) (by rw [w3]; exact hs0))
    rw [w3] at this
    exact this
theorem q_s_bastore (hrg : q_rgs env rg) (hd : decode (q_b i) pc = .ok (.bastore, ln)) (hk : q_lnk i pc ln (.bastore) x y z) (hN : q_HN l base D env ih i pc ln tl) (hr : q_step rg q_code mem ih d i (q_code i) pc (.bastore) x y z tl loc st h = some (hf, r)) : q_G l base D env d i pc loc st h hf r := by
  have e1 : ln = 1 := hk
  subst e1
  match st, hr with
  | [], hr => cases hr
  | [_], hr => cases hr
  | [_, _], hr => cases hr
  | v :: b :: a :: rr, hr =>
    have hr : q_at h a (fun k kd ln N => bif (Nat.beq kd 3 || (Nat.beq kd 5 && Nat.blt v 2)) && (Nat.blt b ln && q_in v) then q_fr (q_set N b (bif Nat.blt v 2 then v else 4294967296)) (fun N' => ih d i (q_code i) tl loc rr (q_up h k kd ln N')) else none) = some (hf, r) := hr
    obtain ⟨j, hc1, ej, hj, hh, hr⟩ := q_at_inv hr
    obtain ⟨hq, hr⟩ := q_bifs hr
    rw [q_fr_eq] at hr
    obtain ⟨h1, h2⟩ := q_ands hq
    obtain ⟨h2, h3⟩ := q_ands h2
    have h2 := q_blt.mp h2
    have h3 := q_ble.mp h3
    obtain ⟨hm, hg⟩ := hN d loc _ _ hf r hr
    refine ⟨q_hmo hm (q_ss_up2 hj hh rfl), fun p e s m args below meth c H locs ls sv ws tys ad0 n0 s0 C hw hP hK hD hS hp hL hs hn0 hs0 => ?_⟩
    obtain ⟨vv, sv1, rfl, hvv, hs1⟩ := hs.cons
    obtain ⟨vb, sv2, rfl, hvb, hs2⟩ := hs1.cons
    obtain ⟨va, sv3, rfl, hva, hs3⟩ := hs2.cons
    obtain ⟨a2, e2, rfl, he, hc⟩ := q_cell hw hva hc1 ej hj
    rcases q_ors h1 with h1 | h1
    · have h1 := q_beq.mp h1
      obtain ⟨cA, t, f, rfl, q2, q3, q4⟩ := hc.arb h1
      obtain ⟨xb, rfl, xb1, -⟩ := hvb.int hrg (by omega)
      have ex := xb1 (by omega)
      subst ex
      obtain ⟨xv, rfl, xv1, -⟩ := hvv.int hrg h3
      have hst : (bif Nat.blt v 2 then v else 4294967296) ≤ 4294967311 ∧ q_v env [] (bif Nat.blt v 2 then v else 4294967296) (.int (vp_nar .byte xv)) := by
        cases hb2 : Nat.blt v 2 with
        | true =>
          rw [q_ift _ _ rfl]
          have hb2 := q_blt.mp hb2
          rw [xv1 (by omega), q_nar_b v hb2]
          exact ⟨by omega, q_v.ex _ (by omega)⟩
        | false =>
          rw [q_iff _ _ rfl]
          exact ⟨by decide, q_v.top _ _⟩
      have hc2 : q_c env (q_ad ws) tys ((q_tg 7 h.2 j).1, (q_tg 7 h.2 j).2.1, q_set (q_tg 7 h.2 j).2.2 b (bif Nat.blt v 2 then v else 4294967296)) (.inl (cA, (q_tg 7 h.2 j).2.1, .inl (upd f b (vp_nar .byte xv)))) := Or.inr (Or.inr (Or.inl ⟨h1, cA, t, _, rfl, q2, q3, q_ca_set q4 hst.1 hst.2⟩))
      obtain ⟨w1, w2, w3⟩ := q_wset hw he hc2 rfl
      refine va_bast C.1 C.2.1 hK hP hD hS _ t he q2 (vp_in_nI h2 (by omega)) hd (fun H1 locs1 hP1 hD1 hS1 => ?_)
      rw [q_clamp h2 q3] at hP1 hD1
      have := (hg p e s m args below meth c H1 locs1 ls (sv3) (ws.set j (a2, .inl (cA, (q_tg 7 h.2 j).2.1, .inl (upd f b (vp_nar .byte xv))))) (tys) ad0 n0 s0 C (w1) hP1 hK hD1 hS1 (by rw [w2]; exact hp) (by rw [w2]; exact hL) (by rw [w2]; exact hs3) (hn0) (by rw [w3]; exact hs0))
      rw [w3] at this
      exact this
    · obtain ⟨h1, -⟩ := q_ands h1
      have h1 := q_beq.mp h1
      obtain ⟨cA, t, f, rfl, q2, q3, q4⟩ := hc.arz h1
      obtain ⟨xb, rfl, xb1, -⟩ := hvb.int hrg (by omega)
      have ex := xb1 (by omega)
      subst ex
      obtain ⟨xv, rfl, xv1, -⟩ := hvv.int hrg h3
      have hst : (bif Nat.blt v 2 then v else 4294967296) ≤ 4294967311 ∧ q_v env [] (bif Nat.blt v 2 then v else 4294967296) (.int (vp_nar .boolean xv)) := by
        cases hb2 : Nat.blt v 2 with
        | true =>
          rw [q_ift _ _ rfl]
          have hb2 := q_blt.mp hb2
          rw [xv1 (by omega), q_nar_z v hb2]
          exact ⟨by omega, q_v.ex _ (by omega)⟩
        | false =>
          rw [q_iff _ _ rfl]
          exact ⟨by decide, q_v.top _ _⟩
      have hc2 : q_c env (q_ad ws) tys ((q_tg 7 h.2 j).1, (q_tg 7 h.2 j).2.1, q_set (q_tg 7 h.2 j).2.2 b (bif Nat.blt v 2 then v else 4294967296)) (.inl (cA, (q_tg 7 h.2 j).2.1, .inl (upd f b (vp_nar .boolean xv)))) := Or.inr (Or.inr (Or.inr (Or.inl ⟨h1, cA, t, _, rfl, q2, q3, q_ca_set q4 hst.1 hst.2⟩)))
      obtain ⟨w1, w2, w3⟩ := q_wset hw he hc2 rfl
      refine va_zast C.1 C.2.1 hK hP hD hS _ t he q2 (vp_in_nI h2 (by omega)) hd (fun H1 locs1 hP1 hD1 hS1 => ?_)
      rw [q_clamp h2 q3] at hP1 hD1
      have := (hg p e s m args below meth c H1 locs1 ls (sv3) (ws.set j (a2, .inl (cA, (q_tg 7 h.2 j).2.1, .inl (upd f b (vp_nar .boolean xv))))) (tys) ad0 n0 s0 C (w1) hP1 hK hD1 hS1 (by rw [w2]; exact hp) (by rw [w2]; exact hL) (by rw [w2]; exact hs3) (hn0) (by rw [w3]; exact hs0))
      rw [w3] at this
      exact this
theorem q_s_aastore (hrg : q_rgs env rg) (hd : decode (q_b i) pc = .ok (.aastore, ln)) (hk : q_lnk i pc ln (.aastore) x y z) (hN : q_HN l base D env ih i pc ln tl) (hr : q_step rg q_code mem ih d i (q_code i) pc (.aastore) x y z tl loc st h = some (hf, r)) : q_G l base D env d i pc loc st h hf r := by
  have e1 : ln = 1 := hk
  subst e1
  match st, hr with
  | [], hr => cases hr
  | [_], hr => cases hr
  | [_, _], hr => cases hr
  | v :: b :: a :: rr, hr =>
    have hr : q_at h a (fun k kd ln N => q_at h v (fun _ kv _ _ => bif Nat.beq kd 9 && (Nat.beq kv 10 && Nat.blt b ln) then q_fr (q_set N b v) (fun N' => ih d i (q_code i) tl loc rr (q_up h k kd ln N')) else none)) = some (hf, r) := hr
    obtain ⟨j, hc1, ej, hj, hh, hr⟩ := q_at_inv hr
    obtain ⟨k, hd1, ek, hk2, -, hr⟩ := q_at_inv hr
    obtain ⟨hq, hr⟩ := q_bifs hr
    rw [q_fr_eq] at hr
    obtain ⟨h1, h2⟩ := q_ands hq
    obtain ⟨h2, h3⟩ := q_ands h2
    have h1 := q_beq.mp h1
    have h2 := q_beq.mp h2
    have h3 := q_blt.mp h3
    obtain ⟨hm, hg⟩ := hN d loc _ _ hf r hr
    refine ⟨q_hmo hm (q_ss_up2 hj hh rfl), fun p e s m args below meth c H locs ls sv ws tys ad0 n0 s0 C hw hP hK hD hS hp hL hs hn0 hs0 => ?_⟩
    obtain ⟨vv, sv1, rfl, hvv, hs1⟩ := hs.cons
    obtain ⟨vb, sv2, rfl, hvb, hs2⟩ := hs1.cons
    obtain ⟨va, sv3, rfl, hva, hs3⟩ := hs2.cons
    obtain ⟨a2, e2, rfl, he, hc⟩ := q_cell hw hva hc1 ej hj
    obtain ⟨cA, t, f, rfl, q2, q3, q4⟩ := hc.arq h1
    obtain ⟨b2, e3, rfl, he3, hc3⟩ := q_cell hw hvv hd1 ek hk2
    obtain ⟨fs, rfl, -⟩ := hc3.obj (x := 5) (by omega)
    obtain ⟨xb, rfl, xb1, -⟩ := hvb.int hrg (by omega)
    have ex := xb1 (by omega)
    subst ex
    have hv34 : v < 2 ^ 34 := by have := hvv.lt; omega
    have hvr : ∃ a3, (q_ad ws)[v - 4294967328]? = some a3 ∧ some b2 = some a3 := ⟨b2, by rw [← ek, List.getElem?_map, he3]; rfl, rfl⟩
    have hv128 : v < 4294967456 := by have := hw.2.1; omega
    have hc2 : q_c env (q_ad ws) tys ((q_tg 7 h.2 j).1, (q_tg 7 h.2 j).2.1, q_set (q_tg 7 h.2 j).2.2 b v) (.inl (cA, (q_tg 7 h.2 j).2.1, .inr (.inr (.inr (.inr (va_up f b (some b2))))))) := Or.inr (Or.inr (Or.inr (Or.inr (Or.inr ⟨h1, cA, t, _, rfl, q2, q3, fun j2 hj2 => by
      show (q_get (q_set (q_tg 7 h.2 j).2.2 b v) j2 = 0 ∧ _) ∨ (4294967328 ≤ q_get (q_set (q_tg 7 h.2 j).2.2 b v) j2 ∧ q_get (q_set (q_tg 7 h.2 j).2.2 b v) j2 < 4294967456 ∧ ∃ a3, (q_ad ws)[q_get (q_set (q_tg 7 h.2 j).2.2 b v) j2 - 4294967328]? = some a3 ∧ _)
      rw [q_get_set _ b v j2 hv34]
      by_cases e : j2 = b
      · subst e
        rw [if_pos rfl]
        refine Or.inr ⟨hd1, hv128, b2, ?_, by simp [va_up]⟩
        rw [← ek, List.getElem?_map, he3]; rfl
      · rw [if_neg e]
        simp only [va_up, e, if_false]
        exact q4 j2 hj2⟩))))
    obtain ⟨w1, w2, w3⟩ := q_wset hw he hc2 rfl
    refine va_astq (r := ("SandNights$Sand", q_F5, 11)) C.1 C.2.1 hK hP hD hS _ t k 5 he q2 he3 rfl (vp_in_nI h3 (by omega)) hd (fun H1 locs1 hP1 hD1 hS1 => ?_)
    rw [q_clamp h3 q3] at hP1 hD1
    have := (hg p e s m args below meth c H1 locs1 ls (sv3) (ws.set j (a2, .inl (cA, (q_tg 7 h.2 j).2.1, .inr (.inr (.inr (.inr (va_up f b (some b2)))))))) (tys) ad0 n0 s0 C (w1) hP1 hK hD1 hS1 (by rw [w2]; exact hp) (by rw [w2]; exact hL) (by rw [w2]; exact hs3) (hn0) (by rw [w3]; exact hs0))
    rw [w3] at this
    exact this
theorem q_s_put {n : Nat} (hrg : q_rgs env rg) (hd : decode (q_b i) pc = .ok (.putfield n, ln)) (hcl : q_clok) (hk : q_lnk i pc ln (.putfield n) x y z) (hN : q_HN l base D env ih i pc ln tl) (hr : q_step rg q_code mem ih d i (q_code i) pc (.putfield n) x y z tl loc st h = some (hf, r)) : q_G l base D env d i pc loc st h hf r := by
  obtain ⟨e1, rc, hrc, hy, hlk, hfin, ty, hty, hz⟩ := hk
  subst e1
  match st, hr with
  | [], hr => cases hr
  | [_], hr => cases hr
  | v :: a :: rr, hr =>
    have hr : q_at h a (fun k kd ln N => bif Nat.beq kd (Nat.mul 2 x) && (Nat.blt y ln && (bif Nat.beq z 0 then q_in v else bif Nat.beq z 1 then Nat.blt v 2 else bif Nat.beq z 2 then (Nat.ble 4294967328 v || Nat.beq v 4294967312) else Nat.beq v 4294967314)) then q_fr (q_set N y (bif Nat.beq z 3 then 4294967313 else v)) (fun N' => ih d i (q_code i) tl loc rr (q_up h k kd ln N')) else none) = some (hf, r) := hr
    obtain ⟨j, hc1, ej, hj, hh, hr⟩ := q_at_inv hr
    obtain ⟨hq, hr⟩ := q_bifs hr
    rw [q_fr_eq] at hr
    obtain ⟨h1, h2⟩ := q_ands hq
    obtain ⟨h2, h3⟩ := q_ands h2
    have h1 : (q_tg 7 h.2 j).1 = 2 * x := q_beq.mp h1
    have h2 := q_blt.mp h2
    obtain ⟨hm, hg⟩ := hN d loc _ _ hf r hr
    refine ⟨q_hmo hm (q_ss_up2 hj hh rfl), fun p e s m args below meth c H locs ls sv ws tys ad0 n0 s0 C hw hP hK hD hS hp hL hs hn0 hs0 => ?_⟩
    obtain ⟨vv, sv1, rfl, hvv, hs1⟩ := hs.cons
    obtain ⟨va, sv2, rfl, hva, hs2⟩ := hs1.cons
    obtain ⟨a2, e2, rfl, he, hc⟩ := q_cell hw hva hc1 ej hj
    obtain ⟨fs, rfl, q2, q3⟩ := hc.obj h1
    have hval : narrow ty vv = vv ∧ fits ty vv = true := by
      rcases hz with ⟨rfl, rfl⟩ | ⟨rfl, rfl⟩ | ⟨rfl, ht⟩ | ⟨rfl, rfl⟩
      · have h3 : q_in v = true := h3
        obtain ⟨xv, rfl, -⟩ := hvv.int hrg (q_ble.mp h3)
        exact ⟨rfl, rfl⟩
      · have h3 : Nat.blt v 2 = true := h3
        have h3 := q_blt.mp h3
        obtain ⟨xv, rfl, xv1, -⟩ := hvv.int hrg (by omega)
        rw [xv1 (by omega)]
        exact q_fit_z v h3
      · have h3 : (Nat.ble 4294967328 v || Nat.beq v 4294967312) = true := h3
        rcases q_ors h3 with h3 | h3
        · obtain ⟨k, -, rfl⟩ := hvv.ref (q_ble.mp h3)
          rcases ht with ⟨n, rfl⟩ | ⟨t, rfl⟩ <;> exact ⟨rfl, rfl⟩
        · rw [q_beq.mp h3] at hvv
          rw [hvv.nul]
          rcases ht with ⟨n, rfl⟩ | ⟨t, rfl⟩ <;> exact ⟨rfl, rfl⟩
      · have h3 : Nat.beq v 4294967314 = true := h3
        rw [q_beq.mp h3] at hvv
        obtain ⟨xv, rfl⟩ := hvv.lng
        exact ⟨rfl, rfl⟩
    have hv34 : (bif Nat.beq z 3 then 4294967313 else v) < 2 ^ 34 := by
      cases hb3 : Nat.beq z 3 with
      | true => rw [q_ift _ _ rfl]; decide
      | false => rw [q_iff _ _ rfl]; have := hvv.lt; omega
    have hc2 : q_c env (q_ad ws) tys ((q_tg 7 h.2 j).1, (q_tg 7 h.2 j).2.1, q_set (q_tg 7 h.2 j).2.2 y (bif Nat.beq z 3 then 4294967313 else v)) (.inr (x, fs.set y vv)) := Or.inl ⟨x, _, h1, rfl, by rw [List.length_set]; exact q2, fun j2 v2 hv2 => by
      show q_get (q_set (q_tg 7 h.2 j).2.2 y (bif Nat.beq z 3 then 4294967313 else v)) j2 = 4294967313 ∨ q_v env (q_ad ws) (q_get (q_set (q_tg 7 h.2 j).2.2 y (bif Nat.beq z 3 then 4294967313 else v)) j2) v2
      rw [q_get_set _ y _ j2 hv34]
      by_cases e : j2 = y
      · subst e
        rw [if_pos rfl]
        rw [List.getElem?_set_self (by omega)] at hv2
        have := Option.some.inj hv2
        subst this
        cases hb3 : Nat.beq z 3 with
        | true => rw [q_ift _ _ rfl]; exact Or.inl rfl
        | false => rw [q_iff _ _ rfl]; exact Or.inr hvv
      · rw [if_neg e]
        rw [List.getElem?_set_ne (fun q => e q.symm)] at hv2
        exact q3 j2 v2 hv2⟩
    obtain ⟨w1, w2, w3⟩ := q_wset hw he hc2 rfl
    have kk : ∀ (H1 : Heap) (locs1 : List Loc), va_P D q_cls (ws.set j (a2, .inr (x, fs.set y vv))) H1 → va_D (q_A base) (ws.set j (a2, .inr (x, fs.set y vv))) → va_S (q_A base) s.heap H1 locs1 → W p l e (q_rm d (hf.1 - n0) (q_ss hf - s0)) s m args below meth c H1 locs1 (h.1 - n0) (q_ss h - s0) (MQ below (q_Qc base D env ad0 hf r) args s (hf.1 - n0) (q_ss hf - s0) (q_A base)) (F0 m (pc + 3) ls sv2) := by
      intro H1 locs1 hP1 hD1 hS1
      have := (hg p e s m args below meth c H1 locs1 ls (sv2) (ws.set j (a2, .inr (x, fs.set y vv))) (tys) ad0 n0 s0 C (w1) hP1 hK hD1 hS1 (by rw [w2]; exact hp) (by rw [w2]; exact hL) (by rw [w2]; exact hs2) (hn0) (by rw [w3]; exact hs0))
      rw [w3] at this
      exact this
    rcases hfin with hfin | ⟨hfin, hi1, hi2⟩
    · exact va_put (D := D) (ci := x) (C := rc.1) (T := rc.2.1) (N := rc.2.2) C.1 C.2.1 C.2.2.2.2.2.1 (hcl x rc hrc).1 _ (hcl x rc hrc).2.1 (hcl x rc hrc).2.2 C.2.2.2.2.1 hK hP hD hS _ he hrc y hy (C.2.2.2.2.2.1 _ hlk) (fun _ h9 => h9) hfin hty hval.1 hval.2 (by omega) hd kk
    · exact va_putF (D := D) (ci := x) (C := rc.1) (T := rc.2.1) (N := rc.2.2) C.1 C.2.1 C.2.2.2.2.2.1 (hcl x rc hrc).1 _ (hcl x rc hrc).2.1 (hcl x rc hrc).2.2 C.2.2.2.2.1 hK hP hD hS _ he hrc y hy (C.2.2.2.2.2.1 _ hlk) (fun _ h9 => h9) hfin (C.2.2.2.2.2.2.2.2.1.trans hi1) hi2 hty hval.1 hval.2 (by omega) hd kk
end QI
end
section
/-! ===== instruction by instruction: cells are made; returns; what the machine itself does ===== -/
theorem q_tp {tys : List (ClassId × FieldType)} (z : ClassId × FieldType) : (tys ++ [z])[tys.length]? = some z := by simp
theorem q_adl {ws : va_W} {q : Nat} {e : va_E} : (q_ad (ws ++ [(q, e)]))[ws.length]? = some q := by rw [q_ad_app]; simp [q_ad]
section QI
variable {l : Launch} {base : Nat} {D : va_G} {env : Nat → Int32} {rg : Nat → Nat × Nat} {mem : q_M} {ih : q_F} {d i pc ln x y z loc : Nat} {tl : List q_I} {st : List Nat} {h hf : q_H} {r : List Nat}
theorem q_s_new {n : Nat} (hrg : q_rgs env rg) (hd : decode (q_b i) pc = .ok (.new n, ln)) (hcl : q_clok) (hk : q_lnk i pc ln (.new n) x y z) (hN : q_HN l base D env ih i pc ln tl) (hr : q_step rg q_code mem ih d i (q_code i) pc (.new n) x y z tl loc st h = some (hf, r)) : q_G l base D env d i pc loc st h hf r := by
  obtain ⟨e1, rc, hrc, hy, hl1, hl2, hl3, hdf⟩ := hk
  subst e1
  have hr : q_nw h (Nat.mul 2 x) y z (fun h' c => ih d i (q_code i) tl loc (c :: st) h') = some (hf, r) := hr
  obtain ⟨hlt, hr⟩ := q_nw_inv hr
  obtain ⟨hm, hg⟩ := hN d loc _ _ hf r hr
  have hss := q_ss_nw h (Nat.mul 2 x) y z hlt
  have hm1 : h.1 + 1 ≤ hf.1 := hm.1
  have hm2 : q_ss h + y ≤ q_ss hf := by rw [← hss]; exact hm.2
  refine ⟨⟨by omega, by omega⟩, fun p e s m args below meth c H locs ls sv ws tys ad0 n0 s0 C hw hP hK hD hS hp hL hs hn0 hs0 => ?_⟩
  have hfs : ∀ j, j < rc.2.2 → defaultValue ((q_fty.getD x (fun _ => .int)) j) = vp_V ((List.range rc.2.2).map (fun j => defaultValue ((q_fty.getD x (fun _ => .int)) j))) j := by
    intro j hj
    unfold vp_V
    generalize (q_fty.getD x (fun _ => .int)) = F
    rw [List.getD_eq_getElem?_getD, List.getElem?_map, List.getElem?_range hj]
    rfl
  have hcr : ∀ ad : List Nat, q_c env ad tys (Nat.mul 2 x, y, z) (.inr (x, (List.range rc.2.2).map (fun j => defaultValue ((q_fty.getD x (fun _ => .int)) j)))) := fun ad => Or.inl ⟨x, _, rfl, rfl, by rw [List.length_map, List.length_range]; exact hy.symm, fun j v hv => by
    have hj : j < rc.2.2 := by
      have := (List.getElem?_eq_some_iff.mp hv).1
      rw [List.length_map, List.length_range] at this
      exact this
    rw [List.getElem?_map, List.getElem?_range hj] at hv
    have hv : defaultValue ((q_fty.getD x (fun _ => .int)) j) = v := Option.some.inj hv
    show q_get z j = 4294967313 ∨ q_v env ad (q_get z j) v
    rcases hdf j (by rw [hy]; exact hj) with ⟨g1, g2⟩ | ⟨g1, g2⟩ | ⟨g1, g2⟩ | ⟨g1, g2⟩
    · exact Or.inl g1
    · rw [g2] at hv
      rw [g1, ← hv]
      exact Or.inr (q_v.exq ad (Nat.zero_le _) nI_0.symm)
    · rw [g2] at hv
      rw [g1, ← hv]
      exact Or.inr (q_v.exq ad (Nat.zero_le _) nI_0.symm)
    · rw [g2] at hv
      rw [g1, ← hv]
      exact Or.inr (Or.inr (Or.inr (Or.inr (Or.inl ⟨rfl, rfl⟩))))⟩
  have hA : ∀ q : Nat, s.heap.size ≤ q → q_A base q := fun q hq => Nat.le_trans C.2.2.2.2.2.2.2.2.2 hq
  refine va_new (D := D) (ci := x) (C := rc.1) (T := rc.2.1) (N := rc.2.2) C.1 C.2.1 C.2.2.2.2.2.1 (hcl x rc hrc).1 _ (hcl x rc hrc).2.1 C.2.2.2.2.1 (C.2.2.2.2.2.1 _ hl1) (by rw [← hy]; exact C.2.2.2.2.2.1 _ hl2) (C.2.2.2.2.2.1 _ hl3) hK hP hD hS hA hrc hfs (by show h.1 - n0 + 1 ≤ hf.1 - n0; omega) (by show q_ss h - s0 + rc.2.2 ≤ q_ss hf - s0; omega) hd (fun q H1 hP1 hD1 hS1 => ?_)
  have hpre : q_ad ws <+: q_ad (ws ++ [(q, .inr (x, (List.range rc.2.2).map (fun j => defaultValue ((q_fty.getD x (fun _ => .int)) j))))]) := by rw [q_ad_app]; exact List.prefix_append _ _
  have := (hg p e s m args below meth c H1 locs ls (.ref q :: sv) (ws ++ [(q, .inr (x, (List.range rc.2.2).map (fun j => defaultValue ((q_fty.getD x (fun _ => .int)) j))))]) (tys) ad0 n0 s0 C (hw.push List.prefix_rfl hlt (hcr _)) hP1 hK hD1 hS1 (hp.trans hpre) (hL.mono hpre) (⟨q_v.mkref (by rw [← hw.1]; exact q_adl) hlt, q_S.mono hpre hs⟩) (Nat.le_succ_of_le hn0) (by rw [hss]; omega))
  have z1 : h.1 - n0 + 1 = h.1 + 1 - n0 := by omega
  have z2 : q_ss h - s0 + rc.2.2 = q_ss h + y - s0 := by omega
  rw [z1, z2, ← hss]
  exact this
theorem q_s_newa {t : ArrayType} (hrg : q_rgs env rg) (hd : decode (q_b i) pc = .ok (.newarray t, ln)) (hk : q_lnk i pc ln (.newarray t) x y z) (hN : q_HN l base D env ih i pc ln tl) (hr : q_step rg q_code mem ih d i (q_code i) pc (.newarray t) x y z tl loc st h = some (hf, r)) : q_G l base D env d i pc loc st h hf r := by
  obtain ⟨e1, hl1, hx⟩ := hk
  subst e1
  cases st with
  | nil => cases hr
  | cons a rr =>
    have hr : (bif Nat.ble a 100000 then q_nw h x a 0 (fun h' c => ih d i (q_code i) tl loc (c :: rr) h') else none) = some (hf, r) := hr
    obtain ⟨hq, hr⟩ := q_bifs hr
    have hq := q_ble.mp hq
    obtain ⟨hlt, hr⟩ := q_nw_inv hr
    obtain ⟨hm, hg⟩ := hN d loc _ _ hf r hr
    have hss := q_ss_nw h x a 0 hlt
    have hm1 : h.1 + 1 ≤ hf.1 := hm.1
    have hm2 : q_ss h + a ≤ q_ss hf := by rw [← hss]; exact hm.2
    refine ⟨⟨by omega, by omega⟩, fun p e s m args below meth c H locs ls sv ws tys ad0 n0 s0 C hw hP hK hD hS hp hL hs hn0 hs0 => ?_⟩
    obtain ⟨va, sv1, rfl, hva, hs1⟩ := hs.cons
    obtain ⟨xa, rfl, xa1, -⟩ := hva.int hrg (by omega)
    have ex := xa1 (by omega)
    subst ex
    have hA : ∀ q : Nat, s.heap.size ≤ q → q_A base q := fun q hq => Nat.le_trans C.2.2.2.2.2.2.2.2.2 hq
    have hn : ¬ nI a < 0 := nI_pos (by omega)
    have hN2 : (nI a).toNatClampNeg = a := nI_clamp (by omega)
    have hce : h.1 - n0 + 1 ≤ hf.1 - n0 := by omega
    have hsl : q_ss h - s0 + a ≤ q_ss hf - s0 := by omega
    have h0 : ∀ j, j < a → q_get 0 j ≤ 4294967311 ∧ q_v env [] (q_get 0 j) (.int 0) := fun j _ => by rw [q_get_0]; exact ⟨by decide, q_v.exq _ (Nat.zero_le _) nI_0.symm⟩
    rcases hx with ⟨rfl, hty⟩ | ⟨rfl, hty⟩ | ⟨rfl, hty⟩ | ⟨rfl, hty⟩
    · refine va_newa (a0 := (a, .inl (fun _ => 0))) C.1 C.2.1 (C.2.2.2.2.2.1 _ hl1) hty hK hP hD hS hA (fun _ => rfl) hn hN2 (by show a * _ ≤ _; simp only [componentBytes]; omega) hce hsl hd (fun q cA H1 hK1 hP1 hD1 hS1 => ?_)
      have hpre : q_ad ws <+: q_ad (ws ++ [(q, .inl (cA, a, .inl (fun _ => 0)))]) := by rw [q_ad_app]; exact List.prefix_append _ _
      have hcr : q_c env (q_ad (ws ++ [(q, .inl (cA, a, .inl (fun _ => 0)))])) (tys ++ [(cA, .int)]) (1, a, 0) (.inl (cA, a, .inl (fun _ => 0))) := Or.inr (Or.inl ⟨rfl, cA, tys.length, _, rfl, q_tp _, hq, h0⟩)
      have := (hg p e s m args below meth c H1 locs ls (.ref q :: sv1) (ws ++ [(q, .inl (cA, a, .inl (fun _ => 0)))]) (tys ++ [(cA, .int)]) ad0 n0 s0 C (hw.push (List.prefix_append _ _) hlt hcr) hP1 hK1 hD1 hS1 (hp.trans hpre) (hL.mono hpre) (⟨q_v.mkref (by rw [← hw.1]; exact q_adl) hlt, q_S.mono hpre hs1⟩) (Nat.le_succ_of_le hn0) (by rw [hss]; omega))
      have z1 : h.1 - n0 + 1 = h.1 + 1 - n0 := by omega
      have z2 : q_ss h - s0 + a = q_ss h + a - s0 := by omega
      rw [z1, z2, ← hss]
      exact this
    · refine va_newa (a0 := (a, .inl (fun _ => 0))) C.1 C.2.1 (C.2.2.2.2.2.1 _ hl1) hty hK hP hD hS hA (fun _ => rfl) hn hN2 (by show a * _ ≤ _; simp only [componentBytes]; omega) hce hsl hd (fun q cA H1 hK1 hP1 hD1 hS1 => ?_)
      have hpre : q_ad ws <+: q_ad (ws ++ [(q, .inl (cA, a, .inl (fun _ => 0)))]) := by rw [q_ad_app]; exact List.prefix_append _ _
      have hcr : q_c env (q_ad (ws ++ [(q, .inl (cA, a, .inl (fun _ => 0)))])) (tys ++ [(cA, .byte)]) (3, a, 0) (.inl (cA, a, .inl (fun _ => 0))) := Or.inr (Or.inr (Or.inl ⟨rfl, cA, tys.length, _, rfl, q_tp _, hq, h0⟩))
      have := (hg p e s m args below meth c H1 locs ls (.ref q :: sv1) (ws ++ [(q, .inl (cA, a, .inl (fun _ => 0)))]) (tys ++ [(cA, .byte)]) ad0 n0 s0 C (hw.push (List.prefix_append _ _) hlt hcr) hP1 hK1 hD1 hS1 (hp.trans hpre) (hL.mono hpre) (⟨q_v.mkref (by rw [← hw.1]; exact q_adl) hlt, q_S.mono hpre hs1⟩) (Nat.le_succ_of_le hn0) (by rw [hss]; omega))
      have z1 : h.1 - n0 + 1 = h.1 + 1 - n0 := by omega
      have z2 : q_ss h - s0 + a = q_ss h + a - s0 := by omega
      rw [z1, z2, ← hss]
      exact this
    · refine va_newa (a0 := (a, .inl (fun _ => 0))) C.1 C.2.1 (C.2.2.2.2.2.1 _ hl1) hty hK hP hD hS hA (fun _ => rfl) hn hN2 (by show a * _ ≤ _; simp only [componentBytes]; omega) hce hsl hd (fun q cA H1 hK1 hP1 hD1 hS1 => ?_)
      have hpre : q_ad ws <+: q_ad (ws ++ [(q, .inl (cA, a, .inl (fun _ => 0)))]) := by rw [q_ad_app]; exact List.prefix_append _ _
      have hcr : q_c env (q_ad (ws ++ [(q, .inl (cA, a, .inl (fun _ => 0)))])) (tys ++ [(cA, .boolean)]) (5, a, 0) (.inl (cA, a, .inl (fun _ => 0))) := Or.inr (Or.inr (Or.inr (Or.inl ⟨rfl, cA, tys.length, _, rfl, q_tp _, hq, h0⟩)))
      have := (hg p e s m args below meth c H1 locs ls (.ref q :: sv1) (ws ++ [(q, .inl (cA, a, .inl (fun _ => 0)))]) (tys ++ [(cA, .boolean)]) ad0 n0 s0 C (hw.push (List.prefix_append _ _) hlt hcr) hP1 hK1 hD1 hS1 (hp.trans hpre) (hL.mono hpre) (⟨q_v.mkref (by rw [← hw.1]; exact q_adl) hlt, q_S.mono hpre hs1⟩) (Nat.le_succ_of_le hn0) (by rw [hss]; omega))
      have z1 : h.1 - n0 + 1 = h.1 + 1 - n0 := by omega
      have z2 : q_ss h - s0 + a = q_ss h + a - s0 := by omega
      rw [z1, z2, ← hss]
      exact this
    · refine va_newa (a0 := (a, .inr (.inl (fun _ => 0)))) C.1 C.2.1 (C.2.2.2.2.2.1 _ hl1) hty hK hP hD hS hA (fun _ => rfl) hn hN2 (by show a * _ ≤ _; simp only [componentBytes]; omega) hce hsl hd (fun q cA H1 hK1 hP1 hD1 hS1 => ?_)
      have hpre : q_ad ws <+: q_ad (ws ++ [(q, .inl (cA, a, .inr (.inl (fun _ => 0))))]) := by rw [q_ad_app]; exact List.prefix_append _ _
      have hcr : q_c env (q_ad (ws ++ [(q, .inl (cA, a, .inr (.inl (fun _ => 0))))])) (tys ++ [(cA, .long)]) (7, a, 0) (.inl (cA, a, .inr (.inl (fun _ => 0)))) := Or.inr (Or.inr (Or.inr (Or.inr (Or.inl ⟨rfl, cA, tys.length, _, rfl, q_tp _, hq⟩))))
      have := (hg p e s m args below meth c H1 locs ls (.ref q :: sv1) (ws ++ [(q, .inl (cA, a, .inr (.inl (fun _ => 0))))]) (tys ++ [(cA, .long)]) ad0 n0 s0 C (hw.push (List.prefix_append _ _) hlt hcr) hP1 hK1 hD1 hS1 (hp.trans hpre) (hL.mono hpre) (⟨q_v.mkref (by rw [← hw.1]; exact q_adl) hlt, q_S.mono hpre hs1⟩) (Nat.le_succ_of_le hn0) (by rw [hss]; omega))
      have z1 : h.1 - n0 + 1 = h.1 + 1 - n0 := by omega
      have z2 : q_ss h - s0 + a = q_ss h + a - s0 := by omega
      rw [z1, z2, ← hss]
      exact this
theorem q_s_anewa {n : Nat} (hrg : q_rgs env rg) (hd : decode (q_b i) pc = .ok (.anewarray n, ln)) (hk : q_lnk i pc ln (.anewarray n) x y z) (hN : q_HN l base D env ih i pc ln tl) (hr : q_step rg q_code mem ih d i (q_code i) pc (.anewarray n) x y z tl loc st h = some (hf, r)) : q_G l base D env d i pc loc st h hf r := by
  obtain ⟨e1, hl1⟩ := hk
  subst e1
  cases st with
  | nil => cases hr
  | cons a rr =>
    have hr : (bif Nat.ble a 100000 then q_nw h 9 a 0 (fun h' c => ih d i (q_code i) tl loc (c :: rr) h') else none) = some (hf, r) := hr
    obtain ⟨hq, hr⟩ := q_bifs hr
    have hq := q_ble.mp hq
    obtain ⟨hlt, hr⟩ := q_nw_inv hr
    obtain ⟨hm, hg⟩ := hN d loc _ _ hf r hr
    have hss := q_ss_nw h 9 a 0 hlt
    have hm1 : h.1 + 1 ≤ hf.1 := hm.1
    have hm2 : q_ss h + a ≤ q_ss hf := by rw [← hss]; exact hm.2
    refine ⟨⟨by omega, by omega⟩, fun p e s m args below meth c H locs ls sv ws tys ad0 n0 s0 C hw hP hK hD hS hp hL hs hn0 hs0 => ?_⟩
    obtain ⟨va, sv1, rfl, hva, hs1⟩ := hs.cons
    obtain ⟨xa, rfl, xa1, -⟩ := hva.int hrg (by omega)
    have ex := xa1 (by omega)
    subst ex
    have hA : ∀ q : Nat, s.heap.size ≤ q → q_A base q := fun q hq => Nat.le_trans C.2.2.2.2.2.2.2.2.2 hq
    have hn : ¬ nI a < 0 := nI_pos (by omega)
    have hN2 : (nI a).toNatClampNeg = a := nI_clamp (by omega)
    have hce : h.1 - n0 + 1 ≤ hf.1 - n0 := by omega
    have hsl : q_ss h - s0 + a ≤ q_ss hf - s0 := by omega
    refine va_newq C.1 C.2.1 C.2.2.2.2.1 (C.2.2.2.2.2.1 _ hl1) C.2.2.2.2.2.2.1.2 hK hP hD hS hA hn hN2 (by omega) hce hsl hd (fun q cA H1 hK1 hP1 hD1 hS1 => ?_)
    have hpre : q_ad ws <+: q_ad (ws ++ [(q, .inl (cA, a, .inr (.inr (.inr (.inr (fun _ => none))))))]) := by rw [q_ad_app]; exact List.prefix_append _ _
    have hcr : q_c env (q_ad (ws ++ [(q, .inl (cA, a, .inr (.inr (.inr (.inr (fun _ => none))))))])) (tys ++ [(cA, .object "SandNights$Sand")]) (9, a, 0) (.inl (cA, a, .inr (.inr (.inr (.inr (fun _ => none)))))) := Or.inr (Or.inr (Or.inr (Or.inr (Or.inr ⟨rfl, cA, tys.length, _, rfl, q_tp _, hq, fun j _ => Or.inl ⟨q_get_0 j, rfl⟩⟩))))
    have := (hg p e s m args below meth c H1 locs ls (.ref q :: sv1) (ws ++ [(q, .inl (cA, a, .inr (.inr (.inr (.inr (fun _ => none))))))]) (tys ++ [(cA, .object "SandNights$Sand")]) ad0 n0 s0 C (hw.push (List.prefix_append _ _) hlt hcr) hP1 hK1 hD1 hS1 (hp.trans hpre) (hL.mono hpre) (⟨q_v.mkref (by rw [← hw.1]; exact q_adl) hlt, q_S.mono hpre hs1⟩) (Nat.le_succ_of_le hn0) (by rw [hss]; omega))
    have z1 : h.1 - n0 + 1 = h.1 + 1 - n0 := by omega
    have z2 : q_ss h - s0 + a = q_ss h + a - s0 := by omega
    rw [z1, z2, ← hss]
    exact this
theorem q_s_ret (hrg : q_rgs env rg) (hd : decode (q_b i) pc = .ok (.return_, ln)) (hk : q_lnk i pc ln (.return_) x y z) (hN : q_HN l base D env ih i pc ln tl) (hr : q_step rg q_code mem ih d i (q_code i) pc (.return_) x y z tl loc st h = some (hf, r)) : q_G l base D env d i pc loc st h hf r := by
  obtain ⟨e1, hrt⟩ := hk
  subst e1
  cases st with
  | cons a rr => cases hr
  | nil =>
    have hr : some (h, ([] : List Nat)) = some (hf, r) := hr
    obtain ⟨rfl, rfl⟩ := Prod.mk.inj (Option.some.inj hr)
    refine ⟨⟨Nat.le_refl _, Nat.le_refl _⟩, fun p e s m args below meth c H locs ls sv ws tys ad0 n0 s0 C hw hP hK hD hS hp hL hs hn0 hs0 => ?_⟩
    have hsn := hs.nil
    subst hsn
    have hq2 : ∀ t : State, t.heap = H → s.WarmedH t.vm → q_Qc base D env ad0 h [] args s (.returned none) t := fun t ht hW => ⟨⟨_, ws, tys, rfl, Or.inl ⟨rfl, rfl⟩, hp, hw, by rw [ht]; exact hP, va_K.moved hW.alike hK, hD⟩, hS.F ht⟩
    exact W.vret C.1 C.2.1 (C.2.2.1.trans hrt) hq2 hS.2.2 hd C.2.2.2.2.2.2.2.1
theorem q_s_iret (hrg : q_rgs env rg) (hd : decode (q_b i) pc = .ok (.ireturn, ln)) (hk : q_lnk i pc ln (.ireturn) x y z) (hN : q_HN l base D env ih i pc ln tl) (hr : q_step rg q_code mem ih d i (q_code i) pc (.ireturn) x y z tl loc st h = some (hf, r)) : q_G l base D env d i pc loc st h hf r := by
  obtain ⟨e1, hrt⟩ := hk
  subst e1
  match st, hr with
  | [], hr => cases hr
  | _ :: _ :: _, hr => cases hr
  | [v], hr =>
    have hr : (bif (bif Nat.beq x 0 then q_in v else bif Nat.beq x 1 then Nat.blt v 2 else false) then some (h, [v]) else none) = some (hf, r) := hr
    obtain ⟨hc, hr⟩ := q_bifs hr
    obtain ⟨rfl, rfl⟩ := Prod.mk.inj (Option.some.inj hr)
    refine ⟨⟨Nat.le_refl _, Nat.le_refl _⟩, fun p e s m args below meth c H locs ls sv ws tys ad0 n0 s0 C hw hP hK hD hS hp hL hs hn0 hs0 => ?_⟩
    obtain ⟨va, sv1, rfl, hva, hs1⟩ := hs.cons
    have hsn := hs1.nil
    subst hsn
    have hq2 : ∀ t : State, t.heap = H → s.WarmedH t.vm → q_Qc base D env ad0 h [v] args s (.returned (some va)) t := fun t ht hW => ⟨⟨_, ws, tys, rfl, Or.inr ⟨v, va, rfl, rfl, hva⟩, hp, hw, by rw [ht]; exact hP, va_K.moved hW.alike hK, hD⟩, hS.F ht⟩
    rcases hrt with ⟨rfl, hrt⟩ | ⟨rfl, hrt⟩ | hx2
    · have hc : q_in v = true := hc
      obtain ⟨xa, rfl, -⟩ := hva.int hrg (q_ble.mp hc)
      exact W.iret C.1 C.2.1 (C.2.2.1.trans hrt) hq2 hS.2.2 hd C.2.2.2.2.2.2.2.1
    · have hc : Nat.blt v 2 = true := hc
      have hc := q_blt.mp hc
      obtain ⟨xa, rfl, xa1, -⟩ := hva.int hrg (by omega)
      exact W.zret C.1 C.2.1 (C.2.2.1.trans hrt) (by rw [xa1 (by omega)]; exact (q_fit_z v hc).1) hq2 hS.2.2 hd C.2.2.2.2.2.2.2.1
    · rw [q_iff _ _ (q_bneq.mpr (by omega)), q_iff _ _ (q_bneq.mpr (by omega))] at hc
      cases hc
theorem q_s_aret (hrg : q_rgs env rg) (hd : decode (q_b i) pc = .ok (.areturn, ln)) (hk : q_lnk i pc ln (.areturn) x y z) (hN : q_HN l base D env ih i pc ln tl) (hr : q_step rg q_code mem ih d i (q_code i) pc (.areturn) x y z tl loc st h = some (hf, r)) : q_G l base D env d i pc loc st h hf r := by
  obtain ⟨e1, rt, hrt, hrt2⟩ := hk
  subst e1
  match st, hr with
  | [], hr => cases hr
  | _ :: _ :: _, hr => cases hr
  | [v], hr =>
    have hr : (bif Nat.ble 4294967328 v then some (h, [v]) else none) = some (hf, r) := hr
    obtain ⟨hc, hr⟩ := q_bifs hr
    obtain ⟨rfl, rfl⟩ := Prod.mk.inj (Option.some.inj hr)
    refine ⟨⟨Nat.le_refl _, Nat.le_refl _⟩, fun p e s m args below meth c H locs ls sv ws tys ad0 n0 s0 C hw hP hK hD hS hp hL hs hn0 hs0 => ?_⟩
    obtain ⟨va, sv1, rfl, hva, hs1⟩ := hs.cons
    have hsn := hs1.nil
    subst hsn
    have hq2 : ∀ t : State, t.heap = H → s.WarmedH t.vm → q_Qc base D env ad0 h [v] args s (.returned (some va)) t := fun t ht hW => ⟨⟨_, ws, tys, rfl, Or.inr ⟨v, va, rfl, rfl, hva⟩, hp, hw, by rw [ht]; exact hP, va_K.moved hW.alike hK, hD⟩, hS.F ht⟩
    obtain ⟨a, -, rfl⟩ := hva.ref (q_ble.mp hc)
    exact W.aret C.1 C.2.1 (C.2.2.1.trans hrt) hrt2 (Or.inr ⟨a, rfl⟩) hq2 hS.2.2 hd C.2.2.2.2.2.2.2.1
theorem q_s_oinit {n : Nat} (hz : z = 78) (ho : Cond.instanceMethod Lib.objectInit ∈ q_w0 ∧ Cond.code Lib.objectInit ⟨#[0xb1]⟩ 1 none ∈ q_w0) (hrg : q_rgs env rg) (hd : decode (q_b i) pc = .ok (.invokespecial n, ln)) (hk : q_lnk i pc ln (.invokespecial n) x y z) (hN : q_HN l base D env ih i pc ln tl) (hr : q_step rg q_code mem ih d i (q_code i) pc (.invokespecial n) x y z tl loc st h = some (hf, r)) : q_G l base D env d i pc loc st h hf r := by
  rcases hk with hk | ⟨e1, hk | hk⟩
  · omega
  · subst e1
    subst hz
    cases st with
    | nil => cases hr
    | cons a rr =>
      have hr : (bif Nat.ble 4294967328 a && (Nat.ble (q_len rr) 4 && Nat.ble 1 d) then ih d i (q_code i) tl loc rr h else none) = some (hf, r) := hr
      obtain ⟨hq, hr⟩ := q_bifs hr
      obtain ⟨h1, h2⟩ := q_ands hq
      obtain ⟨h2, h3⟩ := q_ands h2
      have h2 := q_ble.mp h2
      rw [q_len_eq] at h2
      have h3 := q_ble.mp h3
      obtain ⟨hm, hg⟩ := hN d loc _ _ hf r hr
      refine ⟨hm, fun p e s m args below meth c H locs ls sv ws tys ad0 n0 s0 C hw hP hK hD hS hp hL hs hn0 hs0 => ?_⟩
      obtain ⟨va, sv1, rfl, hva, hs1⟩ := hs.cons
      obtain ⟨a2, -, rfl⟩ := hva.ref (q_ble.mp h1)
      obtain ⟨lv, hl, -⟩ := id hL
      have hcs := hs1.cats.2
      refine W.objInit C.1 C.2.1 C.2.2.2.2.1 (C.2.2.2.2.2.1 _ hk.2) (C.2.2.2.2.2.1 _ ho.1) (C.2.2.2.2.2.1 _ ho.2) rfl (hl.1.trans C.2.2.2.1.symm) rfl hd (by show 1 ≤ d; exact h3) ?_ (hg p e s m args below meth c H locs ls (sv1) (ws) (tys) ad0 n0 s0 C (hw) hP hK hD hS (hp) (hL) (hs1) (hn0) (hs0))
      have := lv_room (m := m) (pc := pc) (ls := ls) (rest := (.ref a2 :: sv1 : List Value)) (st := sv1) (by omega)
      show _ ≤ 40 * d
      omega
  · exact absurd hz hk.1
theorem q_s_copy {n : Nat} (hz : z = 77) (ho : Cond.native arraycopyName ∈ q_w0 ∧ Cond.static arraycopyName ∈ q_w0 ∧ Cond.initialized "java/lang/System" ∈ q_w0) (hrg : q_rgs env rg) (hd : decode (q_b i) pc = .ok (.invokestatic n, ln)) (hk : q_lnk i pc ln (.invokestatic n) x y z) (hN : q_HN l base D env ih i pc ln tl) (hr : q_step rg q_code mem ih d i (q_code i) pc (.invokestatic n) x y z tl loc st h = some (hf, r)) : q_G l base D env d i pc loc st h hf r := by
  rcases hk with hk | ⟨e1, hk | hk⟩
  · omega
  · subst e1
    subst hz
    match st, hr with
    | [], hr => cases hr
    | [_], hr => cases hr
    | [_, _], hr => cases hr
    | [_, _, _], hr => cases hr
    | [_, _, _, _], hr => cases hr
    | nn :: dp :: b :: sp :: a :: rr, hr =>
      have hr : q_at h a (fun _ ka la Na => q_at h b (fun kb kb2 lb _ => bif Nat.beq ka 1 && (Nat.beq kb2 1 && (Nat.beq la lb && (Nat.beq nn la && (Nat.beq sp 0 && (Nat.beq dp 0 && (Nat.ble (q_len rr) 4 && (Nat.ble 1 d && Nat.ble la 100000))))))) then ih d i (q_code i) tl loc rr (q_up h kb kb2 lb Na) else none)) = some (hf, r) := hr
      obtain ⟨ja, hc1, ej, hj, hh, hr⟩ := q_at_inv hr
      obtain ⟨jb, hd1, ek, hk2, -, hr⟩ := q_at_inv hr
      obtain ⟨hq, hr2⟩ := q_bifs hr
      obtain ⟨g1, hq⟩ := q_ands hq
      obtain ⟨g2, hq⟩ := q_ands hq
      obtain ⟨g3, hq⟩ := q_ands hq
      obtain ⟨g4, hq⟩ := q_ands hq
      obtain ⟨g5, hq⟩ := q_ands hq
      obtain ⟨g6, hq⟩ := q_ands hq
      obtain ⟨g7, hq⟩ := q_ands hq
      obtain ⟨g8, g9⟩ := q_ands hq
      have g1 := q_beq.mp g1
      have g2 := q_beq.mp g2
      have g3 := q_beq.mp g3
      have g4 := q_beq.mp g4
      have g5 := q_beq.mp g5
      have g6 := q_beq.mp g6
      have g7 := q_ble.mp g7
      rw [q_len_eq] at g7
      have g8 := q_ble.mp g8
      have g9 := q_ble.mp g9
      subst g5
      subst g6
      obtain ⟨hm, hg⟩ := hN d loc _ _ hf r hr2
      refine ⟨q_hmo hm (q_ss_up2 hk2 hh rfl), fun p e s m args below meth c H locs ls sv ws tys ad0 n0 s0 C hw hP hK hD hS hp hL hs hn0 hs0 => ?_⟩
      obtain ⟨vn, sv1, rfl, hvn, hs1⟩ := hs.cons
      obtain ⟨vd, sv2, rfl, hvd, hs2⟩ := hs1.cons
      obtain ⟨vb, sv3, rfl, hvb, hs3⟩ := hs2.cons
      obtain ⟨vs, sv4, rfl, hvs, hs4⟩ := hs3.cons
      obtain ⟨va, sv5, rfl, hva, hs5⟩ := hs4.cons
      obtain ⟨a2, e2, rfl, he, hc⟩ := q_cell hw hva hc1 ej hj
      obtain ⟨b2, e3, rfl, he3, hc3⟩ := q_cell hw hvb hd1 ek hk2
      obtain ⟨cA, t, f, rfl, q2, q3, q4⟩ := hc.arr g1
      obtain ⟨cB, t2, f2, rfl, p2, p3, p4⟩ := hc3.arr g2
      obtain ⟨xn, rfl, xn1, -⟩ := hvn.int hrg (by omega)
      have ex := xn1 (by omega)
      subst ex
      obtain ⟨xd, rfl, xd1, -⟩ := hvd.int hrg (by omega)
      have ex := xd1 (by omega)
      subst ex
      obtain ⟨xs, rfl, xs1, -⟩ := hvs.int hrg (by omega)
      have ex := xs1 (by omega)
      subst ex
      have z0 : (nI 0).toNatClampNeg = 0 := nI_clamp (by decide)
      have zn : (nI nn).toNatClampNeg = nn := nI_clamp (by omega)
      have hc2 : q_c env (q_ad ws) tys ((q_tg 7 h.2 jb).1, (q_tg 7 h.2 jb).2.1, (q_tg 7 h.2 ja).2.2) (.inl (cB, (q_tg 7 h.2 jb).2.1, .inl (va_cpy f f2 0 0 nn))) := Or.inr (Or.inl ⟨g2, cB, t2, _, rfl, p2, p3, fun j hj => by
        have hj : j < (q_tg 7 h.2 jb).2.1 := hj
        have e9 : va_cpy f f2 0 0 nn j = f j := by rw [pk_cpy_in (Nat.zero_le _) (by omega)]; simp
        rw [e9]
        exact q4 j (by omega)⟩)
      obtain ⟨w1, w2, w3⟩ := q_wset hw he3 hc2 rfl
      obtain ⟨lv, hl, -⟩ := id hL
      have hcs := hs5.cats.2
      refine va_copyi (ty := .int) C.1 C.2.1 (C.2.2.2.1.trans hl.1.symm) C.2.2.2.2.1 (C.2.2.2.2.2.1 _ hk.2) (C.2.2.2.2.2.1 _ ho.1) (C.2.2.2.2.2.1 _ ho.2.1) (C.2.2.2.2.2.1 _ ho.2.2) hK hP hD hS ja jb t t2 he he3 q2 p2 rfl (nI_pos (by decide)) (nI_pos (by decide)) (nI_pos (by omega)) (by rw [z0, zn]; omega) (by rw [z0, zn]; omega) (fun _ _ => rfl) (by show 1 ≤ d; exact g8) ?_ hd (fun H1 locs1 hP1 hD1 hS1 => ?_)
      · have e8 : nativeFrameWords "java/lang/System" "arraycopy" 5 = 7 := by decide +kernel
        rw [e8]
        show _ ≤ 40 * d
        omega
      · rw [z0, zn] at hP1 hD1
        have := (hg p e s m args below meth c H1 locs1 ls (sv5) (ws.set jb (b2, .inl (cB, (q_tg 7 h.2 jb).2.1, .inl (va_cpy f f2 0 0 nn)))) (tys) ad0 n0 s0 C (w1) hP1 hK hD1 hS1 (by rw [w2]; exact hp) (by rw [w2]; exact hL) (by rw [w2]; exact hs5) (hn0) (by rw [w3]; exact hs0))
        rw [w3] at this
        exact this
  · exact absurd hz hk.1
end QI
end
section
/-! ===== calls, and the whole evaluator ===== -/
theorem q_S.app {env : Nat → Int32} {ad : List Nat} : ∀ {a : List Nat} {u : List Value} {b : List Nat} {v : List Value}, q_S env ad a u → q_S env ad b v → q_S env ad (a ++ b) (u ++ v)
  | [], [], _, _, _, h => h
  | _ :: _, _ :: _, _, _, h1, h => ⟨h1.1, q_S.app h1.2 h⟩
  | [], _ :: _, _, _, h1, _ => h1.elim
  | _ :: _, [], _, _, h1, _ => h1.elim
theorem q_S.rev {env : Nat → Int32} {ad : List Nat} : ∀ {a : List Nat} {u : List Value}, q_S env ad a u → q_S env ad a.reverse u.reverse
  | [], [], _ => trivial
  | c :: a, v :: u, h => by
    rw [List.reverse_cons, List.reverse_cons]
    exact q_S.app (q_S.rev h.2) ⟨h.1, trivial⟩
  | [], _ :: _, h1 => h1.elim
  | _ :: _, [], h1 => h1.elim
theorem q_S.split {env : Nat → Int32} {ad : List Nat} : ∀ {a b : List Nat} {sv : List Value}, q_S env ad (a ++ b) sv → ∃ u v, sv = u ++ v ∧ q_S env ad a u ∧ q_S env ad b v
  | [], b, sv, h => ⟨[], sv, rfl, trivial, h⟩
  | c :: a, b, sv, h => by
    obtain ⟨v, sv', rfl, h1, h2⟩ := q_S.cons (st := a ++ b) h
    obtain ⟨u, w, rfl, h3, h4⟩ := q_S.split h2
    exact ⟨v :: u, w, rfl, ⟨h1, h3⟩, h4⟩
theorem q_S.len {env : Nat → Int32} {ad : List Nat} {a : List Nat} {u : List Value} (h : q_S env ad a u) : u.length = a.length := h.cats.1
theorem q_S.get {env : Nat → Int32} {ad : List Nat} : ∀ {a : List Nat} {u : List Value}, q_S env ad a u → ∀ (k c : Nat), a[k]? = some c → ∃ v, u[k]? = some v ∧ q_v env ad c v
  | [], [], _, k, c, hk => by simp at hk
  | x :: a, v :: u, h, 0, c, hk => by
    have e : x = c := by simpa using hk
    subst e
    exact ⟨v, rfl, h.1⟩
  | x :: a, v :: u, h, k + 1, c, hk => q_S.get h.2 k c (by simpa using hk)
  | [], _ :: _, h1, _, _, _ => h1.elim
  | _ :: _, [], h1, _, _, _ => h1.elim
theorem q_S.cat1 {env : Nat → Int32} {ad : List Nat} : ∀ {a : List Nat} {u : List Value}, q_S env ad a u → (∀ c ∈ a, ¬ c = 4294967314) → ∀ v ∈ u, v.category = 1
  | [], [], _, _, v, hv => by cases hv
  | x :: a, w :: u, h, hn, v, hv => by
    rcases List.mem_cons.mp hv with rfl | hv
    · exact h.1.cat (hn x List.mem_cons_self)
    · exact q_S.cat1 h.2 (fun c hc => hn c (List.mem_cons_of_mem _ hc)) v hv
  | [], _ :: _, h1, _, _, _ => h1.elim
  | _ :: _, [], h1, _, _, _ => h1.elim
theorem q_S.lts {env : Nat → Int32} {ad : List Nat} : ∀ {a : List Nat} {u : List Value}, q_S env ad a u → ∀ c ∈ a, c + 1 < 2 ^ 34
  | [], [], _, v, hv => by cases hv
  | x :: a, w :: u, h, v, hv => by
    rcases List.mem_cons.mp hv with rfl | hv
    · exact h.1.lt
    · exact q_S.lts h.2 v hv
  | [], _ :: _, h1, _, _ => h1.elim
  | _ :: _, [], h1, _, _ => h1.elim
theorem q_pp_inv : ∀ (n : Nat) (st acc as rr : List Nat), q_pp n st acc = some (as, rr) → ∃ pre, st = pre ++ rr ∧ pre.length = n ∧ as = pre.reverse ++ acc ∧ ∀ c ∈ pre, ¬ c = 4294967314
  | 0, st, acc, as, rr, h => by
    have h : some (acc, st) = some (as, rr) := h
    obtain ⟨rfl, rfl⟩ := Prod.mk.inj (Option.some.inj h)
    exact ⟨[], rfl, rfl, rfl, fun _ h => by cases h⟩
  | n + 1, [], acc, as, rr, h => by cases h
  | n + 1, a :: st, acc, as, rr, h => by
    have h : (bif Nat.beq a 4294967314 then none else q_pp n st (a :: acc)) = some (as, rr) := h
    obtain ⟨h1, h2⟩ := q_bifn h
    obtain ⟨pre, e1, e2, e3, e4⟩ := q_pp_inv n st (a :: acc) as rr h2
    refine ⟨a :: pre, by rw [e1]; rfl, by rw [List.length_cons, e2], by rw [e3]; simp, fun c hc => ?_⟩
    rcases List.mem_cons.mp hc with rfl | hc
    · exact q_bneq.mp h1
    · exact e4 c hc
theorem q_goodIn {x : Nat} (h : Cond.code (q_y x) (q_b x) (q_ml x) (q_rt x) ∈ q_w0) : GoodIn q_w0 (q_wy x) := by
  intro w hw
  have hm : w ∈ q_w0 := by
    rcases List.mem_cons.mp hw with rfl | hw
    · exact h
    · exact hw
  exact ⟨hm, good_of_word (List.mem_filter.mp hm).2⟩
theorem q_blind {base : Nat} {D : va_G} {env : Nat → Int32} {ad0 : List Nat} {av : List Value} {h : q_H} : FrameBlind (q_Pc base D env ad0 av h) := by
  intro a U g mk q
  obtain ⟨q0, q1, q2, ws, tys, q3, q4, q5, q6, q7⟩ := q
  exact ⟨q0, q1, ⟨fun w hw => va_Nw.same rfl rfl (q2.1 w hw), va_AO.moved (Vm.Alike.refl U.vm) q2.2⟩, ws, tys, q3, q4, q5, va_K.moved (u := U) (U := U.calling g mk a) (Vm.Alike.refl U.vm) q6, q7⟩
section QC
variable {p : Program} {l : Launch} {e : Env} {R : Room} {s : State} {m : MethodId} {args : Array Value} {below : List Frame} {meth : Method} {c : Code} {H : Heap} {locs : List Loc} {cells slots : Nat} {Q : State → Prop} {base : Nat} {D : va_G} {env : Nat → Int32}
theorem q_after {pc mc ms : Nat} {ls : Array Slot} {st0 rest : List Value} {ad0 : List Nat} {hf : q_H} {r : List Nat} {a : Array Value} (hr : va_Run p l e R s m args below meth c H locs cells slots mc ms (F0 m pc ls st0) rest (q_Qc base D env ad0 hf r a) (q_A base)) (hS : va_S (q_A base) s.heap H locs)
    (kk : ∀ (v : Option Value) (ws : va_W) (tys : List (ClassId × FieldType)) (H1 : Heap) (locs1 : List Loc), q_rv env (q_ad ws) r v → ad0 <+: q_ad ws → q_W env hf ws tys → va_P D q_cls ws H1 → va_K D q_cls tys s → va_D (q_A base) ws → va_S (q_A base) s.heap H1 locs1 → W p l e R s m args below meth c H1 locs1 (cells + mc) (slots + ms) Q (F0 m (pc + 3) ls (v.toList ++ rest))) : W p l e R s m args below meth c H locs cells slots Q (F0 m pc ls st0) := by
  intro T hT X
  obtain ⟨v, st₀, t, T', L, h0, X', hL, e1, e2, ⟨⟨v2, ws, tys, ho, hrv, hpre, hw, hP, hK, hD⟩, hz, hk⟩, st⟩ := hr T hT X
  cases ho
  rw [h0] at hz hk
  have hal : t.vm.Alike s.vm := by rw [← e2]; exact X'.warmed.alike.symm
  obtain ⟨t2, a1, b1⟩ := kk v ws tys T'.heap (locs ++ L) hrv hpre hw (by rw [e1]; exact hP) (va_K.moved hal hK) hD
    ⟨Nat.le_trans hS.1 (by rw [e1]; exact hz), fun q h1 h2 => by rw [e1, hk q (Nat.lt_of_lt_of_le h1 hS.1) h2]; exact hS.2.1 q h1 h2, fun q hq => by
      rcases List.mem_append.mp hq with h | h
      · exact hS.2.2 q h
      · exact hL q h⟩ T' rfl X'
  exact ⟨t2, st t2 a1, b1⟩
end QC
def q_HC (l : Launch) (base : Nat) (D : va_G) (env : Nat → Int32) (mem : q_M) (ih : q_F) : Prop := ∀ (d x : Nat) (as : List Nat) (h h' : q_H) (rt : List Nat), x < q_nM → as.length ≤ q_ml x → (∀ c ∈ as, ¬ c = 4294967314) → q_cal q_code mem ih d x as h = some (h', rt) → ∃ d', d' + 1 ≤ d ∧ q_Met l base D env d' x as h h' rt
section QI
variable {l : Launch} {base : Nat} {D : va_G} {env : Nat → Int32} {rg : Nat → Nat × Nat} {mem : q_M} {ih : q_F} {d i pc ln x y z loc : Nat} {tl : List q_I} {st : List Nat} {h hf : q_H} {r : List Nat}
/-- behind the call: the caller goes on -/
theorem q_fin {rr : List Nat} {h' : q_H} {rt : List Nat} (hmet : h.1 ≤ h'.1 ∧ q_ss h ≤ q_ss h') (hG : q_G l base D env d i (pc + 3) loc (rt ++ rr) h' hf r) {p : Program} {e : Env} {s : State} {m : MethodId} {args : Array Value} {below : List Frame} {meth : Method} {c : Code} {H : Heap} {locs : List Loc} {ls : Array Slot} {sv rv : List Value} {ws : va_W} {ad0 : List Nat} {n0 s0 : Nat} {a : Array Value}
    (C : q_Cx base i p s m args meth c) (hS : va_S (q_A base) s.heap H locs) (hp : ad0 <+: q_ad ws) (hL : q_L env (q_ad ws) loc (q_ml i) ls) (hrv : q_S env (q_ad ws) rr rv) (hn0 : n0 ≤ h.1) (hs0 : s0 ≤ q_ss h)
    (hrun : va_Run p l e (q_rm d (hf.1 - n0) (q_ss hf - s0)) s m args below meth c H locs (h.1 - n0) (q_ss h - s0) (h'.1 - h.1) (q_ss h' - q_ss h) (F0 m pc ls sv) rv (q_Qc base D env (q_ad ws) h' rt a) (q_A base)) :
    W p l e (q_rm d (hf.1 - n0) (q_ss hf - s0)) s m args below meth c H locs (h.1 - n0) (q_ss h - s0) (MQ below (q_Qc base D env ad0 hf r) args s (hf.1 - n0) (q_ss hf - s0) (q_A base)) (F0 m pc ls sv) := by
  refine q_after hrun hS (fun v ws1 tys1 H1 locs1 h1 h2 h3 h4 h5 h6 h7 => ?_)
  have z1 : h.1 - n0 + (h'.1 - h.1) = h'.1 - n0 := by have := hmet.1; omega
  have z2 : q_ss h - s0 + (q_ss h' - q_ss h) = q_ss h' - s0 := by have := hmet.2; omega
  rw [z1, z2]
  refine hG.2 p e s m args below meth c H1 locs1 ls (v.toList ++ rv) ws1 tys1 ad0 n0 s0 C h3 h4 h5 h6 h7 (hp.trans h2) (hL.mono h2) ?_ (Nat.le_trans hn0 hmet.1) (Nat.le_trans hs0 hmet.2)
  rcases h1 with ⟨rfl, rfl⟩ | ⟨cc, xv, rfl, rfl, hv⟩
  · exact q_S.mono h2 hrv
  · exact ⟨hv, q_S.mono h2 hrv⟩
theorem q_inv_inv {cdt : Nat → List q_I} {cd : List q_I} {virt : Bool} {R : q_R} (hr : q_inv cdt mem ih d i cd tl loc x y z st h virt = some R) : ¬ z = 99 ∧ ∃ as rr h' rt, q_pp y st [] = some (as, rr) ∧ rr.length ≤ 4 ∧ (virt = true → ∃ a t, as = a :: t ∧ 4294967328 ≤ a ∧ a - 4294967328 < h.1 ∧ (q_tg 7 h.2 (a - 4294967328)).1 = 2 * z) ∧ q_cal cdt mem ih d x as h = some (h', rt) ∧ ih d i cd tl loc (rt ++ rr) h' = some R := by
  unfold q_inv at hr
  obtain ⟨hz9, hr⟩ := q_bifn hr
  refine ⟨q_bneq.mp hz9, ?_⟩
  cases hpp : q_pp y st [] with
  | none => rw [hpp] at hr; cases hr
  | some ar =>
    obtain ⟨as, rr⟩ := ar
    rw [hpp] at hr
    obtain ⟨h1, h2⟩ := q_bifs hr
    obtain ⟨h1, h3⟩ := q_ands h1
    have h1 := q_ble.mp h1
    rw [q_len_eq] at h1
    cases hc : q_cal cdt mem ih d x as h with
    | none => rw [hc] at h2; cases h2
    | some hr2 =>
      obtain ⟨h', rt⟩ := hr2
      rw [hc] at h2
      refine ⟨as, rr, h', rt, rfl, h1, fun hv => ?_, hc, h2⟩
      subst hv
      cases as with
      | nil => cases h3
      | cons a t =>
        have h3 : (bif Nat.ble 4294967328 a && Nat.blt (q_rf a) h.1 then Nat.beq (q_tg 7 h.2 (q_rf a)).1 (Nat.mul 2 z) else false) = true := h3
        cases hb : (Nat.ble 4294967328 a && Nat.blt (q_rf a) h.1) with
        | false => rw [q_iff _ _ hb] at h3; cases h3
        | true =>
          rw [q_ift _ _ hb] at h3
          obtain ⟨b1, b2⟩ := q_ands hb
          have b2 := q_blt.mp b2
          have h3 := q_beq.mp h3
          rw [q_rf_eq] at b2 h3
          exact ⟨a, t, rfl, q_ble.mp b1, b2, h3⟩
theorem q_s_virt {n : Nat} (hok : ∀ i, i < q_nM → q_mok i) (hC : q_HC l base D env mem ih) (hd : decode (q_b i) pc = .ok (.invokevirtual n, ln)) (hk : q_lnk i pc ln (.invokevirtual n) x y z) (hN : q_HN l base D env ih i pc ln tl) (hr : q_step rg q_code mem ih d i (q_code i) pc (.invokevirtual n) x y z tl loc st h = some (hf, r)) : q_G l base D env d i pc loc st h hf r := by
  have hr : q_inv q_code mem ih d i (q_code i) tl loc x y z st h true = some (hf, r) := hr
  obtain ⟨hz9, hr⟩ := q_inv_inv hr
  rcases hk with hk | ⟨e1, hx, hym, hy, hdesc, hin, hsel, ⟨rc, hrc, hrc1⟩, hlk⟩
  · exact absurd hk hz9
  subst e1
  obtain ⟨as, rr, h', rt, hpp, hlen, hvirt, hcal, hrest⟩ := hr
  obtain ⟨pre, e2, e3, e4, e5⟩ := q_pp_inv y st [] as rr hpp
  rw [List.append_nil] at e4
  have hno : ∀ c ∈ as, ¬ c = 4294967314 := fun c hc => e5 c (by rw [e4] at hc; exact List.mem_reverse.mp hc)
  have hal : as.length = y := by rw [e4, List.length_reverse, e3]
  obtain ⟨d', hd', hmet⟩ := hC d x as h h' rt hx (by omega) hno hcal
  have hG := hN d loc _ _ hf r hrest
  obtain ⟨a0, as1, eas, ha0, hj, hkd⟩ := hvirt rfl
  refine ⟨⟨Nat.le_trans hmet.1.1 hG.1.1, Nat.le_trans hmet.1.2 hG.1.2⟩, fun p e s m args below meth c H locs ls sv ws tys ad0 n0 s0 C hw hP hK hD hS hp hL hs hn0 hs0 => ?_⟩
  rw [e2] at hs
  obtain ⟨pv, rv, rfl, hpv, hrv⟩ := hs.split
  have hav : q_S env (q_ad ws) as pv.reverse := by rw [e4]; exact hpv.rev
  rw [eas] at hav
  obtain ⟨va, As, eav, hva, hAs⟩ := hav.cons
  generalize hj0 : a0 - 4294967328 = j at hj hkd
  obtain ⟨b, e9, rfl, he, hc⟩ := q_cell hw hva ha0 hj0.symm hj
  obtain ⟨fs, rfl, -⟩ := hc.obj hkd
  have hM := hmet.2 (q_ad ws) (.ref b :: As) (by rw [eas]; exact ⟨hva, hAs⟩)
  obtain ⟨k1, k2, k3, k4, k5, k6, -⟩ := hok x hx
  have hcs := hrv.cats.2
  have hG1 := hG.1
  have hm1 := hmet.1
  have hAl : As.length = y - 1 := by rw [hAs.len]; rw [eas, List.length_cons] at hal; omega
  have hpvr : pv = As.reverse ++ [.ref b] := by
    have := congrArg List.reverse eav
    rw [List.reverse_reverse, List.reverse_cons] at this
    exact this
  obtain ⟨lv, hl, -⟩ := id hL
  refine q_fin hmet.1 hG C hS hp hL hrv hn0 hs0 (va_runV (Ts := q_w0) (own := (q_y i).cls) (C := (q_y x).cls) (nL := q_ml i) (As := As) (b := b) ⟨C.1, C.2.1, C.2.2.2.1, C.2.2.2.2.1, C.2.2.2.2.2.1⟩ hM ⟨callB_of (y - 1) C.2.2.2.2.2.1 (q_goodIn k1) rfl rfl rfl (C.2.2.2.2.2.1 _ k3) (C.2.2.2.2.2.1 _ hlk) ⟨k4, k5, hdesc⟩ ⟨hd', by show 8 + (q_ml x + 11) + 40 * d' ≤ 40 * d; omega⟩, C.2.2.2.2.2.1 _ hin, C.2.2.2.2.2.1 _ hsel⟩ ⟨q_blind, by rw [← hrc1]; exact va_recv hK hP hrc he, fun U hU hW => ⟨rfl, by rw [hU]; exact Nat.le_trans C.2.2.2.2.2.2.2.2.2 hS.1, q_X.warm hW C.2.2.2.2.2.2.1, ws, tys, rfl, hw, by rw [hU]; exact hP, va_K.moved hW.alike hK, hD⟩⟩ rfl hAl hl.1 (by show pv ++ rv = _; rw [hpvr, List.append_assoc]; rfl) (lv_room (by omega)) hd ⟨?_, ?_⟩)
  · show h.1 - n0 + (h'.1 - h.1) ≤ hf.1 - n0
    omega
  · show q_ss h - s0 + (q_ss h' - q_ss h) ≤ q_ss hf - s0
    omega
theorem q_s_stat {n : Nat} (hok : ∀ i, i < q_nM → q_mok i) (hC : q_HC l base D env mem ih) (hz : ¬ z = 77) (hd : decode (q_b i) pc = .ok (.invokestatic n, ln)) (hk : q_lnk i pc ln (.invokestatic n) x y z) (hN : q_HN l base D env ih i pc ln tl) (hr : q_step rg q_code mem ih d i (q_code i) pc (.invokestatic n) x y z tl loc st h = some (hf, r)) : q_G l base D env d i pc loc st h hf r := by
  have hr : (bif Nat.beq z 77 then q_cpy ih d i (q_code i) tl loc st h else q_inv q_code mem ih d i (q_code i) tl loc x y z st h false) = some (hf, r) := hr
  rw [q_iff _ _ (q_bneq.mpr hz)] at hr
  obtain ⟨hz9, hr⟩ := q_inv_inv hr
  rcases hk with hk | ⟨e1, hk | ⟨-, hx, hym, hdesc, hst, hlk⟩⟩
  · exact absurd hk hz9
  · exact absurd hk.1 hz
  subst e1
  obtain ⟨as, rr, h', rt, hpp, hlen, -, hcal, hrest⟩ := hr
  obtain ⟨pre, e2, e3, e4, e5⟩ := q_pp_inv y st [] as rr hpp
  rw [List.append_nil] at e4
  have hno : ∀ c ∈ as, ¬ c = 4294967314 := fun c hc => e5 c (by rw [e4] at hc; exact List.mem_reverse.mp hc)
  have hal : as.length = y := by rw [e4, List.length_reverse, e3]
  obtain ⟨d', hd', hmet⟩ := hC d x as h h' rt hx (by omega) hno hcal
  have hG := hN d loc _ _ hf r hrest
  refine ⟨⟨Nat.le_trans hmet.1.1 hG.1.1, Nat.le_trans hmet.1.2 hG.1.2⟩, fun p e s m args below meth c H locs ls sv ws tys ad0 n0 s0 C hw hP hK hD hS hp hL hs hn0 hs0 => ?_⟩
  rw [e2] at hs
  obtain ⟨pv, rv, rfl, hpv, hrv⟩ := hs.split
  have hav : q_S env (q_ad ws) as pv.reverse := by rw [e4]; exact hpv.rev
  have hM := hmet.2 (q_ad ws) pv.reverse hav
  obtain ⟨k1, k2, k3, k4, k5, k6, -⟩ := hok x hx
  have hcs := hrv.cats.2
  have hG1 := hG.1
  have hm1 := hmet.1
  have hAl : pv.reverse.length = y := by rw [hav.len, hal]
  obtain ⟨lv, hl, -⟩ := id hL
  have hPre : PreS s H (q_Pc base D env (q_ad ws) pv.reverse h) pv.reverse := ⟨q_blind, fun U hU hW => ⟨rfl, by rw [hU]; exact Nat.le_trans C.2.2.2.2.2.2.2.2.2 hS.1, q_X.warm hW C.2.2.2.2.2.2.1, ws, tys, rfl, hw, by rw [hU]; exact hP, va_K.moved hW.alike hK, hD⟩⟩
  have hrm : (q_rm d' (h'.1 - h.1) (q_ss h' - q_ss h)).frames + 1 ≤ (q_rm d (hf.1 - n0) (q_ss hf - s0)).frames ∧ 8 + (q_ml x + 11) + (q_rm d' (h'.1 - h.1) (q_ss h' - q_ss h)).locals ≤ (q_rm d (hf.1 - n0) (q_ss hf - s0)).locals := ⟨hd', by show 8 + (q_ml x + 11) + 40 * d' ≤ 40 * d; omega⟩
  have hfc : h.1 - n0 + (h'.1 - h.1) ≤ (q_rm d (hf.1 - n0) (q_ss hf - s0)).cells ∧ q_ss h - s0 + (q_ss h' - q_ss h) ≤ (q_rm d (hf.1 - n0) (q_ss hf - s0)).slots := ⟨by show h.1 - n0 + (h'.1 - h.1) ≤ hf.1 - n0; omega, by show q_ss h - s0 + (q_ss h' - q_ss h) ≤ q_ss hf - s0; omega⟩
  rcases hlk with hlk | ⟨host, hlk⟩
  · exact q_fin hmet.1 hG C hS hp hL hrv hn0 hs0 (va_runS (Ts := q_w0) (own := (q_y i).cls) (nL := q_ml i) (As := pv.reverse) ⟨C.1, C.2.1, C.2.2.2.1, C.2.2.2.2.1, C.2.2.2.2.2.1⟩ hM ⟨callB_of y C.2.2.2.2.2.1 (q_goodIn k1) rfl rfl rfl (C.2.2.2.2.2.1 _ k3) (C.2.2.2.2.2.1 _ hlk) ⟨k4, k5, hdesc⟩ hrm, C.2.2.2.2.2.1 _ hst⟩ hPre rfl hAl hl.1 (by show pv ++ rv = _; rw [List.reverse_reverse]) (lv_room (by omega)) hd hfc)
  · exact q_fin hmet.1 hG C hS hp hL hrv hn0 hs0 (va_runSN (Ts := q_w0) (own := (q_y i).cls) (nL := q_ml i) (As := pv.reverse) ⟨C.1, C.2.1, C.2.2.2.1, C.2.2.2.2.1, C.2.2.2.2.2.1⟩ hM ⟨va_cnB y C.2.2.2.2.2.1 (q_goodIn k1) rfl rfl rfl (C.2.2.2.2.2.2.1.1 _ hlk) (C.2.2.2.2.2.1 _ k3) ⟨k4, k5, hdesc⟩ hrm, C.2.2.2.2.2.1 _ hst, trivial⟩ hPre rfl hAl hl.1 (by show pv ++ rv = _; rw [List.reverse_reverse]) (lv_room (by omega)) hd hfc)
theorem q_s_spec {n : Nat} (hok : ∀ i, i < q_nM → q_mok i) (hC : q_HC l base D env mem ih) (hz : ¬ z = 78) (hd : decode (q_b i) pc = .ok (.invokespecial n, ln)) (hk : q_lnk i pc ln (.invokespecial n) x y z) (hN : q_HN l base D env ih i pc ln tl) (hr : q_step rg q_code mem ih d i (q_code i) pc (.invokespecial n) x y z tl loc st h = some (hf, r)) : q_G l base D env d i pc loc st h hf r := by
  have hr : (bif Nat.beq z 78 then q_oin ih d i (q_code i) tl loc st h else q_inv q_code mem ih d i (q_code i) tl loc x y z st h true) = some (hf, r) := hr
  rw [q_iff _ _ (q_bneq.mpr hz)] at hr
  obtain ⟨hz9, hr⟩ := q_inv_inv hr
  rcases hk with hk | ⟨e1, hk | ⟨-, hx, hym, hy, hdesc, hini, hrt, hin, hlk⟩⟩
  · exact absurd hk hz9
  · exact absurd hk.1 hz
  subst e1
  obtain ⟨as, rr, h', rt, hpp, hlen, hvirt, hcal, hrest⟩ := hr
  obtain ⟨pre, e2, e3, e4, e5⟩ := q_pp_inv y st [] as rr hpp
  rw [List.append_nil] at e4
  have hno : ∀ c ∈ as, ¬ c = 4294967314 := fun c hc => e5 c (by rw [e4] at hc; exact List.mem_reverse.mp hc)
  have hal : as.length = y := by rw [e4, List.length_reverse, e3]
  obtain ⟨d', hd', hmet⟩ := hC d x as h h' rt hx (by omega) hno hcal
  have hG := hN d loc _ _ hf r hrest
  refine ⟨⟨Nat.le_trans hmet.1.1 hG.1.1, Nat.le_trans hmet.1.2 hG.1.2⟩, fun p e s m args below meth c H locs ls sv ws tys ad0 n0 s0 C hw hP hK hD hS hp hL hs hn0 hs0 => ?_⟩
  rw [e2] at hs
  obtain ⟨pv, rv, rfl, hpv, hrv⟩ := hs.split
  have hav : q_S env (q_ad ws) as pv.reverse := by rw [e4]; exact hpv.rev
  obtain ⟨a0, as1, eas, ha0, -⟩ := hvirt rfl
  rw [eas] at hav
  obtain ⟨va, As, eav, hva, hAs⟩ := hav.cons
  have hM := hmet.2 (q_ad ws) (va :: As) (by rw [eas]; exact ⟨hva, hAs⟩)
  obtain ⟨k1, k2, k3, k4, k5, k6, -⟩ := hok x hx
  have hcs := hrv.cats.2
  have hG1 := hG.1
  have hm1 := hmet.1
  have hAl : As.length = y - 1 := by rw [hAs.len]; rw [eas, List.length_cons] at hal; omega
  have hpvr : pv = As.reverse ++ [va] := by
    have := congrArg List.reverse eav
    rw [List.reverse_reverse, List.reverse_cons] at this
    exact this
  obtain ⟨lv, hl, -⟩ := id hL
  have hPre : PreS s H (q_Pc base D env (q_ad ws) (va :: As) h) (va :: As) := ⟨q_blind, fun U hU hW => ⟨rfl, by rw [hU]; exact Nat.le_trans C.2.2.2.2.2.2.2.2.2 hS.1, q_X.warm hW C.2.2.2.2.2.2.1, ws, tys, rfl, hw, by rw [hU]; exact hP, va_K.moved hW.alike hK, hD⟩⟩
  have hrm : (q_rm d' (h'.1 - h.1) (q_ss h' - q_ss h)).frames + 1 ≤ (q_rm d (hf.1 - n0) (q_ss hf - s0)).frames ∧ 8 + (q_ml x + 11) + (q_rm d' (h'.1 - h.1) (q_ss h' - q_ss h)).locals ≤ (q_rm d (hf.1 - n0) (q_ss hf - s0)).locals := ⟨hd', by show 8 + (q_ml x + 11) + 40 * d' ≤ 40 * d; omega⟩
  have hfc : h.1 - n0 + (h'.1 - h.1) ≤ (q_rm d (hf.1 - n0) (q_ss hf - s0)).cells ∧ q_ss h - s0 + (q_ss h' - q_ss h) ≤ (q_rm d (hf.1 - n0) (q_ss hf - s0)).slots := ⟨by show h.1 - n0 + (h'.1 - h.1) ≤ hf.1 - n0; omega, by show q_ss h - s0 + (q_ss h' - q_ss h) ≤ q_ss hf - s0; omega⟩
  obtain ⟨b, -, rfl⟩ := hva.ref ha0
  have hwy : q_wy x = Cond.code (q_y x) (q_b x) (q_ml x) none :: q_w0 := by rw [← hrt]; rfl
  rcases hlk with hlk | ⟨host, hlk⟩
  · exact q_fin hmet.1 hG C hS hp hL hrv hn0 hs0 (va_runI (Ts := q_w0) (own := (q_y i).cls) (nL := q_ml i) (As := As) (b := b) ⟨C.1, C.2.1, C.2.2.2.1, C.2.2.2.2.1, C.2.2.2.2.2.1⟩ hM ⟨callB_of (y - 1) C.2.2.2.2.2.1 (q_goodIn k1) hwy rfl rfl (C.2.2.2.2.2.1 _ k3) (C.2.2.2.2.2.1 _ hlk) ⟨k4, k5, hdesc⟩ hrm, hini, C.2.2.2.2.2.1 _ hin⟩ hPre rfl hAl hl.1 (by show pv ++ rv = _; rw [hpvr, List.append_assoc]; rfl) (lv_room (by omega)) hd hfc)
  · exact q_fin hmet.1 hG C hS hp hL hrv hn0 hs0 (va_runIN (Ts := q_w0) (own := (q_y i).cls) (nL := q_ml i) (As := As) (b := b) ⟨C.1, C.2.1, C.2.2.2.1, C.2.2.2.2.1, C.2.2.2.2.2.1⟩ hM ⟨va_cnB (y - 1) C.2.2.2.2.2.1 (q_goodIn k1) hwy rfl rfl (C.2.2.2.2.2.2.1.1 _ hlk) (C.2.2.2.2.2.1 _ k3) ⟨k4, k5, hdesc⟩ hrm, hini, C.2.2.2.2.2.1 _ hin⟩ hPre rfl hAl hl.1 (by show pv ++ rv = _; rw [hpvr, List.append_assoc]; rfl) (lv_room (by omega)) hd hfc)
end QI
end
section
/-! ===== a run of the evaluator is a contract of the method ===== -/
theorem q_sl1 : ∀ (vs : List Value), (∀ v ∈ vs, v.category = 1) → (lg_sl vs).length = vs.length
  | [], _ => rfl
  | v :: vs, h => by
    have h1 := h v List.mem_cons_self
    have ih := q_sl1 vs (fun w hw => h w (List.mem_cons_of_mem _ hw))
    unfold lg_sl at ih ⊢
    rw [List.flatMap_cons, List.length_append, ih, h1]
    simp
    omega
theorem q_args_at : ∀ (vs : List Value) (o : Nat), (∀ v ∈ vs, v.category = 1) → ∀ (k : Nat) (v : Value), vs[k]? = some v → (o + k, v) ∈ lv_args o vs
  | [], _, _, k, v, hv => by simp at hv
  | w :: vs, o, h, 0, v, hv => by
    have e : w = v := by simpa using hv
    subst e
    exact List.mem_cons_self
  | w :: vs, o, h, k + 1, v, hv => by
    have h1 := h w List.mem_cons_self
    have ih := q_args_at vs (o + 1) (fun x hx => h x (List.mem_cons_of_mem _ hx)) k v (by simpa using hv)
    show (o + (k + 1), v) ∈ (o, w) :: lv_args (if w.category = 2 then o + 2 else o + 1) vs
    rw [if_neg (by omega), show o + (k + 1) = o + 1 + k by omega]
    exact List.mem_cons_of_mem _ ih
theorem q_args_in : ∀ (vs : List Value) (o : Nat) (q : Nat × Value), q ∈ lv_args o vs → q.2 ∈ vs
  | [], _, q, hq => by cases hq
  | w :: vs, o, q, hq => by
    have hq : q ∈ (o, w) :: lv_args (if w.category = 2 then o + 2 else o + 1) vs := hq
    rcases List.mem_cons.mp hq with rfl | hq
    · exact List.mem_cons_self
    · exact List.mem_cons_of_mem _ (q_args_in vs _ q hq)
section QM
variable {l : Launch} {base : Nat} {D : va_G} {env : Nat → Int32} {rg : Nat → Nat × Nat} {mem : q_M}
theorem q_meth {d x : Nat} {as : List Nat} {h hf : q_H} {r : List Nat} (hok : q_mok x) (hlen : as.length ≤ q_ml x) (hno : ∀ c ∈ as, ¬ c = 4294967314) (hg : q_G l base D env d x 0 (q_pk as) [] h hf r) : q_Met l base D env d x as h hf r := by
  refine ⟨hg.1, fun ad0 av hs => ?_⟩
  refine va_MetF (cc := q_b x) (maxL := q_ml x) (ret := q_rt x) hok.2.1 rfl ?_
  intro p e s m args below meth c s₁ B hml hv
  obtain ⟨rfl, hbase, hX, ws, tys, had, hw, hP, hK, hD⟩ := hv
  have hts := atoms_spec (ws := q_wy x) B.pre
  have hown : s.vm.findClass (q_y x).cls = some m.cls := findClass_of_methodNamed B.named
  have hin : meth.name = (q_y x).name := (name_of_methodNamed B.named B.method).1
  have hcat := hs.cat1 hno
  have hl := lv_entry av (n := q_ml x) (by rw [q_sl1 av hcat, hs.len]; exact hlen)
  rw [lg_entry_eq]
  generalize (lg_sl av ++ List.replicate (q_ml x - (lg_sl av).length) Slot.unset).toArray = ls at hl ⊢
  have hL : q_L env (q_ad ws) (q_pk as) (q_ml x) ls := ⟨_, hl, fun q hq => hcat _ (q_args_in av 0 q hq), fun i cc hc => by
    rw [q_pk_get as hs.lts i] at hc
    cases ha : as[i]? with
    | none => rw [ha] at hc; cases hc
    | some a =>
      rw [ha] at hc
      have e : a = cc := by simpa using hc
      subst e
      obtain ⟨v, hv1, hv2⟩ := hs.get i a ha
      refine ⟨v, ?_, by rw [had]; exact hv2⟩
      have := q_args_at av 0 hcat i v hv1
      rw [Nat.zero_add] at this
      exact this⟩
  have := hg.2 p e s m av.toArray below meth c s.heap [] ls [] ws tys ad0 h.1 (q_ss h) ⟨B.exec, B.bytes, B.returns, hml, hown, fun w hw => hts w (List.mem_cons_of_mem _ hw), hX, B.notSynchronized, hin, hbase⟩ hw hP hK hD va_S.rf (by rw [had]; exact List.prefix_rfl) hL trivial (Nat.le_refl _) (Nat.le_refl _)
  rw [Nat.sub_self, Nat.sub_self] at this
  exact this
theorem q_sm_eq : ∀ (n : Nat) (a b : q_T n), q_sm n a b = true → a = b
  | 0, a, b, h => by
    have h : (Nat.beq (Prod.fst (α := Nat) (β := Nat × Nat) a) (Prod.fst (α := Nat) (β := Nat × Nat) b) && (Nat.beq (Prod.snd (α := Nat) (β := Nat × Nat) a).1 (Prod.snd (α := Nat) (β := Nat × Nat) b).1 && Nat.beq (Prod.snd (α := Nat) (β := Nat × Nat) a).2 (Prod.snd (α := Nat) (β := Nat × Nat) b).2)) = true := h
    obtain ⟨h1, h2⟩ := q_ands h
    obtain ⟨h2, h3⟩ := q_ands h2
    exact Prod.ext (q_beq.mp h1) (Prod.ext (q_beq.mp h2) (q_beq.mp h3))
  | n + 1, a, b, h => by
    have h : (q_sm n (Prod.fst (α := q_T n) (β := q_T n) a) (Prod.fst (α := q_T n) (β := q_T n) b) && q_sm n (Prod.snd (α := q_T n) (β := q_T n) a) (Prod.snd (α := q_T n) (β := q_T n) b)) = true := h
    obtain ⟨h1, h2⟩ := q_ands h
    exact Prod.ext (q_sm_eq n _ _ h1) (q_sm_eq n _ _ h2)
theorem q_sl_eq : ∀ (a b : List Nat), q_sl a b = true → a = b
  | [], [], _ => rfl
  | [], _ :: _, h => by cases h
  | _ :: _, [], h => by cases h
  | x :: a, y :: b, h => by
    have h : (Nat.beq x y && q_sl a b) = true := h
    obtain ⟨h1, h2⟩ := q_ands h
    rw [q_beq.mp h1, q_sl_eq a b h2]
theorem q_lk_eq : ∀ (mem : q_M) (i : Nat) (as : List Nat) (h : q_H) (R : q_R), q_lk mem i as h = some R → (i, as, h, R) ∈ mem
  | [], _, _, _, _, h => by cases h
  | e :: mem, i, as, h, R, hr => by
    have hr : (bif Nat.beq e.1 i && (q_sl e.2.1 as && (Nat.beq e.2.2.1.1 h.1 && q_sm 7 e.2.2.1.2 h.2)) then some e.2.2.2 else q_lk mem i as h) = some R := hr
    cases hb : (Nat.beq e.1 i && (q_sl e.2.1 as && (Nat.beq e.2.2.1.1 h.1 && q_sm 7 e.2.2.1.2 h.2))) with
    | false =>
      rw [q_iff _ _ hb] at hr
      exact List.mem_cons_of_mem _ (q_lk_eq mem i as h R hr)
    | true =>
      rw [q_ift _ _ hb] at hr
      obtain ⟨h1, h2⟩ := q_ands hb
      obtain ⟨h2, h3⟩ := q_ands h2
      obtain ⟨h3, h4⟩ := q_ands h3
      have e1 := q_beq.mp h1
      have e2 := q_sl_eq _ _ h2
      have e3 : e.2.2.1 = h := Prod.ext (q_beq.mp h3) (q_sm_eq 7 _ _ h4)
      have e4 : e.2.2.2 = R := Option.some.inj hr
      obtain ⟨f1, f2, f3, f4⟩ := e
      cases e1; cases e2; cases e3; cases e4
      exact List.mem_cons_self
theorem q_run_hd {fuel d i : Nat} {cd rest : List q_I} {loc : Nat} {st : List Nat} {h : q_H} {R : q_R} (hr : q_run rg q_code mem fuel d i cd rest loc st h = some R) : ∃ e tl, rest = e :: tl := by
  cases rest with
  | nil =>
    cases fuel with
    | zero => cases hr
    | succ n => cases hr
  | cons e tl => exact ⟨e, tl, rfl⟩
theorem q_chn_at : ∀ (pre : List q_I) (a b : q_I) (t : List q_I), q_chn (pre ++ a :: b :: t) = true → b.1 = a.1 + a.2.1
  | [], a, b, t, h => by
    have h : (Nat.beq b.1 (a.1 + a.2.1) && q_chn (b :: t)) = true := h
    exact q_beq.mp (q_ands h).1
  | [x], a, b, t, h => by
    have h : (Nat.beq a.1 (x.1 + x.2.1) && q_chn (a :: b :: t)) = true := h
    exact q_chn_at [] a b t (q_ands h).2
  | x :: y :: pre, a, b, t, h => by
    have h : (Nat.beq y.1 (x.1 + x.2.1) && q_chn (y :: pre ++ a :: b :: t)) = true := h
    exact q_chn_at (y :: pre) a b t (q_ands h).2
theorem q_jm_suf : ∀ (cd : List q_I) (t : Nat), (q_jm cd t = [] ∨ ∃ pre e tl, cd = pre ++ q_jm cd t ∧ q_jm cd t = e :: tl ∧ e.1 = t)
  | [], _ => Or.inl rfl
  | e :: tl, t => by
    have hj : q_jm (e :: tl) t = Bool.rec (q_jm tl t) (e :: tl) (Nat.beq e.1 t) := rfl
    cases hb : Nat.beq e.1 t with
    | true =>
      rw [hb] at hj
      exact Or.inr ⟨[], e, tl, by rw [hj]; rfl, hj, q_beq.mp hb⟩
    | false =>
      rw [hb] at hj
      have hj : q_jm (e :: tl) t = q_jm tl t := hj
      rw [hj]
      rcases q_jm_suf tl t with h | ⟨pre, e', tl', h1, h2, h3⟩
      · exact Or.inl h
      · exact Or.inr ⟨e :: pre, e', tl', by rw [List.cons_append, ← h1], h2, h3⟩
/-- one instruction -/
theorem q_stp {ih : q_F} {d i pc ln x y z loc : Nat} {ins : Instr} {tl : List q_I} {st : List Nat} {h hf : q_H} {r : List Nat} (hrg : q_rgs env rg) (hcl : q_clok) (hok : ∀ i, i < q_nM → q_mok i) (ho1 : Cond.instanceMethod Lib.objectInit ∈ q_w0 ∧ Cond.code Lib.objectInit ⟨#[0xb1]⟩ 1 none ∈ q_w0) (ho2 : Cond.native arraycopyName ∈ q_w0 ∧ Cond.static arraycopyName ∈ q_w0 ∧ Cond.initialized "java/lang/System" ∈ q_w0)
    (hd : decode (q_b i) pc = .ok (ins, ln)) (hk : q_lnk i pc ln ins x y z) (hN : q_HN l base D env ih i pc ln tl) (hJ : q_HJ l base D env ih i) (hC : q_HC l base D env mem ih) (hr : q_step rg q_code mem ih d i (q_code i) pc ins x y z tl loc st h = some (hf, r)) : q_G l base D env d i pc loc st h hf r := by
  cases ins
  case iconst n => exact q_s_iconst hrg hd hk hN hr
  case bipush n => exact q_s_bipush hrg hd hk hN hr
  case sipush n => exact q_s_sipush hrg hd hk hN hr
  case ldc n => exact q_s_ldc hrg hd hk hN hr
  case ldc_w n => exact q_s_ldc_w hrg hd hk hN hr
  case lconst n => exact q_s_lconst hrg hd hk hN hr
  case aconst_null => exact q_s_null hrg hd hk hN hr
  case iload n => exact q_s_iload hrg hd hk hN hr
  case iload_n n => exact q_s_iload_n hrg hd hk hN hr
  case aload n => exact q_s_aload hrg hd hk hN hr
  case aload_n n => exact q_s_aload_n hrg hd hk hN hr
  case istore n => exact q_s_istore hrg hd hk hN hr
  case istore_n n => exact q_s_istore_n hrg hd hk hN hr
  case astore n => exact q_s_astore hrg hd hk hN hr
  case astore_n n => exact q_s_astore_n hrg hd hk hN hr
  case iinc n k => exact q_s_iinc hrg hd hk hN hr
  case iadd => exact q_s_iadd hrg hd hk hN hr
  case isub => exact q_s_isub hrg hd hk hN hr
  case imul => exact q_s_imul hrg hd hk hN hr
  case iand => exact q_s_iand hrg hd hk hN hr
  case ior => exact q_s_ior hrg hd hk hN hr
  case ixor => exact q_s_ixor hrg hd hk hN hr
  case ineg => exact q_s_ineg hrg hd hk hN hr
  case idiv => exact q_s_idiv hrg hd hk hN hr
  case irem => exact q_s_irem hrg hd hk hN hr
  case ishl => exact q_s_ishl hrg hd hk hN hr
  case ishr => exact q_s_ishr hrg hd hk hN hr
  case iushr => exact q_s_iushr hrg hd hk hN hr
  case i2b => exact q_s_i2b hrg hd hk hN hr
  case dup => exact q_s_dup hrg hd hk hN hr
  case dup2 => exact q_s_dup2 hrg hd hk hN hr
  case pop => exact q_s_pop hrg hd hk hN hr
  case ifCond c off => exact q_s_ifCond hrg hd hk hN hJ hr
  case if_icmp c off => exact q_s_if_icmp hrg hd hk hN hJ hr
  case ifnull off => exact q_s_ifnull hrg hd hk hN hr
  case ifnonnull off => exact q_s_ifnonnull hrg hd hk hN hJ hr
  case goto off => exact q_s_goto hrg hd hk hN hJ hr
  case tableswitch df lo hi offs => exact q_s_table hrg hd hk hN hJ hr
  case new n => exact q_s_new hrg hd hcl hk hN hr
  case newarray t => exact q_s_newa hrg hd hk hN hr
  case anewarray n => exact q_s_anewa hrg hd hk hN hr
  case arraylength => exact q_s_alen hrg hd hk hN hr
  case iaload => exact q_s_iaload hrg hd hk hN hr
  case baload => exact q_s_baload hrg hd hk hN hr
  case aaload => exact q_s_aaload hrg hd hk hN hr
  case iastore => exact q_s_iastore hrg hd hk hN hr
  case bastore => exact q_s_bastore hrg hd hk hN hr
  case aastore => exact q_s_aastore hrg hd hk hN hr
  case getfield n => exact q_s_get hrg hd hcl hk hN hr
  case putfield n => exact q_s_put hrg hd hcl hk hN hr
  case invokevirtual n => exact q_s_virt hok hC hd hk hN hr
  case invokestatic n =>
    by_cases hz : z = 77
    · exact q_s_copy hz ho2 hrg hd hk hN hr
    · exact q_s_stat hok hC hz hd hk hN hr
  case invokespecial n =>
    by_cases hz : z = 78
    · exact q_s_oinit hz ho1 hrg hd hk hN hr
    · exact q_s_spec hok hC hz hd hk hN hr
  case ireturn => exact q_s_iret hrg hd hk hN hr
  case areturn => exact q_s_aret hrg hd hk hN hr
  case return_ => exact q_s_ret hrg hd hk hN hr
  all_goals
    have hr : (none : Option q_R) = some (hf, r) := hr
    cases hr
theorem q_sound (hrg : q_rgs env rg) (hcl : q_clok) (hok : ∀ i, i < q_nM → q_mok i) (ho1 : Cond.instanceMethod Lib.objectInit ∈ q_w0 ∧ Cond.code Lib.objectInit ⟨#[0xb1]⟩ 1 none ∈ q_w0) (ho2 : Cond.native arraycopyName ∈ q_w0 ∧ Cond.static arraycopyName ∈ q_w0 ∧ Cond.initialized "java/lang/System" ∈ q_w0) (hmem : ∀ e ∈ mem, q_Met l base D env 5 e.1 e.2.1 e.2.2.1 e.2.2.2.1 e.2.2.2.2) :
    ∀ (fuel d i : Nat) (rest : List q_I) (loc : Nat) (st : List Nat) (h hf : q_H) (r : List Nat), i < q_nM → (∃ pre, q_code i = pre ++ rest) → q_run rg q_code mem fuel d i (q_code i) rest loc st h = some (hf, r) → ∀ e0 tl, rest = e0 :: tl → q_G l base D env d i e0.1 loc st h hf r := by
  intro fuel
  induction fuel with
  | zero => intro d i rest loc st h hf r _ _ hr; cases hr
  | succ n ih =>
    intro d i rest loc st h hf r hi hsuf hr e0 tl he
    subst he
    obtain ⟨pre, hpre⟩ := hsuf
    have hm := hok i hi
    have hr : q_step rg q_code mem (q_run rg q_code mem n) d i (q_code i) e0.1 e0.2.2.1 e0.2.2.2.1 e0.2.2.2.2.1 e0.2.2.2.2.2 tl loc st h = some (hf, r) := hr
    have hmem0 : e0 ∈ q_code i := by rw [hpre]; exact List.mem_append_right _ List.mem_cons_self
    obtain ⟨hd, hk⟩ := hm.2.2.2.2.2.2.2.2 e0 hmem0
    refine q_stp hrg hcl hok ho1 ho2 hd hk ?_ ?_ ?_ hr
    · intro d2 loc2 st2 h2 hf2 r2 hr2
      obtain ⟨e1, tl1, rfl⟩ := q_run_hd hr2
      have hch : q_chn (pre ++ e0 :: e1 :: tl1) = true := by rw [← hpre]; exact hm.2.2.2.2.2.2.1
      rw [← q_chn_at pre e0 e1 tl1 hch]
      exact ih d2 i (e1 :: tl1) loc2 st2 h2 hf2 r2 hi ⟨pre ++ [e0], by rw [hpre, List.append_assoc]; rfl⟩ hr2 e1 tl1 rfl
    · intro t d2 loc2 st2 h2 hf2 r2 hr2
      rcases q_jm_suf (q_code i) t with hj | ⟨pre2, e1, tl1, h1, h3, h4⟩
      · rw [hj] at hr2
        obtain ⟨e1, tl1, hx⟩ := q_run_hd hr2
        cases hx
      · rw [← h4]
        exact ih d2 i _ loc2 st2 h2 hf2 r2 hi ⟨pre2, h1⟩ hr2 e1 tl1 h3
    · intro d2 x as h2 h' rt hx hlen hno hcal
      unfold q_cal at hcal
      cases hl : q_lk mem x as h2 with
      | some R =>
        rw [hl] at hcal
        obtain ⟨h1, h3⟩ := q_bifs hcal
        have e9 := Option.some.inj h3
        subst e9
        exact ⟨5, q_blt.mp h1, hmem _ (q_lk_eq mem x as h2 _ hl)⟩
      | none =>
        rw [hl] at hcal
        cases d2 with
        | zero => cases hcal
        | succ d' =>
          have hcal : q_run rg q_code mem n d' x (q_code x) (q_code x) (q_pk as) [] h2 = some (h', rt) := hcal
          obtain ⟨e1, tl1, hx1⟩ := q_run_hd hcal
          have hmx := hok x hx
          obtain ⟨t0, ht0, ht1⟩ := hmx.2.2.2.2.2.2.2.1
          have e8 : e1.1 = 0 := by
            rw [hx1] at ht0
            have : e1 = t0 := Option.some.inj ht0
            rw [this]; exact ht1
          have hG := ih d' x (q_code x) (q_pk as) [] h2 h' rt hx ⟨[], rfl⟩ hcal e1 tl1 hx1
          rw [e8] at hG
          exact ⟨d', Nat.le_refl _, q_meth hmx hlen hno hG⟩
/-- THE EVALUATOR's RUN OF A METHOD IS ITS CONTRACT -/
theorem q_all (hrg : q_rgs env rg) (hcl : q_clok) (hok : ∀ i, i < q_nM → q_mok i) (ho1 : Cond.instanceMethod Lib.objectInit ∈ q_w0 ∧ Cond.code Lib.objectInit ⟨#[0xb1]⟩ 1 none ∈ q_w0) (ho2 : Cond.native arraycopyName ∈ q_w0 ∧ Cond.static arraycopyName ∈ q_w0 ∧ Cond.initialized "java/lang/System" ∈ q_w0) (hmem : ∀ e ∈ mem, q_Met l base D env 5 e.1 e.2.1 e.2.2.1 e.2.2.2.1 e.2.2.2.2)
    (fuel d x : Nat) (as : List Nat) (h hf : q_H) (r : List Nat) (hx : x < q_nM) (hlen : as.length ≤ q_ml x) (hno : ∀ c ∈ as, ¬ c = 4294967314) (hr : q_run rg q_code mem fuel d x (q_code x) (q_code x) (q_pk as) [] h = some (hf, r)) : q_Met l base D env d x as h hf r := by
  obtain ⟨e1, tl1, hx1⟩ := q_run_hd hr
  have hmx := hok x hx
  obtain ⟨t0, ht0, ht1⟩ := hmx.2.2.2.2.2.2.2.1
  have e8 : e1.1 = 0 := by
    rw [hx1] at ht0
    have : e1 = t0 := Option.some.inj ht0
    rw [this]; exact ht1
  have hG := q_sound hrg hcl hok ho1 ho2 hmem fuel d x (q_code x) (q_pk as) [] h hf r hx ⟨[], rfl⟩ hr e1 tl1 hx1
  rw [e8] at hG
  exact q_meth hmx hlen hno hG
end QM
end
section
/-! ===== the tables hold: words of the Statement by their places (printed by wip/p1/gen.py) ===== -/
def q_ownl : List String := ["SandNights$Acts", "SandNights$Finder", "SandNights$Formula", "SandNights$Ground", "SandNights$Reader", "SandNights$Sand", "SandNights$Sights", "SandNights$Told", "SandNights", "SandNightsModel", "java/lang/Integer", "java/lang/Math", "java/util/Arrays", "SandNightsLaw"]
def q_own (k : Nat) : String := q_ownl.getD k ""
def q_onl : List Nat := [9, 9, 9, 8, 8, 9, 9, 9, 6, 11, 9, 9, 9, 8, 9, 8, 8, 9, 9, 6, 6, 9, 8, 9, 8, 8, 3, 8, 8, 9, 8, 9, 9, 8, 6, 8, 10, 8, 9, 9, 8, 8, 2, 9, 6, 8, 8, 5, 9, 12, 8, 9, 8, 9, 3, 9, 9, 8, 8, 5, 8, 8, 11, 8, 8, 5, 8, 9, 9, 9, 9, 9, 9, 8, 9, 8, 9, 6, 9, 9, 5, 9, 9, 8, 8, 8, 8, 8, 8, 8, 8, 8, 8, 8, 8, 8, 8, 9, 8, 8, 8, 6, 5, 8, 9, 8, 9, 6, 7, 2, 8, 3, 5, 0, 9, 9, 9, 9, 9, 9, 9, 0, 9, 9, 9, 9, 9, 9, 9, 9, 9, 9, 9, 9, 5, 9, 9, 9, 8, 9, 8, 9, 8, 4, 3, 0, 1, 6, 9, 8, 9, 8, 4, 7, 4, 4, 4, 4, 9, 9, 9, 5, 9, 8, 5, 9, 9, 8, 5, 9, 8, 9, 8, 9, 8, 3, 3, 9, 9, 3, 9, 8, 8, 9, 8, 9, 8, 9, 8, 6, 9, 3, 8, 8, 8, 0, 0, 0, 1, 1, 1, 1, 1, 1, 1, 1, 1, 1, 1, 2, 2, 2, 2, 4, 4, 4, 4, 4, 4, 4, 4, 4, 4, 4, 4, 4, 4, 4, 4, 4, 4, 4, 4, 4, 5, 5, 5, 5, 5, 6, 9, 9, 9, 9, 9, 9, 9, 9, 9, 9, 9, 9, 9, 9, 9, 9, 9, 9, 9, 9, 9, 9, 9, 9, 9, 9, 9, 9, 9, 9, 9, 9, 9, 9, 9, 9, 9, 9, 9, 11, 11]
def q_on (i : Nat) : Nat := q_onl.getD i 0
theorem q_on_ok : ∀ i, i < 281 → (q_y i).cls = q_own (q_on i) := by decide +kernel
def q_wat (p : Nat) (w : Cond) : Bool := decide (lw_tbl[p]? = some w) && goodWord w
theorem q_wat_ok {p : Nat} {w : Cond} (h : q_wat p w = true) : w ∈ q_w0 := by
  obtain ⟨h1, h2⟩ := q_ands h
  exact List.mem_filter.mpr ⟨List.mem_of_getElem? (of_decide_eq_true h1), h2⟩
abbrev q_Q4 : Type := Nat × Nat × Nat × Nat
def q_tf : List (q_Q4 × Nat) := [((9, 20, 9, 11), 1251), ((9, 274, 9, 34), 1274), ((9, 24, 9, 12), 1252), ((9, 33, 9, 15), 1255), ((9, 385, 9, 64), 1304), ((9, 128, 9, 56), 1296), ((9, 140, 9, 60), 1300), ((9, 143, 9, 61), 1301), ((9, 131, 9, 57), 1297), ((9, 134, 9, 58), 1298), ((9, 137, 9, 59), 1299), ((9, 98, 9, 45), 1285), ((9, 101, 9, 46), 1286), ((6, 28, 6, 5), 437), ((6, 31, 6, 6), 438), ((9, 146, 9, 62), 1302), ((9, 149, 9, 63), 1303), ((9, 36, 9, 16), 1256), ((8, 37, 8, 5), 498), ((8, 187, 3, 5), 298), ((8, 44, 8, 6), 499), ((8, 126, 5, 0), 335), ((8, 129, 5, 1), 337), ((8, 132, 5, 2), 339), ((8, 27, 8, 3), 496), ((8, 90, 7, 8), 242), ((8, 142, 5, 8), 350), ((9, 92, 9, 41), 1281), ((9, 344, 9, 40), 1280), ((9, 63, 9, 25), 1265), ((6, 34, 3, 7), 303), ((6, 24, 6, 4), 435), ((6, 9, 6, 0), 431), ((6, 15, 6, 1), 432), ((6, 54, 3, 0), 286), ((9, 110, 9, 50), 1290), ((9, 113, 9, 51), 1291), ((3, 40, 3, 9), 306), ((3, 37, 3, 8), 305), ((3, 21, 3, 3), 292), ((3, 34, 3, 7), 301), ((8, 72, 8, 11), 504), ((8, 76, 8, 12), 505), ((8, 309, 3, 4), 295), ((8, 193, 7, 9), 246), ((6, 18, 6, 2), 433), ((6, 21, 6, 3), 434), ((8, 239, 3, 7), 304), ((9, 42, 9, 18), 1258), ((8, 337, 3, 3), 293), ((8, 340, 7, 6), 238), ((8, 190, 5, 9), 352), ((8, 343, 5, 10), 354), ((8, 51, 8, 7), 500), ((8, 203, 0, 2), 389), ((8, 210, 0, 3), 391), ((8, 346, 6, 4), 436), ((8, 13, 8, 1), 494), ((8, 348, 7, 11), 252), ((8, 65, 8, 10), 503), ((8, 216, 1, 1), 410), ((8, 360, 7, 3), 229), ((8, 364, 3, 1), 289), ((8, 367, 3, 2), 291), ((2, 18, 2, 2), 204), ((2, 21, 2, 3), 205), ((2, 9, 2, 0), 202), ((2, 15, 2, 1), 203), ((9, 30, 9, 14), 1254), ((9, 379, 9, 43), 1283), ((9, 382, 9, 44), 1284), ((9, 472, 9, 65), 1305), ((9, 271, 9, 2), 1242), ((9, 39, 9, 17), 1257), ((9, 388, 9, 48), 1288), ((5, 9, 5, 0), 334), ((8, 110, 7, 1), 222), ((8, 113, 7, 2), 225), ((8, 55, 8, 8), 501), ((8, 59, 8, 9), 502), ((5, 15, 5, 1), 336), ((5, 18, 5, 2), 338), ((5, 21, 5, 3), 340), ((5, 24, 5, 4), 342), ((5, 27, 5, 5), 344), ((5, 30, 5, 6), 346), ((5, 33, 5, 7), 348), ((5, 36, 5, 8), 349), ((5, 40, 5, 9), 351), ((5, 43, 5, 10), 353), ((8, 20, 8, 2), 495), ((8, 93, 4, 4), 145), ((8, 96, 4, 5), 147), ((8, 9, 8, 0), 493), ((9, 152, 9, 66), 1306), ((9, 155, 9, 67), 1307), ((9, 167, 9, 4), 1244), ((9, 16, 9, 5), 1245), ((9, 119, 9, 53), 1293), ((9, 122, 9, 54), 1294), ((8, 273, 3, 6), 300), ((5, 67, 7, 0), 218), ((9, 48, 9, 20), 1260), ((8, 103, 5, 3), 341), ((8, 107, 7, 0), 219), ((8, 116, 5, 4), 343), ((8, 152, 5, 5), 345), ((8, 158, 5, 6), 347), ((8, 170, 3, 0), 287), ((8, 303, 1, 0), 408), ((7, 9, 7, 0), 217), ((7, 15, 7, 1), 221), ((7, 18, 7, 2), 224), ((7, 24, 7, 3), 227), ((7, 28, 7, 4), 230), ((7, 32, 7, 5), 233), ((7, 35, 7, 6), 236), ((7, 38, 7, 7), 239), ((7, 41, 7, 8), 241), ((7, 44, 7, 9), 244), ((7, 47, 7, 10), 247), ((7, 50, 7, 11), 250), ((8, 351, 7, 4), 232), ((8, 352, 7, 5), 235), ((3, 25, 3, 4), 294), ((3, 28, 3, 5), 296), ((3, 31, 3, 6), 299), ((3, 15, 3, 1), 288), ((3, 18, 3, 2), 290), ((3, 9, 3, 0), 284), ((5, 58, 7, 10), 248), ((0, 21, 0, 2), 388), ((0, 24, 0, 3), 390), ((9, 265, 9, 35), 1275), ((9, 27, 9, 13), 1253), ((9, 45, 9, 19), 1259), ((9, 67, 9, 26), 1266), ((9, 70, 9, 27), 1267), ((9, 268, 9, 36), 1276), ((9, 51, 9, 21), 1261), ((9, 54, 9, 22), 1262), ((0, 17, 0, 1), 387), ((0, 11, 0, 0), 386), ((9, 95, 9, 42), 1282), ((9, 107, 9, 49), 1289), ((9, 125, 9, 55), 1295), ((9, 104, 9, 47), 1287), ((8, 31, 8, 4), 497), ((4, 9, 4, 0), 140), ((4, 15, 4, 1), 141), ((4, 19, 4, 2), 142), ((4, 23, 4, 3), 143), ((4, 27, 4, 4), 144), ((4, 30, 4, 5), 146), ((4, 33, 4, 6), 148), ((4, 36, 4, 7), 149), ((4, 39, 4, 8), 150), ((4, 42, 4, 9), 151), ((4, 45, 4, 10), 152), ((4, 49, 4, 11), 153), ((4, 52, 4, 12), 154), ((4, 56, 4, 13), 155), ((4, 59, 4, 14), 156), ((1, 9, 1, 0), 407), ((1, 15, 1, 1), 409), ((1, 19, 1, 2), 411), ((1, 22, 1, 3), 412), ((1, 25, 1, 4), 413), ((9, 7, 9, 0), 1240), ((9, 13, 9, 1), 1241), ((9, 57, 9, 23), 1263), ((9, 60, 9, 24), 1264), ((9, 73, 9, 28), 1268), ((9, 77, 9, 29), 1269), ((9, 80, 9, 30), 1270), ((9, 83, 9, 31), 1271), ((9, 86, 9, 32), 1272), ((9, 89, 9, 33), 1273), ((9, 116, 9, 52), 1292), ((7, 53, 2, 3), 206), ((9, 164, 9, 3), 1243), ((9, 206, 9, 7), 1247), ((9, 216, 9, 8), 1248), ((9, 209, 9, 6), 1246), ((9, 223, 9, 10), 1250), ((9, 234, 9, 9), 1249), ((1, 44, 3, 5), 297), ((1, 39, 3, 7), 302), ((1, 55, 3, 0), 285), ((4, 164, 7, 3), 228), ((4, 109, 7, 4), 231), ((4, 112, 7, 5), 234), ((4, 158, 7, 10), 249), ((4, 115, 7, 6), 237), ((4, 124, 7, 7), 240), ((4, 186, 7, 11), 251), ((4, 133, 7, 8), 243), ((4, 139, 7, 0), 220), ((4, 143, 7, 1), 223), ((4, 146, 7, 2), 226), ((4, 155, 7, 9), 245), ((9, 317, 9, 38), 1278), ((9, 320, 9, 37), 1277), ((9, 311, 9, 39), 1279)]
def q_fw (t : q_Q4) : Cond := Cond.fieldLink (q_own t.1) t.2.1 ((q_cls.getD t.2.2.1 ("", q_F0, 0)).2.1 t.2.2.2).1 ((q_cls.getD t.2.2.1 ("", q_F0, 0)).2.1 t.2.2.2).2.1 ((q_cls.getD t.2.2.1 ("", q_F0, 0)).2.1 t.2.2.2).2.2.1
theorem q_tf_ok : q_tf.all (fun t => q_wat t.2 (q_fw t.1) && (decide (t.1.2.2.1 < 10) && decide (t.1.2.2.2 < (q_cls.getD t.1.2.2.1 ("", q_F0, 0)).2.2))) = true := by decide +kernel
abbrev q_Q3 : Type := Nat × Nat × Nat
def q_yy (x : Nat) : MethodName := bif Nat.beq x 1000 then arraycopyName else bif Nat.beq x 1001 then Lib.objectInit else q_y x
def q_tm : List (q_Q3 × Nat) := [((8, 173, 3), 816), ((9, 364, 0), 1602), ((9, 300, 1), 1532), ((9, 409, 2), 1664), ((9, 424, 6), 1708), ((9, 357, 12), 1595), ((8, 123, 13), 804), ((8, 135, 161), 808), ((8, 139, 35), 812), ((8, 145, 41), 817), ((9, 367, 14), 1610), ((9, 394, 162), 1614), ((9, 397, 18), 1618), ((9, 370, 244), 1622), ((6, 39, 239), 1166), ((8, 233, 16), 960), ((8, 306, 34), 1129), ((8, 312, 54), 1137), ((9, 354, 11), 1236), ((8, 227, 22), 949), ((8, 267, 24), 1044), ((8, 270, 37), 1047), ((9, 475, 72), 1852), ((8, 264, 46), 1043), ((9, 448, 39), 1797), ((8, 165, 36), 852), ((8, 370, 42), 821), ((2, 29, 62), 825), ((2, 35, 209), 826), ((6, 61, 8), 1187), ((6, 69, 9), 1200), ((8, 99, 25), 791), ((8, 161, 47), 848), ((9, 454, 38), 1793), ((9, 451, 55), 1792), ((8, 282, 279), 1075), ((9, 361, 29), 1591), ((8, 331, 65), 1205), ((8, 334, 113), 489), ((5, 3, 1001), 333), ((8, 254, 134), 1013), ((8, 260, 236), 1030), ((5, 46, 1000), 486), ((8, 251, 179), 997), ((9, 406, 56), 1660), ((9, 439, 180), 1756), ((9, 403, 139), 1653), ((9, 445, 277), 1780), ((8, 287, 50), 1082), ((8, 290, 52), 1085), ((8, 293, 138), 1086), ((9, 460, 261), 1824), ((8, 276, 102), 1054), ((6, 43, 19), 1162), ((6, 47, 20), 1170), ((9, 480, 5), 1877), ((9, 433, 21), 1748), ((9, 483, 10), 1885), ((5, 52, 49), 479), ((8, 119, 234), 795), ((8, 149, 45), 833), ((8, 155, 193), 837), ((8, 176, 121), 857), ((8, 180, 237), 866), ((8, 219, 204), 915), ((8, 223, 202), 937), ((8, 230, 203), 952), ((8, 236, 26), 961), ((8, 245, 192), 978), ((8, 248, 201), 985), ((8, 242, 175), 966), ((8, 257, 235), 1018), ((8, 297, 206), 1093), ((8, 315, 101), 1145), ((8, 300, 194), 1113), ((7, 3, 1001), 195), ((2, 3, 1001), 201), ((8, 353, 111), 458), ((8, 357, 112), 475), ((3, 43, 62), 462), ((3, 57, 26), 471), ((5, 63, 80), 482), ((9, 373, 23), 1228), ((9, 376, 81), 1232), ((9, 391, 250), 1598), ((9, 400, 53), 1637), ((9, 412, 122), 1668), ((0, 28, 65), 862), ((9, 421, 127), 1704), ((9, 427, 273), 1712), ((9, 430, 178), 1732), ((9, 442, 272), 1768), ((5, 82, 62), 1017), ((9, 469, 260), 1836), ((8, 319, 77), 1158), ((8, 323, 107), 1175), ((8, 328, 44), 1196), ((9, 486, 78), 1873), ((9, 489, 79), 1881), ((8, 1, 1001), 131), ((8, 79, 110), 454), ((4, 3, 1001), 139), ((3, 3, 1001), 283), ((0, 3, 1001), 383), ((1, 3, 1001), 406), ((6, 3, 1001), 430), ((9, 1, 1001), 1219), ((9, 158, 114), 1220), ((9, 161, 115), 1224), ((8, 82, 63), 537), ((8, 86, 152), 549), ((4, 62, 62), 553), ((4, 68, 153), 554), ((4, 73, 154), 558), ((4, 76, 221), 691), ((4, 80, 213), 707), ((4, 192, 155), 562), ((4, 195, 214), 566), ((4, 198, 156), 569), ((4, 201, 233), 572), ((4, 204, 157), 626), ((4, 207, 232), 629), ((9, 248, 159), 1450), ((9, 244, 116), 1488), ((9, 277, 269), 1492), ((9, 212, 160), 1454), ((9, 219, 256), 1458), ((9, 227, 255), 1461), ((9, 231, 253), 1482), ((9, 237, 257), 1485), ((8, 184, 164), 875), ((9, 415, 166), 1676), ((8, 196, 168), 883), ((8, 199, 80), 887), ((8, 206, 197), 892), ((9, 418, 247), 1688), ((8, 213, 195), 907), ((3, 60, 176), 970), ((3, 64, 191), 1001), ((9, 436, 7), 1760), ((8, 279, 182), 1063), ((8, 375, 238), 1067), ((9, 457, 243), 1816), ((8, 325, 189), 1183), ((0, 32, 196), 896), ((0, 36, 280), 900), ((1, 51, 208), 930), ((1, 33, 49), 924), ((1, 70, 1000), 992), ((1, 58, 205), 919), ((1, 62, 200), 941), ((1, 47, 199), 926), ((1, 80, 198), 1098), ((1, 83, 207), 1102), ((2, 25, 210), 755), ((4, 102, 231), 699), ((4, 174, 223), 747), ((4, 168, 211), 751), ((4, 105, 215), 703), ((4, 161, 216), 743), ((4, 118, 36), 715), ((4, 127, 217), 721), ((4, 84, 224), 695), ((4, 87, 220), 711), ((4, 90, 229), 727), ((4, 93, 227), 735), ((4, 96, 230), 775), ((4, 99, 218), 779), ((4, 177, 225), 759), ((4, 180, 226), 763), ((4, 183, 228), 767), ((4, 152, 219), 739), ((4, 189, 212), 771), ((4, 136, 222), 731), ((5, 87, 235), 1034), ((9, 254, 259), 1500), ((9, 257, 263), 1520), ((9, 261, 264), 1512), ((9, 338, 266), 1575), ((9, 341, 252), 1579), ((9, 251, 262), 1504), ((9, 335, 246), 1567), ((9, 323, 265), 1551), ((9, 297, 258), 1559), ((9, 347, 241), 1626), ((9, 350, 274), 1630), ((9, 326, 275), 1555), ((9, 329, 242), 1571), ((9, 463, 249), 1844), ((9, 466, 251), 1840), ((9, 240, 248), 1508), ((9, 304, 267), 1528), ((9, 280, 254), 1496), ((9, 283, 240), 1516), ((9, 287, 268), 1524), ((9, 290, 271), 1535), ((9, 293, 270), 1543), ((9, 314, 245), 1547), ((9, 307, 276), 1539), ((9, 332, 278), 1563)]
theorem q_tm_ok : q_tm.all (fun t => q_wat t.2 (Cond.methodLink (q_own t.1.1) t.1.2.1 (q_yy t.1.2.2))) = true := by decide +kernel
def q_tc : List (q_Q3 × Nat) := [((8, 41, 5), 328), ((7, 21, 2), 196), ((0, 9, 5), 384), ((8, 17, 4), 134), ((8, 24, 7), 190), ((8, 34, 3), 278), ((8, 48, 0), 378), ((8, 62, 1), 401), ((8, 69, 6), 425)]
theorem q_tc_ok : q_tc.all (fun t => q_wat t.2 (Cond.classLink (q_own t.1.1) t.1.2.1 (q_own t.1.2.2))) = true := by decide +kernel
def q_tk : List (q_Q3 × Nat) := [((10, 265, 1431655765), 718), ((10, 266, 858993459), 719), ((10, 267, 252645135), 720), ((8, 318, 100000), 1153), ((9, 479, 100000), 1868), ((1, 32, 1048576), 923)]
theorem q_tk_ok : q_tk.all (fun t => q_wat t.2 (Cond.constant (q_own t.1.1) t.1.2.1 (nI t.1.2.2))) = true := by decide +kernel
def q_npl : List Nat := [0, 2, 2, 2, 3, 2, 2, 3, 2, 2, 2, 0, 3, 1, 1, 2, 1, 2, 1, 3, 5, 1, 1, 1, 2, 1, 1, 3, 3, 1, 2, 3, 3, 2, 3, 1, 1, 3, 3, 2, 1, 2, 5, 1, 1, 2, 0, 0, 2, 2, 1, 2, 1, 2, 1, 0, 1, 1, 1, 0, 1, 1, 2, 1, 1, 1, 3, 3, 1, 1, 1, 1, 4, 4, 4, 2, 2, 2, 1, 0, 1, 0, 1, 2, 2, 2, 2, 2, 2, 3, 2, 3, 2, 1, 2, 2, 1, 1, 2, 1, 1, 2, 1, 1, 1, 1, 1, 0, 0, 0, 0, 3, 1, 0, 0, 0, 0, 2, 2, 2, 2, 1, 0, 2, 2, 3, 2, 0, 3, 2, 1, 2, 2, 1, 0, 2, 1, 1, 5, 1, 2, 2, 0, 0, 0, 0, 0, 0, 0, 5, 5, 0, 3, 0, 0, 1, 1, 1, 0, 0, 1, 2, 1, 0, 1, 0, 0, 0, 1, 0, 0, 0, 0, 0, 0, 1, 3, 0, 1, 2, 2, 0, 2, 0, 0, 0, 1, 1, 2, 1, 2, 5, 1, 2, 2, 1, 1, 1, 2, 3, 2, 3, 3, 1, 4, 3, 3, 2, 2, 3, 1, 1, 1, 1, 1, 2, 1, 1, 0, 1, 0, 0, 1, 1, 0, 1, 1, 0, 1, 0, 0, 1, 0, 0, 1, 2, 3, 2, 2, 2, 3, 2, 0, 2, 0, 0, 2, 0, 2, 2, 1, 2, 0, 1, 0, 1, 1, 1, 1, 1, 0, 2, 0, 1, 2, 2, 0, 1, 0, 0, 1, 0, 2, 2, 3, 0, 0, 2, 0, 1, 2]
def q_np (x : Nat) : Nat := q_npl.getD x 0
theorem q_np_ok : ∀ x, x < 281 → (parseMethodDescriptor (q_y x).desc).map (fun d => d.parameters.length) = some (q_np x) := by decide +kernel
def q_knl : List Nat := [1, 0, 1, 0, 0, 1, 1, 1, 1, 0, 1, 1, 0, 1, 1, 1, 0, 1, 1, 1, 0, 1, 0, 1, 0, 1, 1, 1, 1, 1, 1, 1, 1, 1, 1, 1, 0, 0, 1, 0, 1, 1, 1, 1, 1, 1, 1, 1, 1, 0, 0, 1, 1, 1, 1, 1, 1, 1, 1, 2, 1, 1, 0, 1, 1, 1, 1, 1, 1, 1, 1, 1, 1, 1, 1, 1, 1, 1, 1, 1, 1, 1, 1, 1, 1, 1, 1, 1, 1, 1, 1, 1, 1, 1, 1, 1, 1, 1, 1, 1, 1, 1, 1, 1, 1, 1, 1, 1, 2, 2, 1, 1, 1, 1, 1, 1, 1, 1, 1, 1, 1, 1, 1, 1, 1, 1, 1, 1, 1, 1, 1, 1, 1, 1, 1, 1, 1, 1, 0, 0, 1, 1, 2, 2, 2, 2, 2, 2, 2, 1, 1, 1, 1, 1, 1, 1, 0, 0, 1, 1, 1, 1, 1, 1, 1, 1, 1, 1, 1, 1, 1, 1, 1, 1, 1, 1, 1, 1, 1, 1, 1, 1, 1, 1, 1, 1, 1, 1, 1, 1, 1, 1, 0, 0, 1, 1, 1, 1, 1, 1, 1, 1, 1, 1, 1, 1, 1, 0, 0, 0, 1, 1, 1, 1, 0, 1, 1, 1, 1, 1, 1, 1, 1, 1, 1, 1, 1, 1, 1, 1, 1, 1, 1, 1, 1, 1, 1, 1, 1, 1, 1, 1, 1, 1, 1, 1, 1, 1, 1, 1, 1, 1, 1, 0, 1, 0, 0, 0, 1, 1, 1, 1, 1, 1, 1, 1, 1, 1, 1, 1, 1, 1, 1, 1, 0, 1, 1, 1, 1, 0, 0]
def q_kn (x : Nat) : Nat := q_knl.getD x 0
def q_pwkl : List Nat := [1604, 1533, 1666, 469, 990, 1879, 1710, 1762, 1189, 650, 1887, 1238, 1596, 806, 1612, 801, 466, 1607, 1620, 1164, 1171, 1750, 950, 1230, 1045, 793, 472, 1126, 1134, 1593, 1106, 1849, 1857, 1040, 1130, 814, 716, 1048, 1795, 1798, 1211, 819, 822, 1906, 1197, 835, 845, 849, 1801, 480, 1083, 1789, 1072, 1639, 1138, 1646, 1662, 1202, 1207, 331, 784, 1036, 463, 539, 542, 863, 994, 1753, 1898, 1902, 1584, 1785, 1854, 1079, 1829, 1051, 1809, 1159, 1875, 1883, 483, 1234, 1914, 788, 830, 841, 854, 912, 934, 946, 957, 975, 982, 1006, 1010, 1023, 1027, 1821, 1090, 1122, 1142, 1146, 1055, 1150, 1865, 1110, 1805, 1176, 193, 199, 456, 459, 476, 490, 1222, 1226, 1490, 1588, 1634, 1642, 1657, 858, 1670, 1701, 1717, 1721, 1725, 1706, 1741, 1745, 1737, 1765, 1773, 1777, 1014, 1833, 1697, 1861, 1087, 1654, 1193, 1894, 129, 137, 281, 381, 404, 428, 1217, 534, 1910, 546, 550, 555, 560, 564, 570, 627, 1447, 1452, 1456, 809, 1616, 872, 876, 1673, 1678, 880, 884, 1681, 889, 1685, 904, 1693, 963, 967, 972, 1729, 1734, 998, 1758, 1060, 1065, 1813, 1118, 1650, 1155, 1870, 1180, 1184, 1890, 1003, 979, 838, 1115, 908, 898, 893, 1100, 928, 943, 986, 938, 953, 916, 921, 1094, 1103, 931, 827, 757, 752, 772, 709, 567, 705, 745, 723, 781, 741, 713, 693, 733, 749, 697, 761, 765, 737, 769, 729, 777, 701, 631, 574, 796, 1019, 1031, 867, 1068, 1168, 1518, 1628, 1573, 1818, 1624, 1549, 1569, 1690, 1510, 1846, 1600, 1842, 1581, 1483, 1498, 1462, 1459, 1486, 1561, 1502, 1838, 1826, 1506, 1522, 1514, 1553, 1577, 1530, 1526, 1494, 1545, 1537, 1770, 1714, 1631, 1557, 1541, 1782, 1565, 1076, 901]
def q_pwk (x : Nat) : Nat := q_pwkl.getD x 0
def q_psl : List Nat := [74, 0, 82, 0, 0, 103, 87, 92, 41, 0, 105, 46, 0, 26, 75, 802, 0, 1608, 77, 39, 0, 90, 0, 44, 0, 25, 473, 1127, 1135, 72, 1107, 1850, 1858, 1041, 1131, 27, 0, 0, 95, 0, 1212, 28, 823, 1907, 1198, 29, 846, 850, 1802, 0, 0, 1790, 1073, 80, 1139, 1647, 81, 1203, 1208, 0, 785, 1037, 0, 1, 543, 864, 995, 1754, 1899, 1903, 1585, 1786, 101, 1080, 1830, 1052, 1810, 1160, 102, 104, 484, 45, 1915, 789, 831, 842, 855, 913, 935, 947, 958, 976, 983, 1007, 1011, 1024, 1028, 1822, 1091, 1123, 1143, 1147, 1056, 1151, 1866, 1111, 1806, 1177, 0, 0, 0, 460, 477, 491, 42, 43, 49, 1589, 1635, 1643, 1658, 859, 83, 1702, 1718, 1722, 1726, 86, 1742, 1746, 1738, 1766, 1774, 1778, 1015, 1834, 1698, 1862, 0, 0, 1194, 1895, 0, 0, 0, 0, 0, 0, 0, 535, 1911, 547, 551, 556, 2, 3, 0, 0, 1448, 47, 48, 810, 76, 873, 877, 1674, 84, 881, 885, 1682, 890, 1686, 905, 1694, 964, 968, 34, 1730, 89, 999, 91, 1061, 36, 1814, 1119, 1651, 1156, 1871, 1181, 1185, 1891, 35, 0, 0, 38, 909, 30, 894, 37, 32, 33, 987, 939, 954, 917, 31, 1095, 0, 0, 0, 19, 753, 773, 10, 0, 9, 17, 12, 24, 16, 11, 6, 14, 18, 7, 20, 21, 15, 22, 13, 23, 8, 5, 4, 797, 1020, 1032, 868, 1069, 40, 56, 79, 69, 96, 78, 63, 68, 85, 54, 100, 73, 99, 71, 0, 51, 0, 0, 0, 66, 52, 98, 97, 53, 57, 55, 64, 70, 59, 58, 50, 62, 60, 93, 88, 0, 65, 61, 94, 67, 0, 0]
def q_ps (x : Nat) : Nat := q_psl.getD x 0
def q_pil : List Nat := [119, 119, 119, 107, 107, 119, 119, 119, 115, 116, 119, 119, 119, 107, 119, 107, 107, 119, 119, 115, 115, 119, 107, 119, 107, 107, 111, 107, 107, 119, 107, 119, 119, 107, 115, 107, 125, 107, 119, 119, 107, 107, 110, 119, 115, 107, 107, 112, 119, 117, 107, 119, 107, 119, 111, 119, 119, 107, 107, 112, 107, 107, 116, 107, 107, 112, 107, 119, 119, 119, 119, 119, 119, 107, 119, 107, 119, 115, 119, 119, 112, 119, 119, 107, 107, 107, 107, 107, 107, 107, 107, 107, 107, 107, 107, 107, 107, 119, 107, 107, 107, 115, 112, 107, 119, 107, 119, 115, 109, 110, 107, 111, 112, 113, 119, 119, 119, 119, 119, 119, 119, 113, 119, 119, 119, 119, 119, 119, 119, 119, 119, 119, 119, 119, 112, 119, 119, 119, 107, 119, 107, 119, 107, 108, 111, 113, 114, 115, 119, 107, 119, 107, 108, 109, 108, 108, 108, 108, 119, 119, 119, 112, 119, 107, 112, 119, 119, 107, 112, 119, 107, 119, 107, 119, 107, 111, 111, 119, 119, 111, 119, 107, 107, 119, 107, 119, 107, 119, 107, 115, 119, 111, 107, 107, 107, 113, 113, 113, 114, 114, 114, 114, 114, 114, 114, 114, 114, 114, 114, 110, 110, 110, 110, 108, 108, 108, 108, 108, 108, 108, 108, 108, 108, 108, 108, 108, 108, 108, 108, 108, 108, 108, 108, 108, 112, 112, 112, 112, 112, 115, 119, 119, 119, 119, 119, 119, 119, 119, 119, 119, 119, 119, 119, 119, 119, 119, 119, 119, 119, 119, 119, 119, 119, 119, 119, 119, 119, 119, 119, 119, 119, 119, 119, 119, 119, 119, 119, 119, 119, 116, 116]
def q_pi (x : Nat) : Nat := q_pil.getD x 0
def q_pcl : List Nat := [1605, 1534, 1667, 470, 991, 1880, 1711, 1763, 1190, 651, 1888, 1239, 1597, 807, 1613, 803, 467, 1609, 1621, 1165, 1172, 1751, 951, 1231, 1046, 794, 474, 1128, 1136, 1594, 1108, 1851, 1859, 1042, 1132, 815, 717, 1049, 1796, 1799, 1213, 820, 824, 1908, 1199, 836, 847, 851, 1803, 481, 1084, 1791, 1074, 1640, 1140, 1648, 1663, 1204, 1209, 332, 786, 1038, 464, 540, 544, 865, 996, 1755, 1900, 1904, 1586, 1787, 1855, 1081, 1831, 1053, 1811, 1161, 1876, 1884, 485, 1235, 1916, 790, 832, 843, 856, 914, 936, 948, 959, 977, 984, 1008, 1012, 1025, 1029, 1823, 1092, 1124, 1144, 1148, 1057, 1152, 1867, 1112, 1807, 1178, 194, 200, 457, 461, 478, 492, 1223, 1227, 1491, 1590, 1636, 1644, 1659, 860, 1671, 1703, 1719, 1723, 1727, 1707, 1743, 1747, 1739, 1767, 1775, 1779, 1016, 1835, 1699, 1863, 1088, 1655, 1195, 1896, 130, 138, 282, 382, 405, 429, 1218, 536, 1912, 548, 552, 557, 561, 565, 571, 628, 1449, 1453, 1457, 811, 1617, 874, 878, 1675, 1679, 882, 886, 1683, 891, 1687, 906, 1695, 965, 969, 973, 1731, 1735, 1000, 1759, 1062, 1066, 1815, 1120, 1652, 1157, 1872, 1182, 1186, 1892, 1004, 980, 839, 1116, 910, 899, 895, 1101, 929, 944, 988, 940, 955, 918, 922, 1096, 1104, 932, 828, 758, 754, 774, 710, 568, 706, 746, 724, 782, 742, 714, 694, 734, 750, 698, 762, 766, 738, 770, 730, 778, 702, 632, 575, 798, 1021, 1033, 869, 1070, 1169, 1519, 1629, 1574, 1819, 1625, 1550, 1570, 1691, 1511, 1847, 1601, 1843, 1582, 1484, 1499, 1463, 1460, 1487, 1562, 1503, 1839, 1827, 1507, 1523, 1515, 1554, 1578, 1531, 1527, 1495, 1546, 1538, 1771, 1715, 1632, 1558, 1542, 1783, 1566, 1077, 902]
def q_pc (x : Nat) : Nat := q_pcl.getD x 0
theorem q_st_ok : ∀ x, x < 281 → Nat.beq (q_kn x) 0 = true → q_wat (q_pwk x) (Cond.static (q_y x)) = true := by decide +kernel
theorem q_in_ok : ∀ x, x < 281 → Nat.beq (q_kn x) 0 = false → q_wat (q_pwk x) (Cond.instanceMethod (q_y x)) = true := by decide +kernel
theorem q_se_ok : ∀ x, x < 281 → Nat.beq (q_kn x) 1 = true → q_wat (q_ps x) (Cond.selects (q_y x).cls (q_y x) (q_y x)) = true := by decide +kernel
theorem q_ini_ok : ∀ x, x < 281 → Nat.beq (q_kn x) 2 = true → (q_y x).name = "<init>" ∧ q_rt x = none := by decide +kernel
theorem q_pi_ok : ∀ x, x < 281 → q_wat (q_pi x) (Cond.initialized (q_y x).cls) = true := by decide +kernel
theorem q_ml_ok : ∀ x, x < 281 → q_ml x ≤ 21 ∧ (q_y x).cls ≠ "java/lang/invoke/MethodHandle" ∧ (q_y x).cls ≠ "java/lang/invoke/VarHandle" := by decide +kernel
def q_pa0 : Nat := 216
def q_pa1 : Nat := 188
def q_pa2 : Nat := 1445
def q_pa3 : Nat := 189
def q_pnsl : List Nat := [379, 402, 197, 279, 135, 329, 426, 191, 127, 1215]
def q_pns (x : Nat) : Nat := q_pnsl.getD x 0
def q_pisl : List Nat := [113, 114, 110, 111, 108, 112, 115, 109, 107, 119]
def q_pis (x : Nat) : Nat := q_pisl.getD x 0
end
section
/-! ===== a check of an instruction by numbers, and what it says ===== -/
def q_m4 (l : List (q_Q4 × Nat)) (a b c d : Nat) : Bool := l.any (fun t => Nat.beq t.1.1 a && (Nat.beq t.1.2.1 b && (Nat.beq t.1.2.2.1 c && Nat.beq t.1.2.2.2 d)))
def q_m3 (l : List (q_Q3 × Nat)) (a b c : Nat) : Bool := l.any (fun t => Nat.beq t.1.1 a && (Nat.beq t.1.2.1 b && Nat.beq t.1.2.2 c))
theorem q_m4_ok {l : List (q_Q4 × Nat)} {a b c d : Nat} (h : q_m4 l a b c d = true) : ∃ p, ((a, b, c, d), p) ∈ l := by
  obtain ⟨t, ht, h1⟩ := List.any_eq_true.mp h
  obtain ⟨h1, h2⟩ := q_ands h1
  obtain ⟨h2, h3⟩ := q_ands h2
  obtain ⟨h3, h4⟩ := q_ands h3
  obtain ⟨⟨t1, t2, t3, t4⟩, p⟩ := t
  have e1 := q_beq.mp h1
  have e2 := q_beq.mp h2
  have e3 := q_beq.mp h3
  have e4 := q_beq.mp h4
  simp only at e1 e2 e3 e4
  subst e1; subst e2; subst e3; subst e4
  exact ⟨p, ht⟩
theorem q_m3_ok {l : List (q_Q3 × Nat)} {a b c : Nat} (h : q_m3 l a b c = true) : ∃ p, ((a, b, c), p) ∈ l := by
  obtain ⟨t, ht, h1⟩ := List.any_eq_true.mp h
  obtain ⟨h1, h2⟩ := q_ands h1
  obtain ⟨h2, h3⟩ := q_ands h2
  obtain ⟨⟨t1, t2, t3⟩, p⟩ := t
  have e1 := q_beq.mp h1
  have e2 := q_beq.mp h2
  have e3 := q_beq.mp h3
  simp only at e1 e2 e3
  subst e1; subst e2; subst e3
  exact ⟨p, ht⟩
def q_zty (z : Nat) (ty : FieldType) : Bool := match ty with
  | .int => Nat.beq z 0
  | .boolean => Nat.beq z 1
  | .object _ => Nat.beq z 2
  | .array _ => Nat.beq z 2
  | .long => Nat.beq z 3
  | _ => false
def q_dty (c : Nat) (ty : FieldType) : Bool := match ty with
  | .int => Nat.beq c 0
  | .boolean => Nat.beq c 0
  | .object _ => Nat.beq c 4294967312
  | .array _ => Nat.beq c 4294967312
  | .long => Nat.beq c 4294967313
  | _ => false
def q_aty (x : Nat) (t : FieldType) : Bool := match t with
  | .int => Nat.beq x 1
  | .byte => Nat.beq x 3
  | .boolean => Nat.beq x 5
  | .long => Nat.beq x 7
  | _ => false
def q_rty (t : Option FieldType) (x : Nat) : Bool := match t with
  | some .int => Nat.beq x 0
  | some .boolean => Nat.beq x 1
  | _ => Nat.ble 2 x
def q_oty (t : Option FieldType) : Bool := match t with
  | some (.object _) => true
  | some (.array _) => true
  | _ => false
def q_nst (i n x : Nat) : Bool := q_nest.any (fun w => decide (w.1 = q_own (q_on i)) && (Nat.beq w.2.1 n && decide (w.2.2.1 = q_y x)))
def q_lkd (i n x : Nat) : Bool := q_m3 q_tm (q_on i) n x || q_nst i n x
def q_chk (i : Nat) (pc ln : Nat) (ins : Instr) (x y z : Nat) : Bool := match ins with
  | .iconst n => decide (ln = 1 ∧ x ≤ 4294967295 ∧ Int32.ofInt n = nI x)
  | .bipush n => decide (ln = 2 ∧ x ≤ 4294967295 ∧ (Int8.ofInt n).toInt32 = nI x)
  | .sipush n => decide (ln = 3 ∧ x ≤ 4294967295 ∧ (Int16.ofInt n).toInt32 = nI x)
  | .ldc n => Nat.beq z 99 || (decide (ln = 2 ∧ x ≤ 4294967295) && q_m3 q_tk (q_on i) n x)
  | .ldc_w n => Nat.beq z 99 || (decide (ln = 3 ∧ x ≤ 4294967295) && q_m3 q_tk (q_on i) n x)
  | .iload n => decide (ln = 2 ∧ n = x)
  | .aload n => decide (ln = 2 ∧ n = x)
  | .iload_n n => decide (ln = 1 ∧ (n : Nat) = x)
  | .aload_n n => decide (ln = 1 ∧ (n : Nat) = x)
  | .istore n => decide (ln = 2 ∧ n = x ∧ x < q_ml i)
  | .astore n => decide (ln = 2 ∧ n = x ∧ x < q_ml i)
  | .istore_n n => decide (ln = 1 ∧ (n : Nat) = x ∧ x < q_ml i)
  | .astore_n n => decide (ln = 1 ∧ (n : Nat) = x ∧ x < q_ml i)
  | .iinc n k => decide (ln = 3 ∧ n = x ∧ x < q_ml i ∧ y ≤ 4294967295 ∧ Int32.ofInt k = nI y)
  | .ifCond _ off => decide (ln = 3 ∧ (pc : Int) + off = (x : Int))
  | .if_icmp _ off => decide (ln = 3 ∧ (pc : Int) + off = (x : Int))
  | .ifnull off => decide (ln = 3 ∧ (pc : Int) + off = (x : Int))
  | .ifnonnull off => decide (ln = 3 ∧ (pc : Int) + off = (x : Int))
  | .goto off => decide (ln = 3 ∧ (pc : Int) + off = (x : Int))
  | .tableswitch df lo hi offs => decide (lo = (x : Int) ∧ hi = (y : Int) ∧ y < 2147483648 ∧ 0 ≤ (pc : Int) + df) && (Nat.beq offs.toList.length (y + 1 - x) && offs.toList.all (fun o => decide (0 ≤ (pc : Int) + o)))
  | .new n => decide (ln = 3 ∧ x < 10 ∧ y = (q_cls.getD x ("", q_F0, 0)).2.2) && (q_m3 q_tc (q_on i) n x && (List.range y).all (fun j => q_dty (q_get z j) ((q_fty.getD x (fun _ => .int)) j)))
  | .newarray t => decide (ln = 2) && q_aty x (newarray.typeOf t)
  | .anewarray n => decide (ln = 3) && q_m3 q_tc (q_on i) n 5
  | .getfield n => decide (ln = 3) && q_m4 q_tf (q_on i) n x y
  | .putfield n => decide (ln = 3) && (q_m4 q_tf (q_on i) n x y && (q_zty z ((q_fty.getD x (fun _ => .int)) y) && ((!((q_cls.getD x ("", q_F0, 0)).2.1 y).2.2.2) || (Nat.beq (q_kn i) 2 && Nat.beq x (q_on i)))))
  | .invokevirtual n => Nat.beq z 99 || (decide (ln = 3 ∧ x < q_nM ∧ y ≤ q_ml x ∧ 0 < y ∧ q_np x = y - 1 ∧ z < 10 ∧ q_on x = z) && (Nat.beq (q_kn x) 1 && q_m3 q_tm (q_on i) n x))
  | .invokestatic n => Nat.beq z 99 || (decide (ln = 3) && ((Nat.beq z 77 && q_m3 q_tm (q_on i) n 1000) || (decide (¬ z = 77 ∧ x < q_nM ∧ y ≤ q_ml x ∧ q_np x = y) && (Nat.beq (q_kn x) 0 && q_lkd i n x))))
  | .invokespecial n => Nat.beq z 99 || (decide (ln = 3) && ((Nat.beq z 78 && q_m3 q_tm (q_on i) n 1001) || (decide (¬ z = 78 ∧ x < q_nM ∧ y ≤ q_ml x ∧ 0 < y ∧ q_np x = y - 1) && (Nat.beq (q_kn x) 2 && q_lkd i n x))))
  | .ireturn => decide (ln = 1) && q_rty (q_rt i) x
  | .areturn => decide (ln = 1) && q_oty (q_rt i)
  | .return_ => decide (ln = 1) && decide (q_rt i = none)
  | .lconst _ | .aconst_null | .iadd | .isub | .imul | .iand | .ior | .ixor | .ineg | .idiv | .irem | .ishl | .ishr | .iushr | .i2b | .dup | .dup2 | .pop | .arraylength | .iaload | .baload | .aaload | .iastore | .bastore | .aastore => Nat.beq ln 1
  | _ => true
theorem q_cls_at : ∀ k, k < 10 → q_cls[k]? = some (q_cls.getD k ("", q_F0, 0)) := by
  intro k hk
  have : k < q_cls.length := hk
  rw [List.getElem?_eq_getElem this, List.getD_eq_getElem?_getD, List.getElem?_eq_getElem this]
  rfl
theorem q_own_cls : ∀ k, k < 10 → (q_cls.getD k ("", q_F0, 0)).1 = q_own k := by decide +kernel
theorem q_own_sand : q_own 5 = "SandNights$Sand" := rfl
theorem q_tf_at {a b c d p : Nat} (h : ((a, b, c, d), p) ∈ q_tf) : c < 10 ∧ d < (q_cls.getD c ("", q_F0, 0)).2.2 ∧ q_fw (a, b, c, d) ∈ q_w0 := by
  have h1 := List.all_eq_true.mp q_tf_ok _ h
  obtain ⟨h1, h2⟩ := q_ands h1
  obtain ⟨h2, h3⟩ := q_ands h2
  exact ⟨of_decide_eq_true h2, of_decide_eq_true h3, q_wat_ok h1⟩
theorem q_tm_at {a b c p : Nat} (h : ((a, b, c), p) ∈ q_tm) : Cond.methodLink (q_own a) b (q_yy c) ∈ q_w0 := q_wat_ok (List.all_eq_true.mp q_tm_ok _ h)
theorem q_tc_at {a b c p : Nat} (h : ((a, b, c), p) ∈ q_tc) : Cond.classLink (q_own a) b (q_own c) ∈ q_w0 := q_wat_ok (List.all_eq_true.mp q_tc_ok _ h)
theorem q_tk_at {a b c p : Nat} (h : ((a, b, c), p) ∈ q_tk) : Cond.constant (q_own a) b (nI c) ∈ q_w0 := q_wat_ok (List.all_eq_true.mp q_tk_ok _ h)
theorem q_yy_lt {x : Nat} (h : x < q_nM) : q_yy x = q_y x := by
  have h : x < 281 := h
  unfold q_yy
  rw [q_iff _ _ (q_bneq.mpr (by omega)), q_iff _ _ (q_bneq.mpr (by omega))]
theorem q_lkd_ok {i n x : Nat} (hi : i < q_nM) (hx : x < q_nM) (h : q_lkd i n x = true) : Cond.methodLink (q_y i).cls n (q_y x) ∈ q_w0 ∨ ∃ host, ((q_y i).cls, n, q_y x, host) ∈ q_nest := by
  rcases q_ors h with h | h
  · obtain ⟨p, hp⟩ := q_m3_ok h
    have := q_tm_at hp
    rw [q_yy_lt hx, ← q_on_ok i hi] at this
    exact Or.inl this
  · obtain ⟨w, hw, h1⟩ := List.any_eq_true.mp h
    obtain ⟨h1, h2⟩ := q_ands h1
    obtain ⟨h2, h3⟩ := q_ands h2
    obtain ⟨w1, w2, w3, w4⟩ := w
    have e1 : w1 = q_own (q_on i) := of_decide_eq_true h1
    have e2 : w2 = n := q_beq.mp h2
    have e3 : w3 = q_y x := of_decide_eq_true h3
    rw [← q_on_ok i hi] at e1
    subst e1; subst e2; subst e3
    exact Or.inr ⟨w4, hw⟩
theorem q_arr_w : ∀ t ∈ [FieldType.int, .byte, .boolean, .long], Cond.arrayClass t ∈ q_w0 := by
  intro t ht
  have : ∀ t ∈ [(FieldType.int, q_pa0), (FieldType.byte, q_pa1), (FieldType.boolean, q_pa2), (FieldType.long, q_pa3)], q_wat t.2 (Cond.arrayClass t.1) = true := by decide +kernel
  simp only [List.mem_cons, List.not_mem_nil, or_false] at ht
  rcases ht with rfl | rfl | rfl | rfl
  · exact q_wat_ok (this (FieldType.int, q_pa0) (by simp))
  · exact q_wat_ok (this (FieldType.byte, q_pa1) (by simp))
  · exact q_wat_ok (this (FieldType.boolean, q_pa2) (by simp))
  · exact q_wat_ok (this (FieldType.long, q_pa3) (by simp))
theorem q_cw : ∀ k, k < 10 → q_wat (q_pns k) (Cond.instantiable (q_cls.getD k ("", q_F0, 0)).1 (q_cls.getD k ("", q_F0, 0)).2.2) = true ∧ q_wat (q_pis k) (Cond.initialized (q_cls.getD k ("", q_F0, 0)).1) = true := by decide +kernel
theorem q_fpar : ∀ k, k < 10 → ∀ j, j < (q_cls.getD k ("", q_F0, 0)).2.2 → parseFieldDescriptor ((q_cls.getD k ("", q_F0, 0)).2.1 j).2.2.1 = some ((q_fty.getD k (fun _ => .int)) j) ∧ ((q_cls.getD k ("", q_F0, 0)).2.1 j).1 = q_own k := by decide +kernel
theorem q_chk_ok {i pc ln : Nat} {ins : Instr} {x y z : Nat} (hi : i < q_nM) (h : q_chk i pc ln ins x y z = true) : q_lnk i pc ln ins x y z := by
  have hon := q_on_ok i hi
  cases ins
  case iconst n =>
    have h9 := @of_decide_eq_true _ _ h
    exact h9
  case bipush n =>
    have h9 := @of_decide_eq_true _ _ h
    exact h9
  case sipush n =>
    have h9 := @of_decide_eq_true _ _ h
    exact h9
  case ldc n =>
    rcases q_ors h with h | h
    · exact Or.inl (q_beq.mp h)
    · obtain ⟨h1, h2⟩ := q_ands h
      obtain ⟨p, hp⟩ := q_m3_ok h2
      have h1 := of_decide_eq_true h1
      exact Or.inr ⟨h1.1, h1.2, by rw [hon]; exact q_tk_at hp⟩
  case ldc_w n =>
    rcases q_ors h with h | h
    · exact Or.inl (q_beq.mp h)
    · obtain ⟨h1, h2⟩ := q_ands h
      obtain ⟨p, hp⟩ := q_m3_ok h2
      have h1 := of_decide_eq_true h1
      exact Or.inr ⟨h1.1, h1.2, by rw [hon]; exact q_tk_at hp⟩
  case iload n =>
    have h9 := @of_decide_eq_true _ _ h
    exact h9
  case aload n =>
    have h9 := @of_decide_eq_true _ _ h
    exact h9
  case iload_n n =>
    have h9 := @of_decide_eq_true _ _ h
    exact h9
  case aload_n n =>
    have h9 := @of_decide_eq_true _ _ h
    exact h9
  case istore n =>
    have h9 := @of_decide_eq_true _ _ h
    exact h9
  case astore n =>
    have h9 := @of_decide_eq_true _ _ h
    exact h9
  case istore_n n =>
    have h9 := @of_decide_eq_true _ _ h
    exact h9
  case astore_n n =>
    have h9 := @of_decide_eq_true _ _ h
    exact h9
  case iinc n k =>
    have h9 := @of_decide_eq_true _ _ h
    exact h9
  case ifCond c off =>
    have h9 := @of_decide_eq_true _ _ h
    exact h9
  case if_icmp c off =>
    have h9 := @of_decide_eq_true _ _ h
    exact h9
  case ifnull off =>
    have h9 := @of_decide_eq_true _ _ h
    exact h9
  case ifnonnull off =>
    have h9 := @of_decide_eq_true _ _ h
    exact h9
  case goto off =>
    have h9 := @of_decide_eq_true _ _ h
    exact h9
  case tableswitch df lo hi offs =>
    obtain ⟨h1, h2⟩ := q_ands h
    obtain ⟨h2, h3⟩ := q_ands h2
    obtain ⟨a1, a2, a3, a4⟩ := of_decide_eq_true h1
    refine ⟨a1, a2, a3, a4, fun j hj => ?_⟩
    have hl := q_beq.mp h2
    have hlt : j < offs.toList.length := by omega
    refine ⟨offs.toList[j], ?_, of_decide_eq_true (List.all_eq_true.mp h3 _ (List.getElem_mem hlt))⟩
    rw [← Array.getElem?_toList, List.getElem?_eq_getElem hlt]
  case new n =>
    obtain ⟨h1, h2⟩ := q_ands h
    obtain ⟨h2, h3⟩ := q_ands h2
    obtain ⟨a1, a2, a3⟩ := of_decide_eq_true h1
    obtain ⟨p, hp⟩ := q_m3_ok h2
    have hw := q_cw x a2
    refine ⟨a1, _, q_cls_at x a2, a3, ?_, ?_, q_wat_ok hw.2, fun j hj => ?_⟩
    · rw [hon, q_own_cls x a2]; exact q_tc_at hp
    · rw [a3]; exact q_wat_ok hw.1
    · have h4 := List.all_eq_true.mp h3 j (List.mem_range.mpr hj)
      generalize (q_fty.getD x (fun _ => FieldType.int)) j = ty at h4 ⊢
      cases ty with
      | int => exact Or.inr (Or.inl ⟨q_beq.mp h4, rfl⟩)
      | boolean => exact Or.inr (Or.inr (Or.inl ⟨q_beq.mp h4, rfl⟩))
      | object c => exact Or.inr (Or.inr (Or.inr ⟨q_beq.mp h4, rfl⟩))
      | array c => exact Or.inr (Or.inr (Or.inr ⟨q_beq.mp h4, rfl⟩))
      | long => exact Or.inl ⟨q_beq.mp h4, rfl⟩
      | _ => cases h4
  case newarray t =>
    obtain ⟨h1, h2⟩ := q_ands h
    have h1 := of_decide_eq_true h1
    show ln = 2 ∧ Cond.arrayClass (newarray.typeOf t) ∈ q_w0 ∧ ((x = 1 ∧ newarray.typeOf t = .int) ∨ (x = 3 ∧ newarray.typeOf t = .byte) ∨ (x = 5 ∧ newarray.typeOf t = .boolean) ∨ (x = 7 ∧ newarray.typeOf t = .long))
    generalize newarray.typeOf t = ty at h2 ⊢
    cases ty with
    | int => exact ⟨h1, q_arr_w _ (by simp), Or.inl ⟨q_beq.mp h2, rfl⟩⟩
    | byte => exact ⟨h1, q_arr_w _ (by simp), Or.inr (Or.inl ⟨q_beq.mp h2, rfl⟩)⟩
    | boolean => exact ⟨h1, q_arr_w _ (by simp), Or.inr (Or.inr (Or.inl ⟨q_beq.mp h2, rfl⟩))⟩
    | long => exact ⟨h1, q_arr_w _ (by simp), Or.inr (Or.inr (Or.inr ⟨q_beq.mp h2, rfl⟩))⟩
    | _ => cases h2
  case anewarray n =>
    obtain ⟨h1, h2⟩ := q_ands h
    obtain ⟨p, hp⟩ := q_m3_ok h2
    exact ⟨of_decide_eq_true h1, by rw [hon]; exact q_tc_at hp⟩
  case getfield n =>
    obtain ⟨h1, h2⟩ := q_ands h
    obtain ⟨p, hp⟩ := q_m4_ok h2
    obtain ⟨a1, a2, a3⟩ := q_tf_at hp
    exact ⟨of_decide_eq_true h1, _, q_cls_at x a1, a2, by rw [hon]; exact a3⟩
  case putfield n =>
    obtain ⟨h1, h2⟩ := q_ands h
    obtain ⟨h2, h3⟩ := q_ands h2
    obtain ⟨h3, h4⟩ := q_ands h3
    obtain ⟨p, hp⟩ := q_m4_ok h2
    obtain ⟨a1, a2, a3⟩ := q_tf_at hp
    have hfp := q_fpar x a1 y a2
    refine ⟨of_decide_eq_true h1, _, q_cls_at x a1, a2, by rw [hon]; exact a3, ?_, _, hfp.1, ?_⟩
    · rcases q_ors h4 with h4 | h4
      · left
        cases hb : ((q_cls.getD x ("", q_F0, 0)).2.1 y).2.2.2 with
        | false => rfl
        | true => rw [hb] at h4; cases h4
      · obtain ⟨b1, b2⟩ := q_ands h4
        cases hb : ((q_cls.getD x ("", q_F0, 0)).2.1 y).2.2.2 with
        | false => exact Or.inl rfl
        | true => exact Or.inr ⟨rfl, (q_ini_ok i hi b1).1, by rw [hfp.2, hon, q_beq.mp b2]⟩
    · generalize (q_fty.getD x (fun _ => FieldType.int)) y = ty at h3 ⊢
      cases ty with
      | int => exact Or.inl ⟨q_beq.mp h3, rfl⟩
      | boolean => exact Or.inr (Or.inl ⟨q_beq.mp h3, rfl⟩)
      | object c => exact Or.inr (Or.inr (Or.inl ⟨q_beq.mp h3, Or.inl ⟨c, rfl⟩⟩))
      | array c => exact Or.inr (Or.inr (Or.inl ⟨q_beq.mp h3, Or.inr ⟨c, rfl⟩⟩))
      | long => exact Or.inr (Or.inr (Or.inr ⟨q_beq.mp h3, rfl⟩))
      | _ => cases h3
  case invokevirtual n =>
    rcases q_ors h with h | h
    · exact Or.inl (q_beq.mp h)
    · obtain ⟨h1, h2⟩ := q_ands h
      obtain ⟨h2, h3⟩ := q_ands h2
      obtain ⟨a1, a2, a3, a4, a5, a6, a7⟩ := of_decide_eq_true h1
      obtain ⟨p, hp⟩ := q_m3_ok h3
      have hm := q_tm_at hp
      rw [q_yy_lt a2, ← hon] at hm
      have k0 : Nat.beq (q_kn x) 0 = false := q_bneq.mpr (by rw [q_beq.mp h2]; decide)
      refine Or.inr ⟨a1, a2, a3, a4, by rw [← a5]; exact q_np_ok x a2, q_wat_ok (q_in_ok x a2 k0), q_wat_ok (q_se_ok x a2 h2), ⟨_, q_cls_at z a6, ?_⟩, hm⟩
      rw [q_own_cls z a6, q_on_ok x a2, a7]
  case invokestatic n =>
    rcases q_ors h with h | h
    · exact Or.inl (q_beq.mp h)
    · obtain ⟨h1, h2⟩ := q_ands h
      refine Or.inr ⟨of_decide_eq_true h1, ?_⟩
      rcases q_ors h2 with h2 | h2
      · obtain ⟨h2, h3⟩ := q_ands h2
        obtain ⟨p, hp⟩ := q_m3_ok h3
        exact Or.inl ⟨q_beq.mp h2, by rw [hon]; exact q_tm_at hp⟩
      · obtain ⟨h2, h3⟩ := q_ands h2
        obtain ⟨h3, h4⟩ := q_ands h3
        obtain ⟨a1, a2, a3, a4⟩ := of_decide_eq_true h2
        exact Or.inr ⟨a1, a2, a3, by rw [← a4]; exact q_np_ok x a2, q_wat_ok (q_st_ok x a2 h3), q_lkd_ok hi a2 h4⟩
  case invokespecial n =>
    rcases q_ors h with h | h
    · exact Or.inl (q_beq.mp h)
    · obtain ⟨h1, h2⟩ := q_ands h
      refine Or.inr ⟨of_decide_eq_true h1, ?_⟩
      rcases q_ors h2 with h2 | h2
      · obtain ⟨h2, h3⟩ := q_ands h2
        obtain ⟨p, hp⟩ := q_m3_ok h3
        exact Or.inl ⟨q_beq.mp h2, by rw [hon]; exact q_tm_at hp⟩
      · obtain ⟨h2, h3⟩ := q_ands h2
        obtain ⟨h3, h4⟩ := q_ands h3
        obtain ⟨a1, a2, a3, a4, a5⟩ := of_decide_eq_true h2
        have k0 : Nat.beq (q_kn x) 0 = false := q_bneq.mpr (by rw [q_beq.mp h3]; decide)
        exact Or.inr ⟨a1, a2, a3, a4, by rw [← a5]; exact q_np_ok x a2, (q_ini_ok x a2 h3).1, (q_ini_ok x a2 h3).2, q_wat_ok (q_in_ok x a2 k0), q_lkd_ok hi a2 h4⟩
  case ireturn =>
    obtain ⟨h1, h2⟩ := q_ands h
    refine ⟨of_decide_eq_true h1, ?_⟩
    generalize q_rt i = t at h2 ⊢
    cases t with
    | none => exact Or.inr (Or.inr (q_ble.mp h2))
    | some ty =>
      cases ty with
      | int => exact Or.inl ⟨q_beq.mp h2, rfl⟩
      | boolean => exact Or.inr (Or.inl ⟨q_beq.mp h2, rfl⟩)
      | _ => exact Or.inr (Or.inr (q_ble.mp h2))
  case areturn =>
    obtain ⟨h1, h2⟩ := q_ands h
    refine ⟨of_decide_eq_true h1, ?_⟩
    generalize q_rt i = t at h2 ⊢
    cases t with
    | none => cases h2
    | some ty =>
      cases ty with
      | object c => exact ⟨_, rfl, Or.inl ⟨c, rfl⟩⟩
      | array c => exact ⟨_, rfl, Or.inr ⟨c, rfl⟩⟩
      | _ => cases h2
  case return_ =>
    obtain ⟨h1, h2⟩ := q_ands h
    exact ⟨of_decide_eq_true h1, of_decide_eq_true h2⟩
  all_goals first | exact q_beq.mp h | exact trivial
end
section
/-! the tag of a Sand, its constructor -/
def z_tS : Nat := 16
def z_sI : Nat := 59
/-- what keeps an act -/
def z_kI : Nat := 121
end
section
/-! ===== an evaluator of the bytecode over symbols with bounds; cells have tags =====
a code (k, s, b): k 0: the int of symbol s, b - 2^31 more (symbol 0 is the int 0); k 1: the ref of symbol s (or null), to a cell of tag b; k 2, b 0: null; k 2, b + 1: an int that is 0 just if the long of symbol s is the long constant b; k 3: the long of symbol s (s > 0), or the long constant b (s = 0); k 4: the text constant b; k 9: nothing known
numbers are taken 2^31 higher than they are -/
abbrev z_C : Type := Nat × Nat × Nat
/-- what a cell holds: symbol of the ref, its tag, the place, the value -/
abbrev z_A : Type := Nat × Nat × z_C × z_C
/-- an int read at a place of an array of a tag -/
abbrev z_B : Type := Nat × Nat × z_C
/-- how many symbols, their lower and upper bounds (of a ref: lower bound 1: not null), facts, dependents, Sands made -/
abbrev z_V : Type := Nat × Nat × Nat × List z_A × List z_B × Nat
/-- an end: pc, symbols, locals, stack -/
abbrev z_O : Type := Nat × z_V × List z_C × List z_C
/-- kind (0 object; 1 int, 3 byte, 5 boolean, 7 long, 9 Sand array), class or length, fields or segments, period, 1: dependents are noted, 2: facts at any place -/
abbrev z_T : Type := Nat × Nat × List z_C × Nat × Nat
/-- a loop: method and pc, locals in bounds, long locals, dead locals, facts that go, facts in bounds, facts that are a local's, the measure -/
abbrev z_N : Type := Nat × Nat × List z_C × List Nat × List Nat × List z_C × List (Nat × Nat × Nat × Nat) × List z_C × List (Nat × Nat)
/-- a contract: method, args, facts that it wants, what it writes, Sands made, depth, is there an answer, answers, facts behind it -/
abbrev z_M : Type := Nat × List z_C × List (Nat × Nat × z_C) × List z_C × Nat × Nat × Bool × List z_C × List (Nat × Nat × z_C)
/-- a loop that is being gone through: method's pc, symbols before, bounds of the new ones, where they come from, locals, facts, Sands made, the measure -/
abbrev z_X : Type := Nat × Nat × List z_C × List (Nat × Nat × Nat × z_C) × List z_C × List z_A × Nat × List (Nat × Nat)
def z_max (a b : Nat) : Nat := bif Nat.ble a b then b else a
def z_min (a b : Nat) : Nat := bif Nat.ble a b then a else b
def z_ceq (a b : z_C) : Bool := Nat.beq a.1 b.1 && (Nat.beq a.2.1 b.2.1 && Nat.beq a.2.2 b.2.2)
def z_il (v : z_V) (c : z_C) : Nat := Nat.sub (Nat.add (q_get v.2.1 c.2.1) c.2.2) 2147483648
def z_ih (v : z_V) (c : z_C) : Nat := Nat.sub (Nat.add (q_get v.2.2.1 c.2.1) c.2.2) 2147483648
def z_nn (v : z_V) (c : z_C) : Bool := Nat.beq c.1 1 && Nat.beq (q_get v.2.1 c.2.1) 1
def z_push (v : z_V) (a b : Nat) : z_V := (Nat.succ v.1, q_set v.2.1 v.1 a, q_set v.2.2.1 v.1 b, v.2.2.2)
noncomputable def z_frv {α : Type} (v : z_V) (k : z_V → α) : α := q_fr v.1 (fun n => q_fr v.2.1 (fun lo => q_fr v.2.2.1 (fun hi => k (n, lo, hi, v.2.2.2))))
/-- an int between bounds -/
noncomputable def z_fi {α : Type} (v : z_V) (lo hi : Nat) (k : z_V → z_C → Option α) : Option α := bif Nat.beq lo hi then q_fr lo (fun l => k v (0, 0, l)) else bif Nat.ble lo 4294967295 && Nat.ble hi 4294967295 then q_fr lo (fun l => q_fr hi (fun h => z_frv (z_push v l h) (fun w => k w (0, v.1, 2147483648)))) else none
/-- what a type gives -/
noncomputable def z_ld {α : Type} (v : z_V) (t : z_C) (k : z_V → z_C → Option α) : Option α := bif Nat.beq t.1 0 then z_fi v t.2.1 t.2.2 k else bif Nat.beq t.1 1 then z_frv (z_push v 1 0) (fun w => k w (1, v.1, t.2.1)) else bif Nat.beq t.1 2 then z_frv (z_push v 0 0) (fun w => k w (1, v.1, t.2.1)) else bif Nat.beq t.1 3 then z_frv (z_push v 0 0) (fun w => k w (3, v.1, 0)) else none
/-- is a code of a type -/
def z_fit (v : z_V) (t c : z_C) : Bool := bif Nat.beq t.1 0 then Nat.beq c.1 0 && (Nat.ble t.2.1 (z_il v c) && Nat.ble (z_ih v c) t.2.2) else bif Nat.beq t.1 1 then z_nn v c && Nat.beq c.2.2 t.2.1 else bif Nat.beq t.1 2 then (Nat.beq c.1 1 && Nat.beq c.2.2 t.2.1) || (Nat.beq c.1 2 && Nat.beq c.2.2 0) else bif Nat.beq t.1 3 then Nat.beq c.1 3 else false
/-- a code's int between bounds -/
noncomputable def z_rf (v : z_V) (c : z_C) (lo hi : Nat) : Option z_V := bif Nat.beq c.2.1 0 then (bif Nat.ble lo c.2.2 && Nat.ble c.2.2 hi then some v else none) else q_fr (z_max (q_get v.2.1 c.2.1) (z_min (Nat.sub (Nat.add lo 2147483648) c.2.2) 17179869183)) (fun a => q_fr (z_min (q_get v.2.2.1 c.2.1) (Nat.sub (Nat.add hi 2147483648) c.2.2)) (fun b => bif Nat.ble a b then q_fr (q_set v.2.1 c.2.1 a) (fun l => q_fr (q_set v.2.2.1 c.2.1 b) (fun h => some (v.1, l, h, v.2.2.2))) else none))
noncomputable def z_rf2 (v : z_V) (c : z_C) (lo hi : Nat) (e : z_C) (lo2 hi2 : Nat) : Option z_V := match z_rf v c lo hi with
  | none => none
  | some w => z_rf w e lo2 hi2
/-- a is below b -/
noncomputable def z_lt (v : z_V) (a b : z_C) : Option z_V := bif Nat.beq a.2.1 b.2.1 then (bif Nat.blt a.2.2 b.2.2 then some v else none) else z_rf2 v a 0 (Nat.sub (z_ih v b) 1) b (Nat.succ (z_il v a)) 4294967295
noncomputable def z_ge (v : z_V) (a b : z_C) : Option z_V := bif Nat.beq a.2.1 b.2.1 then (bif Nat.ble b.2.2 a.2.2 then some v else none) else z_rf2 v a (z_il v b) 4294967295 b 0 (z_ih v a)
noncomputable def z_eq (v : z_V) (a b : z_C) : Option z_V := bif Nat.beq a.2.1 b.2.1 then (bif Nat.beq a.2.2 b.2.2 then some v else none) else z_rf2 v a (z_il v b) (z_ih v b) b (z_il v a) (z_ih v a)
/-- a is not c, which is told -/
noncomputable def z_ne1 (v : z_V) (a : z_C) (c : Nat) : Option z_V := bif Nat.beq (z_il v a) c then (bif Nat.beq (z_ih v a) c then none else z_rf v a (Nat.succ c) 4294967295) else bif Nat.beq (z_ih v a) c then z_rf v a 0 (Nat.sub c 1) else some v
noncomputable def z_ne (v : z_V) (a b : z_C) : Option z_V := bif Nat.beq a.2.1 b.2.1 then (bif Nat.beq a.2.2 b.2.2 then none else some v) else bif Nat.beq b.2.1 0 then z_ne1 v a b.2.2 else bif Nat.beq a.2.1 0 then z_ne1 v b a.2.2 else some v
noncomputable def z_opl {α : Type} (o : Option α) : List α := match o with
  | none => []
  | some x => [x]
/-- the symbols where a comparison holds: none, one, or two lots -/
noncomputable def z_cs (v : z_V) (c : ClassFile.Cond) (a b : z_C) : List z_V := match c with
  | .lt => z_opl (z_lt v a b)
  | .ge => z_opl (z_ge v a b)
  | .gt => z_opl (z_lt v b a)
  | .le => z_opl (z_ge v b a)
  | .eq => z_opl (z_eq v a b)
  | .ne => bif z_ceq b (0, 0, 2147483648) && (Nat.blt (z_il v a) 2147483648 && Nat.blt 2147483648 (z_ih v a)) then z_opl (z_lt v a b) ++ z_opl (z_lt v b a) else z_opl (z_ne v a b)
def z_ng (c : ClassFile.Cond) : ClassFile.Cond := match c with
  | .lt => .ge
  | .ge => .lt
  | .gt => .le
  | .le => .gt
  | .eq => .ne
  | .ne => .eq
/-- the fact at a place -/
noncomputable def z_fg (fs : List z_A) (s : Nat) (ic : z_C) : Option z_C := List.rec none (fun f _ ih => bif Nat.beq f.1 s && z_ceq f.2.2.1 ic then some f.2.2.2 else ih) fs
noncomputable def z_flt {α : Type} (p : α → Bool) (l : List α) : List α := List.rec [] (fun a _ ih => bif p a then a :: ih else ih) l
noncomputable def z_any {α : Type} (p : α → Bool) (l : List α) : Bool := List.rec false (fun a _ ih => bif p a then true else ih) l
noncomputable def z_all {α : Type} (p : α → Bool) (l : List α) : Bool := List.rec true (fun a _ ih => bif p a then ih else false) l
/-- a write of c at place ic (between lo and hi) of a cell of tag t: which facts stay -/
def z_kp (v : z_V) (t : Nat) (ic : z_C) (lo hi : Nat) (c : z_C) (f : z_A) : Bool := bif Nat.beq f.2.1 t then z_ceq f.2.2.2 c || ((Nat.beq f.2.2.1.2.1 ic.2.1 && not (Nat.beq f.2.2.1.2.2 ic.2.2)) || (Nat.blt (z_ih v f.2.2.1) lo || Nat.blt hi (z_il v f.2.2.1))) else true
/-- writes between lo and hi of cells of tag t -/
def z_kq (v : z_V) (k : z_C) (f : z_A) : Bool := bif Nat.beq f.2.1 k.1 then Nat.blt (z_ih v f.2.2.1) k.2.1 || Nat.blt k.2.2 (z_il v f.2.2.1) else true
noncomputable def z_kw (kw : List z_C) (t lo hi : Nat) : Bool := z_any (fun e => Nat.beq e.1 t && (Nat.ble e.2.1 lo && Nat.ble hi e.2.2)) kw
/-- the segment of a place; bounds of those between a and b: widest, narrowest -/
noncomputable def z_el (fl : List z_C) : Nat → Nat × Nat := List.rec (fun _ => (0, 4294967295)) (fun s _ ih j => bif Nat.blt j s.1 then s.2 else ih j) fl
noncomputable def z_hu (fl : List z_C) : Nat → Nat → Nat × Nat := List.rec (fun _ _ => (0, 4294967295)) (fun s _ ih a b => bif Nat.ble s.1 a then ih a b else bif Nat.blt b s.1 then s.2 else (fun r : Nat × Nat => (z_min s.2.1 r.1, z_max s.2.2 r.2)) (ih s.1 b)) fl
noncomputable def z_na (fl : List z_C) : Nat → Nat → Nat × Nat := List.rec (fun _ _ => (0, 4294967295)) (fun s _ ih a b => bif Nat.ble s.1 a then ih a b else bif Nat.blt b s.1 then s.2 else (fun r : Nat × Nat => (z_max s.2.1 r.1, z_min s.2.2 r.2)) (ih s.1 b)) fl
noncomputable def z_rng {α : Type} (per a b : Nat) (k : Nat → Nat → α) : α := bif Nat.beq (Nat.div a per) (Nat.div b per) then q_fr (Nat.mod a per) (fun x => q_fr (Nat.mod b per) (fun y => k x y)) else q_fr (Nat.sub per 1) (fun y => k 0 y)
noncomputable def z_leq (a : List z_C) : List z_C → Bool := List.rec (fun b => match b with
  | [] => true
  | _ => false) (fun x _ ih b => match b with
  | [] => false
  | y :: t => z_ceq x y && ih t) a
def z_addF (v : z_V) (f : z_A) : z_V := (v.1, v.2.1, v.2.2.1, f :: v.2.2.2.1, v.2.2.2.2)
def z_setF (v : z_V) (fs : List z_A) : z_V := (v.1, v.2.1, v.2.2.1, fs, v.2.2.2.2)
def z_addD (v : z_V) (d : z_B) : z_V := (v.1, v.2.1, v.2.2.1, v.2.2.2.1, d :: v.2.2.2.2.1, v.2.2.2.2.2)
def z_addM (v : z_V) (a : Nat) : z_V := (v.1, v.2.1, v.2.2.1, v.2.2.2.1, v.2.2.2.2.1, Nat.add v.2.2.2.2.2 a)
def z_setM (v : z_V) (a : Nat) : z_V := (v.1, v.2.1, v.2.2.1, v.2.2.2.1, v.2.2.2.2.1, a)
def z_kc (k : Nat) : z_C := (0, 0, Nat.add 2147483648 k)
/-! arithmetic -/
noncomputable def z_an {α : Type} (v : z_V) (k : z_V → z_C → Option α) : Option α := z_fi v 0 4294967295 k
noncomputable def z_oadd {α : Type} (v : z_V) (a b : z_C) (k : z_V → z_C → Option α) : Option α := bif Nat.ble 2147483648 (Nat.add (z_il v a) (z_il v b)) && Nat.blt (Nat.add (z_ih v a) (z_ih v b)) 6442450944 then (bif Nat.ble 2147483648 (Nat.add a.2.2 b.2.2) && (Nat.beq a.2.1 0 || Nat.beq b.2.1 0) then q_fr (Nat.sub (Nat.add a.2.2 b.2.2) 2147483648) (fun o => k v (0, Nat.add a.2.1 b.2.1, o)) else z_fi v (Nat.sub (Nat.add (z_il v a) (z_il v b)) 2147483648) (Nat.sub (Nat.add (z_ih v a) (z_ih v b)) 2147483648) k) else z_an v k
noncomputable def z_osub {α : Type} (v : z_V) (a b : z_C) (k : z_V → z_C → Option α) : Option α := bif Nat.ble (z_ih v b) (Nat.add (z_il v a) 2147483648) && Nat.blt (Nat.add (z_ih v a) 2147483648) (Nat.add (z_il v b) 4294967296) then (bif Nat.ble b.2.2 (Nat.add a.2.2 2147483648) && Nat.beq b.2.1 0 then q_fr (Nat.sub (Nat.add a.2.2 2147483648) b.2.2) (fun o => k v (0, a.2.1, o)) else z_fi v (Nat.sub (Nat.add (z_il v a) 2147483648) (z_ih v b)) (Nat.sub (Nat.add (z_ih v a) 2147483648) (z_il v b)) k) else z_an v k
def z_po (v : z_V) (a : z_C) : Bool := Nat.ble 2147483648 (z_il v a)
def z_ul (v : z_V) (a : z_C) : Nat := Nat.sub (z_il v a) 2147483648
def z_uh (v : z_V) (a : z_C) : Nat := Nat.sub (z_ih v a) 2147483648
noncomputable def z_omul {α : Type} (v : z_V) (a b : z_C) (k : z_V → z_C → Option α) : Option α := bif z_po v a && (z_po v b && Nat.blt (Nat.mul (z_uh v a) (z_uh v b)) 2147483648) then z_fi v (Nat.add 2147483648 (Nat.mul (z_ul v a) (z_ul v b))) (Nat.add 2147483648 (Nat.mul (z_uh v a) (z_uh v b))) k else z_an v k
noncomputable def z_oand {α : Type} (v : z_V) (a b : z_C) (k : z_V → z_C → Option α) : Option α := bif z_po v a then z_fi v 2147483648 (bif z_po v b then z_min (z_ih v a) (z_ih v b) else z_ih v a) k else bif z_po v b then z_fi v 2147483648 (z_ih v b) k else z_an v k
noncomputable def z_oor {α : Type} (v : z_V) (a b : z_C) (k : z_V → z_C → Option α) : Option α := bif z_po v a && z_po v b then z_fi v 2147483648 4294967295 k else z_an v k
noncomputable def z_odiv {α : Type} (v : z_V) (a b : z_C) (k : z_V → z_C → Option α) : Option α := bif Nat.blt 2147483648 (z_il v b) then (bif z_po v a then z_fi v (Nat.add 2147483648 (Nat.div (z_ul v a) (z_uh v b))) (Nat.add 2147483648 (Nat.div (z_uh v a) (z_ul v b))) k else z_an v k) else bif Nat.blt (z_ih v b) 2147483648 then z_an v k else none
noncomputable def z_orem {α : Type} (v : z_V) (a b : z_C) (k : z_V → z_C → Option α) : Option α := bif Nat.blt 2147483648 (z_il v b) then (bif z_po v a then z_fi v 2147483648 (z_min (z_ih v a) (Nat.sub (z_ih v b) 1)) k else z_fi v (Nat.sub 4294967297 (z_ih v b)) (Nat.sub (z_ih v b) 1) k) else bif Nat.blt (z_ih v b) 2147483648 then z_an v k else none
noncomputable def z_oshl {α : Type} (v : z_V) (a b : z_C) (k : z_V → z_C → Option α) : Option α := bif z_ceq a (0, 0, 2147483649) && (z_po v b && Nat.ble (z_ih v b) 2147483678) then z_fi v (Nat.add 2147483648 (Nat.pow 2 (z_ul v b))) (Nat.add 2147483648 (Nat.pow 2 (z_uh v b))) k else z_an v k
noncomputable def z_oshr {α : Type} (v : z_V) (a : z_C) (k : z_V → z_C → Option α) : Option α := bif z_po v a then z_fi v 2147483648 (z_ih v a) k else z_an v k
noncomputable def z_oneg {α : Type} (v : z_V) (a : z_C) (k : z_V → z_C → Option α) : Option α := bif Nat.ble 1 (z_il v a) then z_fi v (Nat.sub 4294967296 (z_ih v a)) (Nat.sub 4294967296 (z_il v a)) k else z_an v k
/-! ends -/
def z_app (a b : Option (List z_O)) : Option (List z_O) := match a with
  | none => none
  | some x => (match b with
    | none => none
    | some y => some (x ++ y))
noncomputable def z_fold {α : Type} (l : List α) (f : α → Option (List z_O)) : Option (List z_O) := List.rec (some []) (fun a _ acc => z_app (f a) acc) l
abbrev z_F : Type := Nat × Nat → Nat → List q_I → List q_I → z_V → List z_C → List z_C → List Nat → List z_X → Option (List z_O)
noncomputable def z_nth (l : List z_C) (k : Nat) : z_C := q_nth l (9, 0, 0) k
noncomputable def z_lset (l : List z_C) : Nat → z_C → List z_C := List.rec (fun _ _ => []) (fun a t ih k c => Nat.rec (c :: t) (fun k' _ => a :: ih k' c) k) l
/-- a local is stored: a long that lies over its slot is gone -/
noncomputable def z_st1 (L : List z_C) (x : Nat) (c : z_C) : List z_C := Nat.rec (z_lset L 0 c) (fun y _ => bif Nat.beq (z_nth L y).1 3 then z_lset (z_lset L y (9, 0, 0)) (Nat.succ y) c else z_lset L (Nat.succ y) c) x
noncomputable def z_st2 (L : List z_C) (x : Nat) (c : z_C) : List z_C := z_lset (z_st1 L x c) (Nat.succ x) (9, 0, 0)
/-- slots of the args -/
noncomputable def z_sl (as : List z_C) : List z_C := List.rec [] (fun c _ ih => bif Nat.beq c.1 3 then c :: (9, 0, 0) :: ih else c :: ih) as
noncomputable def z_pad (n : Nat) (l : List z_C) : List z_C := l ++ List.replicate (Nat.sub n (q_len l)) (9, 0, 0)
noncomputable def z_pp (n : Nat) : List z_C → List z_C → Option (List z_C × List z_C) := Nat.rec (fun s acc => some (acc, s)) (fun _ ih s acc => match s with
  | [] => none
  | a :: r => ih r (a :: acc)) n
/-- words of the stack -/
noncomputable def z_cats (st : List z_C) : Nat := List.rec 0 (fun c _ ih => Nat.add (bif Nat.beq c.1 3 then 2 else 1) ih) st
/-! loops -/
noncomputable def z_find {α : Type} (p : α → Bool) (l : List α) : Option α := List.rec none (fun a _ ih => bif p a then some a else ih) l
noncomputable def z_map {α β : Type} (f : α → β) (l : List α) : List β := List.rec [] (fun a _ ih => f a :: ih) l
/-- where the new symbols come from, and their types -/
noncomputable def z_sF (fs : List z_A) (gs : List (Nat × Nat × Nat × Nat)) : Option (List (Nat × Nat × Nat × z_C) × List z_C) := List.rec (some ([], [])) (fun g _ ih => match ih with
  | none => none
  | some (a, b) => (match z_find (fun f : z_A => Nat.beq f.2.1 g.1 && z_ceq f.2.2.1 (z_kc g.2.1)) fs with
    | none => none
    | some f => some ((1, f.1, f.2.1, f.2.2.1) :: a, (0, g.2.2.1, g.2.2.2) :: b))) gs
/-- the new symbol that comes from a local, or from a fact -/
noncomputable def z_qL (src : List (Nat × Nat × Nat × z_C)) (j : Nat) : Nat → Option (Nat × Nat) := List.rec (fun _ => none) (fun s _ ih q => bif (Nat.beq s.1 0 || Nat.beq s.1 2) && Nat.beq s.2.1 j then some (s.1, q) else ih (Nat.succ q)) src
noncomputable def z_qF (src : List (Nat × Nat × Nat × z_C)) (f : z_A) : Nat → Option Nat := List.rec (fun _ => none) (fun s _ ih q => bif Nat.beq s.1 1 && (Nat.beq s.2.1 f.1 && z_ceq s.2.2.2 f.2.2.1) then some q else ih (Nat.succ q)) src
noncomputable def z_nC (src : List (Nat × Nat × Nat × z_C)) (n j : Nat) (c : z_C) : z_C := match z_qL src j n with
  | none => c
  | some (k, q) => bif Nat.beq k 0 then (0, q, 2147483648) else (3, q, 0)
noncomputable def z_tL (src : List (Nat × Nat × Nat × z_C)) (n : Nat) (dead : List Nat) (L : List z_C) : Nat → List z_C := List.rec (fun _ => []) (fun c _ ih j => (bif z_any (fun d => Nat.beq d j) dead then (9, 0, 0) else z_nC src n j c) :: ih (Nat.succ j)) L
/-- does a fact go -/
noncomputable def z_gone (gs : List z_C) (f : z_A) : Bool := z_any (fun g => Nat.beq g.1 f.2.1 && (not (Nat.beq f.2.2.1.2.1 0) || (Nat.ble g.2.1 f.2.2.1.2.2 && Nat.ble f.2.2.1.2.2 g.2.2))) gs
noncomputable def z_tF1 (src : List (Nat × Nat × Nat × z_C)) (n : Nat) (sh : List z_C) (f : z_A) : z_A := match z_qF src f n with
  | some q => (f.1, f.2.1, f.2.2.1, (0, q, 2147483648))
  | none => (match z_find (fun s : z_C => Nat.beq s.1 f.2.1 && z_ceq f.2.2.1 (z_kc s.2.1)) sh with
    | some s => (f.1, f.2.1, f.2.2.1, z_nC src n s.2.2 f.2.2.2)
    | none => f)
noncomputable def z_tF (src : List (Nat × Nat × Nat × z_C)) (n : Nat) (gs sh : List z_C) (fs : List z_A) : List z_A := List.rec [] (fun f _ ih => bif z_gone gs f then ih else z_tF1 src n sh f :: ih) fs
noncomputable def z_pT (ts : List z_C) : z_V → z_V := List.rec (fun v => v) (fun t _ ih v => ih (z_push v (bif Nat.beq t.1 0 then t.2.1 else 0) (bif Nat.beq t.1 0 then t.2.2 else 0))) ts
/-- the code that a new symbol comes from, here -/
noncomputable def z_src (v : z_V) (L : List z_C) (s : Nat × Nat × Nat × z_C) : z_C := bif Nat.beq s.1 1 then (match z_fg v.2.2.2.1 s.2.1 s.2.2.2 with
  | some c => c
  | none => (9, 0, 0)) else z_nth L s.2.1
/-- a code of the template, here -/
noncomputable def z_sb (n m : Nat) (th : List z_C) (c : z_C) : z_C := bif Nat.blt c.2.1 n then c else bif Nat.blt c.2.1 (Nat.add n m) && (z_ceq c (0, c.2.1, 2147483648) || z_ceq c (3, c.2.1, 0)) then (fun e : z_C => bif Nat.beq e.1 c.1 then e else (8, 0, 0)) (z_nth th (Nat.sub c.2.1 n)) else (8, 0, 0)
noncomputable def z_fits (v : z_V) (ts : List z_C) : List z_C → Bool := List.rec (fun cs => match cs with
  | [] => true
  | _ => false) (fun t _ ih cs => match cs with
  | [] => false
  | c :: r => (Nat.beq t.1 0 || Nat.beq t.1 3) && (Nat.ble t.2.2 4294967295 && (z_fit v t c && ih r))) ts
noncomputable def z_mL (n m : Nat) (th : List z_C) (T : List z_C) : List z_C → Bool := List.rec (fun L => match L with
  | [] => true
  | _ => false) (fun c _ ih L => match L with
  | [] => false
  | d :: r => (Nat.beq c.1 9 || z_ceq (z_sb n m th c) d) && ih r) T
noncomputable def z_mF (v : z_V) (n m : Nat) (th : List z_C) (T : List z_A) : Bool := z_all (fun f => Nat.blt f.1 n && (Nat.blt f.2.2.1.2.1 n && z_any (fun g : z_A => Nat.beq g.1 f.1 && (Nat.beq g.2.1 f.2.1 && (z_ceq g.2.2.1 f.2.2.1 && z_ceq g.2.2.2 (z_sb n m th f.2.2.2)))) v.2.2.2.1)) T
noncomputable def z_th (X : z_X) (v : z_V) (L : List z_C) : List z_C := z_map (fun s => z_src v L s) X.2.2.2.1
/-- the template fits -/
noncomputable def z_mt (X : z_X) (v : z_V) (L th : List z_C) : Bool := Nat.ble X.2.1 v.1 && (z_fits v X.2.2.1 th && (z_mL X.2.1 (q_len X.2.2.1) th X.2.2.2.2.1 L && (z_mF v X.2.1 (q_len X.2.2.1) th X.2.2.2.2.2.1 && (Nat.beq X.2.2.2.2.2.2.1 v.2.2.2.2.2 && (Nat.ble 1 X.2.1 && z_all (fun g : Nat × Nat => Nat.blt g.1 (q_len X.2.2.1)) X.2.2.2.2.2.2.2)))))
/-- a component of the measure: no less, more -/
noncomputable def z_m0 (v : z_V) (n : Nat) (th : List z_C) (g : Nat × Nat) : Bool := bif Nat.beq g.2 0 then (Nat.beq (z_nth th g.1).2.1 (Nat.add n g.1) && Nat.ble 2147483648 (z_nth th g.1).2.2) || Nat.ble (q_get v.2.2.1 (Nat.add n g.1)) (z_il v (z_nth th g.1)) else (Nat.beq (z_nth th g.1).2.1 (Nat.add n g.1) && Nat.ble (z_nth th g.1).2.2 2147483648) || Nat.ble (z_ih v (z_nth th g.1)) (q_get v.2.1 (Nat.add n g.1))
noncomputable def z_m1 (v : z_V) (n : Nat) (th : List z_C) (g : Nat × Nat) : Bool := bif Nat.beq g.2 0 then (Nat.beq (z_nth th g.1).2.1 (Nat.add n g.1) && Nat.blt 2147483648 (z_nth th g.1).2.2) || Nat.blt (q_get v.2.2.1 (Nat.add n g.1)) (z_il v (z_nth th g.1)) else (Nat.beq (z_nth th g.1).2.1 (Nat.add n g.1) && Nat.blt (z_nth th g.1).2.2 2147483648) || Nat.blt (z_ih v (z_nth th g.1)) (q_get v.2.1 (Nat.add n g.1))
noncomputable def z_ms (X : z_X) (v : z_V) (th : List z_C) : Bool := z_all (fun g : Nat × Nat => Nat.blt g.1 (q_len X.2.2.1) && (Nat.beq (z_nth X.2.2.1 g.1).1 0 && z_m0 v X.2.1 th g)) X.2.2.2.2.2.2.2 && z_any (fun g => z_m1 v X.2.1 th g) X.2.2.2.2.2.2.2
/-- a loop is come to for the first time: its template -/
noncomputable def z_new (N : z_N) (v : z_V) (L : List z_C) (k : z_X → z_V → List z_C → Option (List z_O)) : Option (List z_O) := match z_sF v.2.2.2.1 N.2.2.2.2.2.2.1 with
  | none => none
  | some (sf, tf) => (fun (src : List (Nat × Nat × Nat × z_C)) (ts : List z_C) => (fun (LT : List z_C) (FT : List z_A) => z_frv (z_setF (z_pT ts v) FT) (fun w => k (N.2.1, v.1, ts, src, LT, FT, v.2.2.2.2.2, N.2.2.2.2.2.2.2.2) w LT)) (z_tL src v.1 N.2.2.2.2.1 L 0) (z_tF src v.1 N.2.2.2.2.2.1 N.2.2.2.2.2.2.2.1 v.2.2.2.1)) (z_map (fun l : z_C => ((0, l.1, 0, (0, 0, 0)) : Nat × Nat × Nat × z_C)) N.2.2.1 ++ (z_map (fun j => ((2, j, 0, (0, 0, 0)) : Nat × Nat × Nat × z_C)) N.2.2.2.1 ++ sf)) (z_map (fun l : z_C => ((0, l.2.1, l.2.2) : z_C)) N.2.2.1 ++ (z_map (fun _ => ((3, 0, 0) : z_C)) N.2.2.2.1 ++ tf))
/-! contracts -/
noncomputable def z_cA (v : z_V) (ts : List z_C) : List z_C → Bool := List.rec (fun cs => match cs with
  | [] => true
  | _ => false) (fun t _ ih cs => match cs with
  | [] => false
  | c :: r => z_fit v t c && ih r) ts
/-- the facts that a contract wants: the codes bound so far, then theirs -/
noncomputable def z_cF (v : z_V) (ps : List (Nat × Nat × z_C)) : List z_C → Option (List z_C) := List.rec (fun cs => some cs) (fun p _ ih cs => bif Nat.beq (z_nth cs p.1).1 1 && Nat.ble p.2.1 100000 then (match z_fg v.2.2.2.1 (z_nth cs p.1).2.1 (z_kc p.2.1) with
  | none => none
  | some c => bif z_fit v p.2.2 c then ih (cs ++ [c]) else none) else none) ps
noncomputable def z_kls (v : z_V) (ks : List z_C) (fs : List z_A) : List z_A := z_flt (fun f => z_all (fun k => z_kq v k f) ks) fs
/-- the facts behind a contract -/
noncomputable def z_cP (cs : List z_C) (ps : List (Nat × Nat × z_C)) : z_V → (z_V → Option (List z_O)) → Option (List z_O) := List.rec (fun v k => k v) (fun p _ ih v k => bif Nat.beq (z_nth cs p.1).1 1 && Nat.ble p.2.1 100000 then z_ld v p.2.2 (fun w c => ih (z_addF w ((z_nth cs p.1).2.1, (z_nth cs p.1).2.2, z_kc p.2.1, c)) k) else none) ps
noncomputable def z_use (kw : List z_C) (d : Nat × Nat) (M : z_M) (v : z_V) (as : List z_C) (k : z_V → List z_C → Option (List z_O)) : Option (List z_O) := bif z_cA v M.2.1 as then (match z_cF v M.2.2.1 as with
  | none => none
  | some cs => bif z_all (fun e => z_kw kw e.1 e.2.1 e.2.2) M.2.2.2.1 && (Nat.blt M.2.2.2.2.2.1 d.1 && Nat.ble (Nat.add v.2.2.2.2.2 M.2.2.2.2.1) d.2) then z_cP cs M.2.2.2.2.2.2.2.2 (z_addM (z_setF v (z_kls v M.2.2.2.1 v.2.2.2.1)) M.2.2.2.2.1) (fun w => bif M.2.2.2.2.2.2.1 then z_fold M.2.2.2.2.2.2.2.1 (fun t => z_ld w t (fun w2 c => k w2 [c])) else k w []) else none) else none
/-! instructions -/
def z_i1 (ins : Instr) : Bool := match ins with
  | .dup => true
  | _ => false
def z_i2 (ins : Instr) : Bool := match ins with
  | .invokespecial _ => true
  | _ => false
noncomputable def z_bin (st : List z_C) (k : z_C → z_C → List z_C → Option (List z_O)) : Option (List z_O) := match st with
  | b :: a :: r => bif Nat.beq a.1 0 && Nat.beq b.1 0 then k a b r else none
  | _ => none
noncomputable def z_un (st : List z_C) (k : z_C → List z_C → Option (List z_O)) : Option (List z_O) := match st with
  | a :: r => bif Nat.beq a.1 0 then k a r else none
  | _ => none
/-- a place of an array: its code, bounds -/
noncomputable def z_ix {α : Type} (tt : Nat → z_T) (v : z_V) (a j : z_C) (k : z_T → z_C → Nat → Nat → Option α) : Option α := bif z_nn v a && (Nat.beq j.1 0 && (Nat.ble 2147483648 (z_il v j) && (Nat.blt (z_ih v j) (Nat.add 2147483648 (tt a.2.2).2.1) && (Nat.ble (tt a.2.2).2.1 100000 && not (Nat.beq (tt a.2.2).1 0))))) then q_fr (z_il v j) (fun lo => q_fr (z_ih v j) (fun hi => k (tt a.2.2) (bif Nat.beq lo hi then (0, 0, lo) else j) lo hi)) else none
noncomputable def z_ldi (v : z_V) (T : z_T) (a ic : z_C) (lo hi : Nat) (k : z_V → z_C → Option (List z_O)) : Option (List z_O) := bif Nat.beq T.1 3 then z_an v k else z_rng T.2.2.2.1 (Nat.sub lo 2147483648) (Nat.sub hi 2147483648) (fun x y => (fun r : Nat × Nat => z_fi v r.1 r.2 (fun w c => bif Nat.beq T.2.2.2.2 1 && (not (Nat.beq lo hi) && (not (Nat.beq c.2.1 0) && Nat.beq c.2.2 2147483648)) then k (z_addD w (c.2.1, a.2.2, ic)) c else k w c)) (z_hu T.2.2.1 x y))
noncomputable def z_ial (tt : Nat → z_T) (v : z_V) (a j : z_C) (ok : Nat → Bool) (k : z_V → z_C → Option (List z_O)) : Option (List z_O) := z_ix tt v a j (fun T ic lo hi => bif ok T.1 then (bif Nat.beq lo hi || Nat.beq T.2.2.2.2 2 then (match z_fg v.2.2.2.1 a.2.1 ic with
  | some c => k v c
  | none => z_ldi v T a ic lo hi (fun w c => k (z_addF w (a.2.1, a.2.2, ic, c)) c)) else z_ldi v T a ic lo hi k) else none)
/-- is the value fit for the places -/
noncomputable def z_sto (tt : Nat → z_T) (v : z_V) (T : z_T) (ic : z_C) (lo hi : Nat) (c : z_C) : Bool := bif z_rng T.2.2.2.1 (Nat.sub lo 2147483648) (Nat.sub hi 2147483648) (fun x y => (fun r : Nat × Nat => Nat.ble r.1 (z_il v c) && Nat.ble (z_ih v c) r.2) (z_na T.2.2.1 x y)) then true else Nat.beq c.2.2 2147483648 && z_any (fun d : z_B => Nat.beq d.1 c.2.1 && (Nat.beq d.2.2.2.1 ic.2.1 && (Nat.beq (Nat.mod d.2.2.2.2 T.2.2.2.1) (Nat.mod ic.2.2 T.2.2.2.1) && (z_leq (tt d.2.1).2.2.1 T.2.2.1 && Nat.beq (tt d.2.1).2.2.2.1 T.2.2.2.1)))) v.2.2.2.2.1
noncomputable def z_ias (tt : Nat → z_T) (kw : List z_C) (v : z_V) (a j c : z_C) (k : z_V → Option (List z_O)) : Option (List z_O) := z_ix tt v a j (fun T ic lo hi => bif Nat.beq T.1 1 && (Nat.beq c.1 0 && (z_sto tt v T ic lo hi c && z_kw kw a.2.2 lo hi)) then (fun F : List z_A => k (z_setF v (bif Nat.beq lo hi || Nat.beq T.2.2.2.2 2 then (a.2.1, a.2.2, ic, c) :: F else F))) (z_flt (z_kp v a.2.2 ic lo hi c) v.2.2.2.1) else none)
noncomputable def z_bas (tt : Nat → z_T) (kw : List z_C) (v : z_V) (a j c : z_C) (k : z_V → Option (List z_O)) : Option (List z_O) := z_ix tt v a j (fun T ic lo hi => bif (Nat.beq T.1 3 || (Nat.beq T.1 5 && (z_sto tt v T ic lo hi c && (z_po v c && Nat.ble (z_ih v c) 2147483649)))) && (Nat.beq c.1 0 && z_kw kw a.2.2 lo hi) then (fun F : List z_A => k (z_setF v (bif Nat.beq lo hi && Nat.beq T.1 5 then (a.2.1, a.2.2, ic, c) :: F else F))) (z_flt (z_kp v a.2.2 ic lo hi (bif Nat.beq T.1 5 then c else (8, 0, 0))) v.2.2.2.1) else none)
noncomputable def z_cas (v : z_V) (ih : z_F) (d : Nat × Nat) (i : Nat) (cd tl : List q_I) (L st : List z_C) (sp : List Nat) (cx : List z_X) (c : ClassFile.Cond) (a b : z_C) (x : Nat) : Option (List z_O) := bif Nat.beq a.1 0 then z_app (z_fold (z_cs v c a b) (fun w => ih d i cd (q_jm cd x) w L st sp cx)) (z_fold (z_cs v (z_ng c) a b) (fun w => ih d i cd tl w L st sp cx)) else bif Nat.beq a.1 2 && (Nat.ble 1 a.2.2 && (Nat.ble a.2.2 1000 && z_ceq b (0, 0, 2147483648))) then (match c with
  | .eq => z_app (ih d i cd (q_jm cd x) (v.1, q_set v.2.1 a.2.1 a.2.2, v.2.2) L st sp cx) (ih d i cd tl v L st sp cx)
  | .ne => z_app (ih d i cd (q_jm cd x) v L st sp cx) (ih d i cd tl (v.1, q_set v.2.1 a.2.1 a.2.2, v.2.2) L st sp cx)
  | _ => none) else none
/-- the long constants, all from 0 on -/
noncomputable def z_kl (k : Nat) : Nat := q_nth z_lcs 0 k
/-- which constant a long is: 0 not known -/
def z_lk (v : z_V) (c : z_C) : Nat := bif Nat.beq c.2.1 0 then Nat.succ c.2.2 else q_get v.2.1 c.2.1
noncomputable def z_lc (v : z_V) (a b : z_C) (k : z_V → z_C → Option (List z_O)) : Option (List z_O) := bif Nat.beq a.1 3 && Nat.beq b.1 3 then Nat.rec (z_fi v 2147483647 2147483649 k) (fun kb _ => Nat.rec (bif Nat.beq a.2.1 0 then z_fi v 2147483647 2147483649 k else k v (2, a.2.1, Nat.succ kb)) (fun ka _ => bif Nat.beq (z_kl ka) (z_kl kb) then k v (0, 0, 2147483648) else bif Nat.blt (z_kl ka) (z_kl kb) then k v (0, 0, 2147483647) else k v (0, 0, 2147483649)) (z_lk v a)) (z_lk v b) else none
noncomputable def z_tsw (v : z_V) (ih : z_F) (d : Nat × Nat) (i : Nat) (cd : List q_I) (L st : List z_C) (sp : List Nat) (cx : List z_X) (pc : Nat) (a : z_C) (offs : List Int) : Nat → Option (List z_O) := List.rec (fun _ => some []) (fun o _ acc k => z_app (bif Nat.ble (z_il v a) (Nat.add 2147483648 k) && Nat.ble (Nat.add 2147483648 k) (z_ih v a) then z_fold (z_opl (z_rf v a (Nat.add 2147483648 k) (Nat.add 2147483648 k))) (fun w => ih d i cd (q_jm cd (Int.toNat (Int.add (Int.ofNat pc) o))) w L st sp cx) else some []) (acc (Nat.succ k))) offs
noncomputable def z_lsw (v : z_V) (ih : z_F) (d : Nat × Nat) (i : Nat) (cd : List q_I) (L st : List z_C) (sp : List Nat) (cx : List z_X) (pc : Nat) (a : z_C) (ps : List (Int × Int)) : Option (List z_O) := List.rec (some []) (fun o _ acc => z_app (bif Nat.ble (z_il v a) (Nat.add 2147483648 (Int.toNat o.1)) && Nat.ble (Nat.add 2147483648 (Int.toNat o.1)) (z_ih v a) then z_fold (z_opl (z_rf v a (Nat.add 2147483648 (Int.toNat o.1)) (Nat.add 2147483648 (Int.toNat o.1)))) (fun w => ih d i cd (q_jm cd (Int.toNat (Int.add (Int.ofNat pc) o.2))) w L st sp cx) else some []) acc) ps
/-- does a method make a Sand -/
def z_alm (x : Nat) : Bool := Nat.beq x z_kI
abbrev z_G : Type := (Nat → z_T) × List z_C × Nat × List z_N × List z_M
noncomputable def z_pick (mem : List z_M) (v : z_V) (x : Nat) (as : List z_C) : Option z_M := z_find (fun M : z_M => Nat.beq M.1 x && (z_cA v M.2.1 as && (match z_cF v M.2.2.1 as with
  | none => false
  | some _ => true))) mem
/-- an end is a return -/
noncomputable def z_rok (cdt : Nat → List q_I) (x mx : Nat) (o : z_O) : Bool := match q_jm (cdt x) o.1 with
  | [] => false
  | e :: _ => Nat.ble o.2.1.2.2.2.2.2 mx && (match e.2.2.1 with
    | .return_ => (match o.2.2.2 with
      | [] => true
      | _ => false)
    | .ireturn => (match o.2.2.2 with
      | [c] => Nat.beq c.1 0 && (Nat.beq e.2.2.2.1 0 || (Nat.beq e.2.2.2.1 1 && (z_po o.2.1 c && Nat.ble (z_ih o.2.1 c) 2147483649)))
      | _ => false)
    | .areturn => (match o.2.2.2 with
      | [c] => Nat.beq c.1 1
      | _ => false)
    | _ => false)
noncomputable def z_inl (cdt : Nat → List q_I) (ih : z_F) (dx : Nat × Nat) (x : Nat) (as : List z_C) (v : z_V) (k : List z_O → Option (List z_O)) : Option (List z_O) := match ih dx x (cdt x) (cdt x) v (z_pad (q_ml x) (z_sl as)) [] [] [] with
  | none => none
  | some os => bif z_all (z_rok cdt x dx.2) os then k os else none
noncomputable def z_cal (g : z_G) (cdt : Nat → List q_I) (ih : z_F) (d : Nat × Nat) (x : Nat) (as : List z_C) (v : z_V) (k : z_V → List z_C → Option (List z_O)) : Option (List z_O) := match z_pick g.2.2.2.2 v x as with
  | some M => z_use g.2.1 d M v as k
  | none => Nat.rec none (fun d' _ => bif z_alm x then (bif Nat.beq v.2.2.2.2.2 0 then z_inl cdt ih (d', d.2) x as v (fun os => z_fold os (fun o => k (z_setM o.2.1 d.2) o.2.2.2)) else none) else bif Nat.ble v.2.2.2.2.2 d.2 then z_inl cdt ih (d', 0) x as (z_setM v 0) (fun os => z_fold os (fun o => k (z_setM o.2.1 v.2.2.2.2.2) o.2.2.2)) else none) d.1
noncomputable def z_inv (g : z_G) (cdt : Nat → List q_I) (ih : z_F) (d : Nat × Nat) (i : Nat) (cd tl : List q_I) (v : z_V) (L : List z_C) (x y z : Nat) (st : List z_C) (sp : List Nat) (cx : List z_X) (virt : Bool) : Option (List z_O) := bif Nat.beq z 99 then none else match z_pp y st [] with
  | none => none
  | some (as, r) => bif (Nat.ble (z_cats r) 8 && Nat.ble (q_len (z_sl as)) (q_ml x)) && (bif virt then (match as with
      | [] => false
      | a :: _ => z_nn v a && (Nat.beq (g.1 a.2.2).1 0 && Nat.beq (g.1 a.2.2).2.1 z)) else true) then z_cal g cdt ih d x as v (fun w rt => ih d i cd tl w L (rt ++ r) sp cx) else none
noncomputable def z_cpk (g : z_G) (v : z_V) (n dp b s0 a : z_C) : Bool := z_nn v a && (z_nn v b && (Nat.beq (g.1 a.2.2).1 1 && (Nat.beq (g.1 b.2.2).1 1 && (z_ceq dp (0, 0, 2147483648) && (z_ceq s0 (0, 0, 2147483648) && (Nat.beq n.1 0 && (z_po v n && (Nat.ble (z_ih v n) (Nat.add 2147483648 (g.1 a.2.2).2.1) && Nat.ble (z_ih v n) (Nat.add 2147483648 (g.1 b.2.2).2.1)))))))))
noncomputable def z_cpt (g : z_G) (b a : z_C) : Bool := Nat.ble (g.1 a.2.2).2.1 100000 && (Nat.ble (g.1 b.2.2).2.1 100000 && (Nat.ble 1 (g.1 a.2.2).2.2.2.1 && (Nat.ble 1 (g.1 b.2.2).2.2.2.1 && (z_kw g.2.1 b.2.2 2147483648 (Nat.add 2147483647 (g.1 b.2.2).2.1) && (fun (p q : Nat × Nat) => Nat.ble q.1 p.1 && Nat.ble p.2 q.2) (z_hu (g.1 a.2.2).2.2.1 0 (Nat.sub (g.1 a.2.2).2.2.2.1 1)) (z_na (g.1 b.2.2).2.2.1 0 (Nat.sub (g.1 b.2.2).2.2.2.1 1))))))
noncomputable def z_cpy (g : z_G) (ih : z_F) (d : Nat × Nat) (i : Nat) (cd tl : List q_I) (v : z_V) (L st : List z_C) (sp : List Nat) (cx : List z_X) : Option (List z_O) := match st with
  | n :: dp :: b :: s0 :: a :: r => bif z_cpk g v n dp b s0 a && (z_cpt g b a && (Nat.ble (z_cats r) 8 && Nat.ble 1 d.1)) then ih d i cd tl (z_setF v (z_flt (z_kq v (b.2.2, 2147483648, Nat.add 2147483647 (g.1 b.2.2).2.1)) v.2.2.2.1)) L r sp cx else none
  | _ => none
/-- length, charAt, indexOf of a text constant -/
noncomputable def z_txt (ih : z_F) (d : Nat × Nat) (i : Nat) (cd tl : List q_I) (v : z_V) (L : List z_C) (x : Nat) (st : List z_C) (sp : List Nat) (cx : List z_X) : Option (List z_O) := bif Nat.ble 6 d.1 then (bif Nat.beq x 0 then (match st with
  | a :: r => bif Nat.beq a.1 4 && Nat.ble (z_cats r) 8 then ih d i cd tl v L ((0, 0, Nat.add 2147483648 (q_nth z_lens 0 a.2.2)) :: r) sp cx else none
  | _ => none) else (match st with
  | j :: a :: r => bif Nat.beq a.1 4 && (Nat.beq j.1 0 && Nat.ble (z_cats r) 8) then (bif Nat.beq x 1 then (bif z_po v j && Nat.blt (z_ih v j) (Nat.add 2147483648 (q_nth z_lens 0 a.2.2)) then z_an v (fun w c => ih d i cd tl w L (c :: r) sp cx) else none) else z_an v (fun w c => ih d i cd tl w L (c :: r) sp cx)) else none
  | _ => none)) else none
noncomputable def z_step (g : z_G) (cdt : Nat → List q_I) (ih : z_F) (d : Nat × Nat) (i : Nat) (cd : List q_I) (pc : Nat) (ins : Instr) (x y z : Nat) (tl : List q_I) (v : z_V) (L st : List z_C) (sp : List Nat) (cx : List z_X) : Option (List z_O) := match ins with
  | .iconst _ | .bipush _ | .sipush _ => ih d i cd tl v L ((0, 0, q_bi x) :: st) sp cx
  | .ldc _ => bif Nat.beq z 99 then Nat.rec none (fun s _ => ih d i cd tl v L ((4, 0, s) :: st) sp cx) y else ih d i cd tl v L ((0, 0, q_bi x) :: st) sp cx
  | .ldc_w _ => bif Nat.beq z 99 then none else ih d i cd tl v L ((0, 0, q_bi x) :: st) sp cx
  | .ldc2_w _ => bif Nat.beq z 99 then none else ih d i cd tl v L ((3, 0, x) :: st) sp cx
  | .lconst _ => ih d i cd tl v L ((3, 0, x) :: st) sp cx
  | .aconst_null => ih d i cd tl v L ((2, 0, 0) :: st) sp cx
  | .iload _ | .iload_n _ => (fun c : z_C => bif Nat.beq c.1 0 then ih d i cd tl v L (c :: st) sp cx else none) (z_nth L x)
  | .aload _ | .aload_n _ => (fun c : z_C => bif Nat.beq c.1 1 || (Nat.beq c.1 2 && Nat.beq c.2.2 0) then ih d i cd tl v L (c :: st) sp cx else none) (z_nth L x)
  | .lload_n _ => (fun c : z_C => bif Nat.beq c.1 3 then ih d i cd tl v L (c :: st) sp cx else none) (z_nth L x)
  | .istore _ | .istore_n _ => (match st with
    | c :: r => bif Nat.beq c.1 0 then ih d i cd tl v (z_st1 L x c) r sp cx else none
    | _ => none)
  | .astore _ | .astore_n _ => (match st with
    | c :: r => bif Nat.beq c.1 1 || (Nat.beq c.1 2 && Nat.beq c.2.2 0) then ih d i cd tl v (z_st1 L x c) r sp cx else none
    | _ => none)
  | .lstore_n _ => (match st with
    | c :: r => bif Nat.beq c.1 3 then ih d i cd tl v (z_st2 L x c) r sp cx else none
    | _ => none)
  | .iinc _ _ => (fun c : z_C => bif Nat.beq c.1 0 then z_oadd v c (0, 0, q_bi y) (fun w e => ih d i cd tl w (z_st1 L x e) st sp cx) else none) (z_nth L x)
  | .iadd => z_bin st (fun a b r => z_oadd v a b (fun w c => ih d i cd tl w L (c :: r) sp cx))
  | .isub => z_bin st (fun a b r => z_osub v a b (fun w c => ih d i cd tl w L (c :: r) sp cx))
  | .imul => z_bin st (fun a b r => z_omul v a b (fun w c => ih d i cd tl w L (c :: r) sp cx))
  | .iand => z_bin st (fun a b r => z_oand v a b (fun w c => ih d i cd tl w L (c :: r) sp cx))
  | .ior => z_bin st (fun a b r => z_oor v a b (fun w c => ih d i cd tl w L (c :: r) sp cx))
  | .ixor => z_bin st (fun a b r => z_oor v a b (fun w c => ih d i cd tl w L (c :: r) sp cx))
  | .idiv => z_bin st (fun a b r => z_odiv v a b (fun w c => ih d i cd tl w L (c :: r) sp cx))
  | .irem => z_bin st (fun a b r => z_orem v a b (fun w c => ih d i cd tl w L (c :: r) sp cx))
  | .ishl => z_bin st (fun a b r => z_oshl v a b (fun w c => ih d i cd tl w L (c :: r) sp cx))
  | .ishr => z_bin st (fun a _ r => z_oshr v a (fun w c => ih d i cd tl w L (c :: r) sp cx))
  | .iushr => z_bin st (fun a _ r => z_oshr v a (fun w c => ih d i cd tl w L (c :: r) sp cx))
  | .ineg => z_un st (fun a r => z_oneg v a (fun w c => ih d i cd tl w L (c :: r) sp cx))
  | .i2b => z_un st (fun _ r => z_an v (fun w c => ih d i cd tl w L (c :: r) sp cx))
  | .i2c => z_un st (fun _ r => z_an v (fun w c => ih d i cd tl w L (c :: r) sp cx))
  | .i2l => z_un st (fun _ r => z_ld v (3, 0, 0) (fun w c => ih d i cd tl w L (c :: r) sp cx))
  | .lmul | .ladd | .lor => (match st with
    | b :: a :: r => bif Nat.beq a.1 3 && Nat.beq b.1 3 then z_ld v (3, 0, 0) (fun w c => ih d i cd tl w L (c :: r) sp cx) else none
    | _ => none)
  | .lshl => (match st with
    | b :: a :: r => bif Nat.beq a.1 3 && Nat.beq b.1 0 then z_ld v (3, 0, 0) (fun w c => ih d i cd tl w L (c :: r) sp cx) else none
    | _ => none)
  | .lcmp => (match st with
    | b :: a :: r => z_lc v a b (fun w c => ih d i cd tl w L (c :: r) sp cx)
    | _ => none)
  | .dup => (match st with
    | a :: r => bif Nat.beq a.1 3 then none else ih d i cd tl v L (a :: a :: r) sp cx
    | _ => none)
  | .dup2 => (match st with
    | b :: a :: r => bif Nat.beq a.1 3 || Nat.beq b.1 3 then none else ih d i cd tl v L (b :: a :: b :: a :: r) sp cx
    | _ => none)
  | .pop => (match st with
    | a :: r => bif Nat.beq a.1 3 then none else ih d i cd tl v L r sp cx
    | _ => none)
  | .ifCond c _ => (match st with
    | a :: r => z_cas v ih d i cd tl L r sp cx c a (0, 0, 2147483648) x
    | _ => none)
  | .if_icmp c _ => z_bin st (fun a b r => z_cas v ih d i cd tl L r sp cx c a b x)
  | .ifnull _ => (match st with
    | a :: r => bif z_nn v a then ih d i cd tl v L r sp cx else bif Nat.beq a.1 1 then z_app (ih d i cd (q_jm cd x) v L r sp cx) (ih d i cd tl (v.1, q_set v.2.1 a.2.1 1, v.2.2) L r sp cx) else none
    | _ => none)
  | .ifnonnull _ => (match st with
    | a :: r => bif z_nn v a then ih d i cd (q_jm cd x) v L r sp cx else bif Nat.beq a.1 1 then z_app (ih d i cd (q_jm cd x) (v.1, q_set v.2.1 a.2.1 1, v.2.2) L r sp cx) (ih d i cd tl v L r sp cx) else none
    | _ => none)
  | .goto _ => ih d i cd (q_jm cd x) v L st sp cx
  | .tableswitch df _ _ offs => z_un st (fun a r => z_app (z_tsw v ih d i cd L r sp cx pc a offs.toList x) (bif Nat.blt (z_il v a) (Nat.add 2147483648 x) || Nat.blt (Nat.add 2147483648 y) (z_ih v a) then ih d i cd (q_jm cd (Int.toNat (Int.add (Int.ofNat pc) df))) v L r sp cx else some []))
  | .lookupswitch df ps => z_un st (fun a r => z_app (z_lsw v ih d i cd L r sp cx pc a ps.toList) (ih d i cd (q_jm cd (Int.toNat (Int.add (Int.ofNat pc) df))) v L r sp cx))
  | .new _ => (match tl with
    | e1 :: e2 :: tl2 => bif z_i1 e1.2.2.1 && (z_i2 e2.2.2.1 && (Nat.beq e2.2.2.2.1 z_sI && (Nat.beq x 5 && (Nat.ble (z_cats st) 6 && (Nat.blt v.2.2.2.2.2 d.2 && Nat.ble 4 d.1))))) then ih d i cd tl2 (z_addM (z_push v 1 0) 1) L ((1, v.1, z_tS) :: st) sp cx else none
    | _ => none)
  | .arraylength => (match st with
    | a :: r => bif z_nn v a && (not (Nat.beq (g.1 a.2.2).1 0) && Nat.ble (g.1 a.2.2).2.1 100000) then ih d i cd tl v L ((0, 0, Nat.add 2147483648 (g.1 a.2.2).2.1) :: r) sp cx else none
    | _ => none)
  | .iaload => (match st with
    | j :: a :: r => z_ial g.1 v a j (fun k => Nat.beq k 1) (fun w c => ih d i cd tl w L (c :: r) sp cx)
    | _ => none)
  | .baload => (match st with
    | j :: a :: r => z_ial g.1 v a j (fun k => Nat.beq k 3 || Nat.beq k 5) (fun w c => ih d i cd tl w L (c :: r) sp cx)
    | _ => none)
  | .laload => (match st with
    | j :: a :: r => z_ix g.1 v a j (fun T _ _ _ => bif Nat.beq T.1 7 then z_ld v (3, 0, 0) (fun w c => ih d i cd tl w L (c :: r) sp cx) else none)
    | _ => none)
  | .aaload => (match st with
    | j :: a :: r => z_ix g.1 v a j (fun T _ _ _ => bif Nat.beq T.1 9 then z_ld v (2, z_tS, 0) (fun w c => ih d i cd tl w L (c :: r) sp cx) else none)
    | _ => none)
  | .iastore => (match st with
    | c :: j :: a :: r => z_ias g.1 g.2.1 v a j c (fun w => ih d i cd tl w L r sp cx)
    | _ => none)
  | .bastore => (match st with
    | c :: j :: a :: r => z_bas g.1 g.2.1 v a j c (fun w => ih d i cd tl w L r sp cx)
    | _ => none)
  | .lastore => (match st with
    | c :: j :: a :: r => z_ix g.1 v a j (fun T _ _ _ => bif Nat.beq T.1 7 && Nat.beq c.1 3 then ih d i cd tl v L r sp cx else none)
    | _ => none)
  | .aastore => (match st with
    | c :: j :: a :: r => z_ix g.1 v a j (fun T _ _ _ => bif Nat.beq T.1 9 && (z_nn v c && (Nat.beq c.2.2 z_tS && (Nat.beq (g.1 z_tS).1 0 && Nat.beq (g.1 z_tS).2.1 5))) then ih d i cd tl v L r sp cx else none)
    | _ => none)
  | .getfield _ => (match st with
    | a :: r => bif z_nn v a && (Nat.beq (g.1 a.2.2).1 0 && Nat.beq (g.1 a.2.2).2.1 x) then (match z_fg v.2.2.2.1 a.2.1 (z_kc y) with
      | some c => ih d i cd tl v L (c :: r) sp cx
      | none => z_ld v (z_nth (g.1 a.2.2).2.2.1 y) (fun w c => ih d i cd tl (z_addF w (a.2.1, a.2.2, z_kc y, c)) L (c :: r) sp cx)) else none
    | _ => none)
  | .putfield _ => (match st with
    | c :: a :: r => bif z_nn v a && (Nat.beq (g.1 a.2.2).1 0 && (Nat.beq (g.1 a.2.2).2.1 x && (z_fit v (z_nth (g.1 a.2.2).2.2.1 y) c && (z_kw g.2.1 a.2.2 (Nat.add 2147483648 y) (Nat.add 2147483648 y) && (bif Nat.beq z 0 then Nat.beq c.1 0 else bif Nat.beq z 1 then Nat.beq c.1 0 && (z_po v c && Nat.ble (z_ih v c) 2147483649) else bif Nat.beq z 2 then Nat.beq c.1 1 || (Nat.beq c.1 2 && Nat.beq c.2.2 0) else Nat.beq c.1 3))))) then ih d i cd tl (z_setF v ((a.2.1, a.2.2, z_kc y, c) :: z_flt (z_kp v a.2.2 (z_kc y) (Nat.add 2147483648 y) (Nat.add 2147483648 y) c) v.2.2.2.1)) L r sp cx else none
    | _ => none)
  | .invokevirtual _ => bif Nat.beq z 99 && Nat.beq y 88 then z_txt ih d i cd tl v L x st sp cx else z_inv g cdt ih d i cd tl v L x y z st sp cx true
  | .invokestatic _ => bif Nat.beq z 77 then z_cpy g ih d i cd tl v L st sp cx else z_inv g cdt ih d i cd tl v L x y z st sp cx false
  | .ireturn => (match st with
    | [c] => bif Nat.beq c.1 0 && (Nat.beq x 0 || (Nat.beq x 1 && (z_po v c && Nat.ble (z_ih v c) 2147483649))) then some [(pc, v, L, st)] else none
    | _ => none)
  | .areturn => (match st with
    | [c] => bif Nat.beq c.1 1 then some [(pc, v, L, st)] else none
    | _ => none)
  | .return_ => (match st with
    | [] => some [(pc, v, L, st)]
    | _ => none)
  | _ => none
noncomputable def z_run (g : z_G) (cdt : Nat → List q_I) (fuel : Nat) : z_F := Nat.rec (fun _ _ _ _ _ _ _ _ _ => none) (fun _ ih d i cd rest v L st sp cx => List.rec none (fun e tl _ => bif z_any (fun q => Nat.beq q e.1) sp then some [(e.1, v, L, st)] else (match z_find (fun N : z_N => Nat.beq N.2.1 e.1 && Nat.beq N.1 i) g.2.2.2.1 with
  | none => z_step g cdt ih d i cd e.1 e.2.2.1 e.2.2.2.1 e.2.2.2.2.1 e.2.2.2.2.2 tl v L st sp cx
  | some N => (match st with
    | _ :: _ => none
    | [] => (match z_find (fun X : z_X => Nat.beq X.1 e.1) cx with
      | some X => (fun th : List z_C => bif z_mt X v L th && z_ms X v th then some [] else none) (z_th X v L)
      | none => z_new N v L (fun X w LT => bif z_mt X v L (z_th X v L) then z_step g cdt ih d i cd e.1 e.2.2.1 e.2.2.2.1 e.2.2.2.2.1 e.2.2.2.2.2 tl w LT [] sp (X :: cx) else none))))) rest) fuel
end
section
/-! ===== what codes, facts and types say of values, cells, the world ===== -/
theorem z_gm {α : Type} {l l' : List α} (hp : l <+: l') {k : Nat} {a : α} (h : l[k]? = some a) : l'[k]? = some a := by
  obtain ⟨t, rfl⟩ := hp
  rw [List.getElem?_append_left (List.getElem?_eq_some_iff.mp h).1]
  exact h
/-- a ref to a cell of a tag -/
def z_rt (ad ts : List Nat) (t : Nat) (v : Value) : Prop := ∃ (j a : Nat), v = .ref a ∧ ad[j]? = some a ∧ ts[j]? = some t
theorem z_rt.mono {ad ad' ts ts' : List Nat} {t : Nat} {v : Value} (h : z_rt ad ts t v) (hp : ad <+: ad') (hq : ts <+: ts') : z_rt ad' ts' t v := by
  obtain ⟨j, a, h1, h2, h3⟩ := h
  exact ⟨j, a, h1, z_gm hp h2, z_gm hq h3⟩
/-- a value of a type -/
def z_tv (ad ts : List Nat) (t : z_C) (v : Value) : Prop := (t.1 = 0 ∧ ∃ x, v = .int x ∧ t.2.1 ≤ q_qb x ∧ q_qb x ≤ t.2.2) ∨ (t.1 = 1 ∧ z_rt ad ts t.2.1 v) ∨ (t.1 = 2 ∧ (v = .null ∨ z_rt ad ts t.2.1 v)) ∨ (t.1 = 3 ∧ ∃ x, v = .long x)
theorem z_tv.mono {ad ad' ts ts' : List Nat} {t : z_C} {v : Value} (h : z_tv ad ts t v) (hp : ad <+: ad') (hq : ts <+: ts') : z_tv ad' ts' t v := by
  rcases h with h | ⟨h1, h2⟩ | ⟨h1, h2 | h2⟩ | h
  · exact Or.inl h
  · exact Or.inr (Or.inl ⟨h1, h2.mono hp hq⟩)
  · exact Or.inr (Or.inr (Or.inl ⟨h1, Or.inl h2⟩))
  · exact Or.inr (Or.inr (Or.inl ⟨h1, Or.inr (h2.mono hp hq)⟩))
  · exact Or.inr (Or.inr (Or.inr h))
/-- what a code says -/
def z_v (sa : Nat → Nat) (ad ts : List Nat) (vs : List Value) (c : z_C) (v : Value) : Prop :=
  (c.1 = 0 ∧ ∃ x y, vs[c.2.1]? = some (.int x) ∧ v = .int y ∧ q_qb y + 2147483648 = q_qb x + c.2.2)
  ∨ (c.1 = 1 ∧ vs[c.2.1]? = some v ∧ (v = .null ∨ z_rt ad ts c.2.2 v))
  ∨ (c.1 = 2 ∧ ((c.2.2 = 0 ∧ v = .null) ∨ ∃ k x y, c.2.2 = k + 1 ∧ vs[c.2.1]? = some (.long x) ∧ v = .int y ∧ (y = 0 ↔ x = z_lcv k)))
  ∨ (c.1 = 3 ∧ ((c.2.1 = 0 ∧ v = .long (z_lcv c.2.2)) ∨ (¬ c.2.1 = 0 ∧ vs[c.2.1]? = some v ∧ ∃ x, v = .long x)))
  ∨ (c.1 = 4 ∧ v = .ref (sa c.2.2))
section ZV
variable {sa : Nat → Nat} {ad ts ad' ts' : List Nat} {vs vs' : List Value} {c : z_C} {v : Value}
theorem z_v.mono (h : z_v sa ad ts vs c v) (hv : vs <+: vs') (hp : ad <+: ad') (hq : ts <+: ts') : z_v sa ad' ts' vs' c v := by
  rcases h with ⟨h1, x, y, h2, h3⟩ | ⟨h1, h2, h3⟩ | ⟨h1, h2 | ⟨k, x, y, h2, h3, h4⟩⟩ | ⟨h1, h2 | ⟨h2, h3, h4⟩⟩ | h
  · exact Or.inl ⟨h1, x, y, z_gm hv h2, h3⟩
  · refine Or.inr (Or.inl ⟨h1, z_gm hv h2, ?_⟩)
    rcases h3 with h3 | h3
    · exact Or.inl h3
    · exact Or.inr (h3.mono hp hq)
  · exact Or.inr (Or.inr (Or.inl ⟨h1, Or.inl h2⟩))
  · exact Or.inr (Or.inr (Or.inl ⟨h1, Or.inr ⟨k, x, y, h2, z_gm hv h3, h4⟩⟩))
  · exact Or.inr (Or.inr (Or.inr (Or.inl ⟨h1, Or.inl h2⟩)))
  · exact Or.inr (Or.inr (Or.inr (Or.inl ⟨h1, Or.inr ⟨h2, z_gm hv h3, h4⟩⟩)))
  · exact Or.inr (Or.inr (Or.inr (Or.inr h)))
theorem z_v.int (h : z_v sa ad ts vs c v) (hc : c.1 = 0) : ∃ x y, vs[c.2.1]? = some (.int x) ∧ v = .int y ∧ q_qb y + 2147483648 = q_qb x + c.2.2 := by
  rcases h with ⟨_, h⟩ | ⟨h1, _⟩ | ⟨h1, _⟩ | ⟨h1, _⟩ | ⟨h1, _⟩
  · exact h
  all_goals omega
theorem z_v.ref (h : z_v sa ad ts vs c v) (hc : c.1 = 1) : vs[c.2.1]? = some v ∧ (v = .null ∨ z_rt ad ts c.2.2 v) := by
  rcases h with ⟨h1, _⟩ | ⟨_, h⟩ | ⟨h1, _⟩ | ⟨h1, _⟩ | ⟨h1, _⟩
  · omega
  · exact h
  all_goals omega
theorem z_v.two (h : z_v sa ad ts vs c v) (hc : c.1 = 2) : (c.2.2 = 0 ∧ v = .null) ∨ ∃ k x y, c.2.2 = k + 1 ∧ vs[c.2.1]? = some (.long x) ∧ v = .int y ∧ (y = 0 ↔ x = z_lcv k) := by
  rcases h with ⟨h1, _⟩ | ⟨h1, _⟩ | ⟨_, h⟩ | ⟨h1, _⟩ | ⟨h1, _⟩
  · omega
  · omega
  · exact h
  all_goals omega
theorem z_v.lng (h : z_v sa ad ts vs c v) (hc : c.1 = 3) : ∃ x, v = .long x ∧ ((c.2.1 = 0 ∧ x = z_lcv c.2.2) ∨ (¬ c.2.1 = 0 ∧ vs[c.2.1]? = some (.long x))) := by
  rcases h with ⟨h1, _⟩ | ⟨h1, _⟩ | ⟨h1, _⟩ | ⟨_, h⟩ | ⟨h1, _⟩
  · omega
  · omega
  · omega
  · rcases h with ⟨h1, h2⟩ | ⟨h1, h2, x, rfl⟩
    · exact ⟨_, h2, Or.inl ⟨h1, rfl⟩⟩
    · exact ⟨x, rfl, Or.inr ⟨h1, h2⟩⟩
  · omega
theorem z_v.txt (h : z_v sa ad ts vs c v) (hc : c.1 = 4) : v = .ref (sa c.2.2) := by
  rcases h with ⟨h1, _⟩ | ⟨h1, _⟩ | ⟨h1, _⟩ | ⟨h1, _⟩ | ⟨_, h⟩
  · omega
  · omega
  · omega
  · omega
  · exact h
/-- a ref or null, as it is stored -/
theorem z_v.obj (h : z_v sa ad ts vs c v) (hc : c.1 = 1 ∨ (c.1 = 2 ∧ c.2.2 = 0)) : v = .null ∨ ∃ a, v = .ref a := by
  rcases hc with hc | ⟨hc, h0⟩
  · rcases (h.ref hc).2 with h | ⟨_, a, h, _⟩
    · exact Or.inl h
    · exact Or.inr ⟨a, h⟩
  · rcases h.two hc with ⟨_, h⟩ | ⟨k, _, _, h1, _⟩
    · exact Or.inl h
    · omega
theorem z_v.cat1 (h : z_v sa ad ts vs c v) (hc : ¬ c.1 = 3) : v.category = 1 := by
  rcases h with ⟨_, x, y, _, h, _⟩ | ⟨_, _, h | ⟨_, a, h, _⟩⟩ | ⟨_, ⟨_, h⟩ | ⟨_, _, y, _, _, h, _⟩⟩ | ⟨h1, _⟩ | ⟨_, h⟩
  · subst h; rfl
  · subst h; rfl
  · subst h; rfl
  · subst h; rfl
  · subst h; rfl
  · exact absurd h1 hc
  · subst h; rfl
end ZV
/-- the bounds of a symbol -/
def z_en (a b : Nat) (v : Value) : Prop := match v with
  | .int x => a ≤ q_qb x ∧ q_qb x ≤ b
  | .null => a = 0
  | .long y => a = 0 ∨ y = z_lcv (a - 1)
  | _ => True
def z_E (V : z_V) (vs : List Value) : Prop := vs.length = V.1 ∧ vs[0]? = some (.int 0) ∧ ∀ s v, vs[s]? = some v → z_en (q_get V.2.1 s) (q_get V.2.2.1 s) v
theorem z_il_eq (V : z_V) (c : z_C) : z_il V c = q_get V.2.1 c.2.1 + c.2.2 - 2147483648 := by
  show Nat.sub (Nat.add _ _) 2147483648 = _
  rw [Nat.sub_eq, Nat.add_eq]
theorem z_ih_eq (V : z_V) (c : z_C) : z_ih V c = q_get V.2.2.1 c.2.1 + c.2.2 - 2147483648 := by
  show Nat.sub (Nat.add _ _) 2147483648 = _
  rw [Nat.sub_eq, Nat.add_eq]
section ZE
variable {sa : Nat → Nat} {ad ts : List Nat} {vs : List Value} {c : z_C} {v : Value} {V : z_V}
/-- an int code: its int, within the bounds -/
theorem z_v.bnd (h : z_v sa ad ts vs c v) (hE : z_E V vs) (hc : c.1 = 0) : ∃ y, v = .int y ∧ z_il V c ≤ q_qb y ∧ q_qb y ≤ z_ih V c := by
  obtain ⟨x, y, h1, h2, h3⟩ := h.int hc
  obtain ⟨b1, b2⟩ : q_get V.2.1 c.2.1 ≤ q_qb x ∧ q_qb x ≤ q_get V.2.2.1 c.2.1 := hE.2.2 _ _ h1
  refine ⟨y, h2, ?_, ?_⟩
  · rw [z_il_eq]; omega
  · rw [z_ih_eq]; omega
theorem z_qb0 : q_qb 0 = 2147483648 := by decide +kernel
/-- a told int -/
theorem z_v.con {b : Nat} (h : z_v sa ad ts vs (0, 0, b) v) (hE : z_E V vs) : ∃ y, v = .int y ∧ q_qb y = b := by
  obtain ⟨x, y, h1, h2, h3⟩ := h.int rfl
  have h1 : vs[0]? = some (.int x) := h1
  rw [hE.2.1] at h1
  cases h1
  rw [z_qb0] at h3
  exact ⟨y, h2, by have h3 : q_qb y + 2147483648 = 2147483648 + b := h3; omega⟩
theorem z_v.mkcon (hE : z_E V vs) {y : Int32} : z_v sa ad ts vs (0, 0, q_qb y) (.int y) := Or.inl ⟨rfl, 0, y, hE.2.1, rfl, by show q_qb y + 2147483648 = q_qb 0 + q_qb y; rw [z_qb0]; omega⟩
theorem z_v.nonnull (h : z_v sa ad ts vs c v) (hE : z_E V vs) (hn : z_nn V c = true) : ∃ (a j : Nat), v = .ref a ∧ vs[c.2.1]? = some (.ref a) ∧ ad[j]? = some a ∧ ts[j]? = some c.2.2 := by
  obtain ⟨h1, h2⟩ := q_ands hn
  obtain ⟨h3, h4⟩ := h.ref (q_beq.mp h1)
  rcases h4 with rfl | ⟨j, a, rfl, h5, h6⟩
  · have : q_get V.2.1 c.2.1 = 0 := hE.2.2 _ _ h3
    have h2 := q_beq.mp h2
    omega
  · exact ⟨a, j, rfl, h3, h5, h6⟩
end ZE
theorem z_ceq_eq {a b : z_C} (h : z_ceq a b = true) : a = b := by
  obtain ⟨h1, h2⟩ := q_ands h
  obtain ⟨h2, h3⟩ := q_ands h2
  exact Prod.ext (q_beq.mp h1) (Prod.ext (q_beq.mp h2) (q_beq.mp h3))
/-- a symbol more -/
theorem z_E.push {V : z_V} {vs : List Value} (hE : z_E V vs) {a b : Nat} (ha : a < 2 ^ 34) (hb : b < 2 ^ 34) {v : Value} (hv : z_en a b v) : z_E (z_push V a b) (vs ++ [v]) := by
  obtain ⟨h1, h2, h3⟩ := hE
  refine ⟨by simp [z_push, h1], ?_, fun s w hw => ?_⟩
  · exact z_gm (List.prefix_append _ _) h2
  · show z_en (q_get (q_set V.2.1 V.1 a) s) (q_get (q_set V.2.2.1 V.1 b) s) w
    rw [q_get_set _ _ _ _ ha, q_get_set _ _ _ _ hb]
    by_cases e : s = V.1
    · subst e
      rw [← h1, List.getElem?_append_right (Nat.le_refl _), Nat.sub_self] at hw
      have hw : some v = some w := hw
      cases hw
      rw [if_pos rfl, if_pos rfl]
      exact hv
    · rw [if_neg e, if_neg e]
      have hs : s < vs.length := by
        have := (List.getElem?_eq_some_iff.mp hw).1
        rw [List.length_append, List.length_singleton] at this
        omega
      rw [List.getElem?_append_left hs] at hw
      exact h3 s w hw
theorem z_last {vs : List Value} {v : Value} {n : Nat} (h : vs.length = n) : (vs ++ [v])[n]? = some v := by
  subst h
  rw [List.getElem?_append_right (Nat.le_refl _), Nat.sub_self]
  rfl
theorem z_E.same {V W : z_V} {vs : List Value} (hE : z_E V vs) (h1 : W.1 = V.1) (h2 : W.2.1 = V.2.1) (h3 : W.2.2.1 = V.2.2.1) : z_E W vs := by
  refine ⟨by rw [h1]; exact hE.1, hE.2.1, fun s v hv => ?_⟩
  rw [h2, h3]
  exact hE.2.2 s v hv
/-- bounds of a symbol are drawn closer -/
theorem z_E.near {V : z_V} {vs : List Value} (hE : z_E V vs) {s a b : Nat} (ha : a < 2 ^ 34) (hb : b < 2 ^ 34) (h : ∀ v, vs[s]? = some v → z_en a b v) {F : List z_A × List z_B × Nat} : z_E (V.1, q_set V.2.1 s a, q_set V.2.2.1 s b, F) vs := by
  refine ⟨hE.1, hE.2.1, fun k v hv => ?_⟩
  show z_en (q_get (q_set V.2.1 s a) k) (q_get (q_set V.2.2.1 s b) k) v
  rw [q_get_set _ _ _ _ ha, q_get_set _ _ _ _ hb]
  by_cases e : k = s
  · subst e
    rw [if_pos rfl, if_pos rfl]
    exact h v hv
  · rw [if_neg e, if_neg e]
    exact hE.2.2 k v hv
theorem z_E.near1 {V : z_V} {vs : List Value} (hE : z_E V vs) {s a : Nat} (ha : a < 2 ^ 34) (h : ∀ v, vs[s]? = some v → z_en a (q_get V.2.2.1 s) v) {F : Nat × List z_A × List z_B × Nat} (hF : F.1 = V.2.2.1) : z_E (V.1, q_set V.2.1 s a, F) vs := by
  refine ⟨hE.1, hE.2.1, fun k v hv => ?_⟩
  show z_en (q_get (q_set V.2.1 s a) k) (q_get F.1 k) v
  rw [q_get_set _ _ _ _ ha, hF]
  by_cases e : k = s
  · subst e
    rw [if_pos rfl]
    exact h v hv
  · rw [if_neg e]
    exact hE.2.2 k v hv
/-! the world -/
/-- the k-th place of a cell -/
def z_at (e : va_E) (k : Nat) : Option Value := match e with
  | .inr (_, fs) => fs[k]?
  | .inl (_, n, .inl f) => if k < n then some (.int (f k)) else none
  | _ => none
def z_ca (tys : List (ClassId × FieldType)) (ty : FieldType) (T : z_T) (e : va_E) : Prop := ∃ (cA : ClassId) (t : Nat) (f : Nat → Int32), e = .inl (cA, T.2.1, .inl f) ∧ tys[t]? = some (cA, ty) ∧ ∀ k, k < T.2.1 → (z_el T.2.2.1 (k % T.2.2.2.1)).1 ≤ q_qb (f k) ∧ q_qb (f k) ≤ (z_el T.2.2.1 (k % T.2.2.2.1)).2
def z_cl (tys : List (ClassId × FieldType)) (T : z_T) (e : va_E) : Prop := ∃ (cA : ClassId) (t : Nat) (f : Nat → Int64), e = .inl (cA, T.2.1, .inr (.inl f)) ∧ tys[t]? = some (cA, .long)
def z_cq (ad ts : List Nat) (tys : List (ClassId × FieldType)) (T : z_T) (e : va_E) : Prop := ∃ (cA : ClassId) (t : Nat) (f : Nat → Option Nat), e = .inl (cA, T.2.1, .inr (.inr (.inr (.inr f)))) ∧ tys[t]? = some (cA, .object "SandNights$Sand") ∧ ∀ j a, j < T.2.1 → f j = some a → z_rt ad ts z_tS (.ref a)
def z_co (ad ts : List Nat) (T : z_T) (e : va_E) : Prop := ∃ fs : List Value, e = .inr (T.2.1, fs) ∧ fs.length = T.2.2.1.length ∧ ∀ k v, fs[k]? = some v → z_tv ad ts (z_nth T.2.2.1 k) v
def z_cell (ad ts : List Nat) (tys : List (ClassId × FieldType)) (T : z_T) (e : va_E) : Prop := (T.1 = 0 ∧ z_co ad ts T e) ∨ (T.1 = 1 ∧ z_ca tys .int T e) ∨ (T.1 = 3 ∧ z_ca tys .byte T e) ∨ (T.1 = 5 ∧ z_ca tys .boolean T e) ∨ (T.1 = 7 ∧ z_cl tys T e) ∨ (T.1 = 9 ∧ z_cq ad ts tys T e)
theorem z_cell.mono {ad ad' ts ts' : List Nat} {tys tys' : List (ClassId × FieldType)} {T : z_T} {e : va_E} (h : z_cell ad ts tys T e) (hp : ad <+: ad') (hq : ts <+: ts') (ht : tys <+: tys') : z_cell ad' ts' tys' T e := by
  rcases h with ⟨h0, fs, h1, h2, h3⟩ | ⟨h0, cA, t, f, h1, h2, h3⟩ | ⟨h0, cA, t, f, h1, h2, h3⟩ | ⟨h0, cA, t, f, h1, h2, h3⟩ | ⟨h0, cA, t, f, h1, h2⟩ | ⟨h0, cA, t, f, h1, h2, h3⟩
  · exact Or.inl ⟨h0, fs, h1, h2, fun k v hv => (h3 k v hv).mono hp hq⟩
  · exact Or.inr (Or.inl ⟨h0, cA, t, f, h1, z_gm ht h2, h3⟩)
  · exact Or.inr (Or.inr (Or.inl ⟨h0, cA, t, f, h1, z_gm ht h2, h3⟩))
  · exact Or.inr (Or.inr (Or.inr (Or.inl ⟨h0, cA, t, f, h1, z_gm ht h2, h3⟩)))
  · exact Or.inr (Or.inr (Or.inr (Or.inr (Or.inl ⟨h0, cA, t, f, h1, z_gm ht h2⟩))))
  · exact Or.inr (Or.inr (Or.inr (Or.inr (Or.inr ⟨h0, cA, t, f, h1, z_gm ht h2, fun j a hj ha => (h3 j a hj ha).mono hp hq⟩))))
section ZC
variable {ad ts : List Nat} {tys : List (ClassId × FieldType)} {T : z_T} {e : va_E}
theorem z_cell.obj (h : z_cell ad ts tys T e) (h0 : T.1 = 0) : z_co ad ts T e := by
  rcases h with ⟨_, h⟩ | ⟨h, _⟩ | ⟨h, _⟩ | ⟨h, _⟩ | ⟨h, _⟩ | ⟨h, _⟩
  · exact h
  all_goals omega
theorem z_cell.ints (h : z_cell ad ts tys T e) (h0 : T.1 = 1) : z_ca tys .int T e := by
  rcases h with ⟨h, _⟩ | ⟨_, h⟩ | ⟨h, _⟩ | ⟨h, _⟩ | ⟨h, _⟩ | ⟨h, _⟩
  · omega
  · exact h
  all_goals omega
theorem z_cell.bytes (h : z_cell ad ts tys T e) (h0 : T.1 = 3) : z_ca tys .byte T e := by
  rcases h with ⟨h, _⟩ | ⟨h, _⟩ | ⟨_, h⟩ | ⟨h, _⟩ | ⟨h, _⟩ | ⟨h, _⟩
  · omega
  · omega
  · exact h
  all_goals omega
theorem z_cell.bools (h : z_cell ad ts tys T e) (h0 : T.1 = 5) : z_ca tys .boolean T e := by
  rcases h with ⟨h, _⟩ | ⟨h, _⟩ | ⟨h, _⟩ | ⟨_, h⟩ | ⟨h, _⟩ | ⟨h, _⟩
  · omega
  · omega
  · omega
  · exact h
  all_goals omega
theorem z_cell.longs (h : z_cell ad ts tys T e) (h0 : T.1 = 7) : z_cl tys T e := by
  rcases h with ⟨h, _⟩ | ⟨h, _⟩ | ⟨h, _⟩ | ⟨h, _⟩ | ⟨_, h⟩ | ⟨h, _⟩
  · omega
  · omega
  · omega
  · omega
  · exact h
  · omega
theorem z_cell.refs (h : z_cell ad ts tys T e) (h0 : T.1 = 9) : z_cq ad ts tys T e := by
  rcases h with ⟨h, _⟩ | ⟨h, _⟩ | ⟨h, _⟩ | ⟨h, _⟩ | ⟨h, _⟩ | ⟨_, h⟩
  · omega
  · omega
  · omega
  · omega
  · omega
  · exact h
end ZC
def z_W (tt : Nat → z_T) (ws : va_W) (tys : List (ClassId × FieldType)) (ts : List Nat) : Prop := ts.length = ws.length ∧ ∀ (k a : Nat) (e : va_E), ws[k]? = some (a, e) → ∃ t, ts[k]? = some t ∧ z_cell (q_ad ws) ts tys (tt t) e
/-- a cell that a ref names -/
theorem z_W.cell {tt : Nat → z_T} {ws : va_W} {tys : List (ClassId × FieldType)} {ts : List Nat} (hw : z_W tt ws tys ts) {j a t : Nat} (h1 : (q_ad ws)[j]? = some a) (h2 : ts[j]? = some t) : ∃ e, ws[j]? = some (a, e) ∧ z_cell (q_ad ws) ts tys (tt t) e := by
  have hj : j < ws.length := by
    have := (List.getElem?_eq_some_iff.mp h1).1
    simpa [q_ad] using this
  obtain ⟨b, e⟩ : Nat × va_E := ws[j]
  have he : ws[j]? = some (ws[j]'hj) := List.getElem?_eq_getElem hj
  generalize hx : ws[j]'hj = x at he
  obtain ⟨a2, e2⟩ := x
  have h3 : (q_ad ws)[j]? = some a2 := by rw [List.getElem?_map, he]; rfl
  have h4 : a2 = a := Option.some.inj (h3.symm.trans h1)
  subst h4
  obtain ⟨t2, h5, h6⟩ := hw.2 j a2 e2 he
  have h7 : t2 = t := Option.some.inj (h5.symm.trans h2)
  subst h7
  exact ⟨e2, he, h6⟩
/-- a cell is written -/
theorem z_W.set {tt : Nat → z_T} {ws : va_W} {tys : List (ClassId × FieldType)} {ts : List Nat} (hw : z_W tt ws tys ts) {j a t : Nat} {e e' : va_E} (he : ws[j]? = some (a, e)) (ht : ts[j]? = some t) (hc : z_cell (q_ad ws) ts tys (tt t) e') : z_W tt (ws.set j (a, e')) tys ts := by
  refine ⟨by rw [List.length_set]; exact hw.1, fun k b f hk => ?_⟩
  rw [q_ad_set ws j a e e' he]
  by_cases e1 : j = k
  · subst e1
    rw [List.getElem?_set_self (List.getElem?_eq_some_iff.mp he).1] at hk
    cases hk
    exact ⟨t, ht, hc⟩
  · rw [List.getElem?_set_ne e1] at hk
    exact hw.2 k b f hk
/-- what is not written stays -/
def z_wr (kw : List z_C) (t k : Nat) : Prop := z_kw kw t (2147483648 + k) (2147483648 + k) = true
def z_Fr (kw : List z_C) (w0 : va_W) (t0 : List Nat) (ws : va_W) (ts : List Nat) : Prop := t0 <+: ts ∧ q_ad w0 <+: q_ad ws ∧ ∀ (j a t k : Nat) (e : va_E) (v : Value), w0[j]? = some (a, e) → t0[j]? = some t → z_at e k = some v → ¬ z_wr kw t k → ∃ e', ws[j]? = some (a, e') ∧ z_at e' k = some v
theorem z_any_iff {α : Type} {p : α → Bool} {l : List α} : z_any p l = true ↔ ∃ a ∈ l, p a = true := by
  induction l with
  | nil => exact ⟨fun h => (by cases h), fun ⟨_, h, _⟩ => (by cases h)⟩
  | cons a t ih =>
    show (bif p a then true else z_any p t) = true ↔ _
    cases h : p a with
    | true => exact ⟨fun _ => ⟨a, List.mem_cons_self, h⟩, fun _ => rfl⟩
    | false =>
      show z_any p t = true ↔ _
      rw [ih]
      exact ⟨fun ⟨b, h1, h2⟩ => ⟨b, List.mem_cons_of_mem _ h1, h2⟩, fun ⟨b, h1, h2⟩ => by
        rcases List.mem_cons.mp h1 with rfl | h1
        · rw [h] at h2; cases h2
        · exact ⟨b, h1, h2⟩⟩
theorem z_all_iff {α : Type} {p : α → Bool} {l : List α} : z_all p l = true ↔ ∀ a ∈ l, p a = true := by
  induction l with
  | nil => exact ⟨fun _ _ h => (by cases h), fun _ => rfl⟩
  | cons a t ih =>
    show (bif p a then z_all p t else false) = true ↔ _
    cases h : p a with
    | true =>
      show z_all p t = true ↔ _
      rw [ih]
      exact ⟨fun h2 b hb => by
        rcases List.mem_cons.mp hb with rfl | hb
        · exact h
        · exact h2 b hb, fun h2 b hb => h2 b (List.mem_cons_of_mem _ hb)⟩
    | false => exact ⟨fun h2 => (by cases h2), fun h2 => (by rw [h2 a List.mem_cons_self] at h; cases h)⟩
theorem z_flt_mem {α : Type} {p : α → Bool} {l : List α} {a : α} : a ∈ z_flt p l ↔ a ∈ l ∧ p a = true := by
  induction l with
  | nil => exact ⟨fun h => (by cases h), fun h => (by cases h.1)⟩
  | cons b t ih =>
    have e : z_flt p (b :: t) = bif p b then b :: z_flt p t else z_flt p t := rfl
    rw [e]
    cases h : p b with
    | true =>
      show a ∈ b :: z_flt p t ↔ _
      rw [List.mem_cons, List.mem_cons, ih]
      exact ⟨fun h2 => h2.elim (fun h3 => ⟨Or.inl h3, by rw [h3]; exact h⟩) (fun h3 => ⟨Or.inr h3.1, h3.2⟩), fun h2 => h2.1.elim Or.inl (fun h3 => Or.inr ⟨h3, h2.2⟩)⟩
    | false =>
      show a ∈ z_flt p t ↔ _
      rw [ih, List.mem_cons]
      exact ⟨fun h2 => ⟨Or.inr h2.1, h2.2⟩, fun h2 => h2.1.elim (fun h3 => absurd h2.2 (by rw [h3, h]; decide)) (fun h3 => ⟨h3, h2.2⟩)⟩
theorem z_kw_iff {kw : List z_C} {t lo hi : Nat} : z_kw kw t lo hi = true ↔ ∃ e ∈ kw, e.1 = t ∧ e.2.1 ≤ lo ∧ hi ≤ e.2.2 := by
  show z_any _ kw = true ↔ _
  rw [z_any_iff]
  constructor
  · rintro ⟨e, h1, h2⟩
    obtain ⟨h2, h3⟩ := q_ands h2
    obtain ⟨h3, h4⟩ := q_ands h3
    exact ⟨e, h1, q_beq.mp h2, q_ble.mp h3, q_ble.mp h4⟩
  · rintro ⟨e, h1, h2, h3, h4⟩
    refine ⟨e, h1, ?_⟩
    rw [q_beq.mpr h2, q_ble.mpr h3, q_ble.mpr h4]
    rfl
theorem z_wr.of {kw : List z_C} {t lo hi k : Nat} (h : z_kw kw t lo hi = true) (h1 : lo ≤ 2147483648 + k) (h2 : 2147483648 + k ≤ hi) : z_wr kw t k := by
  obtain ⟨e, e1, e2, e3, e4⟩ := z_kw_iff.mp h
  exact z_kw_iff.mpr ⟨e, e1, e2, by omega, by omega⟩
theorem z_Fr.rf (kw : List z_C) (ws : va_W) (ts : List Nat) : z_Fr kw ws ts ws ts := ⟨List.prefix_rfl, List.prefix_rfl, fun _ _ _ _ e _ h _ h2 _ => ⟨e, h, h2⟩⟩
theorem z_Fr.trans {kw : List z_C} {w0 w1 w2 : va_W} {t0 t1 t2 : List Nat} (h : z_Fr kw w0 t0 w1 t1) (g : z_Fr kw w1 t1 w2 t2) : z_Fr kw w0 t0 w2 t2 := by
  refine ⟨h.1.trans g.1, h.2.1.trans g.2.1, fun j a t k e v h1 h2 h3 h4 => ?_⟩
  obtain ⟨e', h5, h6⟩ := h.2.2 j a t k e v h1 h2 h3 h4
  exact g.2.2 j a t k e' v h5 (z_gm h.1 h2) h6 h4
theorem z_Fr.wide {kw kw' : List z_C} {w0 w1 : va_W} {t0 t1 : List Nat} (h : z_Fr kw w0 t0 w1 t1) (hk : ∀ t k, z_wr kw t k → z_wr kw' t k) : z_Fr kw' w0 t0 w1 t1 := ⟨h.1, h.2.1, fun j a t k e v h1 h2 h3 h4 => h.2.2 j a t k e v h1 h2 h3 (fun z => h4 (hk t k z))⟩
/-- one cell written, at places that may be -/
theorem z_Fr.set {kw : List z_C} {w0 ws : va_W} {t0 ts : List Nat} (h : z_Fr kw w0 t0 ws ts) {j a t : Nat} {e e' : va_E} (he : ws[j]? = some (a, e)) (ht : ts[j]? = some t) (hs : ∀ k v, z_at e k = some v → ¬ z_wr kw t k → z_at e' k = some v) : z_Fr kw w0 t0 (ws.set j (a, e')) ts := by
  refine ⟨h.1, by rw [q_ad_set ws j a e e' he]; exact h.2.1, fun i b u k f v h1 h2 h3 h4 => ?_⟩
  obtain ⟨f', h5, h6⟩ := h.2.2 i b u k f v h1 h2 h3 h4
  by_cases e1 : j = i
  · subst e1
    rw [he] at h5
    cases h5
    have e2 : u = t := Option.some.inj ((z_gm h.1 h2).symm.trans ht)
    subst e2
    exact ⟨e', by rw [List.getElem?_set_self (List.getElem?_eq_some_iff.mp he).1], hs k v h6 h4⟩
  · exact ⟨f', by rw [List.getElem?_set_ne e1]; exact h5, h6⟩
/-! facts, dependents, locals, stack -/
def z_f1 (sa : Nat → Nat) (ws : va_W) (ts : List Nat) (vs : List Value) (f : z_A) : Prop := ∃ (a j k : Nat) (e : va_E) (y : Int32) (v : Value), vs[f.1]? = some (.ref a) ∧ ws[j]? = some (a, e) ∧ ts[j]? = some f.2.1 ∧ z_v sa (q_ad ws) ts vs f.2.2.1 (.int y) ∧ f.2.2.1.1 = 0 ∧ q_qb y = 2147483648 + k ∧ z_at e k = some v ∧ z_v sa (q_ad ws) ts vs f.2.2.2 v
def z_Fs (sa : Nat → Nat) (ws : va_W) (ts : List Nat) (vs : List Value) (F : List z_A) : Prop := ∀ f ∈ F, z_f1 sa ws ts vs f
def z_d1 (sa : Nat → Nat) (tt : Nat → z_T) (ad ts : List Nat) (vs : List Value) (d : z_B) : Prop := ∃ (x y : Int32) (k : Nat), vs[d.1]? = some (.int x) ∧ z_v sa ad ts vs d.2.2 (.int y) ∧ d.2.2.1 = 0 ∧ q_qb y = 2147483648 + k ∧ (z_el (tt d.2.1).2.2.1 (k % (tt d.2.1).2.2.2.1)).1 ≤ q_qb x ∧ q_qb x ≤ (z_el (tt d.2.1).2.2.1 (k % (tt d.2.1).2.2.2.1)).2
def z_Ds (sa : Nat → Nat) (tt : Nat → z_T) (ad ts : List Nat) (vs : List Value) (D : List z_B) : Prop := ∀ d ∈ D, z_d1 sa tt ad ts vs d
def z_Lr (sa : Nat → Nat) (ad ts : List Nat) (vs : List Value) (L : List z_C) (nL : Nat) (ls : Array Slot) : Prop := L.length = nL ∧ ∃ lv : List (Nat × Value), lv_has ls nL lv ∧ ∀ i c, L[i]? = some c → c.1 = 9 ∨ ∃ v, (i, v) ∈ lv ∧ z_v sa ad ts vs c v
def z_Sr (sa : Nat → Nat) (ad ts : List Nat) (vs : List Value) : List z_C → List Value → Prop
  | [], [] => True
  | c :: st, v :: sv => z_v sa ad ts vs c v ∧ z_Sr sa ad ts vs st sv
  | _, _ => False
section ZM
variable {sa : Nat → Nat} {tt : Nat → z_T} {ad ad' ts ts' : List Nat} {vs vs' : List Value}
theorem z_Sr.mono (hv : vs <+: vs') (hp : ad <+: ad') (hq : ts <+: ts') : ∀ {st : List z_C} {sv : List Value}, z_Sr sa ad ts vs st sv → z_Sr sa ad' ts' vs' st sv
  | [], [], _ => trivial
  | _ :: _, _ :: _, h => ⟨h.1.mono hv hp hq, z_Sr.mono hv hp hq h.2⟩
  | [], _ :: _, h => h.elim
  | _ :: _, [], h => h.elim
theorem z_Sr.cons {c : z_C} {st : List z_C} {sv : List Value} (h : z_Sr sa ad ts vs (c :: st) sv) : ∃ v sv', sv = v :: sv' ∧ z_v sa ad ts vs c v ∧ z_Sr sa ad ts vs st sv' := by
  cases sv with
  | nil => exact h.elim
  | cons v sv' => exact ⟨v, sv', rfl, h.1, h.2⟩
theorem z_Sr.nil {sv : List Value} (h : z_Sr sa ad ts vs [] sv) : sv = [] := by
  cases sv with
  | nil => rfl
  | cons v sv' => exact h.elim
theorem z_Sr.cats : ∀ {st : List z_C} {sv : List Value}, z_Sr sa ad ts vs st sv → sv.length = st.length ∧ (sv.map fun v => v.category).sum ≤ 2 * st.length
  | [], [], _ => ⟨rfl, by simp⟩
  | c :: st, v :: sv, h => by
    have ih := z_Sr.cats h.2
    have : v.category ≤ 2 := by rcases lv_cat v with h | h <;> omega
    simp only [List.length_cons, List.map_cons, List.sum_cons]
    omega
  | [], _ :: _, h => h.elim
  | _ :: _, [], h => h.elim
theorem z_Lr.mono {L : List z_C} {nL : Nat} {ls : Array Slot} (h : z_Lr sa ad ts vs L nL ls) (hv : vs <+: vs') (hp : ad <+: ad') (hq : ts <+: ts') : z_Lr sa ad' ts' vs' L nL ls := by
  obtain ⟨h1, lv, h2, h3⟩ := h
  refine ⟨h1, lv, h2, fun i c hc => ?_⟩
  rcases h3 i c hc with h4 | ⟨v, h4, h5⟩
  · exact Or.inl h4
  · exact Or.inr ⟨v, h4, h5.mono hv hp hq⟩
theorem z_Ds.mono {D : List z_B} (h : z_Ds sa tt ad ts vs D) (hv : vs <+: vs') (hp : ad <+: ad') (hq : ts <+: ts') : z_Ds sa tt ad' ts' vs' D := by
  intro d hd
  obtain ⟨x, y, k, h1, h2, h3⟩ := h d hd
  exact ⟨x, y, k, z_gm hv h1, h2.mono hv hp hq, h3⟩
theorem z_Fs.mono {ws : va_W} {F : List z_A} (h : z_Fs sa ws ts vs F) (hv : vs <+: vs') : z_Fs sa ws ts vs' F := by
  intro f hf
  obtain ⟨a, j, k, e, y, v, h1, h2, h3, h4, h5, h6, h7, h8⟩ := h f hf
  exact ⟨a, j, k, e, y, v, z_gm hv h1, h2, h3, h4.mono hv List.prefix_rfl List.prefix_rfl, h5, h6, h7, h8.mono hv List.prefix_rfl List.prefix_rfl⟩
end ZM
end
section
/-! ===== arithmetic on codes: what comes of it lies in the bounds ===== -/
theorem z_qi (x : Int32) : (q_qb x : Int) = x.toInt + 2147483648 := by
  have := q_rng x
  show ((x.toInt + 2147483648).toNat : Int) = _
  omega
theorem z_bm {n : Int} (h1 : -2147483648 ≤ n) (h2 : n < 2147483648) : n.bmod (2 ^ 32) = n := Int.bmod_eq_of_le (by simpa using h1) (by simpa using h2)
theorem z_qadd {x y : Int32} (h1 : 2147483648 ≤ q_qb x + q_qb y) (h2 : q_qb x + q_qb y < 6442450944) : q_qb (x + y) + 2147483648 = q_qb x + q_qb y := by
  have e := Int32.toInt_add x y
  have ex := z_qi x
  have ey := z_qi y
  have es := z_qi (x + y)
  rw [z_bm (by omega) (by omega)] at e
  omega
theorem z_qsub {x y : Int32} (h1 : q_qb y ≤ q_qb x + 2147483648) (h2 : q_qb x + 2147483648 < q_qb y + 4294967296) : q_qb (x - y) + q_qb y = q_qb x + 2147483648 := by
  have e := Int32.toInt_sub x y
  have ex := z_qi x
  have ey := z_qi y
  have es := z_qi (x - y)
  rw [z_bm (by omega) (by omega)] at e
  omega
theorem z_qneg {x : Int32} (h : 1 ≤ q_qb x) : q_qb (-x) + q_qb x = 4294967296 := by
  have e := Int32.toInt_neg x
  have ex := z_qi x
  have es := z_qi (-x)
  have := q_rng x
  rw [z_bm (by omega) (by omega)] at e
  omega
/-- an int from 0 on is a number -/
theorem z_nat {x : Int32} (h : 2147483648 ≤ q_qb x) : ∃ n, n < 2147483648 ∧ x = nI n ∧ q_qb x = 2147483648 + n := by
  obtain ⟨n, hn, rfl⟩ := nI_of (x := x) (fun hx => by
    have := (q_lt_iff x 0).mp hx
    rw [z_qb0] at this
    omega)
  refine ⟨n, hn, rfl, ?_⟩
  rw [q_qb_nI (by omega)]
  show (n + 2147483648) % 4294967296 = _
  omega
theorem z_qnI {n : Nat} (h : n < 2147483648) : q_qb (nI n) = 2147483648 + n := by
  rw [q_qb_nI (by omega)]
  show (n + 2147483648) % 4294967296 = _
  omega
theorem z_qmul {x y : Int32} {n m : Nat} (hx : x = nI n) (hy : y = nI m) (h : n * m < 2147483648) : q_qb (x * y) = 2147483648 + n * m := by
  subst hx; subst hy
  rw [pk_mul, z_qnI h]
theorem z_qand {x y : Int32} (h : 2147483648 ≤ q_qb x) : 2147483648 ≤ q_qb (x &&& y) ∧ q_qb (x &&& y) ≤ q_qb x := by
  obtain ⟨n, hn, rfl, e⟩ := z_nat h
  obtain ⟨e2, h2⟩ := q_self y
  rw [e2, q_and]
  have h3 : n &&& y.toBitVec.toNat ≤ n := Nat.and_le_left
  rw [z_qnI (by omega), e]
  omega
theorem z_qand2 {x y : Int32} (h : 2147483648 ≤ q_qb y) : 2147483648 ≤ q_qb (x &&& y) ∧ q_qb (x &&& y) ≤ q_qb y := by
  rw [Int32.and_comm]
  exact z_qand h
theorem z_qor {x y : Int32} (h : 2147483648 ≤ q_qb x) (h2 : 2147483648 ≤ q_qb y) : 2147483648 ≤ q_qb (x ||| y) := by
  obtain ⟨n, hn, rfl, e⟩ := z_nat h
  obtain ⟨m, hm, rfl, e2⟩ := z_nat h2
  have : n ||| m < 2 ^ 31 := Nat.or_lt_two_pow (by omega) (by omega)
  rw [q_or, z_qnI (by omega)]
  omega
theorem z_qxor {x y : Int32} (h : 2147483648 ≤ q_qb x) (h2 : 2147483648 ≤ q_qb y) : 2147483648 ≤ q_qb (x ^^^ y) := by
  obtain ⟨n, hn, rfl, e⟩ := z_nat h
  obtain ⟨m, hm, rfl, e2⟩ := z_nat h2
  have : n ^^^ m < 2 ^ 31 := Nat.xor_lt_two_pow (by omega) (by omega)
  rw [q_xor, z_qnI (by omega)]
  omega
theorem z_qrem {x y : Int32} (h : 2147483648 < q_qb y) : 4294967297 ≤ q_qb (x - x / y * y) + q_qb y ∧ q_qb (x - x / y * y) + 1 ≤ q_qb y := by
  have ex := z_qi x
  have ey := z_qi y
  have es := z_qi (x - x / y * y)
  have rx := q_rng x
  have ry := q_rng y
  have hy : 0 < y.toInt := by omega
  have hne : y ≠ -1 := by
    intro e
    rw [e] at hy
    exact absurd hy (by decide)
  have ed := Int32.toInt_div_of_ne_right x y hne
  have hm1 := Int.tmod_lt_of_pos x.toInt hy
  have hm2 := Int.lt_tmod_of_pos x.toInt hy
  have hm3 := Int.tdiv_mul_add_tmod x.toInt y.toInt
  have em : (x / y * y).toInt = x.toInt.tdiv y.toInt * y.toInt := by
    rw [Int32.toInt_mul, ed]
    have b1 : -2147483648 ≤ x.toInt.tdiv y.toInt * y.toInt := by
      rcases Int.le_total 0 x.toInt with h0 | h0
      · have := Int.tmod_nonneg y.toInt h0
        have : 0 ≤ x.toInt.tdiv y.toInt * y.toInt := Int.mul_nonneg (Int.tdiv_nonneg h0 (by omega)) (by omega)
        omega
      · have : x.toInt.tmod y.toInt ≤ 0 := by
          have h5 := Int.tmod_nonneg (a := -x.toInt) y.toInt (by omega)
          rw [Int.neg_tmod] at h5
          omega
        omega
    have b2 : x.toInt.tdiv y.toInt * y.toInt < 2147483648 := by
      rcases Int.le_total 0 x.toInt with h0 | h0
      · have := Int.tmod_nonneg y.toInt h0
        omega
      · have h5 := Int.tdiv_nonneg (a := -x.toInt) (b := y.toInt) (by omega) (by omega)
        rw [Int.neg_tdiv] at h5
        have : x.toInt.tdiv y.toInt * y.toInt ≤ 0 := Int.mul_nonpos_of_nonpos_of_nonneg (by omega) (by omega)
        omega
    exact z_bm b1 b2
  have e := Int32.toInt_sub x (x / y * y)
  rw [em, z_bm (by omega) (by omega)] at e
  omega
theorem z_shl1 : ∀ s, s < 31 → nI 1 <<< (nI s &&& 31) = nI (2 ^ s) := by decide +kernel
theorem z_pw (k n : Nat) : Nat.add k (Nat.pow 2 n) = k + 2 ^ n := rfl
theorem z_m31 (y : Int32) : ∃ b, b < 32 ∧ y &&& 31 = nI b := by
  obtain ⟨e, h⟩ := q_self y
  refine ⟨y.toBitVec.toNat &&& 31, Nat.lt_of_le_of_lt Nat.and_le_right (by decide), ?_⟩
  have := q_and y.toBitVec.toNat 31
  rw [← e] at this
  exact this
/-! what comes of an operation: a code for it -/
def z_Res {α : Type} (sa : Nat → Nat) (ad ts : List Nat) (V : z_V) (vs : List Value) (k : z_V → z_C → Option α) (R : α) (v : Value) : Prop := ∃ W c vs', k W c = some R ∧ vs <+: vs' ∧ z_E W vs' ∧ W.2.2.2 = V.2.2.2 ∧ z_v sa ad ts vs' c v
theorem z_frv_eq {α : Type} (v : z_V) (k : z_V → α) : z_frv v k = k v := by
  show q_fr v.1 (fun n => q_fr v.2.1 (fun lo => q_fr v.2.2.1 (fun hi => k (n, lo, hi, v.2.2.2)))) = _
  rw [q_fr_eq, q_fr_eq, q_fr_eq]
section ZO
variable {α : Type} {sa : Nat → Nat} {ad ts : List Nat} {V : z_V} {vs : List Value} {k : z_V → z_C → Option α} {R : α} {a b : z_C} {x y : Int32} {lo hi : Nat}
theorem z_fi_s (hr : z_fi V lo hi k = some R) (hE : z_E V vs) (h1 : lo ≤ q_qb y) (h2 : q_qb y ≤ hi) : z_Res sa ad ts V vs k R (.int y) := by
  unfold z_fi at hr
  cases hb : Nat.beq lo hi with
  | true =>
    rw [q_ift _ _ hb, q_fr_eq] at hr
    have e := q_beq.mp hb
    have e2 : lo = q_qb y := by omega
    rw [e2] at hr
    exact ⟨V, _, vs, hr, List.prefix_rfl, hE, rfl, z_v.mkcon hE⟩
  | false =>
    rw [q_iff _ _ hb] at hr
    obtain ⟨h3, hr⟩ := q_bifs hr
    obtain ⟨h3, h4⟩ := q_ands h3
    have h3 := q_ble.mp h3
    have h4 := q_ble.mp h4
    rw [q_fr_eq, q_fr_eq, z_frv_eq] at hr
    refine ⟨_, _, vs ++ [.int y], hr, List.prefix_append _ _, hE.push (v := .int y) (by omega) (by omega) ⟨h1, h2⟩, rfl, Or.inl ⟨rfl, y, y, ?_, rfl, rfl⟩⟩
    exact z_last hE.1
theorem z_an_s (hr : z_an V k = some R) (hE : z_E V vs) : z_Res sa ad ts V vs k R (.int y) := z_fi_s hr hE (Nat.zero_le _) (q_qb_hi y)
theorem z_oadd_s (hr : z_oadd V a b k = some R) (hE : z_E V vs) (ka : a.1 = 0) (kb : b.1 = 0) (ha : z_v sa ad ts vs a (.int x)) (hb : z_v sa ad ts vs b (.int y)) : z_Res sa ad ts V vs k R (.int (x + y)) := by
  obtain ⟨x2, ex, ax, bx⟩ := ha.bnd hE ka
  cases ex
  obtain ⟨y2, ey, ay, by2⟩ := hb.bnd hE kb
  cases ey
  unfold z_oadd at hr
  cases h1 : (Nat.ble 2147483648 (Nat.add (z_il V a) (z_il V b)) && Nat.blt (Nat.add (z_ih V a) (z_ih V b)) 6442450944) with
  | false =>
    rw [q_iff _ _ h1] at hr
    exact z_an_s hr hE
  | true =>
    rw [q_ift _ _ h1] at hr
    obtain ⟨h2, h3⟩ := q_ands h1
    have h2 : 2147483648 ≤ z_il V a + z_il V b := q_ble.mp h2
    have h3 : z_ih V a + z_ih V b < 6442450944 := q_blt.mp h3
    have hs := z_qadd (x := x) (y := y) (by omega) (by omega)
    cases h4 : (Nat.ble 2147483648 (Nat.add a.2.2 b.2.2) && (Nat.beq a.2.1 0 || Nat.beq b.2.1 0)) with
    | false =>
      rw [q_iff _ _ h4] at hr
      refine z_fi_s hr hE ?_ ?_
      · show z_il V a + z_il V b - 2147483648 ≤ _
        omega
      · show _ ≤ z_ih V a + z_ih V b - 2147483648
        omega
    | true =>
      rw [q_ift _ _ h4, q_fr_eq] at hr
      obtain ⟨h5, h6⟩ := q_ands h4
      have h5 : 2147483648 ≤ a.2.2 + b.2.2 := q_ble.mp h5
      obtain ⟨xa, ya, ha1, ha2, ha3⟩ := ha.int ka
      cases ha2
      obtain ⟨xb, yb, hb1, hb2, hb3⟩ := hb.int kb
      cases hb2
      refine ⟨V, _, vs, hr, List.prefix_rfl, hE, rfl, ?_⟩
      rcases q_ors h6 with h6 | h6
      · have h6 := q_beq.mp h6
        rw [h6] at ha1
        rw [hE.2.1] at ha1
        cases ha1
        rw [z_qb0] at ha3
        refine Or.inl ⟨rfl, xb, x + y, ?_, rfl, ?_⟩
        · show vs[a.2.1 + b.2.1]? = _
          rw [h6, Nat.zero_add]
          exact hb1
        · show q_qb (x + y) + 2147483648 = q_qb xb + (a.2.2 + b.2.2 - 2147483648)
          omega
      · have h6 := q_beq.mp h6
        rw [h6] at hb1
        rw [hE.2.1] at hb1
        cases hb1
        rw [z_qb0] at hb3
        refine Or.inl ⟨rfl, xa, x + y, ?_, rfl, ?_⟩
        · show vs[a.2.1 + b.2.1]? = _
          rw [h6, Nat.add_zero]
          exact ha1
        · show q_qb (x + y) + 2147483648 = q_qb xa + (a.2.2 + b.2.2 - 2147483648)
          omega
theorem z_osub_s (hr : z_osub V a b k = some R) (hE : z_E V vs) (ka : a.1 = 0) (kb : b.1 = 0) (ha : z_v sa ad ts vs a (.int x)) (hb : z_v sa ad ts vs b (.int y)) : z_Res sa ad ts V vs k R (.int (x - y)) := by
  obtain ⟨x2, ex, ax, bx⟩ := ha.bnd hE ka
  cases ex
  obtain ⟨y2, ey, ay, by2⟩ := hb.bnd hE kb
  cases ey
  unfold z_osub at hr
  cases h1 : (Nat.ble (z_ih V b) (Nat.add (z_il V a) 2147483648) && Nat.blt (Nat.add (z_ih V a) 2147483648) (Nat.add (z_il V b) 4294967296)) with
  | false =>
    rw [q_iff _ _ h1] at hr
    exact z_an_s hr hE
  | true =>
    rw [q_ift _ _ h1] at hr
    obtain ⟨h2, h3⟩ := q_ands h1
    have h2 : z_ih V b ≤ z_il V a + 2147483648 := q_ble.mp h2
    have h3 : z_ih V a + 2147483648 < z_il V b + 4294967296 := q_blt.mp h3
    have hs := z_qsub (x := x) (y := y) (by omega) (by omega)
    cases h4 : (Nat.ble b.2.2 (Nat.add a.2.2 2147483648) && Nat.beq b.2.1 0) with
    | false =>
      rw [q_iff _ _ h4] at hr
      refine z_fi_s hr hE ?_ ?_
      · show z_il V a + 2147483648 - z_ih V b ≤ _
        omega
      · show _ ≤ z_ih V a + 2147483648 - z_il V b
        omega
    | true =>
      rw [q_ift _ _ h4, q_fr_eq] at hr
      obtain ⟨h5, h6⟩ := q_ands h4
      have h5 : b.2.2 ≤ a.2.2 + 2147483648 := q_ble.mp h5
      have h6 := q_beq.mp h6
      obtain ⟨xa, ya, ha1, ha2, ha3⟩ := ha.int ka
      cases ha2
      obtain ⟨xb, yb, hb1, hb2, hb3⟩ := hb.int kb
      cases hb2
      rw [h6] at hb1
      rw [hE.2.1] at hb1
      cases hb1
      rw [z_qb0] at hb3
      refine ⟨V, _, vs, hr, List.prefix_rfl, hE, rfl, Or.inl ⟨rfl, xa, x - y, ha1, rfl, ?_⟩⟩
      show q_qb (x - y) + 2147483648 = q_qb xa + (a.2.2 + 2147483648 - b.2.2)
      omega
theorem z_po_iff : z_po V a = true ↔ 2147483648 ≤ z_il V a := q_ble
theorem z_ul_eq : z_ul V a = z_il V a - 2147483648 := by
  show Nat.sub (z_il V a) 2147483648 = _
  rw [Nat.sub_eq]
theorem z_uh_eq : z_uh V a = z_ih V a - 2147483648 := by
  show Nat.sub (z_ih V a) 2147483648 = _
  rw [Nat.sub_eq]
theorem z_omul_s (hr : z_omul V a b k = some R) (hE : z_E V vs) (ka : a.1 = 0) (kb : b.1 = 0) (ha : z_v sa ad ts vs a (.int x)) (hb : z_v sa ad ts vs b (.int y)) : z_Res sa ad ts V vs k R (.int (x * y)) := by
  obtain ⟨x2, ex, ax, bx⟩ := ha.bnd hE ka
  cases ex
  obtain ⟨y2, ey, ay, by2⟩ := hb.bnd hE kb
  cases ey
  unfold z_omul at hr
  cases h1 : (z_po V a && (z_po V b && Nat.blt (Nat.mul (z_uh V a) (z_uh V b)) 2147483648)) with
  | false =>
    rw [q_iff _ _ h1] at hr
    exact z_an_s hr hE
  | true =>
    rw [q_ift _ _ h1] at hr
    obtain ⟨h2, h3⟩ := q_ands h1
    obtain ⟨h3, h4⟩ := q_ands h3
    have h2 := z_po_iff.mp h2
    have h3 := z_po_iff.mp h3
    have h4 : z_uh V a * z_uh V b < 2147483648 := q_blt.mp h4
    obtain ⟨n, hn, en, en2⟩ := z_nat (x := x) (by omega)
    obtain ⟨m, hm, em, em2⟩ := z_nat (x := y) (by omega)
    have u1 : n ≤ z_uh V a := by rw [z_uh_eq]; omega
    have u2 : m ≤ z_uh V b := by rw [z_uh_eq]; omega
    have u3 : z_ul V a ≤ n := by rw [z_ul_eq]; omega
    have u4 : z_ul V b ≤ m := by rw [z_ul_eq]; omega
    have p1 : n * m ≤ z_uh V a * z_uh V b := Nat.mul_le_mul u1 u2
    have p2 : z_ul V a * z_ul V b ≤ n * m := Nat.mul_le_mul u3 u4
    have hs := z_qmul en em (by omega)
    refine z_fi_s hr hE ?_ ?_
    · show 2147483648 + z_ul V a * z_ul V b ≤ _
      omega
    · show _ ≤ 2147483648 + z_uh V a * z_uh V b
      omega
theorem z_min_le1 (a b : Nat) : z_min a b ≤ a ∧ z_min a b ≤ b := by
  unfold z_min
  cases h : Nat.ble a b with
  | true => have := q_ble.mp h; exact ⟨Nat.le_refl _, this⟩
  | false => have := q_bnle.mp h; exact ⟨Nat.le_of_lt this, Nat.le_refl _⟩
theorem z_le_min {a b c : Nat} (h1 : c ≤ a) (h2 : c ≤ b) : c ≤ z_min a b := by
  unfold z_min
  cases h : Nat.ble a b with
  | true => exact h1
  | false => exact h2
theorem z_max_le {a b c : Nat} (h1 : a ≤ c) (h2 : b ≤ c) : z_max a b ≤ c := by
  unfold z_max
  cases h : Nat.ble a b with
  | true => exact h2
  | false => exact h1
theorem z_le_max (a b : Nat) : a ≤ z_max a b ∧ b ≤ z_max a b := by
  unfold z_max
  cases h : Nat.ble a b with
  | true => have := q_ble.mp h; exact ⟨this, Nat.le_refl _⟩
  | false => have := q_bnle.mp h; exact ⟨Nat.le_refl _, Nat.le_of_lt this⟩
theorem z_oand_s (hr : z_oand V a b k = some R) (hE : z_E V vs) (ka : a.1 = 0) (kb : b.1 = 0) (ha : z_v sa ad ts vs a (.int x)) (hb : z_v sa ad ts vs b (.int y)) : z_Res sa ad ts V vs k R (.int (x &&& y)) := by
  obtain ⟨x2, ex, ax, bx⟩ := ha.bnd hE ka
  cases ex
  obtain ⟨y2, ey, ay, by2⟩ := hb.bnd hE kb
  cases ey
  unfold z_oand at hr
  cases h1 : z_po V a with
  | true =>
    rw [q_ift _ _ h1] at hr
    have h1 := z_po_iff.mp h1
    have e1 := z_qand (x := x) (y := y) (by omega)
    refine z_fi_s hr hE e1.1 ?_
    cases h2 : z_po V b with
    | true =>
      rw [q_ift _ _ rfl]
      have h2 := z_po_iff.mp h2
      have e2 := z_qand2 (x := x) (y := y) (by omega)
      exact z_le_min (by omega) (by omega)
    | false =>
      rw [q_iff _ _ rfl]
      omega
  | false =>
    rw [q_iff _ _ h1] at hr
    cases h2 : z_po V b with
    | true =>
      rw [q_ift _ _ h2] at hr
      have h2 := z_po_iff.mp h2
      have e2 := z_qand2 (x := x) (y := y) (by omega)
      exact z_fi_s hr hE e2.1 (by omega)
    | false =>
      rw [q_iff _ _ h2] at hr
      exact z_an_s hr hE
theorem z_oor_s (hr : z_oor V a b k = some R) (hE : z_E V vs) (ka : a.1 = 0) (kb : b.1 = 0) (ha : z_v sa ad ts vs a (.int x)) (hb : z_v sa ad ts vs b (.int y)) {w : Int32} (hw : w = x ||| y ∨ w = x ^^^ y) : z_Res sa ad ts V vs k R (.int w) := by
  obtain ⟨x2, ex, ax, bx⟩ := ha.bnd hE ka
  cases ex
  obtain ⟨y2, ey, ay, by2⟩ := hb.bnd hE kb
  cases ey
  unfold z_oor at hr
  cases h1 : (z_po V a && z_po V b) with
  | false =>
    rw [q_iff _ _ h1] at hr
    exact z_an_s hr hE
  | true =>
    rw [q_ift _ _ h1] at hr
    obtain ⟨h2, h3⟩ := q_ands h1
    have h2 := z_po_iff.mp h2
    have h3 := z_po_iff.mp h3
    refine z_fi_s hr hE ?_ (q_qb_hi w)
    rcases hw with rfl | rfl
    · exact z_qor (by omega) (by omega)
    · exact z_qxor (by omega) (by omega)
theorem z_odiv_s (hr : z_odiv V a b k = some R) (hE : z_E V vs) (ka : a.1 = 0) (kb : b.1 = 0) (ha : z_v sa ad ts vs a (.int x)) (hb : z_v sa ad ts vs b (.int y)) : ¬ y = 0 ∧ z_Res sa ad ts V vs k R (.int (x / y)) := by
  obtain ⟨x2, ex, ax, bx⟩ := ha.bnd hE ka
  cases ex
  obtain ⟨y2, ey, ay, by2⟩ := hb.bnd hE kb
  cases ey
  unfold z_odiv at hr
  cases h1 : Nat.blt 2147483648 (z_il V b) with
  | true =>
    rw [q_ift _ _ h1] at hr
    have h1 := q_blt.mp h1
    refine ⟨fun e => by rw [e, z_qb0] at ay; omega, ?_⟩
    cases h2 : z_po V a with
    | false =>
      rw [q_iff _ _ h2] at hr
      exact z_an_s hr hE
    | true =>
      rw [q_ift _ _ h2] at hr
      have h2 := z_po_iff.mp h2
      obtain ⟨n, hn, en, en2⟩ := z_nat (x := x) (by omega)
      obtain ⟨m, hm, em, em2⟩ := z_nat (x := y) (by omega)
      have u1 : n ≤ z_uh V a := by rw [z_uh_eq]; omega
      have u2 : m ≤ z_uh V b := by rw [z_uh_eq]; omega
      have u3 : z_ul V a ≤ n := by rw [z_ul_eq]; omega
      have u4 : z_ul V b ≤ m := by rw [z_ul_eq]; omega
      have u5 : 0 < z_ul V b := by rw [z_ul_eq]; omega
      have hs : q_qb (x / y) = 2147483648 + n / m := by
        rw [en, em, pk_div (by omega) (by omega) (by omega), z_qnI (Nat.lt_of_le_of_lt (Nat.div_le_self n m) hn)]
      have p1 : z_ul V a / z_uh V b ≤ n / m := Nat.le_trans (Nat.div_le_div_right u3) (Nat.div_le_div_left u2 (by omega))
      have p2 : n / m ≤ z_uh V a / z_ul V b := Nat.le_trans (Nat.div_le_div_right u1) (Nat.div_le_div_left u4 u5)
      refine z_fi_s hr hE ?_ ?_
      · show 2147483648 + z_ul V a / z_uh V b ≤ _
        omega
      · show _ ≤ 2147483648 + z_uh V a / z_ul V b
        omega
  | false =>
    rw [q_iff _ _ h1] at hr
    obtain ⟨h2, hr⟩ := q_bifs hr
    have h2 := q_blt.mp h2
    exact ⟨fun e => by rw [e, z_qb0] at by2; omega, z_an_s hr hE⟩
theorem z_orem_s (hr : z_orem V a b k = some R) (hE : z_E V vs) (ka : a.1 = 0) (kb : b.1 = 0) (ha : z_v sa ad ts vs a (.int x)) (hb : z_v sa ad ts vs b (.int y)) : ¬ y = 0 ∧ z_Res sa ad ts V vs k R (.int (x - x / y * y)) := by
  obtain ⟨x2, ex, ax, bx⟩ := ha.bnd hE ka
  cases ex
  obtain ⟨y2, ey, ay, by2⟩ := hb.bnd hE kb
  cases ey
  unfold z_orem at hr
  cases h1 : Nat.blt 2147483648 (z_il V b) with
  | true =>
    rw [q_ift _ _ h1] at hr
    have h1 := q_blt.mp h1
    refine ⟨fun e => by rw [e, z_qb0] at ay; omega, ?_⟩
    have hm := z_qrem (x := x) (y := y) (by omega)
    cases h2 : z_po V a with
    | false =>
      rw [q_iff _ _ h2] at hr
      refine z_fi_s hr hE ?_ ?_
      · show 4294967297 - z_ih V b ≤ _
        omega
      · show _ ≤ z_ih V b - 1
        omega
    | true =>
      rw [q_ift _ _ h2] at hr
      have h2 := z_po_iff.mp h2
      obtain ⟨n, hn, en, en2⟩ := z_nat (x := x) (by omega)
      obtain ⟨m, hm2, em, em2⟩ := z_nat (x := y) (by omega)
      have hs : q_qb (x - x / y * y) = 2147483648 + n % m := by
        rw [en, em, pk_rem (by omega) (by omega) (by omega), z_qnI (Nat.lt_of_le_of_lt (Nat.mod_le n m) hn)]
      have p1 : n % m ≤ n := Nat.mod_le n m
      refine z_fi_s hr hE (by omega) (z_le_min (by omega) ?_)
      show _ ≤ z_ih V b - 1
      omega
  | false =>
    rw [q_iff _ _ h1] at hr
    obtain ⟨h2, hr⟩ := q_bifs hr
    have h2 := q_blt.mp h2
    exact ⟨fun e => by rw [e, z_qb0] at by2; omega, z_an_s hr hE⟩
theorem z_oneg_s (hr : z_oneg V a k = some R) (hE : z_E V vs) (ka : a.1 = 0) (ha : z_v sa ad ts vs a (.int x)) : z_Res sa ad ts V vs k R (.int (-x)) := by
  obtain ⟨x2, ex, ax, bx⟩ := ha.bnd hE ka
  cases ex
  unfold z_oneg at hr
  cases h1 : Nat.ble 1 (z_il V a) with
  | false =>
    rw [q_iff _ _ h1] at hr
    exact z_an_s hr hE
  | true =>
    rw [q_ift _ _ h1] at hr
    have h1 := q_ble.mp h1
    have hs := z_qneg (x := x) (by omega)
    refine z_fi_s hr hE ?_ ?_
    · show 4294967296 - z_ih V a ≤ _
      omega
    · show _ ≤ 4294967296 - z_il V a
      omega
theorem z_oshl_s (hr : z_oshl V a b k = some R) (hE : z_E V vs) (ka : a.1 = 0) (kb : b.1 = 0) (ha : z_v sa ad ts vs a (.int x)) (hb : z_v sa ad ts vs b (.int y)) : z_Res sa ad ts V vs k R (.int (x <<< (y &&& 31))) := by
  obtain ⟨y2, ey, ay, by2⟩ := hb.bnd hE kb
  cases ey
  unfold z_oshl at hr
  cases h1 : (z_ceq a (0, 0, 2147483649) && (z_po V b && Nat.ble (z_ih V b) 2147483678)) with
  | false =>
    rw [q_iff _ _ h1] at hr
    exact z_an_s hr hE
  | true =>
    rw [q_ift _ _ h1] at hr
    obtain ⟨h2, h3⟩ := q_ands h1
    obtain ⟨h3, h4⟩ := q_ands h3
    have h2 := z_ceq_eq h2
    have h3 := z_po_iff.mp h3
    have h4 := q_ble.mp h4
    subst h2
    obtain ⟨x3, ex, ex2⟩ := ha.con hE
    cases ex
    obtain ⟨n, hn, en, en2⟩ := z_nat (x := x) (by omega)
    have en3 : n = 1 := by omega
    subst en3
    obtain ⟨m, hm, em, em2⟩ := z_nat (x := y) (by omega)
    have hm31 : m < 31 := by omega
    have hp : 2 ^ m < 2147483648 := Nat.lt_of_lt_of_le (Nat.pow_lt_pow_right (by decide) hm31) (by decide)
    have hs : q_qb (x <<< (y &&& 31)) = 2147483648 + 2 ^ m := by
      rw [en, em, z_shl1 m hm31, z_qnI hp]
    have p1 : 2 ^ z_ul V b ≤ 2 ^ m := Nat.pow_le_pow_right (by decide) (by rw [z_ul_eq]; omega)
    have p2 : 2 ^ m ≤ 2 ^ z_uh V b := Nat.pow_le_pow_right (by decide) (by rw [z_uh_eq]; omega)
    refine z_fi_s hr hE ?_ ?_
    · rw [hs, z_pw]
      exact Nat.add_le_add_left p1 _
    · rw [hs, z_pw]
      exact Nat.add_le_add_left p2 _
theorem z_oshr_s (hr : z_oshr V a k = some R) (hE : z_E V vs) (ka : a.1 = 0) (ha : z_v sa ad ts vs a (.int x)) {w : Int32} (hw : 2147483648 ≤ q_qb x → 2147483648 ≤ q_qb w ∧ q_qb w ≤ q_qb x) : z_Res sa ad ts V vs k R (.int w) := by
  obtain ⟨x2, ex, ax, bx⟩ := ha.bnd hE ka
  cases ex
  unfold z_oshr at hr
  cases h1 : z_po V a with
  | false =>
    rw [q_iff _ _ h1] at hr
    exact z_an_s hr hE
  | true =>
    rw [q_ift _ _ h1] at hr
    have h1 := z_po_iff.mp h1
    obtain ⟨e1, e2⟩ := hw (by omega)
    exact z_fi_s hr hE e1 (by omega)
end ZO
theorem z_qshr {x y : Int32} (h : 2147483648 ≤ q_qb x) : 2147483648 ≤ q_qb (x >>> (y &&& 31)) ∧ q_qb (x >>> (y &&& 31)) ≤ q_qb x := by
  obtain ⟨n, hn, rfl, e⟩ := z_nat h
  obtain ⟨b, hb, eb⟩ := z_m31 y
  rw [eb, q_shr n b (by omega) hb, q_ift _ _ (q_ble.mpr (by omega))]
  have h1 : n >>> b ≤ n := Nat.shiftRight_le n b
  have h2 : Nat.shiftRight n b = n >>> b := rfl
  rw [h2]
  generalize n >>> b = w at h1 ⊢
  rw [z_qnI (by omega), e]
  omega
theorem z_qushr {x y : Int32} (h : 2147483648 ≤ q_qb x) : 2147483648 ≤ q_qb ((x.toUInt32 >>> (y.toUInt32 &&& Int32.toUInt32 31)).toInt32) ∧ q_qb ((x.toUInt32 >>> (y.toUInt32 &&& Int32.toUInt32 31)).toInt32) ≤ q_qb x := by
  obtain ⟨n, hn, rfl, e⟩ := z_nat h
  obtain ⟨b, hb, eb⟩ := z_m31 y
  have e31 : y.toUInt32 &&& Int32.toUInt32 31 = (nI b).toUInt32 &&& Int32.toUInt32 31 := by
    have e1 : (nI b).toUInt32 &&& Int32.toUInt32 31 = (y &&& 31 &&& 31).toUInt32 := by rw [← eb]; rfl
    have e2 : (y &&& 31 &&& 31 : Int32) = y &&& 31 := by rw [Int32.and_assoc]; rfl
    rw [e1, e2]
    rfl
  rw [e31, q_ushr n b (by omega) hb]
  have h1 : n >>> b ≤ n := Nat.shiftRight_le n b
  generalize n >>> b = w at h1 ⊢
  rw [z_qnI (by omega), e]
  omega
/-! bounds drawn closer by a comparison -/
section ZR
variable {sa : Nat → Nat} {ad ts : List Nat} {V W : z_V} {vs : List Value} {a b c : z_C} {x y : Int32} {lo hi : Nat}
theorem z_rf_s (hE : z_E V vs) (kc : c.1 = 0) (hc : z_v sa ad ts vs c (.int x)) (h1 : lo ≤ q_qb x) (h2 : q_qb x ≤ hi) : ∃ W, z_rf V c lo hi = some W ∧ z_E W vs ∧ W.1 = V.1 ∧ W.2.2.2 = V.2.2.2 := by
  obtain ⟨xc, yc, hc1, hc2, hc3⟩ := hc.int kc
  cases hc2
  unfold z_rf
  cases h3 : Nat.beq c.2.1 0 with
  | true =>
    rw [q_ift _ _ rfl]
    have h3 := q_beq.mp h3
    rw [h3, hE.2.1] at hc1
    cases hc1
    rw [z_qb0] at hc3
    have e : c.2.2 = q_qb x := by omega
    rw [q_ift _ _ (by rw [q_ble.mpr (show lo ≤ c.2.2 by omega), q_ble.mpr (show c.2.2 ≤ hi by omega)]; rfl)]
    exact ⟨V, rfl, hE, rfl, rfl⟩
  | false =>
    rw [q_iff _ _ rfl, q_fr_eq, q_fr_eq]
    obtain ⟨b1, b2⟩ : q_get V.2.1 c.2.1 ≤ q_qb xc ∧ q_qb xc ≤ q_get V.2.2.1 c.2.1 := hE.2.2 _ _ hc1
    have g1 := q_get_lt V.2.1 c.2.1
    have g2 := q_get_lt V.2.2.1 c.2.1
    have hq := q_qb_hi xc
    have m1 := z_min_le1 (Nat.sub (Nat.add lo 2147483648) c.2.2) 17179869183
    have e1 : Nat.sub (Nat.add lo 2147483648) c.2.2 = lo + 2147483648 - c.2.2 := by rw [Nat.sub_eq, Nat.add_eq]
    have e2 : Nat.sub (Nat.add hi 2147483648) c.2.2 = hi + 2147483648 - c.2.2 := by rw [Nat.sub_eq, Nat.add_eq]
    rw [e1] at m1
    have m3 : z_max (q_get V.2.1 c.2.1) (z_min (Nat.sub (Nat.add lo 2147483648) c.2.2) 17179869183) ≤ q_qb xc := z_max_le b1 (by rw [e1]; omega)
    have m4 : q_qb xc ≤ z_min (q_get V.2.2.1 c.2.1) (Nat.sub (Nat.add hi 2147483648) c.2.2) := z_le_min b2 (by rw [e2]; omega)
    have m5 := (z_min_le1 (q_get V.2.2.1 c.2.1) (Nat.sub (Nat.add hi 2147483648) c.2.2)).1
    rw [q_ift _ _ (q_ble.mpr (Nat.le_trans m3 m4)), q_fr_eq, q_fr_eq]
    refine ⟨_, rfl, hE.near (by omega) (by omega) (fun v hv => ?_), rfl, rfl⟩
    rw [hc1] at hv
    cases hv
    exact ⟨m3, m4⟩
theorem z_rf2_s (hE : z_E V vs) (ka : a.1 = 0) (kb : b.1 = 0) (ha : z_v sa ad ts vs a (.int x)) (hb : z_v sa ad ts vs b (.int y)) {l1 h1 l2 h2 : Nat} (e1 : l1 ≤ q_qb x) (e2 : q_qb x ≤ h1) (e3 : l2 ≤ q_qb y) (e4 : q_qb y ≤ h2) : ∃ W, z_rf2 V a l1 h1 b l2 h2 = some W ∧ z_E W vs ∧ W.1 = V.1 ∧ W.2.2.2 = V.2.2.2 := by
  obtain ⟨W1, w1, w2, w3, w4⟩ := z_rf_s hE ka ha e1 e2
  obtain ⟨W2, u1, u2, u3, u4⟩ := z_rf_s w2 kb hb e3 e4
  refine ⟨W2, ?_, u2, by rw [u3, w3], by rw [u4, w4]⟩
  unfold z_rf2
  rw [w1]
  exact u1
/-- two codes of one symbol -/
theorem z_off (ha : z_v sa ad ts vs a (.int x)) (hb : z_v sa ad ts vs b (.int y)) (ka : a.1 = 0) (kb : b.1 = 0) (he : a.2.1 = b.2.1) : q_qb x + b.2.2 = q_qb y + a.2.2 := by
  obtain ⟨xa, ya, ha1, ha2, ha3⟩ := ha.int ka
  cases ha2
  obtain ⟨xb, yb, hb1, hb2, hb3⟩ := hb.int kb
  cases hb2
  rw [he, hb1] at ha1
  cases ha1
  omega
theorem z_lt_s (hE : z_E V vs) (ka : a.1 = 0) (kb : b.1 = 0) (ha : z_v sa ad ts vs a (.int x)) (hb : z_v sa ad ts vs b (.int y)) (h : q_qb x < q_qb y) : ∃ W, z_lt V a b = some W ∧ z_E W vs ∧ W.1 = V.1 ∧ W.2.2.2 = V.2.2.2 := by
  unfold z_lt
  cases h1 : Nat.beq a.2.1 b.2.1 with
  | true =>
    rw [q_ift _ _ rfl]
    have := z_off ha hb ka kb (q_beq.mp h1)
    rw [q_ift _ _ (q_blt.mpr (by omega))]
    exact ⟨V, rfl, hE, rfl, rfl⟩
  | false =>
    rw [q_iff _ _ rfl]
    obtain ⟨x2, ex, ax, bx⟩ := ha.bnd hE ka
    cases ex
    obtain ⟨y2, ey, ay, by2⟩ := hb.bnd hE kb
    cases ey
    refine z_rf2_s hE ka kb ha hb (Nat.zero_le _) ?_ ?_ (q_qb_hi y)
    · show _ ≤ z_ih V b - 1
      omega
    · show z_il V a + 1 ≤ _
      omega
theorem z_ge_s (hE : z_E V vs) (ka : a.1 = 0) (kb : b.1 = 0) (ha : z_v sa ad ts vs a (.int x)) (hb : z_v sa ad ts vs b (.int y)) (h : q_qb y ≤ q_qb x) : ∃ W, z_ge V a b = some W ∧ z_E W vs ∧ W.1 = V.1 ∧ W.2.2.2 = V.2.2.2 := by
  unfold z_ge
  cases h1 : Nat.beq a.2.1 b.2.1 with
  | true =>
    rw [q_ift _ _ rfl]
    have := z_off ha hb ka kb (q_beq.mp h1)
    rw [q_ift _ _ (q_ble.mpr (by omega))]
    exact ⟨V, rfl, hE, rfl, rfl⟩
  | false =>
    rw [q_iff _ _ rfl]
    obtain ⟨x2, ex, ax, bx⟩ := ha.bnd hE ka
    cases ex
    obtain ⟨y2, ey, ay, by2⟩ := hb.bnd hE kb
    cases ey
    exact z_rf2_s hE ka kb ha hb (by omega) (q_qb_hi x) (Nat.zero_le _) (by omega)
theorem z_eq_s (hE : z_E V vs) (ka : a.1 = 0) (kb : b.1 = 0) (ha : z_v sa ad ts vs a (.int x)) (hb : z_v sa ad ts vs b (.int y)) (h : q_qb x = q_qb y) : ∃ W, z_eq V a b = some W ∧ z_E W vs ∧ W.1 = V.1 ∧ W.2.2.2 = V.2.2.2 := by
  unfold z_eq
  cases h1 : Nat.beq a.2.1 b.2.1 with
  | true =>
    rw [q_ift _ _ rfl]
    have := z_off ha hb ka kb (q_beq.mp h1)
    rw [q_ift _ _ (q_beq.mpr (by omega))]
    exact ⟨V, rfl, hE, rfl, rfl⟩
  | false =>
    rw [q_iff _ _ rfl]
    obtain ⟨x2, ex, ax, bx⟩ := ha.bnd hE ka
    cases ex
    obtain ⟨y2, ey, ay, by2⟩ := hb.bnd hE kb
    cases ey
    exact z_rf2_s hE ka kb ha hb (by omega) (by omega) (by omega) (by omega)
theorem z_ne1_s (hE : z_E V vs) (ka : a.1 = 0) (ha : z_v sa ad ts vs a (.int x)) {n : Nat} (h : ¬ q_qb x = n) : ∃ W, z_ne1 V a n = some W ∧ z_E W vs ∧ W.1 = V.1 ∧ W.2.2.2 = V.2.2.2 := by
  obtain ⟨x2, ex, ax, bx⟩ := ha.bnd hE ka
  cases ex
  unfold z_ne1
  cases h1 : Nat.beq (z_il V a) n with
  | true =>
    rw [q_ift _ _ rfl]
    have h1 := q_beq.mp h1
    cases h2 : Nat.beq (z_ih V a) n with
    | true =>
      have h2 := q_beq.mp h2
      omega
    | false =>
      rw [q_iff _ _ rfl]
      exact z_rf_s hE ka ha (show n + 1 ≤ _ by omega) (q_qb_hi x)
  | false =>
    rw [q_iff _ _ rfl]
    cases h2 : Nat.beq (z_ih V a) n with
    | true =>
      rw [q_ift _ _ rfl]
      have h2 := q_beq.mp h2
      exact z_rf_s hE ka ha (Nat.zero_le _) (show _ ≤ n - 1 by omega)
    | false =>
      rw [q_iff _ _ rfl]
      exact ⟨V, rfl, hE, rfl, rfl⟩
theorem z_ne_s (hE : z_E V vs) (ka : a.1 = 0) (kb : b.1 = 0) (ha : z_v sa ad ts vs a (.int x)) (hb : z_v sa ad ts vs b (.int y)) (h : ¬ q_qb x = q_qb y) : ∃ W, z_ne V a b = some W ∧ z_E W vs ∧ W.1 = V.1 ∧ W.2.2.2 = V.2.2.2 := by
  unfold z_ne
  cases h1 : Nat.beq a.2.1 b.2.1 with
  | true =>
    rw [q_ift _ _ rfl]
    have := z_off ha hb ka kb (q_beq.mp h1)
    rw [q_iff _ _ (q_bneq.mpr (by omega))]
    exact ⟨V, rfl, hE, rfl, rfl⟩
  | false =>
    rw [q_iff _ _ rfl]
    cases h2 : Nat.beq b.2.1 0 with
    | true =>
      rw [q_ift _ _ rfl]
      have h2 := q_beq.mp h2
      obtain ⟨b1, b2, b3⟩ := b
      have kb : b1 = 0 := kb
      have h2 : b2 = 0 := h2
      subst kb; subst h2
      obtain ⟨y2, ey, ey2⟩ := hb.con hE
      cases ey
      exact z_ne1_s hE ka ha (show ¬ q_qb x = b3 by omega)
    | false =>
      rw [q_iff _ _ rfl]
      cases h3 : Nat.beq a.2.1 0 with
      | true =>
        rw [q_ift _ _ rfl]
        have h3 := q_beq.mp h3
        obtain ⟨a1, a2, a3⟩ := a
        have ka : a1 = 0 := ka
        have h3 : a2 = 0 := h3
        subst ka; subst h3
        obtain ⟨x2, ex, ex2⟩ := ha.con hE
        cases ex
        exact z_ne1_s hE kb hb (show ¬ q_qb y = a3 by omega)
      | false =>
        rw [q_iff _ _ rfl]
        exact ⟨V, rfl, hE, rfl, rfl⟩
/-- the comparison of two ints -/
def z_cmp (c : ClassFile.Cond) (x y : Int32) : Prop := match c with
  | .lt => x < y
  | .ge => y ≤ x
  | .gt => y < x
  | .le => x ≤ y
  | .eq => x = y
  | .ne => ¬ x = y
theorem z_cs_s {c : ClassFile.Cond} (hE : z_E V vs) (ka : a.1 = 0) (kb : b.1 = 0) (ha : z_v sa ad ts vs a (.int x)) (hb : z_v sa ad ts vs b (.int y)) (h : z_cmp c x y) : ∃ W ∈ z_cs V c a b, z_E W vs ∧ W.1 = V.1 ∧ W.2.2.2 = V.2.2.2 := by
  have one : ∀ {o : Option z_V}, (∃ W, o = some W ∧ z_E W vs ∧ W.1 = V.1 ∧ W.2.2.2 = V.2.2.2) → ∃ W ∈ z_opl o, z_E W vs ∧ W.1 = V.1 ∧ W.2.2.2 = V.2.2.2 := by
    rintro o ⟨W, rfl, h⟩
    exact ⟨W, List.mem_singleton.mpr rfl, h⟩
  cases c with
  | lt => exact one (z_lt_s hE ka kb ha hb ((q_lt_iff x y).mp h))
  | ge => exact one (z_ge_s hE ka kb ha hb ((q_le_iff y x).mp h))
  | gt => exact one (z_lt_s hE kb ka hb ha ((q_lt_iff y x).mp h))
  | le => exact one (z_ge_s hE kb ka hb ha ((q_le_iff x y).mp h))
  | eq => exact one (z_eq_s hE ka kb ha hb ((q_eq_iff x y).mp h))
  | ne =>
    have h : ¬ q_qb x = q_qb y := fun e => h ((q_eq_iff x y).mpr e)
    show ∃ W ∈ (bif z_ceq b (0, 0, 2147483648) && (Nat.blt (z_il V a) 2147483648 && Nat.blt 2147483648 (z_ih V a)) then z_opl (z_lt V a b) ++ z_opl (z_lt V b a) else z_opl (z_ne V a b)), _
    cases h1 : (z_ceq b (0, 0, 2147483648) && (Nat.blt (z_il V a) 2147483648 && Nat.blt 2147483648 (z_ih V a))) with
    | true =>
      rw [q_ift _ _ rfl]
      rcases Nat.lt_or_ge (q_qb x) (q_qb y) with h2 | h2
      · obtain ⟨W, w1, w2⟩ := one (z_lt_s hE ka kb ha hb h2)
        exact ⟨W, List.mem_append_left _ w1, w2⟩
      · obtain ⟨W, w1, w2⟩ := one (z_lt_s hE kb ka hb ha (show q_qb y < q_qb x by omega))
        exact ⟨W, List.mem_append_right _ w1, w2⟩
    | false =>
      rw [q_iff _ _ rfl]
      exact one (z_ne_s hE ka kb ha hb h)
end ZR
end
section
/-! ===== the goal: what a run of the evaluator means for the machine ===== -/
def z_byt : List (List Int32) := [[98, 101, 97, 99, 104, 32, 98, 121, 32, 104, 117, 116, 32, 119, 97, 108, 107, 101, 114, 32, 97, 116, 32, 115, 116, 114, 105, 100, 101, 32, 115, 108, 105, 112, 32, 116, 105, 100, 101, 32, 119, 105, 110, 100, 32, 100, 114, 97, 119, 32, 111, 114, 32, 97, 110, 100, 32, 110, 111, 116, 32, 114, 111, 119, 32, 99, 111, 108, 117, 109, 110, 32, 109, 105, 110, 117, 116, 101, 32, 110, 105, 103, 104, 116, 32, 116, 114, 111, 100, 32], [59, 40, 41, 60, 62, 61, 43, 45, 42, 47, 37]]
/-- the texts, and that they are packed -/
def z_Tx (base : Nat) (sa : Nat → Nat) (U : State) : Prop := (∃ adV, vk_S 2 z_lens z_byt sa adV (q_A base) U U.heap) ∧ vk_R "SandNights$Reader" 219 "beach by hut walker at stride slip tide wind draw or and not row column minute night trod " (sa 0) U ∧ vk_R "SandNights$Reader" 210 ";()<>=+-*/%" (sa 1) U ∧ va_Z "java/lang/String" "COMPACT_STRINGS" "Z" (.int 1) (q_A base) U U.heap
theorem z_Tx.go {base : Nat} {sa : Nat → Nat} {s U : State} {H : Heap} {locs : List Loc} (h : z_Tx base sa s) (hW : s.WarmedH U.vm) (hU : U.heap = H) (hS : va_S (q_A base) s.heap H locs) : z_Tx base sa U := by
  obtain ⟨⟨adV, h1⟩, h2, h3, h4⟩ := h
  subst hU
  exact ⟨⟨adV, vk_S.moved hW.alike (h1.kept hS.2.1)⟩, h2.warm hW, h3.warm hW, va_Z.moved hW.alike (h4.kept hS.2.1)⟩
def z_Cx (base : Nat) (sa : Nat → Nat) (kw : List z_C) (J : va_W → List Nat → Prop) (i : Nat) (p : Program) (s : State) (m : MethodId) (args : Array Value) (meth : Method) (c : Code) (w0 : va_W) (t0 : List Nat) : Prop := q_Cx base i p s m args meth c ∧ z_Tx base sa s ∧ ∀ ws ts, z_Fr kw w0 t0 ws ts → J ws ts
/-- the heap -/
def z_Hp (base : Nat) (D : va_G) (tt : Nat → z_T) (kw : List z_C) (s : State) (w0 : va_W) (t0 : List Nat) (H : Heap) (locs : List Loc) (ws : va_W) (tys : List (ClassId × FieldType)) (ts : List Nat) : Prop := z_W tt ws tys ts ∧ va_P D q_cls ws H ∧ va_K D q_cls tys s ∧ va_D (q_A base) ws ∧ va_S (q_A base) s.heap H locs ∧ z_Fr kw w0 t0 ws ts
/-- the symbols -/
def z_Sv (sa : Nat → Nat) (tt : Nat → z_T) (vs0 : List Value) (ws : va_W) (ts : List Nat) (V : z_V) (vs : List Value) : Prop := vs0 <+: vs ∧ z_E V vs ∧ z_Fs sa ws ts vs V.2.2.2.1 ∧ z_Ds sa tt (q_ad ws) ts vs V.2.2.2.2.1
theorem z_Sv.ext {sa : Nat → Nat} {tt : Nat → z_T} {vs0 : List Value} {ws : va_W} {ts : List Nat} {V W : z_V} {vs vs' : List Value} (h : z_Sv sa tt vs0 ws ts V vs) (hv : vs <+: vs') (hE : z_E W vs') (hs : W.2.2.2 = V.2.2.2) : z_Sv sa tt vs0 ws ts W vs' := by
  obtain ⟨h1, h2, h3, h4⟩ := h
  refine ⟨h1.trans hv, hE, ?_, ?_⟩
  · rw [hs]
    exact h3.mono hv
  · rw [hs]
    exact h4.mono hv List.prefix_rfl List.prefix_rfl
/-- the measure of a loop -/
noncomputable def z_mu1 (X : z_X) (vs : List Value) (g : Nat × Nat) : Nat := match vs[X.2.1 + g.1]? with
  | some (.int x) => if g.2 = 0 then (z_nth X.2.2.1 g.1).2.2 - q_qb x else q_qb x - (z_nth X.2.2.1 g.1).2.1
  | _ => 0
noncomputable def z_mu (X : z_X) (vs : List Value) : Nat := (X.2.2.2.2.2.2.2.map (z_mu1 X vs)).sum
section ZG
variable (l : Launch) (base : Nat) (D : va_G) (sa : Nat → Nat) (g : z_G) (J : va_W → List Nat → Prop) (d : Nat × Nat) (i : Nat) (p : Program) (e : Env) (s : State) (m : MethodId) (args : Array Value) (below : List Frame) (meth : Method) (c : Code) (Q : State → Prop) (w0 : va_W) (t0 : List Nat) (vs0 : List Value)
/-- an end -/
def z_Fi (o : z_O) : Prop := ∀ (H : Heap) (locs : List Loc) (ls : Array Slot) (sv : List Value) (ws : va_W) (tys : List (ClassId × FieldType)) (ts : List Nat) (vs : List Value), z_Hp base D g.1 g.2.1 s w0 t0 H locs ws tys ts → z_Sv sa g.1 vs0 ws ts o.2.1 vs → z_Lr sa (q_ad ws) ts vs o.2.2.1 (q_ml i) ls → z_Sr sa (q_ad ws) ts vs o.2.2.2 sv → W p l e (q_rm d.1 (9 * d.2) (446 * d.2)) s m args below meth c H locs (9 * o.2.1.2.2.2.2.2) (446 * o.2.1.2.2.2.2.2) Q (F0 m o.1 ls sv)
/-- a loop that is being gone through: with a smaller measure it ends -/
def z_Hy (X : z_X) (vs : List Value) : Prop := X.2.1 + X.2.2.1.length ≤ vs.length ∧ (vs0.length ≤ X.2.1 ∧ ∀ q t, X.2.2.1[q]? = some t → t.1 = 0 → ∃ x, vs[X.2.1 + q]? = some (.int x)) ∧ ∀ (H : Heap) (locs : List Loc) (ls : Array Slot) (ws : va_W) (tys : List (ClassId × FieldType)) (ts : List Nat) (vs' : List Value), z_Hp base D g.1 g.2.1 s w0 t0 H locs ws tys ts → (∀ k, k < X.2.1 → vs'[k]? = vs[k]?) → vs'.length = X.2.1 + X.2.2.1.length → (∀ q t, X.2.2.1[q]? = some t → ∃ v, vs'[X.2.1 + q]? = some v ∧ z_tv (q_ad ws) ts t v) → z_Fs sa ws ts vs' X.2.2.2.2.2.1 → z_Lr sa (q_ad ws) ts vs' X.2.2.2.2.1 (q_ml i) ls → z_mu X vs' < z_mu X vs → W p l e (q_rm d.1 (9 * d.2) (446 * d.2)) s m args below meth c H locs (9 * X.2.2.2.2.2.2.1) (446 * X.2.2.2.2.2.2.1) Q (F0 m X.1 ls [])
end ZG
theorem z_mu_ext {X : z_X} {vs vs' : List Value} (h : X.2.1 + X.2.2.1.length ≤ vs.length) (hv : vs <+: vs') (hg : ∀ g ∈ X.2.2.2.2.2.2.2, g.1 < X.2.2.1.length) : z_mu X vs' = z_mu X vs := by
  unfold z_mu
  congr 1
  apply List.map_congr_left
  intro g hg2
  have h1 := hg g hg2
  have h2 : X.2.1 + g.1 < vs.length := by omega
  have h3 := z_gm hv (List.getElem?_eq_getElem h2)
  unfold z_mu1
  rw [h3, List.getElem?_eq_getElem h2]
/-- the machine at an instruction comes to one of the ends -/
def z_Ok (l : Launch) (base : Nat) (D : va_G) (sa : Nat → Nat) (g : z_G) (J : va_W → List Nat → Prop) (d : Nat × Nat) (i pc : Nat) (V : z_V) (L S : List z_C) (cx : List z_X) (os : List z_O) : Prop := ∀ (p : Program) (e : Env) (s : State) (m : MethodId) (args : Array Value) (below : List Frame) (meth : Method) (c : Code) (Q : State → Prop) (w0 : va_W) (t0 : List Nat) (vs0 : List Value) (H : Heap) (locs : List Loc) (ls : Array Slot) (sv : List Value) (ws : va_W) (tys : List (ClassId × FieldType)) (ts : List Nat) (vs : List Value),
    z_Cx base sa g.2.1 J i p s m args meth c w0 t0 → z_Hp base D g.1 g.2.1 s w0 t0 H locs ws tys ts → z_Sv sa g.1 vs0 ws ts V vs → z_Lr sa (q_ad ws) ts vs L (q_ml i) ls → z_Sr sa (q_ad ws) ts vs S sv →
    (∀ X ∈ cx, z_Hy l base D sa g d i p e s m args below meth c Q w0 t0 vs0 X vs) → (∀ o ∈ os, z_Fi l base D sa g d i p e s m args below meth c Q w0 t0 vs0 o) →
    W p l e (q_rm d.1 (9 * d.2) (446 * d.2)) s m args below meth c H locs (9 * V.2.2.2.2.2) (446 * V.2.2.2.2.2) Q (F0 m pc ls sv)
/-- the loops' own part: their measures speak of their symbols -/
def z_gx (cx : List z_X) : Prop := ∀ X ∈ cx, ∀ g ∈ X.2.2.2.2.2.2.2, g.1 < X.2.2.1.length
theorem z_Hy.ext {l : Launch} {base : Nat} {D : va_G} {sa : Nat → Nat} {g : z_G} {d : Nat × Nat} {i : Nat} {p : Program} {e : Env} {s : State} {m : MethodId} {args : Array Value} {below : List Frame} {meth : Method} {c : Code} {Q : State → Prop} {w0 : va_W} {t0 : List Nat} {vs0 vs vs' : List Value} {X : z_X} (h : z_Hy l base D sa g d i p e s m args below meth c Q w0 t0 vs0 X vs) (hg : ∀ g ∈ X.2.2.2.2.2.2.2, g.1 < X.2.2.1.length) (hv : vs <+: vs') : z_Hy l base D sa g d i p e s m args below meth c Q w0 t0 vs0 X vs' := by
  obtain ⟨h1, h2, h3⟩ := h
  have hle : vs.length ≤ vs'.length := hv.length_le
  refine ⟨by omega, ⟨h2.1, fun q t h4 h5 => (h2.2 q t h4 h5).imp fun x hx => z_gm hv hx⟩, fun H locs ls ws tys ts u a1 a2 a3 a4 a5 a6 a7 => h3 H locs ls ws tys ts u a1 (fun k hk => ?_) a3 a4 a5 a6 (by rw [← z_mu_ext h1 hv hg]; exact a7)⟩
  rw [a2 k hk]
  have h4 : k < vs.length := by omega
  rw [z_gm hv (List.getElem?_eq_getElem h4), List.getElem?_eq_getElem h4]
theorem z_app_inv {a b : Option (List z_O)} {os : List z_O} (h : z_app a b = some os) : ∃ x y, a = some x ∧ b = some y ∧ os = x ++ y := by
  match a, b, h with
  | some x, some y, h => exact ⟨x, y, rfl, rfl, (Option.some.inj h).symm⟩
  | none, _, h => cases h
  | some _, none, h => cases h
theorem z_fold_inv {α : Type} {f : α → Option (List z_O)} : ∀ {l : List α} {os : List z_O}, z_fold l f = some os → ∀ a ∈ l, ∃ x, f a = some x ∧ ∀ o ∈ x, o ∈ os
  | [], _, _, a, ha => by cases ha
  | b :: t, os, h, a, ha => by
    have h : z_app (f b) (z_fold t f) = some os := h
    obtain ⟨x, y, h1, h2, rfl⟩ := z_app_inv h
    rcases List.mem_cons.mp ha with rfl | ha
    · exact ⟨x, h1, fun o ho => List.mem_append_left _ ho⟩
    · obtain ⟨z, h3, h4⟩ := z_fold_inv h2 a ha
      exact ⟨z, h3, fun o ho => List.mem_append_right _ (h4 o ho)⟩
def z_HN (l : Launch) (base : Nat) (D : va_G) (sa : Nat → Nat) (g : z_G) (J : va_W → List Nat → Prop) (ih : z_F) (d : Nat × Nat) (i pc' : Nat) (tl : List q_I) (sp : List Nat) : Prop := ∀ (V : z_V) (L S : List z_C) (cx : List z_X) (os : List z_O), z_gx cx → ih d i (q_code i) tl V L S sp cx = some os → z_Ok l base D sa g J d i pc' V L S cx os
def z_HJ (l : Launch) (base : Nat) (D : va_G) (sa : Nat → Nat) (g : z_G) (J : va_W → List Nat → Prop) (ih : z_F) (d : Nat × Nat) (i : Nat) (sp : List Nat) : Prop := ∀ (t : Nat) (V : z_V) (L S : List z_C) (cx : List z_X) (os : List z_O), z_gx cx → ih d i (q_code i) (q_jm (q_code i) t) V L S sp cx = some os → z_Ok l base D sa g J d i t V L S cx os
end
section
/-! ===== instruction by instruction: what leaves the heap alone ===== -/
theorem z_nth_at {l : List z_C} {k : Nat} {c : z_C} (h : z_nth l k = c) (hc : ¬ c.1 = 9) : l[k]? = some c := by
  have h : q_nth l (9, 0, 0) k = c := h
  rw [q_nth_eq, List.getD_eq_getElem?_getD] at h
  cases h2 : l[k]? with
  | none => rw [h2] at h; exact absurd (show c.1 = 9 by rw [← h]; rfl) hc
  | some d => rw [h2] at h; exact congrArg some h
/-- a local is read -/
theorem z_Lr.get {sa : Nat → Nat} {ad ts : List Nat} {vs : List Value} {L : List z_C} {nL : Nat} {ls : Array Slot} (h : z_Lr sa ad ts vs L nL ls) {k : Nat} (hc : ¬ (z_nth L k).1 = 9) : ∃ v, ls[k]? = some (.val v) ∧ z_v sa ad ts vs (z_nth L k) v := by
  obtain ⟨h1, lv, h2, h3⟩ := h
  rcases h3 k _ (z_nth_at rfl hc) with h4 | ⟨v, h4, h5⟩
  · exact absurd h4 hc
  · exact ⟨v, h2.2.2 _ h4, h5⟩
theorem z_lset_len : ∀ (l : List z_C) (k : Nat) (c : z_C), (z_lset l k c).length = l.length
  | [], _, _ => rfl
  | _ :: _, 0, _ => rfl
  | a :: t, k + 1, c => congrArg (· + 1) (z_lset_len t k c)
theorem z_lset_get : ∀ (l : List z_C) (k : Nat) (c : z_C) (j : Nat) (e : z_C), (z_lset l k c)[j]? = some e → (j = k ∧ e = c) ∨ (¬ j = k ∧ l[j]? = some e)
  | [], _, _, _, _, h => by cases h
  | _ :: _, 0, c, 0, e, h => Or.inl ⟨rfl, (Option.some.inj h).symm⟩
  | _ :: t, 0, c, j + 1, e, h => Or.inr ⟨by omega, h⟩
  | a :: t, k + 1, c, 0, e, h => Or.inr ⟨by omega, h⟩
  | a :: t, k + 1, c, j + 1, e, h => by
    have h : (z_lset t k c)[j]? = some e := h
    rcases z_lset_get t k c j e h with ⟨h1, h2⟩ | ⟨h1, h2⟩
    · exact Or.inl ⟨by omega, h2⟩
    · exact Or.inr ⟨by omega, h2⟩
theorem z_st1_len (L : List z_C) (x : Nat) (c : z_C) : (z_st1 L x c).length = L.length := by
  cases x with
  | zero => exact z_lset_len L 0 c
  | succ y =>
    show (bif Nat.beq (z_nth L y).1 3 then z_lset (z_lset L y (9, 0, 0)) (y + 1) c else z_lset L (y + 1) c).length = _
    cases Nat.beq (z_nth L y).1 3 with
    | true => exact (z_lset_len _ _ _).trans (z_lset_len _ _ _)
    | false => exact z_lset_len _ _ _
/-- what a local is behind a store -/
theorem z_st1_get {L : List z_C} {x : Nat} {c : z_C} {j : Nat} {e : z_C} (h : (z_st1 L x c)[j]? = some e) : (j = x ∧ e = c) ∨ e.1 = 9 ∨ (¬ j = x ∧ L[j]? = some e ∧ ¬ (j + 1 = x ∧ e.1 = 3)) := by
  cases x with
  | zero =>
    rcases z_lset_get L 0 c j e h with h1 | ⟨h1, h2⟩
    · exact Or.inl h1
    · exact Or.inr (Or.inr ⟨h1, h2, by omega⟩)
  | succ y =>
    have h : (bif Nat.beq (z_nth L y).1 3 then z_lset (z_lset L y (9, 0, 0)) (y + 1) c else z_lset L (y + 1) c)[j]? = some e := h
    cases hb : Nat.beq (z_nth L y).1 3 with
    | true =>
      rw [q_ift _ _ hb] at h
      rcases z_lset_get _ _ _ _ _ h with h1 | ⟨h1, h2⟩
      · exact Or.inl h1
      · rcases z_lset_get _ _ _ _ _ h2 with ⟨_, h3⟩ | ⟨h3, h4⟩
        · exact Or.inr (Or.inl (by rw [h3]))
        · exact Or.inr (Or.inr ⟨h1, h4, by omega⟩)
    | false =>
      rw [q_iff _ _ hb] at h
      rcases z_lset_get _ _ _ _ _ h with h1 | ⟨h1, h2⟩
      · exact Or.inl h1
      · refine Or.inr (Or.inr ⟨h1, h2, fun ⟨h3, h4⟩ => ?_⟩)
        have h5 : j = y := by omega
        subst h5
        have h6 : z_nth L j = e := by
          show q_nth L (9, 0, 0) j = e
          rw [q_nth_eq, List.getD_eq_getElem?_getD, h2]
          rfl
        rw [h6] at hb
        exact q_bneq.mp hb h4
/-- a local is stored -/
theorem z_Lr.store {sa : Nat → Nat} {ad ts : List Nat} {vs : List Value} {L : List z_C} {nL x : Nat} {c : z_C} {v : Value} {lv : List (Nat × Value)} {ls' : Array Slot} (hl : L.length = nL) (h3 : ∀ i c, L[i]? = some c → c.1 = 9 ∨ ∃ v, (i, v) ∈ lv ∧ z_v sa ad ts vs c v) (hv : z_v sa ad ts vs c v) (h : lv_has ls' nL ((x, v) :: lv.filter (fun q => !(q.1 == x) && !(q.1 + 1 == x && q.2.category == 2)))) : z_Lr sa ad ts vs (z_st1 L x c) nL ls' := by
  refine ⟨by rw [z_st1_len]; exact hl, _, h, fun j e he => ?_⟩
  rcases z_st1_get he with ⟨rfl, rfl⟩ | h1 | ⟨h1, h2, h4⟩
  · exact Or.inr ⟨v, List.mem_cons_self, hv⟩
  · exact Or.inl h1
  · rcases h3 j e h2 with h5 | ⟨w, h5, h6⟩
    · exact Or.inl h5
    · refine Or.inr ⟨w, List.mem_cons_of_mem _ (List.mem_filter.mpr ⟨h5, ?_⟩), h6⟩
      by_cases h7 : j + 1 = x
      · have h8 := h6.cat1 (fun z => h4 ⟨h7, z⟩)
        simp [h1, h8]
      · simp [h1, h7]
theorem z_Lr.store2 {sa : Nat → Nat} {ad ts : List Nat} {vs : List Value} {L : List z_C} {nL x : Nat} {c : z_C} {v : Value} {lv : List (Nat × Value)} {ls' : Array Slot} (hl : L.length = nL) (h3 : ∀ i c, L[i]? = some c → c.1 = 9 ∨ ∃ v, (i, v) ∈ lv ∧ z_v sa ad ts vs c v) (hv : z_v sa ad ts vs c v) (h : lv_has ls' nL ((x, v) :: lv.filter (fun q => !(q.1 == x) && (!(q.1 == x + 1) && !(q.1 + 1 == x && q.2.category == 2))))) : z_Lr sa ad ts vs (z_st2 L x c) nL ls' := by
  refine ⟨by unfold z_st2; rw [z_lset_len, z_st1_len]; exact hl, _, h, fun j e he => ?_⟩
  rcases z_lset_get _ _ _ _ _ he with ⟨_, h0⟩ | ⟨h0, he⟩
  · exact Or.inl (by rw [h0])
  · rcases z_st1_get he with ⟨rfl, rfl⟩ | h1 | ⟨h1, h2, h4⟩
    · exact Or.inr ⟨v, List.mem_cons_self, hv⟩
    · exact Or.inl h1
    · rcases h3 j e h2 with h5 | ⟨w, h5, h6⟩
      · exact Or.inl h5
      · refine Or.inr ⟨w, List.mem_cons_of_mem _ (List.mem_filter.mpr ⟨h5, ?_⟩), h6⟩
        have h0 : ¬ j = x + 1 := h0
        by_cases h7 : j + 1 = x
        · have h8 := h6.cat1 (fun z => h4 ⟨h7, z⟩)
          simp [h1, h0, h8]
        · simp [h1, h0, h7]
theorem z_bin_inv {st : List z_C} {k : z_C → z_C → List z_C → Option (List z_O)} {os : List z_O} (h : z_bin st k = some os) : ∃ b a r, st = b :: a :: r ∧ a.1 = 0 ∧ b.1 = 0 ∧ k a b r = some os := by
  match st, h with
  | [], h => cases h
  | [_], h => cases h
  | b :: a :: r, h =>
    obtain ⟨h1, h2⟩ := q_bifs h
    obtain ⟨h3, h4⟩ := q_ands h1
    exact ⟨b, a, r, rfl, q_beq.mp h3, q_beq.mp h4, h2⟩
theorem z_un_inv {st : List z_C} {k : z_C → List z_C → Option (List z_O)} {os : List z_O} (h : z_un st k = some os) : ∃ a r, st = a :: r ∧ a.1 = 0 ∧ k a r = some os := by
  match st, h with
  | [], h => cases h
  | a :: r, h =>
    obtain ⟨h1, h2⟩ := q_bifs h
    exact ⟨a, r, rfl, q_beq.mp h1, h2⟩
theorem z_lngs {sa : Nat → Nat} {ad ts : List Nat} {V : z_V} {vs : List Value} {k : z_V → z_C → Option (List z_O)} {os : List z_O} (hr : z_ld V (3, 0, 0) k = some os) (hE : z_E V vs) (x : Int64) : z_Res sa ad ts V vs k os (.long x) := by
  have hr : z_frv (z_push V 0 0) (fun w => k w (3, V.1, 0)) = some os := hr
  rw [z_frv_eq] at hr
  have h0 : 0 < V.1 := by
    rw [← hE.1]
    exact (List.getElem?_eq_some_iff.mp hE.2.1).1
  exact ⟨_, _, vs ++ [.long x], hr, List.prefix_append _ _, hE.push (v := .long x) (by decide) (by decide) (Or.inl rfl), rfl, Or.inr (Or.inr (Or.inr (Or.inl ⟨rfl, Or.inr ⟨by show ¬ V.1 = 0; omega, z_last hE.1, x, rfl⟩⟩)))⟩
section ZI
variable {l : Launch} {base : Nat} {D : va_G} {sa : Nat → Nat} {g : z_G} {J : va_W → List Nat → Prop} {ih : z_F} {d : Nat × Nat} {i pc ln x y z : Nat} {tl : List q_I} {V : z_V} {L st : List z_C} {sp : List Nat} {cx : List z_X} {os : List z_O}
/-- a value is pushed, or more is done to the stack -/
theorem z_go {pc' : Nat} {U : z_V} {L' S' : List z_C} (hg : z_Ok l base D sa g J d i pc' U L' S' cx os) (hgx : z_gx cx) {p : Program} {e : Env} {s : State} {m : MethodId} {args : Array Value} {below : List Frame} {meth : Method} {c : Code} {Q : State → Prop} {w0 : va_W} {t0 : List Nat} {vs0 : List Value} {H : Heap} {locs : List Loc} {ls : Array Slot} {sv : List Value} {ws : va_W} {tys : List (ClassId × FieldType)} {ts : List Nat} {vs vs' : List Value}
    (C : z_Cx base sa g.2.1 J i p s m args meth c w0 t0) (hp : z_Hp base D g.1 g.2.1 s w0 t0 H locs ws tys ts) (hv : z_Sv sa g.1 vs0 ws ts U vs') (hpre : vs <+: vs') (hL : z_Lr sa (q_ad ws) ts vs' L' (q_ml i) ls) (hs : z_Sr sa (q_ad ws) ts vs' S' sv) (hx : ∀ X ∈ cx, z_Hy l base D sa g d i p e s m args below meth c Q w0 t0 vs0 X vs) (hf : ∀ o ∈ os, z_Fi l base D sa g d i p e s m args below meth c Q w0 t0 vs0 o) {n : Nat} (hn : U.2.2.2.2.2 = n) :
    W p l e (q_rm d.1 (9 * d.2) (446 * d.2)) s m args below meth c H locs (9 * n) (446 * n) Q (F0 m pc' ls sv) := by
  subst hn
  exact hg p e s m args below meth c Q w0 t0 vs0 H locs ls sv ws tys ts vs' C hp hv hL hs (fun X hX => (hx X hX).ext (hgx X hX) hpre) hf
theorem z_s_iconst {n : Int} (hd : decode (q_b i) pc = .ok (.iconst n, ln)) (hk : q_lnk i pc ln (.iconst n) x y z) (hgx : z_gx cx) (hN : z_HN l base D sa g J ih d i (pc + ln) tl sp) (hr : z_step g q_code ih d i (q_code i) pc (.iconst n) x y z tl V L st sp cx = some os) : z_Ok l base D sa g J d i pc V L st cx os := by
  obtain ⟨e1, e2, e3⟩ := hk
  subst e1
  have hg := hN V L ((0, 0, q_bi x) :: st) cx os hgx hr
  intro p e s m args below meth c Q w0 t0 vs0 H locs ls sv ws tys ts vs C hp hv hL hs hx hf
  exact lv_iconst C.1.1 C.1.2.1 hd e3 (z_go hg hgx C hp hv List.prefix_rfl hL (sv := (.int (nI x)) :: sv) ⟨by rw [← q_qb_nI e2]; exact z_v.mkcon hv.2.1, hs⟩ hx hf rfl)
theorem z_s_bipush {n : Int} (hd : decode (q_b i) pc = .ok (.bipush n, ln)) (hk : q_lnk i pc ln (.bipush n) x y z) (hgx : z_gx cx) (hN : z_HN l base D sa g J ih d i (pc + ln) tl sp) (hr : z_step g q_code ih d i (q_code i) pc (.bipush n) x y z tl V L st sp cx = some os) : z_Ok l base D sa g J d i pc V L st cx os := by
  obtain ⟨e1, e2, e3⟩ := hk
  subst e1
  have hg := hN V L ((0, 0, q_bi x) :: st) cx os hgx hr
  intro p e s m args below meth c Q w0 t0 vs0 H locs ls sv ws tys ts vs C hp hv hL hs hx hf
  exact lv_bipush C.1.1 C.1.2.1 hd e3 (z_go hg hgx C hp hv List.prefix_rfl hL (sv := (.int (nI x)) :: sv) ⟨by rw [← q_qb_nI e2]; exact z_v.mkcon hv.2.1, hs⟩ hx hf rfl)
theorem z_s_sipush {n : Int} (hd : decode (q_b i) pc = .ok (.sipush n, ln)) (hk : q_lnk i pc ln (.sipush n) x y z) (hgx : z_gx cx) (hN : z_HN l base D sa g J ih d i (pc + ln) tl sp) (hr : z_step g q_code ih d i (q_code i) pc (.sipush n) x y z tl V L st sp cx = some os) : z_Ok l base D sa g J d i pc V L st cx os := by
  obtain ⟨e1, e2, e3⟩ := hk
  subst e1
  have hg := hN V L ((0, 0, q_bi x) :: st) cx os hgx hr
  intro p e s m args below meth c Q w0 t0 vs0 H locs ls sv ws tys ts vs C hp hv hL hs hx hf
  exact lv_sipush C.1.1 C.1.2.1 hd e3 (z_go hg hgx C hp hv List.prefix_rfl hL (sv := (.int (nI x)) :: sv) ⟨by rw [← q_qb_nI e2]; exact z_v.mkcon hv.2.1, hs⟩ hx hf rfl)
theorem z_s_ldc_w {n : Nat} (hd : decode (q_b i) pc = .ok (.ldc_w n, ln)) (hk : q_lnk i pc ln (.ldc_w n) x y z) (hgx : z_gx cx) (hN : z_HN l base D sa g J ih d i (pc + ln) tl sp) (hr : z_step g q_code ih d i (q_code i) pc (.ldc_w n) x y z tl V L st sp cx = some os) : z_Ok l base D sa g J d i pc V L st cx os := by
  have hr : (bif Nat.beq z 99 then none else ih d i (q_code i) tl V L ((0, 0, q_bi x) :: st) sp cx) = some os := hr
  obtain ⟨hz, hr⟩ := q_bifn hr
  rcases hk with hk | ⟨e1, e2, e3⟩
  · exact absurd hk (q_bneq.mp hz)
  subst e1
  have hg := hN V L ((0, 0, q_bi x) :: st) cx os hgx hr
  intro p e s m args below meth c Q w0 t0 vs0 H locs ls sv ws tys ts vs C hp hv hL hs hx hf
  exact lv_ldcw C.1.1 C.1.2.1 C.1.2.2.2.2.1 (C.1.2.2.2.2.2.1 _ e3) hd (z_go hg hgx C hp hv List.prefix_rfl hL (sv := .int (nI x) :: sv) ⟨by rw [← q_qb_nI e2]; exact z_v.mkcon hv.2.1, hs⟩ hx hf rfl)
theorem z_s_null (hd : decode (q_b i) pc = .ok (.aconst_null, ln)) (hk : q_lnk i pc ln (.aconst_null) x y z) (hgx : z_gx cx) (hN : z_HN l base D sa g J ih d i (pc + ln) tl sp) (hr : z_step g q_code ih d i (q_code i) pc (.aconst_null) x y z tl V L st sp cx = some os) : z_Ok l base D sa g J d i pc V L st cx os := by
  have e1 : ln = 1 := hk
  subst e1
  have hg := hN V L ((2, 0, 0) :: st) cx os hgx hr
  intro p e s m args below meth c Q w0 t0 vs0 H locs ls sv ws tys ts vs C hp hv hL hs hx hf
  exact lv_null C.1.1 C.1.2.1 hd (z_go hg hgx C hp hv List.prefix_rfl hL (sv := .null :: sv) ⟨Or.inr (Or.inr (Or.inl ⟨rfl, Or.inl ⟨rfl, rfl⟩⟩)), hs⟩ hx hf rfl)
theorem z_s_iload {n : Nat} (hd : decode (q_b i) pc = .ok (.iload n, ln)) (hk : q_lnk i pc ln (.iload n) x y z) (hgx : z_gx cx) (hN : z_HN l base D sa g J ih d i (pc + ln) tl sp) (hr : z_step g q_code ih d i (q_code i) pc (.iload n) x y z tl V L st sp cx = some os) : z_Ok l base D sa g J d i pc V L st cx os := by
  obtain ⟨e1, e2⟩ := hk
  subst e1
  have hr : (bif Nat.beq (z_nth L x).1 0 then ih d i (q_code i) tl V L (z_nth L x :: st) sp cx else none) = some os := hr
  obtain ⟨h1, hr⟩ := q_bifs hr
  have h1 := q_beq.mp h1
  have hg := hN V L _ cx os hgx hr
  intro p e s m args below meth c Q w0 t0 vs0 H locs ls sv ws tys ts vs C hp hv hL hs hx hf
  obtain ⟨v, hv1, hv2⟩ := hL.get (k := x) (by omega)
  obtain ⟨xx, yy, -, rfl, -⟩ := hv2.int h1
  subst e2
  exact lv_iload C.1.1 C.1.2.1 hd hv1 (z_go hg hgx C hp hv List.prefix_rfl hL (sv := .int yy :: sv) ⟨hv2, hs⟩ hx hf rfl)
theorem z_s_iload_n {n : Fin 4} (hd : decode (q_b i) pc = .ok (.iload_n n, ln)) (hk : q_lnk i pc ln (.iload_n n) x y z) (hgx : z_gx cx) (hN : z_HN l base D sa g J ih d i (pc + ln) tl sp) (hr : z_step g q_code ih d i (q_code i) pc (.iload_n n) x y z tl V L st sp cx = some os) : z_Ok l base D sa g J d i pc V L st cx os := by
  obtain ⟨e1, e2⟩ := hk
  subst e1
  have hr : (bif Nat.beq (z_nth L x).1 0 then ih d i (q_code i) tl V L (z_nth L x :: st) sp cx else none) = some os := hr
  obtain ⟨h1, hr⟩ := q_bifs hr
  have h1 := q_beq.mp h1
  have hg := hN V L _ cx os hgx hr
  intro p e s m args below meth c Q w0 t0 vs0 H locs ls sv ws tys ts vs C hp hv hL hs hx hf
  obtain ⟨v, hv1, hv2⟩ := hL.get (k := x) (by omega)
  obtain ⟨xx, yy, -, rfl, -⟩ := hv2.int h1
  exact lv_iload_n C.1.1 C.1.2.1 hd e2 hv1 (z_go hg hgx C hp hv List.prefix_rfl hL (sv := .int yy :: sv) ⟨hv2, hs⟩ hx hf rfl)
theorem z_s_aload {n : Nat} (hd : decode (q_b i) pc = .ok (.aload n, ln)) (hk : q_lnk i pc ln (.aload n) x y z) (hgx : z_gx cx) (hN : z_HN l base D sa g J ih d i (pc + ln) tl sp) (hr : z_step g q_code ih d i (q_code i) pc (.aload n) x y z tl V L st sp cx = some os) : z_Ok l base D sa g J d i pc V L st cx os := by
  obtain ⟨e1, e2⟩ := hk
  subst e1
  have hr : (bif Nat.beq (z_nth L x).1 1 || (Nat.beq (z_nth L x).1 2 && Nat.beq (z_nth L x).2.2 0) then ih d i (q_code i) tl V L (z_nth L x :: st) sp cx else none) = some os := hr
  obtain ⟨h1, hr⟩ := q_bifs hr
  have h1 : (z_nth L x).1 = 1 ∨ ((z_nth L x).1 = 2 ∧ (z_nth L x).2.2 = 0) := by
    rcases q_ors h1 with h1 | h1
    · exact Or.inl (q_beq.mp h1)
    · exact Or.inr ⟨q_beq.mp (q_ands h1).1, q_beq.mp (q_ands h1).2⟩
  have hg := hN V L _ cx os hgx hr
  intro p e s m args below meth c Q w0 t0 vs0 H locs ls sv ws tys ts vs C hp hv hL hs hx hf
  obtain ⟨v, hv1, hv2⟩ := hL.get (k := x) (by omega)
  subst e2
  rcases hv2.obj h1 with rfl | ⟨a, rfl⟩
  · exact lv_aloadN C.1.1 C.1.2.1 hd hv1 (z_go hg hgx C hp hv List.prefix_rfl hL (sv := .null :: sv) ⟨hv2, hs⟩ hx hf rfl)
  · exact lv_aload C.1.1 C.1.2.1 hd hv1 (z_go hg hgx C hp hv List.prefix_rfl hL (sv := .ref a :: sv) ⟨hv2, hs⟩ hx hf rfl)
theorem z_s_aload_n {n : Fin 4} (hd : decode (q_b i) pc = .ok (.aload_n n, ln)) (hk : q_lnk i pc ln (.aload_n n) x y z) (hgx : z_gx cx) (hN : z_HN l base D sa g J ih d i (pc + ln) tl sp) (hr : z_step g q_code ih d i (q_code i) pc (.aload_n n) x y z tl V L st sp cx = some os) : z_Ok l base D sa g J d i pc V L st cx os := by
  obtain ⟨e1, e2⟩ := hk
  subst e1
  have hr : (bif Nat.beq (z_nth L x).1 1 || (Nat.beq (z_nth L x).1 2 && Nat.beq (z_nth L x).2.2 0) then ih d i (q_code i) tl V L (z_nth L x :: st) sp cx else none) = some os := hr
  obtain ⟨h1, hr⟩ := q_bifs hr
  have h1 : (z_nth L x).1 = 1 ∨ ((z_nth L x).1 = 2 ∧ (z_nth L x).2.2 = 0) := by
    rcases q_ors h1 with h1 | h1
    · exact Or.inl (q_beq.mp h1)
    · exact Or.inr ⟨q_beq.mp (q_ands h1).1, q_beq.mp (q_ands h1).2⟩
  have hg := hN V L _ cx os hgx hr
  intro p e s m args below meth c Q w0 t0 vs0 H locs ls sv ws tys ts vs C hp hv hL hs hx hf
  obtain ⟨v, hv1, hv2⟩ := hL.get (k := x) (by omega)
  rcases hv2.obj h1 with rfl | ⟨a, rfl⟩
  · exact lv_aload_nN C.1.1 C.1.2.1 hd e2 hv1 (z_go hg hgx C hp hv List.prefix_rfl hL (sv := .null :: sv) ⟨hv2, hs⟩ hx hf rfl)
  · exact lv_aload_n C.1.1 C.1.2.1 hd e2 hv1 (z_go hg hgx C hp hv List.prefix_rfl hL (sv := .ref a :: sv) ⟨hv2, hs⟩ hx hf rfl)
theorem z_s_iadd (hd : decode (q_b i) pc = .ok (.iadd, ln)) (hk : q_lnk i pc ln (.iadd) x y z) (hgx : z_gx cx) (hN : z_HN l base D sa g J ih d i (pc + ln) tl sp) (hr : z_step g q_code ih d i (q_code i) pc (.iadd) x y z tl V L st sp cx = some os) : z_Ok l base D sa g J d i pc V L st cx os := by
  have e1 : ln = 1 := hk
  subst e1
  have hr : z_bin st (fun a b r => z_oadd V a b (fun w c => ih d i (q_code i) tl w L (c :: r) sp cx)) = some os := hr
  obtain ⟨b, a, r, rfl, ka, kb, hr⟩ := z_bin_inv hr
  intro p e s m args below meth c Q w0 t0 vs0 H locs ls sv ws tys ts vs C hp hv hL hs hx hf
  obtain ⟨vb, sv1, rfl, hvb, hs1⟩ := hs.cons
  obtain ⟨va, sv2, rfl, hva, hs2⟩ := hs1.cons
  obtain ⟨_, xb, -, rfl, -⟩ := id (hvb.int kb)
  obtain ⟨_, xa, -, rfl, -⟩ := id (hva.int ka)
  have hres : z_Res sa (q_ad ws) ts V vs (fun w c => ih d i (q_code i) tl w L (c :: r) sp cx) os (.int (xa + xb)) := z_oadd_s hr hv.2.1 ka kb hva hvb
  obtain ⟨W1, c1, vs1, k1, k2, k3, k4, k5⟩ := hres
  have hg := hN W1 L (c1 :: r) cx os hgx k1
  exact lv_iadd C.1.1 C.1.2.1 hd (z_go hg hgx C hp (hv.ext k2 k3 k4) k2 (hL.mono k2 List.prefix_rfl List.prefix_rfl) (sv := .int (xa + xb) :: sv2) ⟨k5, z_Sr.mono k2 List.prefix_rfl List.prefix_rfl hs2⟩ hx hf (by rw [k4]))
theorem z_s_isub (hd : decode (q_b i) pc = .ok (.isub, ln)) (hk : q_lnk i pc ln (.isub) x y z) (hgx : z_gx cx) (hN : z_HN l base D sa g J ih d i (pc + ln) tl sp) (hr : z_step g q_code ih d i (q_code i) pc (.isub) x y z tl V L st sp cx = some os) : z_Ok l base D sa g J d i pc V L st cx os := by
  have e1 : ln = 1 := hk
  subst e1
  have hr : z_bin st (fun a b r => z_osub V a b (fun w c => ih d i (q_code i) tl w L (c :: r) sp cx)) = some os := hr
  obtain ⟨b, a, r, rfl, ka, kb, hr⟩ := z_bin_inv hr
  intro p e s m args below meth c Q w0 t0 vs0 H locs ls sv ws tys ts vs C hp hv hL hs hx hf
  obtain ⟨vb, sv1, rfl, hvb, hs1⟩ := hs.cons
  obtain ⟨va, sv2, rfl, hva, hs2⟩ := hs1.cons
  obtain ⟨_, xb, -, rfl, -⟩ := id (hvb.int kb)
  obtain ⟨_, xa, -, rfl, -⟩ := id (hva.int ka)
  have hres : z_Res sa (q_ad ws) ts V vs (fun w c => ih d i (q_code i) tl w L (c :: r) sp cx) os (.int (xa - xb)) := z_osub_s hr hv.2.1 ka kb hva hvb
  obtain ⟨W1, c1, vs1, k1, k2, k3, k4, k5⟩ := hres
  have hg := hN W1 L (c1 :: r) cx os hgx k1
  exact lv_isub C.1.1 C.1.2.1 hd (z_go hg hgx C hp (hv.ext k2 k3 k4) k2 (hL.mono k2 List.prefix_rfl List.prefix_rfl) (sv := .int (xa - xb) :: sv2) ⟨k5, z_Sr.mono k2 List.prefix_rfl List.prefix_rfl hs2⟩ hx hf (by rw [k4]))
theorem z_s_imul (hd : decode (q_b i) pc = .ok (.imul, ln)) (hk : q_lnk i pc ln (.imul) x y z) (hgx : z_gx cx) (hN : z_HN l base D sa g J ih d i (pc + ln) tl sp) (hr : z_step g q_code ih d i (q_code i) pc (.imul) x y z tl V L st sp cx = some os) : z_Ok l base D sa g J d i pc V L st cx os := by
  have e1 : ln = 1 := hk
  subst e1
  have hr : z_bin st (fun a b r => z_omul V a b (fun w c => ih d i (q_code i) tl w L (c :: r) sp cx)) = some os := hr
  obtain ⟨b, a, r, rfl, ka, kb, hr⟩ := z_bin_inv hr
  intro p e s m args below meth c Q w0 t0 vs0 H locs ls sv ws tys ts vs C hp hv hL hs hx hf
  obtain ⟨vb, sv1, rfl, hvb, hs1⟩ := hs.cons
  obtain ⟨va, sv2, rfl, hva, hs2⟩ := hs1.cons
  obtain ⟨_, xb, -, rfl, -⟩ := id (hvb.int kb)
  obtain ⟨_, xa, -, rfl, -⟩ := id (hva.int ka)
  have hres : z_Res sa (q_ad ws) ts V vs (fun w c => ih d i (q_code i) tl w L (c :: r) sp cx) os (.int (xa * xb)) := z_omul_s hr hv.2.1 ka kb hva hvb
  obtain ⟨W1, c1, vs1, k1, k2, k3, k4, k5⟩ := hres
  have hg := hN W1 L (c1 :: r) cx os hgx k1
  exact lv_imul C.1.1 C.1.2.1 hd (z_go hg hgx C hp (hv.ext k2 k3 k4) k2 (hL.mono k2 List.prefix_rfl List.prefix_rfl) (sv := .int (xa * xb) :: sv2) ⟨k5, z_Sr.mono k2 List.prefix_rfl List.prefix_rfl hs2⟩ hx hf (by rw [k4]))
theorem z_s_iand (hd : decode (q_b i) pc = .ok (.iand, ln)) (hk : q_lnk i pc ln (.iand) x y z) (hgx : z_gx cx) (hN : z_HN l base D sa g J ih d i (pc + ln) tl sp) (hr : z_step g q_code ih d i (q_code i) pc (.iand) x y z tl V L st sp cx = some os) : z_Ok l base D sa g J d i pc V L st cx os := by
  have e1 : ln = 1 := hk
  subst e1
  have hr : z_bin st (fun a b r => z_oand V a b (fun w c => ih d i (q_code i) tl w L (c :: r) sp cx)) = some os := hr
  obtain ⟨b, a, r, rfl, ka, kb, hr⟩ := z_bin_inv hr
  intro p e s m args below meth c Q w0 t0 vs0 H locs ls sv ws tys ts vs C hp hv hL hs hx hf
  obtain ⟨vb, sv1, rfl, hvb, hs1⟩ := hs.cons
  obtain ⟨va, sv2, rfl, hva, hs2⟩ := hs1.cons
  obtain ⟨_, xb, -, rfl, -⟩ := id (hvb.int kb)
  obtain ⟨_, xa, -, rfl, -⟩ := id (hva.int ka)
  have hres : z_Res sa (q_ad ws) ts V vs (fun w c => ih d i (q_code i) tl w L (c :: r) sp cx) os (.int (xa &&& xb)) := z_oand_s hr hv.2.1 ka kb hva hvb
  obtain ⟨W1, c1, vs1, k1, k2, k3, k4, k5⟩ := hres
  have hg := hN W1 L (c1 :: r) cx os hgx k1
  exact lv_iand C.1.1 C.1.2.1 hd (z_go hg hgx C hp (hv.ext k2 k3 k4) k2 (hL.mono k2 List.prefix_rfl List.prefix_rfl) (sv := .int (xa &&& xb) :: sv2) ⟨k5, z_Sr.mono k2 List.prefix_rfl List.prefix_rfl hs2⟩ hx hf (by rw [k4]))
theorem z_s_ior (hd : decode (q_b i) pc = .ok (.ior, ln)) (hk : q_lnk i pc ln (.ior) x y z) (hgx : z_gx cx) (hN : z_HN l base D sa g J ih d i (pc + ln) tl sp) (hr : z_step g q_code ih d i (q_code i) pc (.ior) x y z tl V L st sp cx = some os) : z_Ok l base D sa g J d i pc V L st cx os := by
  have e1 : ln = 1 := hk
  subst e1
  have hr : z_bin st (fun a b r => z_oor V a b (fun w c => ih d i (q_code i) tl w L (c :: r) sp cx)) = some os := hr
  obtain ⟨b, a, r, rfl, ka, kb, hr⟩ := z_bin_inv hr
  intro p e s m args below meth c Q w0 t0 vs0 H locs ls sv ws tys ts vs C hp hv hL hs hx hf
  obtain ⟨vb, sv1, rfl, hvb, hs1⟩ := hs.cons
  obtain ⟨va, sv2, rfl, hva, hs2⟩ := hs1.cons
  obtain ⟨_, xb, -, rfl, -⟩ := id (hvb.int kb)
  obtain ⟨_, xa, -, rfl, -⟩ := id (hva.int ka)
  have hres : z_Res sa (q_ad ws) ts V vs (fun w c => ih d i (q_code i) tl w L (c :: r) sp cx) os (.int (xa ||| xb)) := z_oor_s hr hv.2.1 ka kb hva hvb (Or.inl rfl)
  obtain ⟨W1, c1, vs1, k1, k2, k3, k4, k5⟩ := hres
  have hg := hN W1 L (c1 :: r) cx os hgx k1
  exact lv_ior C.1.1 C.1.2.1 hd (z_go hg hgx C hp (hv.ext k2 k3 k4) k2 (hL.mono k2 List.prefix_rfl List.prefix_rfl) (sv := .int (xa ||| xb) :: sv2) ⟨k5, z_Sr.mono k2 List.prefix_rfl List.prefix_rfl hs2⟩ hx hf (by rw [k4]))
theorem z_s_ixor (hd : decode (q_b i) pc = .ok (.ixor, ln)) (hk : q_lnk i pc ln (.ixor) x y z) (hgx : z_gx cx) (hN : z_HN l base D sa g J ih d i (pc + ln) tl sp) (hr : z_step g q_code ih d i (q_code i) pc (.ixor) x y z tl V L st sp cx = some os) : z_Ok l base D sa g J d i pc V L st cx os := by
  have e1 : ln = 1 := hk
  subst e1
  have hr : z_bin st (fun a b r => z_oor V a b (fun w c => ih d i (q_code i) tl w L (c :: r) sp cx)) = some os := hr
  obtain ⟨b, a, r, rfl, ka, kb, hr⟩ := z_bin_inv hr
  intro p e s m args below meth c Q w0 t0 vs0 H locs ls sv ws tys ts vs C hp hv hL hs hx hf
  obtain ⟨vb, sv1, rfl, hvb, hs1⟩ := hs.cons
  obtain ⟨va, sv2, rfl, hva, hs2⟩ := hs1.cons
  obtain ⟨_, xb, -, rfl, -⟩ := id (hvb.int kb)
  obtain ⟨_, xa, -, rfl, -⟩ := id (hva.int ka)
  have hres : z_Res sa (q_ad ws) ts V vs (fun w c => ih d i (q_code i) tl w L (c :: r) sp cx) os (.int (xa ^^^ xb)) := z_oor_s hr hv.2.1 ka kb hva hvb (Or.inr rfl)
  obtain ⟨W1, c1, vs1, k1, k2, k3, k4, k5⟩ := hres
  have hg := hN W1 L (c1 :: r) cx os hgx k1
  exact lv_ixor C.1.1 C.1.2.1 hd (z_go hg hgx C hp (hv.ext k2 k3 k4) k2 (hL.mono k2 List.prefix_rfl List.prefix_rfl) (sv := .int (xa ^^^ xb) :: sv2) ⟨k5, z_Sr.mono k2 List.prefix_rfl List.prefix_rfl hs2⟩ hx hf (by rw [k4]))
theorem z_s_ishl (hd : decode (q_b i) pc = .ok (.ishl, ln)) (hk : q_lnk i pc ln (.ishl) x y z) (hgx : z_gx cx) (hN : z_HN l base D sa g J ih d i (pc + ln) tl sp) (hr : z_step g q_code ih d i (q_code i) pc (.ishl) x y z tl V L st sp cx = some os) : z_Ok l base D sa g J d i pc V L st cx os := by
  have e1 : ln = 1 := hk
  subst e1
  have hr : z_bin st (fun a b r => z_oshl V a b (fun w c => ih d i (q_code i) tl w L (c :: r) sp cx)) = some os := hr
  obtain ⟨b, a, r, rfl, ka, kb, hr⟩ := z_bin_inv hr
  intro p e s m args below meth c Q w0 t0 vs0 H locs ls sv ws tys ts vs C hp hv hL hs hx hf
  obtain ⟨vb, sv1, rfl, hvb, hs1⟩ := hs.cons
  obtain ⟨va, sv2, rfl, hva, hs2⟩ := hs1.cons
  obtain ⟨_, xb, -, rfl, -⟩ := id (hvb.int kb)
  obtain ⟨_, xa, -, rfl, -⟩ := id (hva.int ka)
  have hres : z_Res sa (q_ad ws) ts V vs (fun w c => ih d i (q_code i) tl w L (c :: r) sp cx) os (.int (xa <<< (xb &&& 31))) := z_oshl_s hr hv.2.1 ka kb hva hvb
  obtain ⟨W1, c1, vs1, k1, k2, k3, k4, k5⟩ := hres
  have hg := hN W1 L (c1 :: r) cx os hgx k1
  exact lv_ishl C.1.1 C.1.2.1 hd (z_go hg hgx C hp (hv.ext k2 k3 k4) k2 (hL.mono k2 List.prefix_rfl List.prefix_rfl) (sv := .int (xa <<< (xb &&& 31)) :: sv2) ⟨k5, z_Sr.mono k2 List.prefix_rfl List.prefix_rfl hs2⟩ hx hf (by rw [k4]))
theorem z_s_ishr (hd : decode (q_b i) pc = .ok (.ishr, ln)) (hk : q_lnk i pc ln (.ishr) x y z) (hgx : z_gx cx) (hN : z_HN l base D sa g J ih d i (pc + ln) tl sp) (hr : z_step g q_code ih d i (q_code i) pc (.ishr) x y z tl V L st sp cx = some os) : z_Ok l base D sa g J d i pc V L st cx os := by
  have e1 : ln = 1 := hk
  subst e1
  have hr : z_bin st (fun a _ r => z_oshr V a (fun w c => ih d i (q_code i) tl w L (c :: r) sp cx)) = some os := hr
  obtain ⟨b, a, r, rfl, ka, kb, hr⟩ := z_bin_inv hr
  intro p e s m args below meth c Q w0 t0 vs0 H locs ls sv ws tys ts vs C hp hv hL hs hx hf
  obtain ⟨vb, sv1, rfl, hvb, hs1⟩ := hs.cons
  obtain ⟨va, sv2, rfl, hva, hs2⟩ := hs1.cons
  obtain ⟨_, xb, -, rfl, -⟩ := id (hvb.int kb)
  obtain ⟨_, xa, -, rfl, -⟩ := id (hva.int ka)
  have hres : z_Res sa (q_ad ws) ts V vs (fun w c => ih d i (q_code i) tl w L (c :: r) sp cx) os (.int (xa >>> (xb &&& 31))) := z_oshr_s hr hv.2.1 ka hva (fun h => z_qshr h)
  obtain ⟨W1, c1, vs1, k1, k2, k3, k4, k5⟩ := hres
  have hg := hN W1 L (c1 :: r) cx os hgx k1
  exact lv_ishr C.1.1 C.1.2.1 hd (z_go hg hgx C hp (hv.ext k2 k3 k4) k2 (hL.mono k2 List.prefix_rfl List.prefix_rfl) (sv := .int (xa >>> (xb &&& 31)) :: sv2) ⟨k5, z_Sr.mono k2 List.prefix_rfl List.prefix_rfl hs2⟩ hx hf (by rw [k4]))
theorem z_s_iushr (hd : decode (q_b i) pc = .ok (.iushr, ln)) (hk : q_lnk i pc ln (.iushr) x y z) (hgx : z_gx cx) (hN : z_HN l base D sa g J ih d i (pc + ln) tl sp) (hr : z_step g q_code ih d i (q_code i) pc (.iushr) x y z tl V L st sp cx = some os) : z_Ok l base D sa g J d i pc V L st cx os := by
  have e1 : ln = 1 := hk
  subst e1
  have hr : z_bin st (fun a _ r => z_oshr V a (fun w c => ih d i (q_code i) tl w L (c :: r) sp cx)) = some os := hr
  obtain ⟨b, a, r, rfl, ka, kb, hr⟩ := z_bin_inv hr
  intro p e s m args below meth c Q w0 t0 vs0 H locs ls sv ws tys ts vs C hp hv hL hs hx hf
  obtain ⟨vb, sv1, rfl, hvb, hs1⟩ := hs.cons
  obtain ⟨va, sv2, rfl, hva, hs2⟩ := hs1.cons
  obtain ⟨_, xb, -, rfl, -⟩ := id (hvb.int kb)
  obtain ⟨_, xa, -, rfl, -⟩ := id (hva.int ka)
  have hres : z_Res sa (q_ad ws) ts V vs (fun w c => ih d i (q_code i) tl w L (c :: r) sp cx) os (.int ((xa.toUInt32 >>> (xb.toUInt32 &&& Int32.toUInt32 31)).toInt32)) := z_oshr_s hr hv.2.1 ka hva (fun h => z_qushr h)
  obtain ⟨W1, c1, vs1, k1, k2, k3, k4, k5⟩ := hres
  have hg := hN W1 L (c1 :: r) cx os hgx k1
  exact lv_iushr C.1.1 C.1.2.1 hd rfl (z_go hg hgx C hp (hv.ext k2 k3 k4) k2 (hL.mono k2 List.prefix_rfl List.prefix_rfl) (sv := .int ((xa.toUInt32 >>> (xb.toUInt32 &&& Int32.toUInt32 31)).toInt32) :: sv2) ⟨k5, z_Sr.mono k2 List.prefix_rfl List.prefix_rfl hs2⟩ hx hf (by rw [k4]))
theorem z_s_idiv (hd : decode (q_b i) pc = .ok (.idiv, ln)) (hk : q_lnk i pc ln (.idiv) x y z) (hgx : z_gx cx) (hN : z_HN l base D sa g J ih d i (pc + ln) tl sp) (hr : z_step g q_code ih d i (q_code i) pc (.idiv) x y z tl V L st sp cx = some os) : z_Ok l base D sa g J d i pc V L st cx os := by
  have e1 : ln = 1 := hk
  subst e1
  have hr : z_bin st (fun a b r => z_odiv V a b (fun w c => ih d i (q_code i) tl w L (c :: r) sp cx)) = some os := hr
  obtain ⟨b, a, r, rfl, ka, kb, hr⟩ := z_bin_inv hr
  intro p e s m args below meth c Q w0 t0 vs0 H locs ls sv ws tys ts vs C hp hv hL hs hx hf
  obtain ⟨vb, sv1, rfl, hvb, hs1⟩ := hs.cons
  obtain ⟨va, sv2, rfl, hva, hs2⟩ := hs1.cons
  obtain ⟨_, xb, -, rfl, -⟩ := id (hvb.int kb)
  obtain ⟨_, xa, -, rfl, -⟩ := id (hva.int ka)
  have hres : ¬ xb = 0 ∧ z_Res sa (q_ad ws) ts V vs (fun w c => ih d i (q_code i) tl w L (c :: r) sp cx) os (.int (xa / xb)) := z_odiv_s hr hv.2.1 ka kb hva hvb
  obtain ⟨hne, hres⟩ := hres
  obtain ⟨W1, c1, vs1, k1, k2, k3, k4, k5⟩ := hres
  have hg := hN W1 L (c1 :: r) cx os hgx k1
  exact lv_idiv C.1.1 C.1.2.1 hd hne (z_go hg hgx C hp (hv.ext k2 k3 k4) k2 (hL.mono k2 List.prefix_rfl List.prefix_rfl) (sv := .int (xa / xb) :: sv2) ⟨k5, z_Sr.mono k2 List.prefix_rfl List.prefix_rfl hs2⟩ hx hf (by rw [k4]))
theorem z_s_irem (hd : decode (q_b i) pc = .ok (.irem, ln)) (hk : q_lnk i pc ln (.irem) x y z) (hgx : z_gx cx) (hN : z_HN l base D sa g J ih d i (pc + ln) tl sp) (hr : z_step g q_code ih d i (q_code i) pc (.irem) x y z tl V L st sp cx = some os) : z_Ok l base D sa g J d i pc V L st cx os := by
  have e1 : ln = 1 := hk
  subst e1
  have hr : z_bin st (fun a b r => z_orem V a b (fun w c => ih d i (q_code i) tl w L (c :: r) sp cx)) = some os := hr
  obtain ⟨b, a, r, rfl, ka, kb, hr⟩ := z_bin_inv hr
  intro p e s m args below meth c Q w0 t0 vs0 H locs ls sv ws tys ts vs C hp hv hL hs hx hf
  obtain ⟨vb, sv1, rfl, hvb, hs1⟩ := hs.cons
  obtain ⟨va, sv2, rfl, hva, hs2⟩ := hs1.cons
  obtain ⟨_, xb, -, rfl, -⟩ := id (hvb.int kb)
  obtain ⟨_, xa, -, rfl, -⟩ := id (hva.int ka)
  have hres : ¬ xb = 0 ∧ z_Res sa (q_ad ws) ts V vs (fun w c => ih d i (q_code i) tl w L (c :: r) sp cx) os (.int (xa - xa / xb * xb)) := z_orem_s hr hv.2.1 ka kb hva hvb
  obtain ⟨hne, hres⟩ := hres
  obtain ⟨W1, c1, vs1, k1, k2, k3, k4, k5⟩ := hres
  have hg := hN W1 L (c1 :: r) cx os hgx k1
  exact lv_irem C.1.1 C.1.2.1 hd hne (z_go hg hgx C hp (hv.ext k2 k3 k4) k2 (hL.mono k2 List.prefix_rfl List.prefix_rfl) (sv := .int (xa - xa / xb * xb) :: sv2) ⟨k5, z_Sr.mono k2 List.prefix_rfl List.prefix_rfl hs2⟩ hx hf (by rw [k4]))
theorem z_s_ineg (hd : decode (q_b i) pc = .ok (.ineg, ln)) (hk : q_lnk i pc ln (.ineg) x y z) (hgx : z_gx cx) (hN : z_HN l base D sa g J ih d i (pc + ln) tl sp) (hr : z_step g q_code ih d i (q_code i) pc (.ineg) x y z tl V L st sp cx = some os) : z_Ok l base D sa g J d i pc V L st cx os := by
  have e1 : ln = 1 := hk
  subst e1
  have hr : z_un st (fun a r => z_oneg V a (fun w c => ih d i (q_code i) tl w L (c :: r) sp cx)) = some os := hr
  obtain ⟨a, r, rfl, ka, hr⟩ := z_un_inv hr
  intro p e s m args below meth c Q w0 t0 vs0 H locs ls sv ws tys ts vs C hp hv hL hs hx hf
  obtain ⟨va, sv2, rfl, hva, hs2⟩ := hs.cons
  obtain ⟨_, xa, -, rfl, -⟩ := id (hva.int ka)
  have hres : z_Res sa (q_ad ws) ts V vs (fun w c => ih d i (q_code i) tl w L (c :: r) sp cx) os (.int (-xa)) := z_oneg_s hr hv.2.1 ka hva
  obtain ⟨W1, c1, vs1, k1, k2, k3, k4, k5⟩ := hres
  have hg := hN W1 L (c1 :: r) cx os hgx k1
  exact lv_ineg C.1.1 C.1.2.1 hd (z_go hg hgx C hp (hv.ext k2 k3 k4) k2 (hL.mono k2 List.prefix_rfl List.prefix_rfl) (sv := .int (-xa) :: sv2) ⟨k5, z_Sr.mono k2 List.prefix_rfl List.prefix_rfl hs2⟩ hx hf (by rw [k4]))
theorem z_s_i2b (hd : decode (q_b i) pc = .ok (.i2b, ln)) (hk : q_lnk i pc ln (.i2b) x y z) (hgx : z_gx cx) (hN : z_HN l base D sa g J ih d i (pc + ln) tl sp) (hr : z_step g q_code ih d i (q_code i) pc (.i2b) x y z tl V L st sp cx = some os) : z_Ok l base D sa g J d i pc V L st cx os := by
  have e1 : ln = 1 := hk
  subst e1
  have hr : z_un st (fun _ r => z_an V (fun w c => ih d i (q_code i) tl w L (c :: r) sp cx)) = some os := hr
  obtain ⟨a, r, rfl, ka, hr⟩ := z_un_inv hr
  intro p e s m args below meth c Q w0 t0 vs0 H locs ls sv ws tys ts vs C hp hv hL hs hx hf
  obtain ⟨va, sv2, rfl, hva, hs2⟩ := hs.cons
  obtain ⟨_, xa, -, rfl, -⟩ := id (hva.int ka)
  have hres : z_Res sa (q_ad ws) ts V vs (fun w c => ih d i (q_code i) tl w L (c :: r) sp cx) os (.int (xa.toInt8.toInt32)) := z_an_s hr hv.2.1
  obtain ⟨W1, c1, vs1, k1, k2, k3, k4, k5⟩ := hres
  have hg := hN W1 L (c1 :: r) cx os hgx k1
  exact lv_i2b C.1.1 C.1.2.1 hd rfl (z_go hg hgx C hp (hv.ext k2 k3 k4) k2 (hL.mono k2 List.prefix_rfl List.prefix_rfl) (sv := .int (xa.toInt8.toInt32) :: sv2) ⟨k5, z_Sr.mono k2 List.prefix_rfl List.prefix_rfl hs2⟩ hx hf (by rw [k4]))
theorem z_s_dup (hd : decode (q_b i) pc = .ok (.dup, ln)) (hk : q_lnk i pc ln (.dup) x y z) (hgx : z_gx cx) (hN : z_HN l base D sa g J ih d i (pc + ln) tl sp) (hr : z_step g q_code ih d i (q_code i) pc (.dup) x y z tl V L st sp cx = some os) : z_Ok l base D sa g J d i pc V L st cx os := by
  have e1 : ln = 1 := hk
  subst e1
  match st, hr with
  | [], hr => cases hr
  | a :: r, hr =>
    have hr : (bif Nat.beq a.1 3 then none else ih d i (q_code i) tl V L (a :: a :: r) sp cx) = some os := hr
    obtain ⟨h1, hr⟩ := q_bifn hr
    have hg := hN V L _ cx os hgx hr
    intro p e s m args below meth c Q w0 t0 vs0 H locs ls sv ws tys ts vs C hp hv hL hs hx hf
    obtain ⟨va, sv1, rfl, hva, hs1⟩ := hs.cons
    exact lv_dup C.1.1 C.1.2.1 hd (hva.cat1 (q_bneq.mp h1)) (z_go hg hgx C hp hv List.prefix_rfl hL (sv := va :: va :: sv1) ⟨hva, hva, hs1⟩ hx hf rfl)
theorem z_s_dup2 (hd : decode (q_b i) pc = .ok (.dup2, ln)) (hk : q_lnk i pc ln (.dup2) x y z) (hgx : z_gx cx) (hN : z_HN l base D sa g J ih d i (pc + ln) tl sp) (hr : z_step g q_code ih d i (q_code i) pc (.dup2) x y z tl V L st sp cx = some os) : z_Ok l base D sa g J d i pc V L st cx os := by
  have e1 : ln = 1 := hk
  subst e1
  match st, hr with
  | [], hr => cases hr
  | [_], hr => cases hr
  | b :: a :: r, hr =>
    have hr : (bif Nat.beq a.1 3 || Nat.beq b.1 3 then none else ih d i (q_code i) tl V L (b :: a :: b :: a :: r) sp cx) = some os := hr
    obtain ⟨h1, hr⟩ := q_bifn hr
    have h2 : Nat.beq a.1 3 = false ∧ Nat.beq b.1 3 = false := by
      cases ha : Nat.beq a.1 3 with
      | true => rw [ha] at h1; cases h1
      | false => rw [ha] at h1; exact ⟨rfl, h1⟩
    have hg := hN V L _ cx os hgx hr
    intro p e s m args below meth c Q w0 t0 vs0 H locs ls sv ws tys ts vs C hp hv hL hs hx hf
    obtain ⟨vb, sv1, rfl, hvb, hs1⟩ := hs.cons
    obtain ⟨va, sv2, rfl, hva, hs2⟩ := hs1.cons
    exact lv_dup2_11 C.1.1 C.1.2.1 hd (hvb.cat1 (q_bneq.mp h2.2)) (hva.cat1 (q_bneq.mp h2.1)) (z_go hg hgx C hp hv List.prefix_rfl hL (sv := vb :: va :: vb :: va :: sv2) ⟨hvb, hva, hvb, hva, hs2⟩ hx hf rfl)
theorem z_s_pop (hd : decode (q_b i) pc = .ok (.pop, ln)) (hk : q_lnk i pc ln (.pop) x y z) (hgx : z_gx cx) (hN : z_HN l base D sa g J ih d i (pc + ln) tl sp) (hr : z_step g q_code ih d i (q_code i) pc (.pop) x y z tl V L st sp cx = some os) : z_Ok l base D sa g J d i pc V L st cx os := by
  have e1 : ln = 1 := hk
  subst e1
  match st, hr with
  | [], hr => cases hr
  | a :: r, hr =>
    have hr : (bif Nat.beq a.1 3 then none else ih d i (q_code i) tl V L r sp cx) = some os := hr
    obtain ⟨h1, hr⟩ := q_bifn hr
    have hg := hN V L _ cx os hgx hr
    intro p e s m args below meth c Q w0 t0 vs0 H locs ls sv ws tys ts vs C hp hv hL hs hx hf
    obtain ⟨va, sv1, rfl, hva, hs1⟩ := hs.cons
    exact lv_pop C.1.1 C.1.2.1 hd (hva.cat1 (q_bneq.mp h1)) (z_go hg hgx C hp hv List.prefix_rfl hL (sv := sv1) hs1 hx hf rfl)
theorem z_s_goto {off : Int} (hd : decode (q_b i) pc = .ok (.goto off, ln)) (hk : q_lnk i pc ln (.goto off) x y z) (hgx : z_gx cx) (hN : z_HN l base D sa g J ih d i (pc + ln) tl sp) (hJ : z_HJ l base D sa g J ih d i sp) (hr : z_step g q_code ih d i (q_code i) pc (.goto off) x y z tl V L st sp cx = some os) : z_Ok l base D sa g J d i pc V L st cx os := by
  obtain ⟨e1, e2⟩ := hk
  subst e1
  have hg := hJ x V L st cx os hgx hr
  intro p e s m args below meth c Q w0 t0 vs0 H locs ls sv ws tys ts vs C hp hv hL hs hx hf
  exact lv_goto C.1.1 C.1.2.1 hd e2 (z_go hg hgx C hp hv List.prefix_rfl hL hs hx hf rfl)
end ZI
end
section
/-! ===== instruction by instruction: stores, branches, longs ===== -/
def z_txl : List MethodName := [⟨"java/lang/String", "length", "()I"⟩, ⟨"java/lang/String", "charAt", "(I)C"⟩, ⟨"java/lang/String", "indexOf", "(I)I"⟩]
def z_txm (x : Nat) : MethodName := z_txl.getD x ⟨"", "", ""⟩
/-- links of what p1's evaluator doesn't know -/
def z_lnk (i : Nat) (pc ln : Nat) (ins : Instr) (x y z : Nat) : Prop := match ins with
  | .ldc n => z = 99 → ∀ s, y = s + 1 → ln = 2 ∧ (q_y i).cls = "SandNights$Reader" ∧ ((s = 0 ∧ n = 219) ∨ (s = 1 ∧ n = 210))
  | .ldc2_w n => z = 99 ∨ (ln = 3 ∧ Cond.constantLong (q_y i).cls n (z_lcv x) ∈ q_w0)
  | .lconst n => ln = 1 ∧ Int64.ofNat (n : Nat) = z_lcv x
  | .lload_n n => ln = 1 ∧ (n : Nat) = x
  | .lstore_n n => ln = 1 ∧ (n : Nat) = x ∧ x + 1 < q_ml i
  | .lookupswitch df ps => (ps.toList.zip (ps.toList.drop 1)).all (fun (a, next) => a.1 < next.1) = true ∧ 0 ≤ (pc : Int) + df ∧ ∀ o ∈ ps.toList, 0 ≤ o.1 ∧ o.1 < 2147483648 ∧ 0 ≤ (pc : Int) + o.2
  | .laload | .lastore | .lcmp | .i2l | .i2c | .lmul | .ladd | .lor | .lshl => ln = 1
  | .invokevirtual n => z = 99 → y = 88 → ln = 3 ∧ x < 3 ∧ Cond.methodLink (q_y i).cls n (z_txm x) ∈ q_w0
  | _ => True
section ZB
variable {p : Program} {l : Launch} {e : Env} {R : Room} {s : State} {m : MethodId} {args : Array Value} {below : List Frame} {meth : Method} {c : Code} {H : Heap} {locs : List Loc} {cells slots : Nat} {Q : State → Prop} {cc : ByteArray} {pc : Nat} {ls : Array Slot} {rest : List Value}
theorem z_icmp (hexec : p.tables.exec = Jvm.exec) (hb : c.code = cc) {cd : ClassFile.Cond} {x y : Int32} {off : Int} {tgt : Nat} (hdg : decode cc pc = .ok (.if_icmp cd off, 3)) (ht : (pc : Int) + off = (tgt : Int)) (kt : z_cmp cd x y → W p l e R s m args below meth c H locs cells slots Q (F0 m tgt ls rest)) (kf : z_cmp (z_ng cd) x y → W p l e R s m args below meth c H locs cells slots Q (F0 m (pc + 3) ls rest)) : W p l e R s m args below meth c H locs cells slots Q (F0 m pc ls (.int y :: .int x :: rest)) := by
  cases cd with
  | eq => exact lv_icmp_eq hexec hb hdg ht kt kf
  | ne => exact lv_icmp_ne hexec hb hdg ht kt kf
  | lt => exact lv_icmp_lt hexec hb hdg ht kt (fun h => kf (Int32.not_lt.mp h))
  | ge => exact lv_icmp_ge hexec hb hdg ht kt (fun h => kf (Int32.not_le.mp h))
  | gt => exact lv_icmp_gt hexec hb hdg ht kt (fun h => kf (Int32.not_lt.mp h))
  | le => exact lv_icmp_le hexec hb hdg ht kt (fun h => kf (Int32.not_le.mp h))
theorem z_ifc (hexec : p.tables.exec = Jvm.exec) (hb : c.code = cc) {cd : ClassFile.Cond} {x : Int32} {off : Int} {tgt : Nat} (hdg : decode cc pc = .ok (.ifCond cd off, 3)) (ht : (pc : Int) + off = (tgt : Int)) (kt : z_cmp cd x 0 → W p l e R s m args below meth c H locs cells slots Q (F0 m tgt ls rest)) (kf : z_cmp (z_ng cd) x 0 → W p l e R s m args below meth c H locs cells slots Q (F0 m (pc + 3) ls rest)) : W p l e R s m args below meth c H locs cells slots Q (F0 m pc ls (.int x :: rest)) := by
  cases cd with
  | eq => exact lv_if_eq hexec hb hdg ht kt kf
  | ne => exact lv_if_ne hexec hb hdg ht kt kf
  | lt => exact lv_if_lt hexec hb hdg ht kt (fun h => kf (Int32.not_lt.mp h))
  | ge => exact lv_if_ge hexec hb hdg ht kt (fun h => kf (Int32.not_le.mp h))
  | gt => exact lv_if_gt hexec hb hdg ht kt (fun h => kf (Int32.not_lt.mp h))
  | le => exact lv_if_le hexec hb hdg ht kt (fun h => kf (Int32.not_le.mp h))
end ZB
theorem z_cx0 {sa : Nat → Nat} {ad ts : List Nat} {V : z_V} {vs : List Value} (hE : z_E V vs) : z_v sa ad ts vs (0, 0, 2147483648) (.int 0) := by
  have := z_v.mkcon (sa := sa) (ad := ad) (ts := ts) hE (y := 0)
  rw [z_qb0] at this
  exact this
section ZI
variable {l : Launch} {base : Nat} {D : va_G} {sa : Nat → Nat} {g : z_G} {J : va_W → List Nat → Prop} {ih : z_F} {d : Nat × Nat} {i pc ln x y z : Nat} {tl : List q_I} {V : z_V} {L st : List z_C} {sp : List Nat} {cx : List z_X} {os : List z_O}
/-- both roads behind a comparison -/
theorem z_two {cd : ClassFile.Cond} {a b : z_C} {r : List z_C} {pc' : Nat} (hr : z_cas V ih d i (q_code i) tl L r sp cx cd a b x = some os) (hgx : z_gx cx) (hN : z_HN l base D sa g J ih d i pc' tl sp) (hJ : z_HJ l base D sa g J ih d i sp) {p : Program} {e : Env} {s : State} {m : MethodId} {args : Array Value} {below : List Frame} {meth : Method} {c : Code} {Q : State → Prop} {w0 : va_W} {t0 : List Nat} {vs0 : List Value} {H : Heap} {locs : List Loc} {ls : Array Slot} {sv : List Value} {ws : va_W} {tys : List (ClassId × FieldType)} {ts : List Nat} {vs : List Value} {va vb : Value}
    (C : z_Cx base sa g.2.1 J i p s m args meth c w0 t0) (hp : z_Hp base D g.1 g.2.1 s w0 t0 H locs ws tys ts) (hv : z_Sv sa g.1 vs0 ws ts V vs) (hL : z_Lr sa (q_ad ws) ts vs L (q_ml i) ls) (hva : z_v sa (q_ad ws) ts vs a va) (hvb : z_v sa (q_ad ws) ts vs b vb) (kb : b.1 = 0) (hs : z_Sr sa (q_ad ws) ts vs r sv) (hx : ∀ X ∈ cx, z_Hy l base D sa g d i p e s m args below meth c Q w0 t0 vs0 X vs) (hf : ∀ o ∈ os, z_Fi l base D sa g d i p e s m args below meth c Q w0 t0 vs0 o) :
    ∃ xa xb, va = .int xa ∧ vb = .int xb ∧ (z_cmp cd xa xb → W p l e (q_rm d.1 (9 * d.2) (446 * d.2)) s m args below meth c H locs (9 * V.2.2.2.2.2) (446 * V.2.2.2.2.2) Q (F0 m x ls sv)) ∧ (z_cmp (z_ng cd) xa xb → W p l e (q_rm d.1 (9 * d.2) (446 * d.2)) s m args below meth c H locs (9 * V.2.2.2.2.2) (446 * V.2.2.2.2.2) Q (F0 m pc' ls sv)) := by
  unfold z_cas at hr
  obtain ⟨_, xb, -, rfl, -⟩ := id (hvb.int kb)
  cases h1 : Nat.beq a.1 0 with
  | true =>
    rw [q_ift _ _ h1] at hr
    have ka := q_beq.mp h1
    obtain ⟨_, xa, -, rfl, -⟩ := id (hva.int ka)
    obtain ⟨o1, o2, h2, h3, rfl⟩ := z_app_inv hr
    refine ⟨xa, xb, rfl, rfl, fun hc => ?_, fun hc => ?_⟩
    · obtain ⟨V1, v1, v2, v3, v4⟩ := z_cs_s hv.2.1 ka kb hva hvb hc
      obtain ⟨o3, h4, h5⟩ := z_fold_inv h2 V1 v1
      exact z_go (hJ x V1 L r cx o3 hgx h4) hgx C hp (hv.ext List.prefix_rfl v2 v4) List.prefix_rfl hL hs hx (fun o ho => hf o (List.mem_append_left _ (h5 o ho))) (by rw [v4])
    · obtain ⟨V1, v1, v2, v3, v4⟩ := z_cs_s hv.2.1 ka kb hva hvb hc
      obtain ⟨o3, h4, h5⟩ := z_fold_inv h3 V1 v1
      exact z_go (hN V1 L r cx o3 hgx h4) hgx C hp (hv.ext List.prefix_rfl v2 v4) List.prefix_rfl hL hs hx (fun o ho => hf o (List.mem_append_right _ (h5 o ho))) (by rw [v4])
  | false =>
    rw [q_iff _ _ h1] at hr
    obtain ⟨g2, hr2⟩ := q_bifs hr
    clear hr
    obtain ⟨g3, g4⟩ := q_ands g2
    obtain ⟨g5, g6⟩ := q_ands g4
    obtain ⟨g7, g8⟩ := q_ands g6
    have h2 := q_beq.mp g3
    have h3 := q_ble.mp g5
    have h4 := q_ble.mp g7
    have h5 := z_ceq_eq g8
    subst h5
    obtain ⟨y0, ey, ey2⟩ := hvb.con hv.2.1
    cases ey
    have e0 : xb = 0 := (q_eq_iff xb 0).mpr (by rw [ey2, z_qb0])
    subst e0
    rcases hva.two h2 with ⟨h6, _⟩ | ⟨k, xl, xa, h6, h7, rfl, h8⟩
    · omega
    · have hE1 : xl = z_lcv k → z_Sv sa g.1 vs0 ws ts (V.1, q_set V.2.1 a.2.1 a.2.2, V.2.2) vs := fun e => hv.ext List.prefix_rfl (hv.2.1.near1 (by omega) (fun v hv9 => by
        rw [h7] at hv9
        cases hv9
        exact Or.inr (by rw [h6]; exact e)) rfl) rfl
      refine ⟨xa, 0, rfl, rfl, ?_⟩
      cases cd with
      | eq =>
        obtain ⟨o1, o2, h9, h10, rfl⟩ := z_app_inv hr2
        exact ⟨fun hc => z_go (hJ x _ L r cx o1 hgx h9) hgx C hp (hE1 (h8.mp hc)) List.prefix_rfl hL hs hx (fun o ho => hf o (List.mem_append_left _ ho)) rfl, fun _ => z_go (hN _ L r cx o2 hgx h10) hgx C hp hv List.prefix_rfl hL hs hx (fun o ho => hf o (List.mem_append_right _ ho)) rfl⟩
      | ne =>
        obtain ⟨o1, o2, h9, h10, rfl⟩ := z_app_inv hr2
        exact ⟨fun _ => z_go (hJ x _ L r cx o1 hgx h9) hgx C hp hv List.prefix_rfl hL hs hx (fun o ho => hf o (List.mem_append_left _ ho)) rfl, fun hc => z_go (hN _ L r cx o2 hgx h10) hgx C hp (hE1 (h8.mp hc)) List.prefix_rfl hL hs hx (fun o ho => hf o (List.mem_append_right _ ho)) rfl⟩
      | lt => cases hr2
      | ge => cases hr2
      | gt => cases hr2
      | le => cases hr2
theorem z_s_ldc {n : Nat} (hk2 : z_lnk i pc ln (.ldc n) x y z) (hd : decode (q_b i) pc = .ok (.ldc n, ln)) (hk : q_lnk i pc ln (.ldc n) x y z) (hgx : z_gx cx) (hN : z_HN l base D sa g J ih d i (pc + ln) tl sp) (hr : z_step g q_code ih d i (q_code i) pc (.ldc n) x y z tl V L st sp cx = some os) : z_Ok l base D sa g J d i pc V L st cx os := by
  cases hz : Nat.beq z 99 with
  | false =>
    have hr : (bif Nat.beq z 99 then Nat.rec none (fun s _ => ih d i (q_code i) tl V L ((4, 0, s) :: st) sp cx) y else ih d i (q_code i) tl V L ((0, 0, q_bi x) :: st) sp cx) = some os := hr
    rw [q_iff _ _ hz] at hr
    rcases hk with hk | ⟨e1, e2, e3⟩
    · exact absurd hk (q_bneq.mp hz)
    subst e1
    have hg := hN V L ((0, 0, q_bi x) :: st) cx os hgx hr
    intro p e s m args below meth c Q w0 t0 vs0 H locs ls sv ws tys ts vs C hp hv hL hs hx hf
    exact lv_ldc C.1.1 C.1.2.1 C.1.2.2.2.2.1 (C.1.2.2.2.2.2.1 _ e3) hd (z_go hg hgx C hp hv List.prefix_rfl hL (sv := .int (nI x) :: sv) ⟨by rw [← q_qb_nI e2]; exact z_v.mkcon hv.2.1, hs⟩ hx hf rfl)
  | true =>
    have hr : (bif Nat.beq z 99 then Nat.rec none (fun s _ => ih d i (q_code i) tl V L ((4, 0, s) :: st) sp cx) y else ih d i (q_code i) tl V L ((0, 0, q_bi x) :: st) sp cx) = some os := hr
    rw [q_ift _ _ hz] at hr
    cases y with
    | zero => cases hr
    | succ t =>
      have hr : ih d i (q_code i) tl V L ((4, 0, t) :: st) sp cx = some os := hr
      obtain ⟨e1, e2, e3⟩ := hk2 (q_beq.mp hz) t rfl
      subst e1
      have hg := hN V L _ cx os hgx hr
      intro p e s m args below meth c Q w0 t0 vs0 H locs ls sv ws tys ts vs C hp hv hL hs hx hf
      have hown := C.1.2.2.2.2.1
      rw [e2] at hown
      obtain ⟨-, c1, c2, -⟩ := C.2.1
      rcases e3 with ⟨rfl, rfl⟩ | ⟨rfl, rfl⟩
      · exact va_ldcS C.1.1 C.1.2.1 hown c1 hd (z_go hg hgx C hp hv List.prefix_rfl hL (sv := .ref (sa 0) :: sv) ⟨Or.inr (Or.inr (Or.inr (Or.inr ⟨rfl, rfl⟩))), hs⟩ hx hf rfl)
      · exact va_ldcS C.1.1 C.1.2.1 hown c2 hd (z_go hg hgx C hp hv List.prefix_rfl hL (sv := .ref (sa 1) :: sv) ⟨Or.inr (Or.inr (Or.inr (Or.inr ⟨rfl, rfl⟩))), hs⟩ hx hf rfl)
theorem z_s_istore {n : Nat} (hd : decode (q_b i) pc = .ok (.istore n, ln)) (hk : q_lnk i pc ln (.istore n) x y z) (hgx : z_gx cx) (hN : z_HN l base D sa g J ih d i (pc + ln) tl sp) (hr : z_step g q_code ih d i (q_code i) pc (.istore n) x y z tl V L st sp cx = some os) : z_Ok l base D sa g J d i pc V L st cx os := by
  obtain ⟨e1, e2, e3⟩ := hk
  subst e1
  subst e2
  match st, hr with
  | [], hr => cases hr
  | a :: r, hr =>
    have hr : (bif Nat.beq a.1 0 then ih d i (q_code i) tl V (z_st1 L n a) r sp cx else none) = some os := hr
    obtain ⟨h1, hr⟩ := q_bifs hr
    have ka := q_beq.mp h1
    have hg := hN V _ r cx os hgx hr
    intro p e s m args below meth c Q w0 t0 vs0 H locs ls sv ws tys ts vs C hp hv hL hs hx hf
    obtain ⟨va, sv1, rfl, hva, hs1⟩ := hs.cons
    obtain ⟨_, xa, -, rfl, -⟩ := id (hva.int ka)
    obtain ⟨l1, lv, l2, l3⟩ := hL
    exact lv_istore C.1.1 C.1.2.1 hd l2 e3 rfl (fun ls2 hl2 => z_go hg hgx C hp hv List.prefix_rfl (z_Lr.store l1 l3 hva hl2) hs1 hx hf rfl)
theorem z_s_istore_n {n : Fin 4} (hd : decode (q_b i) pc = .ok (.istore_n n, ln)) (hk : q_lnk i pc ln (.istore_n n) x y z) (hgx : z_gx cx) (hN : z_HN l base D sa g J ih d i (pc + ln) tl sp) (hr : z_step g q_code ih d i (q_code i) pc (.istore_n n) x y z tl V L st sp cx = some os) : z_Ok l base D sa g J d i pc V L st cx os := by
  obtain ⟨e1, e2, e3⟩ := hk
  subst e1
  match st, hr with
  | [], hr => cases hr
  | a :: r, hr =>
    have hr : (bif Nat.beq a.1 0 then ih d i (q_code i) tl V (z_st1 L x a) r sp cx else none) = some os := hr
    obtain ⟨h1, hr⟩ := q_bifs hr
    have ka := q_beq.mp h1
    have hg := hN V _ r cx os hgx hr
    intro p e s m args below meth c Q w0 t0 vs0 H locs ls sv ws tys ts vs C hp hv hL hs hx hf
    obtain ⟨va, sv1, rfl, hva, hs1⟩ := hs.cons
    obtain ⟨_, xa, -, rfl, -⟩ := id (hva.int ka)
    obtain ⟨l1, lv, l2, l3⟩ := hL
    exact lv_istore_n C.1.1 C.1.2.1 hd e2 l2 e3 rfl (fun ls2 hl2 => z_go hg hgx C hp hv List.prefix_rfl (z_Lr.store l1 l3 hva hl2) hs1 hx hf rfl)
theorem z_s_astore {n : Nat} (hd : decode (q_b i) pc = .ok (.astore n, ln)) (hk : q_lnk i pc ln (.astore n) x y z) (hgx : z_gx cx) (hN : z_HN l base D sa g J ih d i (pc + ln) tl sp) (hr : z_step g q_code ih d i (q_code i) pc (.astore n) x y z tl V L st sp cx = some os) : z_Ok l base D sa g J d i pc V L st cx os := by
  obtain ⟨e1, e2, e3⟩ := hk
  subst e1
  subst e2
  match st, hr with
  | [], hr => cases hr
  | a :: r, hr =>
    have hr : (bif Nat.beq a.1 1 || (Nat.beq a.1 2 && Nat.beq a.2.2 0) then ih d i (q_code i) tl V (z_st1 L n a) r sp cx else none) = some os := hr
    obtain ⟨h1, hr⟩ := q_bifs hr
    have h1 : a.1 = 1 ∨ (a.1 = 2 ∧ a.2.2 = 0) := by
      rcases q_ors h1 with h1 | h1
      · exact Or.inl (q_beq.mp h1)
      · exact Or.inr ⟨q_beq.mp (q_ands h1).1, q_beq.mp (q_ands h1).2⟩
    have hg := hN V _ r cx os hgx hr
    intro p e s m args below meth c Q w0 t0 vs0 H locs ls sv ws tys ts vs C hp hv hL hs hx hf
    obtain ⟨va, sv1, rfl, hva, hs1⟩ := hs.cons
    obtain ⟨l1, lv, l2, l3⟩ := hL
    rcases hva.obj h1 with rfl | ⟨q, rfl⟩
    · exact lv_astoreN C.1.1 C.1.2.1 hd l2 e3 rfl (fun ls2 hl2 => z_go hg hgx C hp hv List.prefix_rfl (z_Lr.store l1 l3 hva hl2) hs1 hx hf rfl)
    · exact lv_astore C.1.1 C.1.2.1 hd l2 e3 rfl (fun ls2 hl2 => z_go hg hgx C hp hv List.prefix_rfl (z_Lr.store l1 l3 hva hl2) hs1 hx hf rfl)
theorem z_s_astore_n {n : Fin 4} (hd : decode (q_b i) pc = .ok (.astore_n n, ln)) (hk : q_lnk i pc ln (.astore_n n) x y z) (hgx : z_gx cx) (hN : z_HN l base D sa g J ih d i (pc + ln) tl sp) (hr : z_step g q_code ih d i (q_code i) pc (.astore_n n) x y z tl V L st sp cx = some os) : z_Ok l base D sa g J d i pc V L st cx os := by
  obtain ⟨e1, e2, e3⟩ := hk
  subst e1
  match st, hr with
  | [], hr => cases hr
  | a :: r, hr =>
    have hr : (bif Nat.beq a.1 1 || (Nat.beq a.1 2 && Nat.beq a.2.2 0) then ih d i (q_code i) tl V (z_st1 L x a) r sp cx else none) = some os := hr
    obtain ⟨h1, hr⟩ := q_bifs hr
    have h1 : a.1 = 1 ∨ (a.1 = 2 ∧ a.2.2 = 0) := by
      rcases q_ors h1 with h1 | h1
      · exact Or.inl (q_beq.mp h1)
      · exact Or.inr ⟨q_beq.mp (q_ands h1).1, q_beq.mp (q_ands h1).2⟩
    have hg := hN V _ r cx os hgx hr
    intro p e s m args below meth c Q w0 t0 vs0 H locs ls sv ws tys ts vs C hp hv hL hs hx hf
    obtain ⟨va, sv1, rfl, hva, hs1⟩ := hs.cons
    obtain ⟨l1, lv, l2, l3⟩ := hL
    rcases hva.obj h1 with rfl | ⟨q, rfl⟩
    · exact lv_astore_nN C.1.1 C.1.2.1 hd e2 l2 e3 rfl (fun ls2 hl2 => z_go hg hgx C hp hv List.prefix_rfl (z_Lr.store l1 l3 hva hl2) hs1 hx hf rfl)
    · exact lv_astore_n C.1.1 C.1.2.1 hd e2 l2 e3 rfl (fun ls2 hl2 => z_go hg hgx C hp hv List.prefix_rfl (z_Lr.store l1 l3 hva hl2) hs1 hx hf rfl)
theorem z_s_iinc {n : Nat} {k : Int} (hd : decode (q_b i) pc = .ok (.iinc n k, ln)) (hk : q_lnk i pc ln (.iinc n k) x y z) (hgx : z_gx cx) (hN : z_HN l base D sa g J ih d i (pc + ln) tl sp) (hr : z_step g q_code ih d i (q_code i) pc (.iinc n k) x y z tl V L st sp cx = some os) : z_Ok l base D sa g J d i pc V L st cx os := by
  obtain ⟨e1, e2, e3, e4, e5⟩ := hk
  subst e1
  subst e2
  have hr : (bif Nat.beq (z_nth L n).1 0 then z_oadd V (z_nth L n) (0, 0, q_bi y) (fun w e => ih d i (q_code i) tl w (z_st1 L n e) st sp cx) else none) = some os := hr
  obtain ⟨h1, hr⟩ := q_bifs hr
  have ka := q_beq.mp h1
  intro p e s m args below meth c Q w0 t0 vs0 H locs ls sv ws tys ts vs C hp hv hL hs hx hf
  obtain ⟨l1, lv, l2, l3⟩ := id hL
  rcases l3 n _ (z_nth_at rfl (by omega)) with h9 | ⟨v, hv1, hv2⟩
  · omega
  obtain ⟨_, xa, -, rfl, -⟩ := id (hv2.int ka)
  obtain ⟨kk, hkk⟩ := List.getElem?_of_mem hv1
  have hres : z_Res sa (q_ad ws) ts V vs (fun w e => ih d i (q_code i) tl w (z_st1 L n e) st sp cx) os (.int (xa + Int32.ofInt k)) := z_oadd_s hr hv.2.1 ka rfl hv2 (by rw [e5, ← q_qb_nI e4]; exact z_v.mkcon hv.2.1)
  obtain ⟨W1, c1, vs1, k1, k2, k3, k4, k5⟩ := hres
  have hg := hN W1 _ st cx os hgx k1
  refine lv_iinc C.1.1 C.1.2.1 hd l2 hkk rfl e3 rfl (fun ls2 hl2 => z_go hg hgx C hp (hv.ext k2 k3 k4) k2 (z_Lr.store l1 (fun j c hc => ?_) k5 hl2) (z_Sr.mono k2 List.prefix_rfl List.prefix_rfl hs) hx hf (by rw [k4]))
  rcases l3 j c hc with h5 | ⟨w, h5, h6⟩
  · exact Or.inl h5
  · exact Or.inr ⟨w, h5, h6.mono k2 List.prefix_rfl List.prefix_rfl⟩
theorem z_s_if_icmp {cd : ClassFile.Cond} {off : Int} (hd : decode (q_b i) pc = .ok (.if_icmp cd off, ln)) (hk : q_lnk i pc ln (.if_icmp cd off) x y z) (hgx : z_gx cx) (hN : z_HN l base D sa g J ih d i (pc + ln) tl sp) (hJ : z_HJ l base D sa g J ih d i sp) (hr : z_step g q_code ih d i (q_code i) pc (.if_icmp cd off) x y z tl V L st sp cx = some os) : z_Ok l base D sa g J d i pc V L st cx os := by
  obtain ⟨e1, e2⟩ := hk
  subst e1
  have hr : z_bin st (fun a b r => z_cas V ih d i (q_code i) tl L r sp cx cd a b x) = some os := hr
  obtain ⟨b, a, r, rfl, ka, kb, hr⟩ := z_bin_inv hr
  intro p e s m args below meth c Q w0 t0 vs0 H locs ls sv ws tys ts vs C hp hv hL hs hx hf
  obtain ⟨vb, sv1, rfl, hvb, hs1⟩ := hs.cons
  obtain ⟨va, sv2, rfl, hva, hs2⟩ := hs1.cons
  obtain ⟨xa, xb, rfl, rfl, k1, k2⟩ := z_two hr hgx hN hJ C hp hv hL hva hvb kb hs2 hx hf
  exact z_icmp C.1.1 C.1.2.1 hd e2 k1 k2
theorem z_s_ifCond {cd : ClassFile.Cond} {off : Int} (hd : decode (q_b i) pc = .ok (.ifCond cd off, ln)) (hk : q_lnk i pc ln (.ifCond cd off) x y z) (hgx : z_gx cx) (hN : z_HN l base D sa g J ih d i (pc + ln) tl sp) (hJ : z_HJ l base D sa g J ih d i sp) (hr : z_step g q_code ih d i (q_code i) pc (.ifCond cd off) x y z tl V L st sp cx = some os) : z_Ok l base D sa g J d i pc V L st cx os := by
  obtain ⟨e1, e2⟩ := hk
  subst e1
  match st, hr with
  | [], hr => cases hr
  | a :: r, hr =>
    have hr : z_cas V ih d i (q_code i) tl L r sp cx cd a (0, 0, 2147483648) x = some os := hr
    intro p e s m args below meth c Q w0 t0 vs0 H locs ls sv ws tys ts vs C hp hv hL hs hx hf
    obtain ⟨va, sv1, rfl, hva, hs1⟩ := hs.cons
    obtain ⟨xa, xb, rfl, h0, k1, k2⟩ := z_two hr hgx hN hJ C hp hv hL hva (z_cx0 hv.2.1) rfl hs1 hx hf
    cases h0
    exact z_ifc C.1.1 C.1.2.1 hd e2 k1 k2
theorem z_s_ifnull {off : Int} (hd : decode (q_b i) pc = .ok (.ifnull off, ln)) (hk : q_lnk i pc ln (.ifnull off) x y z) (hgx : z_gx cx) (hN : z_HN l base D sa g J ih d i (pc + ln) tl sp) (hJ : z_HJ l base D sa g J ih d i sp) (hr : z_step g q_code ih d i (q_code i) pc (.ifnull off) x y z tl V L st sp cx = some os) : z_Ok l base D sa g J d i pc V L st cx os := by
  obtain ⟨e1, e2⟩ := hk
  subst e1
  match st, hr with
  | [], hr => cases hr
  | a :: r, hr =>
    have hr : (bif z_nn V a then ih d i (q_code i) tl V L r sp cx else bif Nat.beq a.1 1 then z_app (ih d i (q_code i) (q_jm (q_code i) x) V L r sp cx) (ih d i (q_code i) tl (V.1, q_set V.2.1 a.2.1 1, V.2.2) L r sp cx) else none) = some os := hr
    cases hb : z_nn V a with
    | true =>
      rw [q_ift _ _ hb] at hr
      have hg := hN V L r cx os hgx hr
      intro p e s m args below meth c Q w0 t0 vs0 H locs ls sv ws tys ts vs C hp hv hL hs hx hf
      obtain ⟨va, sv1, rfl, hva, hs1⟩ := hs.cons
      obtain ⟨q, j, rfl, -⟩ := hva.nonnull hv.2.1 hb
      exact lv_ifnull C.1.1 C.1.2.1 hd (z_go hg hgx C hp hv List.prefix_rfl hL hs1 hx hf rfl)
    | false =>
      rw [q_iff _ _ hb] at hr
      obtain ⟨h1, hr⟩ := q_bifs hr
      have ka := q_beq.mp h1
      obtain ⟨o1, o2, h3, h4, rfl⟩ := z_app_inv hr
      intro p e s m args below meth c Q w0 t0 vs0 H locs ls sv ws tys ts vs C hp hv hL hs hx hf
      obtain ⟨va, sv1, rfl, hva, hs1⟩ := hs.cons
      obtain ⟨h5, h6⟩ := hva.ref ka
      rcases h6 with rfl | ⟨j, q, rfl, h7, h8⟩
      · exact lv_ifnullN C.1.1 C.1.2.1 hd e2 (z_go (hJ x V L r cx o1 hgx h3) hgx C hp hv List.prefix_rfl hL hs1 hx (fun o ho => hf o (List.mem_append_left _ ho)) rfl)
      · refine lv_ifnull C.1.1 C.1.2.1 hd (z_go (hN _ L r cx o2 hgx h4) hgx C hp (hv.ext List.prefix_rfl (hv.2.1.near1 (by decide) (fun v hv9 => ?_) rfl) rfl) List.prefix_rfl hL hs1 hx (fun o ho => hf o (List.mem_append_right _ ho)) rfl)
        rw [h5] at hv9
        cases hv9
        exact trivial
theorem z_s_ifnonnull {off : Int} (hd : decode (q_b i) pc = .ok (.ifnonnull off, ln)) (hk : q_lnk i pc ln (.ifnonnull off) x y z) (hgx : z_gx cx) (hN : z_HN l base D sa g J ih d i (pc + ln) tl sp) (hJ : z_HJ l base D sa g J ih d i sp) (hr : z_step g q_code ih d i (q_code i) pc (.ifnonnull off) x y z tl V L st sp cx = some os) : z_Ok l base D sa g J d i pc V L st cx os := by
  obtain ⟨e1, e2⟩ := hk
  subst e1
  match st, hr with
  | [], hr => cases hr
  | a :: r, hr =>
    have hr : (bif z_nn V a then ih d i (q_code i) (q_jm (q_code i) x) V L r sp cx else bif Nat.beq a.1 1 then z_app (ih d i (q_code i) (q_jm (q_code i) x) (V.1, q_set V.2.1 a.2.1 1, V.2.2) L r sp cx) (ih d i (q_code i) tl V L r sp cx) else none) = some os := hr
    cases hb : z_nn V a with
    | true =>
      rw [q_ift _ _ hb] at hr
      have hg := hJ x V L r cx os hgx hr
      intro p e s m args below meth c Q w0 t0 vs0 H locs ls sv ws tys ts vs C hp hv hL hs hx hf
      obtain ⟨va, sv1, rfl, hva, hs1⟩ := hs.cons
      obtain ⟨q, j, rfl, -⟩ := hva.nonnull hv.2.1 hb
      exact lv_ifnonnull C.1.1 C.1.2.1 hd e2 (z_go hg hgx C hp hv List.prefix_rfl hL hs1 hx hf rfl)
    | false =>
      rw [q_iff _ _ hb] at hr
      obtain ⟨h1, hr⟩ := q_bifs hr
      have ka := q_beq.mp h1
      obtain ⟨o1, o2, h3, h4, rfl⟩ := z_app_inv hr
      intro p e s m args below meth c Q w0 t0 vs0 H locs ls sv ws tys ts vs C hp hv hL hs hx hf
      obtain ⟨va, sv1, rfl, hva, hs1⟩ := hs.cons
      obtain ⟨h5, h6⟩ := hva.ref ka
      rcases h6 with rfl | ⟨j, q, rfl, h7, h8⟩
      · exact lv_ifnonnullN C.1.1 C.1.2.1 hd (z_go (hN V L r cx o2 hgx h4) hgx C hp hv List.prefix_rfl hL hs1 hx (fun o ho => hf o (List.mem_append_right _ ho)) rfl)
      · refine lv_ifnonnull C.1.1 C.1.2.1 hd e2 (z_go (hJ x _ L r cx o1 hgx h3) hgx C hp (hv.ext List.prefix_rfl (hv.2.1.near1 (by decide) (fun v hv9 => ?_) rfl) rfl) List.prefix_rfl hL hs1 hx (fun o ho => hf o (List.mem_append_left _ ho)) rfl)
        rw [h5] at hv9
        cases hv9
        exact trivial
end ZI
end
section
/-! ===== instruction by instruction: longs, switches ===== -/
theorem z_lkup : ∀ (l : List (Int × Int)) (df k : Int), Op.lookupswitch.offset l df k = df ∨ ∃ o ∈ l, o.1 = k ∧ Op.lookupswitch.offset l df k = o.2
  | [], df, k => Or.inl rfl
  | (a, o) :: r, df, k => by
    rw [Op.lookupswitch.offset_cons]
    by_cases h : a = k
    · rw [if_pos h]
      exact Or.inr ⟨(a, o), List.mem_cons_self, h, rfl⟩
    · rw [if_neg h]
      rcases z_lkup r df k with h2 | ⟨q, h2, h3, h4⟩
      · exact Or.inl h2
      · exact Or.inr ⟨q, List.mem_cons_of_mem _ h2, h3, h4⟩
theorem z_lcn {k : Nat} : (z_lcv k).toInt = (z_kl k : Int) := by
  have h : ∀ q ∈ z_lcs, (Int64.ofNat q).toInt = (q : Int) := by decide +kernel
  have e : z_kl k = z_lcs.getD k 0 := q_nth_eq z_lcs 0 k
  rw [e]
  show (Int64.ofNat (z_lcs.getD k 0)).toInt = _
  rw [List.getD_eq_getElem?_getD]
  cases hk : z_lcs[k]? with
  | none => decide
  | some q => exact h q (List.mem_of_getElem? hk)
theorem z_lg0 (x y : Int64) : lg_cmp x y = 0 ↔ x = y := by
  unfold lg_cmp
  by_cases h : x > y
  · rw [if_pos h]
    exact ⟨fun h2 => absurd h2 (by decide), fun h2 => absurd h (by rw [h2]; exact Int64.lt_irrefl)⟩
  · rw [if_neg h]
    by_cases h2 : x = y
    · rw [if_pos h2]
      exact ⟨fun _ => h2, fun _ => rfl⟩
    · rw [if_neg h2]
      exact ⟨fun h3 => absurd h3 (by decide), fun h3 => absurd h3 h2⟩
theorem z_lg1 (x y : Int64) : 2147483647 ≤ q_qb (lg_cmp x y) ∧ q_qb (lg_cmp x y) ≤ 2147483649 := by
  unfold lg_cmp
  repeat' split
  all_goals decide +kernel
theorem z_lgk (a b : Nat) : q_qb (lg_cmp (z_lcv a) (z_lcv b)) = if z_kl a = z_kl b then 2147483648 else if z_kl a < z_kl b then 2147483647 else 2147483649 := by
  have ha := z_lcn (k := a)
  have hb := z_lcn (k := b)
  unfold lg_cmp
  by_cases h1 : z_kl a = z_kl b
  · have e : z_lcv a = z_lcv b := Int64.toInt_inj.mp (by rw [ha, hb, h1])
    rw [if_pos h1, e, if_neg Int64.lt_irrefl, if_pos rfl]
    decide +kernel
  · have hne : ¬ z_lcv a = z_lcv b := fun e => h1 (by rw [e] at ha; omega)
    rw [if_neg h1]
    by_cases h2 : z_kl a < z_kl b
    · rw [if_pos h2, if_neg (fun h => by have := Int64.lt_iff_toInt_lt.mp h; omega), if_neg hne]
      decide +kernel
    · rw [if_neg h2, if_pos (show z_lcv a > z_lcv b from Int64.lt_iff_toInt_lt.mpr (by omega))]
      decide +kernel
/-- which constant a long is -/
theorem z_lk_s {sa : Nat → Nat} {ad ts : List Nat} {V : z_V} {vs : List Value} {c : z_C} {v : Value} (hE : z_E V vs) (h : z_v sa ad ts vs c v) (kc : c.1 = 3) : ∃ x, v = .long x ∧ (∀ k, z_lk V c = k + 1 → x = z_lcv k) ∧ (¬ c.2.1 = 0 → vs[c.2.1]? = some (.long x)) := by
  obtain ⟨x, rfl, h1 | ⟨h1, h2⟩⟩ := h.lng kc
  · refine ⟨x, rfl, fun k hk => ?_, fun h3 => absurd h1.1 h3⟩
    unfold z_lk at hk
    rw [q_ift _ _ (q_beq.mpr h1.1)] at hk
    have hk : c.2.2 + 1 = k + 1 := hk
    rw [h1.2, show c.2.2 = k by omega]
  · refine ⟨x, rfl, fun k hk => ?_, fun _ => h2⟩
    unfold z_lk at hk
    rw [q_iff _ _ (q_bneq.mpr h1)] at hk
    have h3 : q_get V.2.1 c.2.1 = 0 ∨ x = z_lcv (q_get V.2.1 c.2.1 - 1) := hE.2.2 _ _ h2
    rw [hk] at h3
    rcases h3 with h3 | h3
    · omega
    · exact h3
theorem z_lc_s {sa : Nat → Nat} {ad ts : List Nat} {V : z_V} {vs : List Value} {a b : z_C} {k : z_V → z_C → Option (List z_O)} {os : List z_O} {va vb : Value} (hr : z_lc V a b k = some os) (hE : z_E V vs) (hva : z_v sa ad ts vs a va) (hvb : z_v sa ad ts vs b vb) : ∃ xa xb, va = .long xa ∧ vb = .long xb ∧ z_Res sa ad ts V vs k os (.int (lg_cmp xa xb)) := by
  unfold z_lc at hr
  obtain ⟨h1, hr2⟩ := q_bifs hr
  clear hr
  obtain ⟨h2, h3⟩ := q_ands h1
  have ka := q_beq.mp h2
  have kb := q_beq.mp h3
  obtain ⟨xa, rfl, a1, a2⟩ := z_lk_s hE hva ka
  obtain ⟨xb, rfl, b1, b2⟩ := z_lk_s hE hvb kb
  refine ⟨xa, xb, rfl, rfl, ?_⟩
  have hany := z_lg1 xa xb
  cases eb : z_lk V b with
  | zero =>
    rw [eb] at hr2
    exact z_fi_s hr2 hE hany.1 hany.2
  | succ kb2 =>
    rw [eb] at hr2
    have hb := b1 kb2 eb
    cases ea : z_lk V a with
    | zero =>
      rw [ea] at hr2
      have hr2 : (bif Nat.beq a.2.1 0 then z_fi V 2147483647 2147483649 k else k V (2, a.2.1, kb2 + 1)) = some os := hr2
      cases h0 : Nat.beq a.2.1 0 with
      | true =>
        rw [q_ift _ _ h0] at hr2
        exact z_fi_s hr2 hE hany.1 hany.2
      | false =>
        rw [q_iff _ _ h0] at hr2
        refine ⟨V, _, vs, hr2, List.prefix_rfl, hE, rfl, Or.inr (Or.inr (Or.inl ⟨rfl, Or.inr ⟨kb2, xa, _, rfl, a2 (q_bneq.mp h0), rfl, ?_⟩⟩))⟩
        rw [z_lg0, hb]
    | succ ka2 =>
      rw [ea] at hr2
      have ha := a1 ka2 ea
      have hr2 : (bif Nat.beq (z_kl ka2) (z_kl kb2) then k V (0, 0, 2147483648) else bif Nat.blt (z_kl ka2) (z_kl kb2) then k V (0, 0, 2147483647) else k V (0, 0, 2147483649)) = some os := hr2
      have hq := z_lgk ka2 kb2
      rw [← ha, ← hb] at hq
      cases h0 : Nat.beq (z_kl ka2) (z_kl kb2) with
      | true =>
        rw [q_ift _ _ h0] at hr2
        rw [if_pos (q_beq.mp h0)] at hq
        exact ⟨V, _, vs, hr2, List.prefix_rfl, hE, rfl, by rw [← hq]; exact z_v.mkcon hE⟩
      | false =>
        rw [q_iff _ _ h0] at hr2
        rw [if_neg (q_bneq.mp h0)] at hq
        cases h5 : Nat.blt (z_kl ka2) (z_kl kb2) with
        | true =>
          rw [q_ift _ _ h5] at hr2
          rw [if_pos (q_blt.mp h5)] at hq
          exact ⟨V, _, vs, hr2, List.prefix_rfl, hE, rfl, by rw [← hq]; exact z_v.mkcon hE⟩
        | false =>
          rw [q_iff _ _ h5] at hr2
          rw [if_neg (fun z => by rw [q_blt.mpr z] at h5; cases h5)] at hq
          exact ⟨V, _, vs, hr2, List.prefix_rfl, hE, rfl, by rw [← hq]; exact z_v.mkcon hE⟩
section ZI
variable {l : Launch} {base : Nat} {D : va_G} {sa : Nat → Nat} {g : z_G} {J : va_W → List Nat → Prop} {ih : z_F} {d : Nat × Nat} {i pc ln x y z : Nat} {tl : List q_I} {V : z_V} {L st : List z_C} {sp : List Nat} {cx : List z_X} {os : List z_O}
theorem z_s_ldc2_w {n : Nat} (hd : decode (q_b i) pc = .ok (.ldc2_w n, ln)) (hk : z_lnk i pc ln (.ldc2_w n) x y z) (hgx : z_gx cx) (hN : z_HN l base D sa g J ih d i (pc + ln) tl sp) (hr : z_step g q_code ih d i (q_code i) pc (.ldc2_w n) x y z tl V L st sp cx = some os) : z_Ok l base D sa g J d i pc V L st cx os := by
  have hr : (bif Nat.beq z 99 then none else ih d i (q_code i) tl V L ((3, 0, x) :: st) sp cx) = some os := hr
  obtain ⟨hz, hr⟩ := q_bifn hr
  rcases hk with hk | ⟨e1, e3⟩
  · exact absurd hk (q_bneq.mp hz)
  subst e1
  have hg := hN V L _ cx os hgx hr
  intro p e s m args below meth c Q w0 t0 vs0 H locs ls sv ws tys ts vs C hp hv hL hs hx hf
  exact lv_ldc2 C.1.1 C.1.2.1 C.1.2.2.2.2.1 (C.1.2.2.2.2.2.1 _ e3) hd (z_go hg hgx C hp hv List.prefix_rfl hL (sv := .long (z_lcv x) :: sv) ⟨Or.inr (Or.inr (Or.inr (Or.inl ⟨rfl, Or.inl ⟨rfl, rfl⟩⟩))), hs⟩ hx hf rfl)
theorem z_s_lconst {n : Fin 2} (hd : decode (q_b i) pc = .ok (.lconst n, ln)) (hk : z_lnk i pc ln (.lconst n) x y z) (hgx : z_gx cx) (hN : z_HN l base D sa g J ih d i (pc + ln) tl sp) (hr : z_step g q_code ih d i (q_code i) pc (.lconst n) x y z tl V L st sp cx = some os) : z_Ok l base D sa g J d i pc V L st cx os := by
  obtain ⟨e1, e2⟩ := hk
  subst e1
  have hg := hN V L _ cx os hgx hr
  intro p e s m args below meth c Q w0 t0 vs0 H locs ls sv ws tys ts vs C hp hv hL hs hx hf
  exact lv_lconst C.1.1 C.1.2.1 hd e2 (z_go hg hgx C hp hv List.prefix_rfl hL (sv := .long (z_lcv x) :: sv) ⟨Or.inr (Or.inr (Or.inr (Or.inl ⟨rfl, Or.inl ⟨rfl, rfl⟩⟩))), hs⟩ hx hf rfl)
theorem z_s_lload_n {n : Fin 4} (hd : decode (q_b i) pc = .ok (.lload_n n, ln)) (hk : z_lnk i pc ln (.lload_n n) x y z) (hgx : z_gx cx) (hN : z_HN l base D sa g J ih d i (pc + ln) tl sp) (hr : z_step g q_code ih d i (q_code i) pc (.lload_n n) x y z tl V L st sp cx = some os) : z_Ok l base D sa g J d i pc V L st cx os := by
  obtain ⟨e1, e2⟩ := hk
  subst e1
  have hr : (bif Nat.beq (z_nth L x).1 3 then ih d i (q_code i) tl V L (z_nth L x :: st) sp cx else none) = some os := hr
  obtain ⟨h1, hr⟩ := q_bifs hr
  have h1 := q_beq.mp h1
  have hg := hN V L _ cx os hgx hr
  intro p e s m args below meth c Q w0 t0 vs0 H locs ls sv ws tys ts vs C hp hv hL hs hx hf
  obtain ⟨v, hv1, hv2⟩ := hL.get (k := x) (by omega)
  obtain ⟨xx, rfl, -⟩ := id (hv2.lng h1)
  exact lv_lload_n C.1.1 C.1.2.1 hd e2 hv1 (z_go hg hgx C hp hv List.prefix_rfl hL (sv := .long xx :: sv) ⟨hv2, hs⟩ hx hf rfl)
theorem z_s_lstore_n {n : Fin 4} (hd : decode (q_b i) pc = .ok (.lstore_n n, ln)) (hk : z_lnk i pc ln (.lstore_n n) x y z) (hgx : z_gx cx) (hN : z_HN l base D sa g J ih d i (pc + ln) tl sp) (hr : z_step g q_code ih d i (q_code i) pc (.lstore_n n) x y z tl V L st sp cx = some os) : z_Ok l base D sa g J d i pc V L st cx os := by
  obtain ⟨e1, e2, e3⟩ := hk
  subst e1
  match st, hr with
  | [], hr => cases hr
  | a :: r, hr =>
    have hr : (bif Nat.beq a.1 3 then ih d i (q_code i) tl V (z_st2 L x a) r sp cx else none) = some os := hr
    obtain ⟨h1, hr⟩ := q_bifs hr
    have ka := q_beq.mp h1
    have hg := hN V _ r cx os hgx hr
    intro p e s m args below meth c Q w0 t0 vs0 H locs ls sv ws tys ts vs C hp hv hL hs hx hf
    obtain ⟨va, sv1, rfl, hva, hs1⟩ := hs.cons
    obtain ⟨xa, rfl, -⟩ := id (hva.lng ka)
    obtain ⟨l1, lv, l2, l3⟩ := hL
    exact lv_lstore_n C.1.1 C.1.2.1 hd e2 l2 e3 rfl (fun ls2 hl2 => z_go hg hgx C hp hv List.prefix_rfl (z_Lr.store2 l1 l3 hva hl2) hs1 hx hf rfl)
theorem z_s_lmul (hd : decode (q_b i) pc = .ok (.lmul, ln)) (hk : z_lnk i pc ln (.lmul) x y z) (hgx : z_gx cx) (hN : z_HN l base D sa g J ih d i (pc + ln) tl sp) (hr : z_step g q_code ih d i (q_code i) pc (.lmul) x y z tl V L st sp cx = some os) : z_Ok l base D sa g J d i pc V L st cx os := by
  have e1 : ln = 1 := hk
  subst e1
  match st, hr with
  | [], hr => cases hr
  | [_], hr => cases hr
  | b :: a :: r, hr =>
    have hr : (bif Nat.beq a.1 3 && Nat.beq b.1 3 then z_ld V (3, 0, 0) (fun w c => ih d i (q_code i) tl w L (c :: r) sp cx) else none) = some os := hr
    obtain ⟨h1, hr⟩ := q_bifs hr
    have ka := q_beq.mp (q_ands h1).1
    have kb := q_beq.mp (q_ands h1).2
    intro p e s m args below meth c Q w0 t0 vs0 H locs ls sv ws tys ts vs C hp hv hL hs hx hf
    obtain ⟨vb, sv1, rfl, hvb, hs1⟩ := hs.cons
    obtain ⟨va, sv2, rfl, hva, hs2⟩ := hs1.cons
    obtain ⟨xb, rfl, -⟩ := id (hvb.lng kb)
    obtain ⟨xa, rfl, -⟩ := id (hva.lng ka)
    have hres : z_Res sa (q_ad ws) ts V vs (fun w c => ih d i (q_code i) tl w L (c :: r) sp cx) os (.long (xa * xb)) := z_lngs hr hv.2.1 _
    obtain ⟨W1, c1, vs1, k1, k2, k3, k4, k5⟩ := hres
    have hg := hN W1 L (c1 :: r) cx os hgx k1
    exact lv_lmul C.1.1 C.1.2.1 hd (z_go hg hgx C hp (hv.ext k2 k3 k4) k2 (hL.mono k2 List.prefix_rfl List.prefix_rfl) (sv := .long (xa * xb) :: sv2) ⟨k5, z_Sr.mono k2 List.prefix_rfl List.prefix_rfl hs2⟩ hx hf (by rw [k4]))
theorem z_s_ladd (hd : decode (q_b i) pc = .ok (.ladd, ln)) (hk : z_lnk i pc ln (.ladd) x y z) (hgx : z_gx cx) (hN : z_HN l base D sa g J ih d i (pc + ln) tl sp) (hr : z_step g q_code ih d i (q_code i) pc (.ladd) x y z tl V L st sp cx = some os) : z_Ok l base D sa g J d i pc V L st cx os := by
  have e1 : ln = 1 := hk
  subst e1
  match st, hr with
  | [], hr => cases hr
  | [_], hr => cases hr
  | b :: a :: r, hr =>
    have hr : (bif Nat.beq a.1 3 && Nat.beq b.1 3 then z_ld V (3, 0, 0) (fun w c => ih d i (q_code i) tl w L (c :: r) sp cx) else none) = some os := hr
    obtain ⟨h1, hr⟩ := q_bifs hr
    have ka := q_beq.mp (q_ands h1).1
    have kb := q_beq.mp (q_ands h1).2
    intro p e s m args below meth c Q w0 t0 vs0 H locs ls sv ws tys ts vs C hp hv hL hs hx hf
    obtain ⟨vb, sv1, rfl, hvb, hs1⟩ := hs.cons
    obtain ⟨va, sv2, rfl, hva, hs2⟩ := hs1.cons
    obtain ⟨xb, rfl, -⟩ := id (hvb.lng kb)
    obtain ⟨xa, rfl, -⟩ := id (hva.lng ka)
    have hres : z_Res sa (q_ad ws) ts V vs (fun w c => ih d i (q_code i) tl w L (c :: r) sp cx) os (.long (xa + xb)) := z_lngs hr hv.2.1 _
    obtain ⟨W1, c1, vs1, k1, k2, k3, k4, k5⟩ := hres
    have hg := hN W1 L (c1 :: r) cx os hgx k1
    exact lv_ladd C.1.1 C.1.2.1 hd (z_go hg hgx C hp (hv.ext k2 k3 k4) k2 (hL.mono k2 List.prefix_rfl List.prefix_rfl) (sv := .long (xa + xb) :: sv2) ⟨k5, z_Sr.mono k2 List.prefix_rfl List.prefix_rfl hs2⟩ hx hf (by rw [k4]))
theorem z_s_lor (hd : decode (q_b i) pc = .ok (.lor, ln)) (hk : z_lnk i pc ln (.lor) x y z) (hgx : z_gx cx) (hN : z_HN l base D sa g J ih d i (pc + ln) tl sp) (hr : z_step g q_code ih d i (q_code i) pc (.lor) x y z tl V L st sp cx = some os) : z_Ok l base D sa g J d i pc V L st cx os := by
  have e1 : ln = 1 := hk
  subst e1
  match st, hr with
  | [], hr => cases hr
  | [_], hr => cases hr
  | b :: a :: r, hr =>
    have hr : (bif Nat.beq a.1 3 && Nat.beq b.1 3 then z_ld V (3, 0, 0) (fun w c => ih d i (q_code i) tl w L (c :: r) sp cx) else none) = some os := hr
    obtain ⟨h1, hr⟩ := q_bifs hr
    have ka := q_beq.mp (q_ands h1).1
    have kb := q_beq.mp (q_ands h1).2
    intro p e s m args below meth c Q w0 t0 vs0 H locs ls sv ws tys ts vs C hp hv hL hs hx hf
    obtain ⟨vb, sv1, rfl, hvb, hs1⟩ := hs.cons
    obtain ⟨va, sv2, rfl, hva, hs2⟩ := hs1.cons
    obtain ⟨xb, rfl, -⟩ := id (hvb.lng kb)
    obtain ⟨xa, rfl, -⟩ := id (hva.lng ka)
    have hres : z_Res sa (q_ad ws) ts V vs (fun w c => ih d i (q_code i) tl w L (c :: r) sp cx) os (.long (xa ||| xb)) := z_lngs hr hv.2.1 _
    obtain ⟨W1, c1, vs1, k1, k2, k3, k4, k5⟩ := hres
    have hg := hN W1 L (c1 :: r) cx os hgx k1
    exact lv_lor C.1.1 C.1.2.1 hd (z_go hg hgx C hp (hv.ext k2 k3 k4) k2 (hL.mono k2 List.prefix_rfl List.prefix_rfl) (sv := .long (xa ||| xb) :: sv2) ⟨k5, z_Sr.mono k2 List.prefix_rfl List.prefix_rfl hs2⟩ hx hf (by rw [k4]))
theorem z_s_lshl (hd : decode (q_b i) pc = .ok (.lshl, ln)) (hk : z_lnk i pc ln (.lshl) x y z) (hgx : z_gx cx) (hN : z_HN l base D sa g J ih d i (pc + ln) tl sp) (hr : z_step g q_code ih d i (q_code i) pc (.lshl) x y z tl V L st sp cx = some os) : z_Ok l base D sa g J d i pc V L st cx os := by
  have e1 : ln = 1 := hk
  subst e1
  match st, hr with
  | [], hr => cases hr
  | [_], hr => cases hr
  | b :: a :: r, hr =>
    have hr : (bif Nat.beq a.1 3 && Nat.beq b.1 0 then z_ld V (3, 0, 0) (fun w c => ih d i (q_code i) tl w L (c :: r) sp cx) else none) = some os := hr
    obtain ⟨h1, hr⟩ := q_bifs hr
    have ka := q_beq.mp (q_ands h1).1
    have kb := q_beq.mp (q_ands h1).2
    intro p e s m args below meth c Q w0 t0 vs0 H locs ls sv ws tys ts vs C hp hv hL hs hx hf
    obtain ⟨vb, sv1, rfl, hvb, hs1⟩ := hs.cons
    obtain ⟨va, sv2, rfl, hva, hs2⟩ := hs1.cons
    obtain ⟨_, xb, -, rfl, -⟩ := id (hvb.int kb)
    obtain ⟨xa, rfl, -⟩ := id (hva.lng ka)
    have hres : z_Res sa (q_ad ws) ts V vs (fun w c => ih d i (q_code i) tl w L (c :: r) sp cx) os (.long (xa <<< (xb.toInt64 &&& 63))) := z_lngs hr hv.2.1 _
    obtain ⟨W1, c1, vs1, k1, k2, k3, k4, k5⟩ := hres
    have hg := hN W1 L (c1 :: r) cx os hgx k1
    exact lv_lshl C.1.1 C.1.2.1 hd rfl (z_go hg hgx C hp (hv.ext k2 k3 k4) k2 (hL.mono k2 List.prefix_rfl List.prefix_rfl) (sv := .long (xa <<< (xb.toInt64 &&& 63)) :: sv2) ⟨k5, z_Sr.mono k2 List.prefix_rfl List.prefix_rfl hs2⟩ hx hf (by rw [k4]))
theorem z_s_i2l (hd : decode (q_b i) pc = .ok (.i2l, ln)) (hk : z_lnk i pc ln (.i2l) x y z) (hgx : z_gx cx) (hN : z_HN l base D sa g J ih d i (pc + ln) tl sp) (hr : z_step g q_code ih d i (q_code i) pc (.i2l) x y z tl V L st sp cx = some os) : z_Ok l base D sa g J d i pc V L st cx os := by
  have e1 : ln = 1 := hk
  subst e1
  have hr : z_un st (fun _ r => z_ld V (3, 0, 0) (fun w c => ih d i (q_code i) tl w L (c :: r) sp cx)) = some os := hr
  obtain ⟨a, r, rfl, ka, hr⟩ := z_un_inv hr
  intro p e s m args below meth c Q w0 t0 vs0 H locs ls sv ws tys ts vs C hp hv hL hs hx hf
  obtain ⟨va, sv2, rfl, hva, hs2⟩ := hs.cons
  obtain ⟨_, xa, -, rfl, -⟩ := id (hva.int ka)
  have hres : z_Res sa (q_ad ws) ts V vs (fun w c => ih d i (q_code i) tl w L (c :: r) sp cx) os (.long (xa.toInt64)) := z_lngs hr hv.2.1 _
  obtain ⟨W1, c1, vs1, k1, k2, k3, k4, k5⟩ := hres
  have hg := hN W1 L (c1 :: r) cx os hgx k1
  exact lv_i2l C.1.1 C.1.2.1 hd rfl (z_go hg hgx C hp (hv.ext k2 k3 k4) k2 (hL.mono k2 List.prefix_rfl List.prefix_rfl) (sv := .long (xa.toInt64) :: sv2) ⟨k5, z_Sr.mono k2 List.prefix_rfl List.prefix_rfl hs2⟩ hx hf (by rw [k4]))
theorem z_s_i2c (hd : decode (q_b i) pc = .ok (.i2c, ln)) (hk : z_lnk i pc ln (.i2c) x y z) (hgx : z_gx cx) (hN : z_HN l base D sa g J ih d i (pc + ln) tl sp) (hr : z_step g q_code ih d i (q_code i) pc (.i2c) x y z tl V L st sp cx = some os) : z_Ok l base D sa g J d i pc V L st cx os := by
  have e1 : ln = 1 := hk
  subst e1
  have hr : z_un st (fun _ r => z_an V (fun w c => ih d i (q_code i) tl w L (c :: r) sp cx)) = some os := hr
  obtain ⟨a, r, rfl, ka, hr⟩ := z_un_inv hr
  intro p e s m args below meth c Q w0 t0 vs0 H locs ls sv ws tys ts vs C hp hv hL hs hx hf
  obtain ⟨va, sv2, rfl, hva, hs2⟩ := hs.cons
  obtain ⟨_, xa, -, rfl, -⟩ := id (hva.int ka)
  have hres : z_Res sa (q_ad ws) ts V vs (fun w c => ih d i (q_code i) tl w L (c :: r) sp cx) os (.int ((xa.toUInt32 % 65536).toInt32)) := z_an_s hr hv.2.1
  obtain ⟨W1, c1, vs1, k1, k2, k3, k4, k5⟩ := hres
  have hg := hN W1 L (c1 :: r) cx os hgx k1
  exact lv_i2c C.1.1 C.1.2.1 hd rfl (z_go hg hgx C hp (hv.ext k2 k3 k4) k2 (hL.mono k2 List.prefix_rfl List.prefix_rfl) (sv := .int ((xa.toUInt32 % 65536).toInt32) :: sv2) ⟨k5, z_Sr.mono k2 List.prefix_rfl List.prefix_rfl hs2⟩ hx hf (by rw [k4]))
theorem z_s_lcmp (hd : decode (q_b i) pc = .ok (.lcmp, ln)) (hk : z_lnk i pc ln (.lcmp) x y z) (hgx : z_gx cx) (hN : z_HN l base D sa g J ih d i (pc + ln) tl sp) (hr : z_step g q_code ih d i (q_code i) pc (.lcmp) x y z tl V L st sp cx = some os) : z_Ok l base D sa g J d i pc V L st cx os := by
  have e1 : ln = 1 := hk
  subst e1
  match st, hr with
  | [], hr => cases hr
  | [_], hr => cases hr
  | b :: a :: r, hr =>
    have hr : z_lc V a b (fun w c => ih d i (q_code i) tl w L (c :: r) sp cx) = some os := hr
    intro p e s m args below meth c Q w0 t0 vs0 H locs ls sv ws tys ts vs C hp hv hL hs hx hf
    obtain ⟨vb, sv1, rfl, hvb, hs1⟩ := hs.cons
    obtain ⟨va, sv2, rfl, hva, hs2⟩ := hs1.cons
    obtain ⟨xa, xb, rfl, rfl, hres⟩ := z_lc_s hr hv.2.1 hva hvb
    obtain ⟨W1, c1, vs1, k1, k2, k3, k4, k5⟩ := hres
    have hg := hN W1 L (c1 :: r) cx os hgx k1
    exact W.lcmp C.1.1 C.1.2.1 hd (z_go hg hgx C hp (hv.ext k2 k3 k4) k2 (hL.mono k2 List.prefix_rfl List.prefix_rfl) (sv := .int (lg_cmp xa xb) :: sv2) ⟨k5, z_Sr.mono k2 List.prefix_rfl List.prefix_rfl hs2⟩ hx hf (by rw [k4]))
theorem z_one {a : z_C} {V1 : z_V} {vs : List Value} {ad ts : List Nat} {xa : Int32} {n : Nat} (hE : z_E V1 vs) (ka : a.1 = 0) (hva : z_v sa ad ts vs a (.int xa)) (hn : q_qb xa = n) : (Nat.ble (z_il V1 a) n && Nat.ble n (z_ih V1 a)) = true ∧ ∃ W1 ∈ z_opl (z_rf V1 a n n), z_E W1 vs ∧ W1.2.2.2 = V1.2.2.2 := by
  obtain ⟨x2, ex, ax, bx⟩ := hva.bnd hE ka
  cases ex
  obtain ⟨W1, w1, w2, w3, w4⟩ := z_rf_s hE ka hva (show n ≤ q_qb xa by omega) (show q_qb xa ≤ n by omega)
  refine ⟨by rw [q_ble.mpr (show z_il V1 a ≤ n by omega), q_ble.mpr (show n ≤ z_ih V1 a by omega)]; rfl, W1, ?_, w2, w4⟩
  rw [w1]
  exact List.mem_singleton.mpr rfl
theorem z_tsw_inv {a : z_C} {r : List z_C} (offs : List Int) : ∀ {k0 : Nat} {os : List z_O}, z_tsw V ih d i (q_code i) L r sp cx pc a offs k0 = some os → ∀ (j : Nat) (o : Int), offs[j]? = some o → (Nat.ble (z_il V a) (Nat.add 2147483648 (k0 + j)) && Nat.ble (Nat.add 2147483648 (k0 + j)) (z_ih V a)) = true → ∀ W1 ∈ z_opl (z_rf V a (Nat.add 2147483648 (k0 + j)) (Nat.add 2147483648 (k0 + j))), ∃ q, ih d i (q_code i) (q_jm (q_code i) (Int.toNat (Int.add (Int.ofNat pc) o))) W1 L r sp cx = some q ∧ ∀ w ∈ q, w ∈ os := by
  induction offs with
  | nil => intro k0 os _ j o hj; simp at hj
  | cons o0 t ihh =>
    intro k0 os h j o hj hb W1 hW
    have h : z_app (bif Nat.ble (z_il V a) (Nat.add 2147483648 k0) && Nat.ble (Nat.add 2147483648 k0) (z_ih V a) then z_fold (z_opl (z_rf V a (Nat.add 2147483648 k0) (Nat.add 2147483648 k0))) (fun w => ih d i (q_code i) (q_jm (q_code i) (Int.toNat (Int.add (Int.ofNat pc) o0))) w L r sp cx) else some []) (z_tsw V ih d i (q_code i) L r sp cx pc a t (Nat.succ k0)) = some os := h
    obtain ⟨o1, o2, h1, h2, rfl⟩ := z_app_inv h
    cases j with
    | zero =>
      have e : o0 = o := by simpa using hj
      subst e
      have e0 : k0 + 0 = k0 := Nat.add_zero k0
      rw [e0] at hb hW
      rw [q_ift _ _ hb] at h1
      obtain ⟨q, q1, q2⟩ := z_fold_inv h1 W1 hW
      exact ⟨q, q1, fun w hw => List.mem_append_left _ (q2 w hw)⟩
    | succ j =>
      have e0 : k0 + (j + 1) = Nat.succ k0 + j := by omega
      rw [e0] at hb hW
      obtain ⟨q, q1, q2⟩ := ihh h2 j o (by simpa using hj) hb W1 hW
      exact ⟨q, q1, fun w hw => List.mem_append_right _ (q2 w hw)⟩
theorem z_lsw_inv {a : z_C} {r : List z_C} (ps : List (Int × Int)) : ∀ {os : List z_O}, z_lsw V ih d i (q_code i) L r sp cx pc a ps = some os → ∀ o ∈ ps, (Nat.ble (z_il V a) (Nat.add 2147483648 (Int.toNat o.1)) && Nat.ble (Nat.add 2147483648 (Int.toNat o.1)) (z_ih V a)) = true → ∀ W1 ∈ z_opl (z_rf V a (Nat.add 2147483648 (Int.toNat o.1)) (Nat.add 2147483648 (Int.toNat o.1))), ∃ q, ih d i (q_code i) (q_jm (q_code i) (Int.toNat (Int.add (Int.ofNat pc) o.2))) W1 L r sp cx = some q ∧ ∀ w ∈ q, w ∈ os := by
  induction ps with
  | nil => intro os _ o ho; cases ho
  | cons o0 t ihh =>
    intro os h o ho hb W1 hW
    have h : z_app (bif Nat.ble (z_il V a) (Nat.add 2147483648 (Int.toNat o0.1)) && Nat.ble (Nat.add 2147483648 (Int.toNat o0.1)) (z_ih V a) then z_fold (z_opl (z_rf V a (Nat.add 2147483648 (Int.toNat o0.1)) (Nat.add 2147483648 (Int.toNat o0.1)))) (fun w => ih d i (q_code i) (q_jm (q_code i) (Int.toNat (Int.add (Int.ofNat pc) o0.2))) w L r sp cx) else some []) (z_lsw V ih d i (q_code i) L r sp cx pc a t) = some os := h
    obtain ⟨o1, o2, h1, h2, rfl⟩ := z_app_inv h
    rcases List.mem_cons.mp ho with rfl | ho
    · rw [q_ift _ _ hb] at h1
      obtain ⟨q, q1, q2⟩ := z_fold_inv h1 W1 hW
      exact ⟨q, q1, fun w hw => List.mem_append_left _ (q2 w hw)⟩
    · obtain ⟨q, q1, q2⟩ := ihh h2 o ho hb W1 hW
      exact ⟨q, q1, fun w hw => List.mem_append_right _ (q2 w hw)⟩
theorem z_s_table {df lo hi : Int} {offs : Array Int} (hd : decode (q_b i) pc = .ok (.tableswitch df lo hi offs, ln)) (hk : q_lnk i pc ln (.tableswitch df lo hi offs) x y z) (hgx : z_gx cx) (hN : z_HN l base D sa g J ih d i (pc + ln) tl sp) (hJ : z_HJ l base D sa g J ih d i sp) (hr : z_step g q_code ih d i (q_code i) pc (.tableswitch df lo hi offs) x y z tl V L st sp cx = some os) : z_Ok l base D sa g J d i pc V L st cx os := by
  obtain ⟨e1, e2, e3, e4, e5⟩ := hk
  have hr : z_un st (fun a r => z_app (z_tsw V ih d i (q_code i) L r sp cx pc a offs.toList x) (bif Nat.blt (z_il V a) (Nat.add 2147483648 x) || Nat.blt (Nat.add 2147483648 y) (z_ih V a) then ih d i (q_code i) (q_jm (q_code i) (Int.toNat (Int.add (Int.ofNat pc) df))) V L r sp cx else some [])) = some os := hr
  obtain ⟨a, r, rfl, ka, hr⟩ := z_un_inv hr
  obtain ⟨o1, o2, h1, h2, rfl⟩ := z_app_inv hr
  intro p e s m args below meth c Q w0 t0 vs0 H locs ls sv ws tys ts vs C hp hv hL hs hx hf
  obtain ⟨va, sv1, rfl, hva, hs1⟩ := hs.cons
  obtain ⟨_, xa, -, rfl, -⟩ := id (hva.int ka)
  have eq := z_qi xa
  by_cases hin : xa.toInt < lo ∨ hi < xa.toInt
  · obtain ⟨x2, ex, ax, bx⟩ := hva.bnd hv.2.1 ka
    cases ex
    have hb : (Nat.blt (z_il V a) (Nat.add 2147483648 x) || Nat.blt (Nat.add 2147483648 y) (z_ih V a)) = true := by
      rw [Nat.add_eq, Nat.add_eq]
      rcases hin with h | h
      · rw [q_blt.mpr (show z_il V a < 2147483648 + x by omega)]; rfl
      · rw [q_blt.mpr (show 2147483648 + y < z_ih V a by omega)]; cases Nat.blt (z_il V a) (2147483648 + x) <;> rfl
    rw [q_ift _ _ hb] at h2
    exact lv_tableOut (tgt := ((pc : Int) + df).toNat) C.1.1 C.1.2.1 hd hin (Int.toNat_of_nonneg e4).symm (z_go (hJ _ V L r cx o2 hgx h2) hgx C hp hv List.prefix_rfl hL hs1 hx (fun o ho => hf o (List.mem_append_right _ ho)) rfl)
  · have hlo : lo ≤ xa.toInt := by omega
    have hhi : xa.toInt ≤ hi := by omega
    obtain ⟨o, ho, hpos⟩ := e5 (xa.toInt - lo).toNat (by omega)
    obtain ⟨u1, W1, u2, u3, u4⟩ := z_one (n := Nat.add 2147483648 (x + (xa.toInt - lo).toNat)) hv.2.1 ka hva (by rw [Nat.add_eq]; omega)
    obtain ⟨q, q1, q2⟩ := z_tsw_inv _ h1 (xa.toInt - lo).toNat o (by rw [Array.getElem?_toList]; exact ho) u1 W1 u2
    exact lv_tableIn (off := o) (tgt := ((pc : Int) + o).toNat) C.1.1 C.1.2.1 hd (by omega) (by omega) ho (Int.toNat_of_nonneg hpos).symm (z_go (hJ _ W1 L r cx q hgx q1) hgx C hp (hv.ext List.prefix_rfl u3 u4) List.prefix_rfl hL hs1 hx (fun w hw => hf w (List.mem_append_left _ (q2 w hw))) (by rw [u4]))
theorem z_s_lookup {df : Int} {ps : Array (Int × Int)} (hd : decode (q_b i) pc = .ok (.lookupswitch df ps, ln)) (hk : z_lnk i pc ln (.lookupswitch df ps) x y z) (hgx : z_gx cx) (hN : z_HN l base D sa g J ih d i (pc + ln) tl sp) (hJ : z_HJ l base D sa g J ih d i sp) (hr : z_step g q_code ih d i (q_code i) pc (.lookupswitch df ps) x y z tl V L st sp cx = some os) : z_Ok l base D sa g J d i pc V L st cx os := by
  obtain ⟨e1, e4, e5⟩ := hk
  have hr : z_un st (fun a r => z_app (z_lsw V ih d i (q_code i) L r sp cx pc a ps.toList) (ih d i (q_code i) (q_jm (q_code i) (Int.toNat (Int.add (Int.ofNat pc) df))) V L r sp cx)) = some os := hr
  obtain ⟨a, r, rfl, ka, hr⟩ := z_un_inv hr
  obtain ⟨o1, o2, h1, h2, rfl⟩ := z_app_inv hr
  intro p e s m args below meth c Q w0 t0 vs0 H locs ls sv ws tys ts vs C hp hv hL hs hx hf
  obtain ⟨va, sv1, rfl, hva, hs1⟩ := hs.cons
  obtain ⟨_, xa, -, rfl, -⟩ := id (hva.int ka)
  have eq := z_qi xa
  rcases z_lkup ps.toList df xa.toInt with ho | ⟨o, ho, ho2, ho3⟩
  · exact lv_lookup (off := df) (tgt := ((pc : Int) + df).toNat) C.1.1 C.1.2.1 hd e1 ho (Int.toNat_of_nonneg e4).symm (z_go (hJ _ V L r cx o2 hgx h2) hgx C hp hv List.prefix_rfl hL hs1 hx (fun o ho => hf o (List.mem_append_right _ ho)) rfl)
  · obtain ⟨p1, p2, p3⟩ := e5 o ho
    obtain ⟨u1, W1, u2, u3, u4⟩ := z_one (n := Nat.add 2147483648 (Int.toNat o.1)) hv.2.1 ka hva (by rw [Nat.add_eq]; omega)
    obtain ⟨q, q1, q2⟩ := z_lsw_inv _ h1 o ho u1 W1 u2
    exact lv_lookup (off := o.2) (tgt := ((pc : Int) + o.2).toNat) C.1.1 C.1.2.1 hd e1 ho3 (Int.toNat_of_nonneg p3).symm (z_go (hJ _ W1 L r cx q hgx q1) hgx C hp (hv.ext List.prefix_rfl u3 u4) List.prefix_rfl hL hs1 hx (fun w hw => hf w (List.mem_append_left _ (q2 w hw))) (by rw [u4]))
end ZI
end
section
/-! ===== instruction by instruction: reads of the heap ===== -/
theorem z_hu_s : ∀ (fl : List z_C) (a b j : Nat), a ≤ j → j ≤ b → (z_hu fl a b).1 ≤ (z_el fl j).1 ∧ (z_el fl j).2 ≤ (z_hu fl a b).2
  | [], _, _, _, _, _ => ⟨Nat.le_refl _, Nat.le_refl _⟩
  | s :: t, a, b, j, h1, h2 => by
    have e1 : z_hu (s :: t) a b = bif Nat.ble s.1 a then z_hu t a b else bif Nat.blt b s.1 then s.2 else (z_min s.2.1 (z_hu t s.1 b).1, z_max s.2.2 (z_hu t s.1 b).2) := rfl
    have e2 : z_el (s :: t) j = bif Nat.blt j s.1 then s.2 else z_el t j := rfl
    rw [e1, e2]
    cases h3 : Nat.ble s.1 a with
    | true =>
      have h3 := q_ble.mp h3
      rw [q_ift _ _ rfl, q_iff _ _ (q_bnle.mpr (show j < j + 1 by omega) |> fun _ => by
        cases h : Nat.blt j s.1 with
        | false => rfl
        | true => have := q_blt.mp h; omega)]
      exact z_hu_s t a b j h1 h2
    | false =>
      rw [q_iff _ _ rfl]
      cases h4 : Nat.blt b s.1 with
      | true =>
        have h4 := q_blt.mp h4
        rw [q_ift _ _ rfl, q_ift _ _ (q_blt.mpr (show j < s.1 by omega))]
        exact ⟨Nat.le_refl _, Nat.le_refl _⟩
      | false =>
        rw [q_iff _ _ rfl]
        cases h5 : Nat.blt j s.1 with
        | true =>
          rw [q_ift _ _ rfl]
          exact ⟨(z_min_le1 _ _).1, (z_le_max _ _).1⟩
        | false =>
          rw [q_iff _ _ rfl]
          have h6 : s.1 ≤ j := by
            rcases Nat.lt_or_ge j s.1 with h | h
            · rw [q_blt.mpr h] at h5; cases h5
            · exact h
          have := z_hu_s t s.1 b j h6 h2
          exact ⟨Nat.le_trans (z_min_le1 _ _).2 this.1, Nat.le_trans this.2 (z_le_max _ _).2⟩
theorem z_na_s : ∀ (fl : List z_C) (a b j : Nat), a ≤ j → j ≤ b → (z_el fl j).1 ≤ (z_na fl a b).1 ∧ (z_na fl a b).2 ≤ (z_el fl j).2
  | [], _, _, _, _, _ => ⟨Nat.le_refl _, Nat.le_refl _⟩
  | s :: t, a, b, j, h1, h2 => by
    have e1 : z_na (s :: t) a b = bif Nat.ble s.1 a then z_na t a b else bif Nat.blt b s.1 then s.2 else (z_max s.2.1 (z_na t s.1 b).1, z_min s.2.2 (z_na t s.1 b).2) := rfl
    have e2 : z_el (s :: t) j = bif Nat.blt j s.1 then s.2 else z_el t j := rfl
    rw [e1, e2]
    cases h3 : Nat.ble s.1 a with
    | true =>
      have h3 := q_ble.mp h3
      have hf : Nat.blt j s.1 = false := by
        cases h : Nat.blt j s.1 with
        | false => rfl
        | true => have := q_blt.mp h; omega
      rw [q_ift _ _ rfl, q_iff _ _ hf]
      exact z_na_s t a b j h1 h2
    | false =>
      rw [q_iff _ _ rfl]
      cases h4 : Nat.blt b s.1 with
      | true =>
        have h4 := q_blt.mp h4
        rw [q_ift _ _ rfl, q_ift _ _ (q_blt.mpr (show j < s.1 by omega))]
        exact ⟨Nat.le_refl _, Nat.le_refl _⟩
      | false =>
        rw [q_iff _ _ rfl]
        cases h5 : Nat.blt j s.1 with
        | true =>
          rw [q_ift _ _ rfl]
          exact ⟨(z_le_max _ _).1, (z_min_le1 _ _).1⟩
        | false =>
          rw [q_iff _ _ rfl]
          have h6 : s.1 ≤ j := by
            rcases Nat.lt_or_ge j s.1 with h | h
            · rw [q_blt.mpr h] at h5; cases h5
            · exact h
          have := z_na_s t s.1 b j h6 h2
          exact ⟨Nat.le_trans this.1 (z_le_max _ _).2, Nat.le_trans (z_min_le1 _ _).2 this.2⟩
theorem z_rng_s {α : Type} {per a b j : Nat} {k : Nat → Nat → α} (h1 : a ≤ j) (h2 : j ≤ b) : ∃ x y, z_rng per a b k = k x y ∧ x ≤ j % per ∧ j % per ≤ y := by
  unfold z_rng
  cases h : Nat.beq (Nat.div a per) (Nat.div b per) with
  | true =>
    rw [q_ift _ _ rfl, q_fr_eq, q_fr_eq]
    have h : a / per = b / per := q_beq.mp h
    have g1 : a / per ≤ j / per := Nat.div_le_div_right h1
    have g2 : j / per ≤ b / per := Nat.div_le_div_right h2
    have e1 := Nat.div_add_mod a per
    have e2 := Nat.div_add_mod b per
    have e3 := Nat.div_add_mod j per
    have g3 : j / per = a / per := by omega
    have g4 : b / per = a / per := by omega
    rw [g3] at e3
    rw [g4] at e2
    refine ⟨a % per, b % per, rfl, ?_, ?_⟩
    · omega
    · omega
  | false =>
    rw [q_iff _ _ rfl, q_fr_eq]
    refine ⟨0, Nat.sub per 1, rfl, Nat.zero_le _, ?_⟩
    rw [Nat.sub_eq]
    cases per with
    | zero =>
      have : Nat.beq (Nat.div a 0) (Nat.div b 0) = true := q_beq.mpr (by show a / 0 = b / 0; rw [Nat.div_zero, Nat.div_zero])
      rw [this] at h
      cases h
    | succ n =>
      show j % (n + 1) ≤ n
      exact Nat.le_of_lt_succ (Nat.mod_lt j (Nat.succ_pos n))
theorem z_fg_s {s : Nat} {ic c : z_C} : ∀ {F : List z_A}, z_fg F s ic = some c → ∃ f ∈ F, f.1 = s ∧ f.2.2.1 = ic ∧ f.2.2.2 = c
  | [], h => by cases h
  | f :: t, h => by
    have h : (bif Nat.beq f.1 s && z_ceq f.2.2.1 ic then some f.2.2.2 else z_fg t s ic) = some c := h
    cases hb : (Nat.beq f.1 s && z_ceq f.2.2.1 ic) with
    | true =>
      rw [q_ift _ _ hb] at h
      exact ⟨f, List.mem_cons_self, q_beq.mp (q_ands hb).1, z_ceq_eq (q_ands hb).2, Option.some.inj h⟩
    | false =>
      rw [q_iff _ _ hb] at h
      obtain ⟨f2, h1, h2⟩ := z_fg_s h
      exact ⟨f2, List.mem_cons_of_mem _ h1, h2⟩
theorem z_v.inj {sa : Nat → Nat} {ad ts : List Nat} {vs : List Value} {c : z_C} {x y : Int32} (h1 : z_v sa ad ts vs c (.int x)) (h2 : z_v sa ad ts vs c (.int y)) (kc : c.1 = 0) : x = y := by
  obtain ⟨a, b, e1, e2, e3⟩ := h1.int kc
  cases e2
  obtain ⟨a2, b2, f1, f2, f3⟩ := h2.int kc
  cases f2
  rw [e1] at f1
  cases f1
  exact (q_eq_iff x y).mpr (by omega)
/-- a fact says what is at its place -/
theorem z_fact {base : Nat} {sa : Nat → Nat} {ws : va_W} {ts : List Nat} {vs : List Value} {F : List z_A} (hF : z_Fs sa ws ts vs F) (hD : va_D (q_A base) ws) {s q j k : Nat} {e : va_E} {ic c : z_C} {y : Int32} (h1 : vs[s]? = some (.ref q)) (h2 : ws[j]? = some (q, e)) (h3 : z_fg F s ic = some c) (h4 : z_v sa (q_ad ws) ts vs ic (.int y)) (h5 : q_qb y = 2147483648 + k) : ∃ v, z_at e k = some v ∧ z_v sa (q_ad ws) ts vs c v := by
  obtain ⟨f, f1, f2, f3, f4⟩ := z_fg_s h3
  obtain ⟨a, j2, k2, e2, y2, v, g1, g2, g3, g4, g5, g6, g7, g8⟩ := hF f f1
  rw [f2, h1] at g1
  cases g1
  have ej : j = j2 := hD.1 j j2 _ _ h2 g2 rfl
  subst ej
  rw [h2] at g2
  cases g2
  rw [f3] at g4 g5
  have ey := h4.inj g4 g5
  subst ey
  have ek : k2 = k := by omega
  subst ek
  rw [f4] at g8
  exact ⟨v, g7, g8⟩
/-- what comes of a read: a code, the symbols -/
def z_Rs {α : Type} (sa : Nat → Nat) (tt : Nat → z_T) (vs0 : List Value) (ws : va_W) (ts : List Nat) (V : z_V) (vs : List Value) (k : z_V → z_C → Option α) (R : α) (v : Value) : Prop := ∃ W1 c vs', k W1 c = some R ∧ vs <+: vs' ∧ z_Sv sa tt vs0 ws ts W1 vs' ∧ W1.2.2.2.2.2 = V.2.2.2.2.2 ∧ z_v sa (q_ad ws) ts vs' c v
theorem z_Res.rs {α : Type} {sa : Nat → Nat} {tt : Nat → z_T} {vs0 : List Value} {ws : va_W} {ts : List Nat} {V : z_V} {vs : List Value} {k : z_V → z_C → Option α} {R : α} {v : Value} (h : z_Res sa (q_ad ws) ts V vs k R v) (hv : z_Sv sa tt vs0 ws ts V vs) : z_Rs sa tt vs0 ws ts V vs k R v := by
  obtain ⟨W1, c, vs', k1, k2, k3, k4, k5⟩ := h
  exact ⟨W1, c, vs', k1, k2, hv.ext k2 k3 k4, by rw [k4], k5⟩
theorem z_ld_s {α : Type} {sa : Nat → Nat} {ad ts : List Nat} {V : z_V} {vs : List Value} {t : z_C} {k : z_V → z_C → Option α} {R : α} {v : Value} (hr : z_ld V t k = some R) (hE : z_E V vs) (hv : z_tv ad ts t v) : z_Res sa ad ts V vs k R v := by
  unfold z_ld at hr
  have h0 : 0 < V.1 := by
    rw [← hE.1]
    exact (List.getElem?_eq_some_iff.mp hE.2.1).1
  cases b0 : Nat.beq t.1 0 with
  | true =>
    rw [q_ift _ _ b0] at hr
    have b0 := q_beq.mp b0
    rcases hv with ⟨_, x, rfl, h1, h2⟩ | ⟨h1, _⟩ | ⟨h1, _⟩ | ⟨h1, _⟩
    · exact z_fi_s hr hE h1 h2
    all_goals omega
  | false =>
    rw [q_iff _ _ b0] at hr
    have b0 := q_bneq.mp b0
    cases b1 : Nat.beq t.1 1 with
    | true =>
      rw [q_ift _ _ b1, z_frv_eq] at hr
      have b1 := q_beq.mp b1
      rcases hv with ⟨h1, _⟩ | ⟨_, h2⟩ | ⟨h1, _⟩ | ⟨h1, _⟩
      · omega
      · obtain ⟨j, a, rfl, h3, h4⟩ := id h2
        exact ⟨_, _, vs ++ [.ref a], hr, List.prefix_append _ _, hE.push (v := .ref a) (by decide) (by decide) trivial, rfl, Or.inr (Or.inl ⟨rfl, z_last hE.1, Or.inr h2⟩)⟩
      all_goals omega
    | false =>
      rw [q_iff _ _ b1] at hr
      have b1 := q_bneq.mp b1
      cases b2 : Nat.beq t.1 2 with
      | true =>
        rw [q_ift _ _ b2, z_frv_eq] at hr
        have b2 := q_beq.mp b2
        rcases hv with ⟨h1, _⟩ | ⟨h1, _⟩ | ⟨_, h2⟩ | ⟨h1, _⟩
        · omega
        · omega
        · rcases h2 with rfl | h2
          · exact ⟨_, _, vs ++ [.null], hr, List.prefix_append _ _, hE.push (v := .null) (by decide) (by decide) rfl, rfl, Or.inr (Or.inl ⟨rfl, z_last hE.1, Or.inl rfl⟩)⟩
          · obtain ⟨j, a, rfl, h3, h4⟩ := id h2
            exact ⟨_, _, vs ++ [.ref a], hr, List.prefix_append _ _, hE.push (v := .ref a) (by decide) (by decide) trivial, rfl, Or.inr (Or.inl ⟨rfl, z_last hE.1, Or.inr h2⟩)⟩
        · omega
      | false =>
        rw [q_iff _ _ b2] at hr
        have b2 := q_bneq.mp b2
        obtain ⟨b3, hr2⟩ := q_bifs hr
        rw [z_frv_eq] at hr2
        rcases hv with ⟨h1, _⟩ | ⟨h1, _⟩ | ⟨h1, _⟩ | ⟨_, x, rfl⟩
        · omega
        · omega
        · omega
        · exact ⟨_, _, vs ++ [.long x], hr2, List.prefix_append _ _, hE.push (v := .long x) (by decide) (by decide) (Or.inl rfl), rfl, Or.inr (Or.inr (Or.inr (Or.inl ⟨rfl, Or.inr ⟨by show ¬ V.1 = 0; omega, z_last hE.1, x, rfl⟩⟩)))⟩
theorem z_ix_inv {α : Type} {tt : Nat → z_T} {V : z_V} {a j : z_C} {k : z_T → z_C → Nat → Nat → Option α} {R : α} (hr : z_ix tt V a j k = some R) : z_nn V a = true ∧ j.1 = 0 ∧ 2147483648 ≤ z_il V j ∧ z_ih V j < 2147483648 + (tt a.2.2).2.1 ∧ (tt a.2.2).2.1 ≤ 100000 ∧ ¬ (tt a.2.2).1 = 0 ∧ k (tt a.2.2) (bif Nat.beq (z_il V j) (z_ih V j) then (0, 0, z_il V j) else j) (z_il V j) (z_ih V j) = some R := by
  obtain ⟨h1, h2⟩ := q_bifs hr
  rw [q_fr_eq, q_fr_eq] at h2
  obtain ⟨g1, h1⟩ := q_ands h1
  obtain ⟨g2, h1⟩ := q_ands h1
  obtain ⟨g3, h1⟩ := q_ands h1
  obtain ⟨g4, h1⟩ := q_ands h1
  obtain ⟨g5, g6⟩ := q_ands h1
  have g4 := q_blt.mp g4
  rw [Nat.add_eq] at g4
  refine ⟨g1, q_beq.mp g2, q_ble.mp g3, g4, q_ble.mp g5, fun h => ?_, h2⟩
  rw [q_beq.mpr h] at g6
  cases g6
/-- the place that an index names -/
theorem z_idx {sa : Nat → Nat} {ad ts : List Nat} {V : z_V} {vs : List Value} {j : z_C} {v : Value} {n : Nat} (hE : z_E V vs) (hj : z_v sa ad ts vs j v) (kj : j.1 = 0) (h1 : 2147483648 ≤ z_il V j) (h2 : z_ih V j < 2147483648 + n) (hn : n ≤ 100000) : ∃ k, v = .int (nI k) ∧ k < n ∧ q_qb (nI k) = 2147483648 + k ∧ (nI k).toNatClampNeg = k ∧ vp_in (nI k) n ∧ z_il V j ≤ 2147483648 + k ∧ 2147483648 + k ≤ z_ih V j ∧ z_v sa ad ts vs (bif Nat.beq (z_il V j) (z_ih V j) then (0, 0, z_il V j) else j) (.int (nI k)) ∧ (bif Nat.beq (z_il V j) (z_ih V j) then ((0, 0, z_il V j) : z_C) else j).1 = 0 := by
  obtain ⟨y, rfl, b1, b2⟩ := hj.bnd hE kj
  obtain ⟨k, hk, rfl, ek⟩ := z_nat (x := y) (by omega)
  have hkn : k < n := by omega
  refine ⟨k, rfl, hkn, ek, nI_clamp (by omega), vp_in_nI hkn (by omega), by omega, by omega, ?_⟩
  cases hb : Nat.beq (z_il V j) (z_ih V j) with
  | true =>
    have hb := q_beq.mp hb
    rw [q_ift _ _ rfl]
    have e : z_il V j = q_qb (nI k) := by omega
    rw [e]
    exact ⟨z_v.mkcon hE, rfl⟩
  | false =>
    rw [q_iff _ _ rfl]
    exact ⟨hj, kj⟩
theorem z_Sv.addF {sa : Nat → Nat} {tt : Nat → z_T} {vs0 : List Value} {ws : va_W} {ts : List Nat} {V : z_V} {vs : List Value} (h : z_Sv sa tt vs0 ws ts V vs) {f : z_A} (hf : z_f1 sa ws ts vs f) : z_Sv sa tt vs0 ws ts (z_addF V f) vs := by
  obtain ⟨h1, h2, h3, h4⟩ := h
  refine ⟨h1, h2.same rfl rfl rfl, fun f2 hf2 => ?_, h4⟩
  rcases List.mem_cons.mp hf2 with rfl | hf2
  · exact hf
  · exact h3 f2 hf2
theorem z_Sv.addD {sa : Nat → Nat} {tt : Nat → z_T} {vs0 : List Value} {ws : va_W} {ts : List Nat} {V : z_V} {vs : List Value} (h : z_Sv sa tt vs0 ws ts V vs) {b : z_B} (hb : z_d1 sa tt (q_ad ws) ts vs b) : z_Sv sa tt vs0 ws ts (z_addD V b) vs := by
  obtain ⟨h1, h2, h3, h4⟩ := h
  refine ⟨h1, h2.same rfl rfl rfl, h3, fun b2 hb2 => ?_⟩
  rcases List.mem_cons.mp hb2 with rfl | hb2
  · exact hb
  · exact h4 b2 hb2
theorem z_fi_t {α : Type} {sa : Nat → Nat} {ad ts : List Nat} {V : z_V} {vs : List Value} {k : z_V → z_C → Option α} {R : α} {y : Int32} {lo hi : Nat} (hr : z_fi V lo hi k = some R) (hE : z_E V vs) (h1 : lo ≤ q_qb y) (h2 : q_qb y ≤ hi) : ∃ W1 c vs', k W1 c = some R ∧ vs <+: vs' ∧ z_E W1 vs' ∧ W1.2.2.2 = V.2.2.2 ∧ z_v sa ad ts vs' c (.int y) ∧ c.1 = 0 := by
  have hr2 : z_fi V lo hi (fun w c => bif Nat.beq c.1 0 then k w c else none) = some R := by
    unfold z_fi at hr ⊢
    cases hb : Nat.beq lo hi with
    | true =>
      rw [q_ift _ _ hb, q_fr_eq] at hr
      rw [q_ift _ _ rfl, q_fr_eq]
      exact hr
    | false =>
      rw [q_iff _ _ hb] at hr
      rw [q_iff _ _ rfl]
      cases h3 : (Nat.ble lo 4294967295 && Nat.ble hi 4294967295) with
      | false => rw [h3] at hr; cases hr
      | true =>
        rw [q_ift _ _ h3, q_fr_eq, q_fr_eq, z_frv_eq] at hr
        rw [q_ift _ _ rfl, q_fr_eq, q_fr_eq, z_frv_eq]
        exact hr
  obtain ⟨W1, c, vs', k1, k2, k3, k4, k5⟩ := z_fi_s (sa := sa) (ad := ad) (ts := ts) hr2 hE h1 h2
  obtain ⟨k6, k7⟩ := q_bifs k1
  exact ⟨W1, c, vs', k7, k2, k3, k4, k5, q_beq.mp k6⟩
theorem z_ldi_s {sa : Nat → Nat} {tt : Nat → z_T} {vs0 : List Value} {ws : va_W} {ts : List Nat} {V : z_V} {vs : List Value} {a ic : z_C} {k : z_V → z_C → Option (List z_O)} {os : List z_O} {y xj : Int32} {n lo hi : Nat} (hr : z_ldi V (tt a.2.2) a ic lo hi k = some os) (hv : z_Sv sa tt vs0 ws ts V vs) (hic : z_v sa (q_ad ws) ts vs ic (.int xj)) (kic : ic.1 = 0) (hn : q_qb xj = 2147483648 + n) (hlo : lo ≤ 2147483648 + n) (hhi : 2147483648 + n ≤ hi)
    (hb : (z_el (tt a.2.2).2.2.1 (n % (tt a.2.2).2.2.2.1)).1 ≤ q_qb y ∧ q_qb y ≤ (z_el (tt a.2.2).2.2.1 (n % (tt a.2.2).2.2.2.1)).2) : z_Rs sa tt vs0 ws ts V vs k os (.int y) := by
  unfold z_ldi at hr
  cases h3 : Nat.beq (tt a.2.2).1 3 with
  | true =>
    rw [q_ift _ _ h3] at hr
    exact (z_an_s hr hv.2.1).rs hv
  | false =>
    rw [q_iff _ _ h3] at hr
    obtain ⟨x1, y1, e1, e2, e3⟩ := z_rng_s (per := (tt a.2.2).2.2.2.1) (a := Nat.sub lo 2147483648) (b := Nat.sub hi 2147483648) (j := n) (k := fun x y => (fun r : Nat × Nat => z_fi V r.1 r.2 (fun w c => bif Nat.beq (tt a.2.2).2.2.2.2 1 && (not (Nat.beq lo hi) && (not (Nat.beq c.2.1 0) && Nat.beq c.2.2 2147483648)) then k (z_addD w (c.2.1, a.2.2, ic)) c else k w c)) (z_hu (tt a.2.2).2.2.1 x y)) (by rw [Nat.sub_eq]; omega) (by rw [Nat.sub_eq]; omega)
    rw [e1] at hr
    have hh := z_hu_s (tt a.2.2).2.2.1 x1 y1 (n % (tt a.2.2).2.2.2.1) e2 e3
    obtain ⟨W1, c1, vs1, k1, k2, k3, k4, k5, k6⟩ := z_fi_t (sa := sa) (ad := q_ad ws) (ts := ts) hr hv.2.1 (Nat.le_trans hh.1 hb.1) (Nat.le_trans hb.2 hh.2)
    have hv1 := hv.ext k2 k3 k4
    have k1 : (bif Nat.beq (tt a.2.2).2.2.2.2 1 && (not (Nat.beq lo hi) && (not (Nat.beq c1.2.1 0) && Nat.beq c1.2.2 2147483648)) then k (z_addD W1 (c1.2.1, a.2.2, ic)) c1 else k W1 c1) = some os := k1
    cases hc : (Nat.beq (tt a.2.2).2.2.2.2 1 && (not (Nat.beq lo hi) && (not (Nat.beq c1.2.1 0) && Nat.beq c1.2.2 2147483648))) with
    | false =>
      rw [q_iff _ _ hc] at k1
      exact ⟨W1, c1, vs1, k1, k2, hv1, by rw [k4], k5⟩
    | true =>
      rw [q_ift _ _ hc] at k1
      have hz := q_beq.mp (q_ands (q_ands (q_ands hc).2).2).2
      have kc : c1.1 = 0 := k6
      obtain ⟨xx, yy, f1, f2, f3⟩ := k5.int kc
      cases f2
      have exy : xx = y := (q_eq_iff xx y).mpr (by omega)
      subst exy
      refine ⟨_, c1, vs1, k1, k2, hv1.addD ⟨xx, xj, n, f1, hic.mono k2 List.prefix_rfl List.prefix_rfl, kic, hn, hb⟩, ?_, k5⟩
      show W1.2.2.2.2.2 = _
      rw [k4]
theorem q_small : ∀ (k : Nat) (r : vw_C), q_cls[k]? = some r → r.2.2 ≤ 100 := by
  have h : ∀ r ∈ q_cls.map (fun r => r.2.2), r ≤ 100 := by decide +kernel
  intro k r hr
  exact h _ (List.mem_map.mpr ⟨r, List.mem_of_getElem? hr, rfl⟩)
section ZI
variable {l : Launch} {base : Nat} {D : va_G} {sa : Nat → Nat} {g : z_G} {J : va_W → List Nat → Prop} {ih : z_F} {d : Nat × Nat} {i pc ln x y z : Nat} {tl : List q_I} {V : z_V} {L st : List z_C} {sp : List Nat} {cx : List z_X} {os : List z_O}
/-- a read of ints at a place -/
theorem z_ial_s {a j : z_C} {ok : Nat → Bool} {k : z_V → z_C → Option (List z_O)} (hr : z_ial g.1 V a j ok k = some os) {s : State} {w0 : va_W} {t0 : List Nat} {vs0 : List Value} {H : Heap} {locs : List Loc} {ws : va_W} {tys : List (ClassId × FieldType)} {ts : List Nat} {vs : List Value} {va vj : Value} (hp : z_Hp base D g.1 g.2.1 s w0 t0 H locs ws tys ts) (hv : z_Sv sa g.1 vs0 ws ts V vs) (hva : z_v sa (q_ad ws) ts vs a va) (hvj : z_v sa (q_ad ws) ts vs j vj) (hok : ∀ n, ok n = true → n = 1 ∨ n = 3 ∨ n = 5) : ok (g.1 a.2.2).1 = true ∧ ∃ (q jj n t : Nat) (cA : ClassId) (ty : FieldType) (f : Nat → Int32), va = .ref q ∧ vj = .int (nI n) ∧ ws[jj]? = some (q, .inl (cA, (g.1 a.2.2).2.1, .inl f)) ∧ tys[t]? = some (cA, ty) ∧ (((g.1 a.2.2).1 = 1 ∧ ty = .int) ∨ ((g.1 a.2.2).1 = 3 ∧ ty = .byte) ∨ ((g.1 a.2.2).1 = 5 ∧ ty = .boolean)) ∧ vp_in (nI n) (g.1 a.2.2).2.1 ∧ z_Rs sa g.1 vs0 ws ts V vs k os (.int (f (nI n).toNatClampNeg)) := by
  obtain ⟨g1, g2, g3, g4, g5, g6, hr2⟩ := z_ix_inv hr
  obtain ⟨q, jj, rfl, v1, v2, v3⟩ := hva.nonnull hv.2.1 g1
  obtain ⟨e, he, hc⟩ := hp.1.cell v2 v3
  obtain ⟨n, rfl, n1, n2, n3, n4, n5, n6, n7, n8⟩ := z_idx hv.2.1 hvj g2 g3 g4 g5
  obtain ⟨ho, hr3⟩ := q_bifs hr2
  clear hr2 hr
  refine ⟨ho, ?_⟩
  have harr : ∃ (cA : ClassId) (t : Nat) (f : Nat → Int32) (ty : FieldType), e = .inl (cA, (g.1 a.2.2).2.1, .inl f) ∧ tys[t]? = some (cA, ty) ∧ (((g.1 a.2.2).1 = 1 ∧ ty = .int) ∨ ((g.1 a.2.2).1 = 3 ∧ ty = .byte) ∨ ((g.1 a.2.2).1 = 5 ∧ ty = .boolean)) ∧ ∀ k, k < (g.1 a.2.2).2.1 → (z_el (g.1 a.2.2).2.2.1 (k % (g.1 a.2.2).2.2.2.1)).1 ≤ q_qb (f k) ∧ q_qb (f k) ≤ (z_el (g.1 a.2.2).2.2.1 (k % (g.1 a.2.2).2.2.2.1)).2 := by
    rcases hok _ ho with h | h | h
    · obtain ⟨cA, t, f, a1, a2, a3⟩ := hc.ints h
      exact ⟨cA, t, f, .int, a1, a2, Or.inl ⟨h, rfl⟩, a3⟩
    · obtain ⟨cA, t, f, a1, a2, a3⟩ := hc.bytes h
      exact ⟨cA, t, f, .byte, a1, a2, Or.inr (Or.inl ⟨h, rfl⟩), a3⟩
    · obtain ⟨cA, t, f, a1, a2, a3⟩ := hc.bools h
      exact ⟨cA, t, f, .boolean, a1, a2, Or.inr (Or.inr ⟨h, rfl⟩), a3⟩
  obtain ⟨cA, t, f, ty, rfl, a2, a3, a4⟩ := harr
  refine ⟨q, jj, n, t, cA, ty, f, rfl, rfl, he, a2, a3, n4, ?_⟩
  rw [n3]
  have hat : z_at (.inl (cA, (g.1 a.2.2).2.1, .inl f)) n = some (.int (f n)) := if_pos n1
  generalize (bif Nat.beq (z_il V j) (z_ih V j) then ((0, 0, z_il V j) : z_C) else j) = ic at n7 n8 hr3
  cases hb : (Nat.beq (z_il V j) (z_ih V j) || Nat.beq (g.1 a.2.2).2.2.2.2 2) with
  | false =>
    rw [q_iff _ _ hb] at hr3
    exact z_ldi_s hr3 hv n7 n8 n2 n5 n6 (a4 n n1)
  | true =>
    rw [q_ift _ _ hb] at hr3
    cases hf : z_fg V.2.2.2.1 a.2.1 ic with
    | some c =>
      rw [hf] at hr3
      obtain ⟨v, w1, w2⟩ := z_fact hv.2.2.1 hp.2.2.2.1 v1 he hf n7 n2
      rw [hat] at w1
      cases w1
      exact ⟨V, c, vs, hr3, List.prefix_rfl, hv, rfl, w2⟩
    | none =>
      rw [hf] at hr3
      obtain ⟨W1, c1, vs1, k1, k2, k3, k4, k5⟩ := z_ldi_s hr3 hv n7 n8 n2 n5 n6 (a4 n n1)
      exact ⟨_, c1, vs1, k1, k2, k3.addF (f := (a.2.1, a.2.2, ic, c1)) ⟨q, jj, n, .inl (cA, (g.1 a.2.2).2.1, .inl f), nI n, .int (f n), z_gm k2 v1, he, v3, n7.mono k2 List.prefix_rfl List.prefix_rfl, n8, n2, hat, k5⟩, k4, k5⟩
theorem z_s_iaload (hd : decode (q_b i) pc = .ok (.iaload, ln)) (hk : q_lnk i pc ln (.iaload) x y z) (hgx : z_gx cx) (hN : z_HN l base D sa g J ih d i (pc + ln) tl sp) (hr : z_step g q_code ih d i (q_code i) pc (.iaload) x y z tl V L st sp cx = some os) : z_Ok l base D sa g J d i pc V L st cx os := by
  have e1 : ln = 1 := hk
  subst e1
  match st, hr with
  | [], hr => cases hr
  | [_], hr => cases hr
  | j :: a :: r, hr =>
    have hr : z_ial g.1 V a j (fun k => Nat.beq k 1) (fun w c => ih d i (q_code i) tl w L (c :: r) sp cx) = some os := hr
    intro p e s m args below meth c Q w0 t0 vs0 H locs ls sv ws tys ts vs C hp hv hL hs hx hf
    obtain ⟨vj, sv1, rfl, hvj, hs1⟩ := hs.cons
    obtain ⟨va, sv2, rfl, hva, hs2⟩ := hs1.cons
    obtain ⟨ho, q, jj, n, t, cA, ty, f, rfl, rfl, he, ht, hty, hin, W1, c1, vs1, k1, k2, k3, k4, k5⟩ := z_ial_s hr hp hv hva hvj (fun n h => Or.inl (q_beq.mp h))
    have ho := q_beq.mp ho
    have hty : ty = .int := by rcases hty with h | h | h <;> first | exact h.2 | omega
    subst hty
    have hg := hN W1 L (c1 :: r) cx os hgx k1
    exact va_iald C.1.1 C.1.2.1 hp.2.2.1 hp.2.1 jj t he ht hin hd (z_go hg hgx C hp k3 k2 (hL.mono k2 List.prefix_rfl List.prefix_rfl) (sv := .int (f (nI n).toNatClampNeg) :: sv2) ⟨k5, z_Sr.mono k2 List.prefix_rfl List.prefix_rfl hs2⟩ hx hf k4)
theorem z_s_baload (hd : decode (q_b i) pc = .ok (.baload, ln)) (hk : q_lnk i pc ln (.baload) x y z) (hgx : z_gx cx) (hN : z_HN l base D sa g J ih d i (pc + ln) tl sp) (hr : z_step g q_code ih d i (q_code i) pc (.baload) x y z tl V L st sp cx = some os) : z_Ok l base D sa g J d i pc V L st cx os := by
  have e1 : ln = 1 := hk
  subst e1
  match st, hr with
  | [], hr => cases hr
  | [_], hr => cases hr
  | j :: a :: r, hr =>
    have hr : z_ial g.1 V a j (fun k => Nat.beq k 3 || Nat.beq k 5) (fun w c => ih d i (q_code i) tl w L (c :: r) sp cx) = some os := hr
    intro p e s m args below meth c Q w0 t0 vs0 H locs ls sv ws tys ts vs C hp hv hL hs hx hf
    obtain ⟨vj, sv1, rfl, hvj, hs1⟩ := hs.cons
    obtain ⟨va, sv2, rfl, hva, hs2⟩ := hs1.cons
    obtain ⟨ho, q, jj, n, t, cA, ty, f, rfl, rfl, he, ht, hty, hin, W1, c1, vs1, k1, k2, k3, k4, k5⟩ := z_ial_s hr hp hv hva hvj (fun n h => Or.inr ((q_ors h).imp (fun h => q_beq.mp h) (fun h => q_beq.mp h)))
    have hg := hN W1 L (c1 :: r) cx os hgx k1
    rcases hty with ⟨h1, -⟩ | ⟨-, rfl⟩ | ⟨-, rfl⟩
    · rcases q_ors ho with h | h <;> have := q_beq.mp h <;> omega
    · exact va_bald C.1.1 C.1.2.1 hp.2.2.1 hp.2.1 jj t he ht hin hd (z_go hg hgx C hp k3 k2 (hL.mono k2 List.prefix_rfl List.prefix_rfl) (sv := .int (f (nI n).toNatClampNeg) :: sv2) ⟨k5, z_Sr.mono k2 List.prefix_rfl List.prefix_rfl hs2⟩ hx hf k4)
    · exact va_zald C.1.1 C.1.2.1 hp.2.2.1 hp.2.1 jj t he ht hin hd (z_go hg hgx C hp k3 k2 (hL.mono k2 List.prefix_rfl List.prefix_rfl) (sv := .int (f (nI n).toNatClampNeg) :: sv2) ⟨k5, z_Sr.mono k2 List.prefix_rfl List.prefix_rfl hs2⟩ hx hf k4)
theorem z_s_laload (hd : decode (q_b i) pc = .ok (.laload, ln)) (hk : z_lnk i pc ln (.laload) x y z) (hgx : z_gx cx) (hN : z_HN l base D sa g J ih d i (pc + ln) tl sp) (hr : z_step g q_code ih d i (q_code i) pc (.laload) x y z tl V L st sp cx = some os) : z_Ok l base D sa g J d i pc V L st cx os := by
  have e1 : ln = 1 := hk
  subst e1
  match st, hr with
  | [], hr => cases hr
  | [_], hr => cases hr
  | j :: a :: r, hr =>
    have hr : z_ix g.1 V a j (fun T _ _ _ => bif Nat.beq T.1 7 then z_ld V (3, 0, 0) (fun w c => ih d i (q_code i) tl w L (c :: r) sp cx) else none) = some os := hr
    intro p e s m args below meth c Q w0 t0 vs0 H locs ls sv ws tys ts vs C hp hv hL hs hx hf
    obtain ⟨vj, sv1, rfl, hvj, hs1⟩ := hs.cons
    obtain ⟨va, sv2, rfl, hva, hs2⟩ := hs1.cons
    obtain ⟨g1, g2, g3, g4, g5, g6, hr2⟩ := z_ix_inv hr
    obtain ⟨q, jj, rfl, v1, v2, v3⟩ := hva.nonnull hv.2.1 g1
    obtain ⟨en, he, hc⟩ := hp.1.cell v2 v3
    obtain ⟨n, rfl, n1, n2, n3, n4, n5, n6, n7, n8⟩ := z_idx hv.2.1 hvj g2 g3 g4 g5
    obtain ⟨ho, hr3⟩ := q_bifs hr2
    have ho := q_beq.mp ho
    obtain ⟨cA, t, f, rfl, ht⟩ := hc.longs ho
    obtain ⟨W1, c1, vs1, k1, k2, k3, k4, k5⟩ := (z_lngs (sa := sa) (ad := q_ad ws) (ts := ts) hr3 hv.2.1 (f (nI n).toNatClampNeg)).rs hv
    have hg := hN W1 L (c1 :: r) cx os hgx k1
    exact va_lald C.1.1 C.1.2.1 hp.2.2.1 hp.2.1 jj t he ht n4 hd (z_go hg hgx C hp k3 k2 (hL.mono k2 List.prefix_rfl List.prefix_rfl) (sv := .long (f (nI n).toNatClampNeg) :: sv2) ⟨k5, z_Sr.mono k2 List.prefix_rfl List.prefix_rfl hs2⟩ hx hf k4)
theorem z_s_aaload (hd : decode (q_b i) pc = .ok (.aaload, ln)) (hk : q_lnk i pc ln (.aaload) x y z) (hgx : z_gx cx) (hN : z_HN l base D sa g J ih d i (pc + ln) tl sp) (hr : z_step g q_code ih d i (q_code i) pc (.aaload) x y z tl V L st sp cx = some os) : z_Ok l base D sa g J d i pc V L st cx os := by
  have e1 : ln = 1 := hk
  subst e1
  match st, hr with
  | [], hr => cases hr
  | [_], hr => cases hr
  | j :: a :: r, hr =>
    have hr : z_ix g.1 V a j (fun T _ _ _ => bif Nat.beq T.1 9 then z_ld V (2, z_tS, 0) (fun w c => ih d i (q_code i) tl w L (c :: r) sp cx) else none) = some os := hr
    intro p e s m args below meth c Q w0 t0 vs0 H locs ls sv ws tys ts vs C hp hv hL hs hx hf
    obtain ⟨vj, sv1, rfl, hvj, hs1⟩ := hs.cons
    obtain ⟨va, sv2, rfl, hva, hs2⟩ := hs1.cons
    obtain ⟨g1, g2, g3, g4, g5, g6, hr2⟩ := z_ix_inv hr
    obtain ⟨q, jj, rfl, v1, v2, v3⟩ := hva.nonnull hv.2.1 g1
    obtain ⟨en, he, hc⟩ := hp.1.cell v2 v3
    obtain ⟨n, rfl, n1, n2, n3, n4, n5, n6, n7, n8⟩ := z_idx hv.2.1 hvj g2 g3 g4 g5
    obtain ⟨ho, hr3⟩ := q_bifs hr2
    have ho := q_beq.mp ho
    obtain ⟨cA, t, f, rfl, ht, hq⟩ := hc.refs ho
    have htv : z_tv (q_ad ws) ts (2, z_tS, 0) (va_rf (f (nI n).toNatClampNeg)) := by
      rw [n3]
      cases hf9 : f n with
      | none => exact Or.inr (Or.inr (Or.inl ⟨rfl, Or.inl rfl⟩))
      | some b => exact Or.inr (Or.inr (Or.inl ⟨rfl, Or.inr (hq n b n1 hf9)⟩))
    obtain ⟨W1, c1, vs1, k1, k2, k3, k4, k5⟩ := (z_ld_s (sa := sa) hr3 hv.2.1 htv).rs hv
    have hg := hN W1 L (c1 :: r) cx os hgx k1
    exact va_aldq C.1.1 C.1.2.1 hp.2.2.1 hp.2.1 jj t he ht n4 hd (z_go hg hgx C hp k3 k2 (hL.mono k2 List.prefix_rfl List.prefix_rfl) (sv := va_rf (f (nI n).toNatClampNeg) :: sv2) ⟨k5, z_Sr.mono k2 List.prefix_rfl List.prefix_rfl hs2⟩ hx hf k4)
theorem z_s_alen (hd : decode (q_b i) pc = .ok (.arraylength, ln)) (hk : q_lnk i pc ln (.arraylength) x y z) (hgx : z_gx cx) (hN : z_HN l base D sa g J ih d i (pc + ln) tl sp) (hr : z_step g q_code ih d i (q_code i) pc (.arraylength) x y z tl V L st sp cx = some os) : z_Ok l base D sa g J d i pc V L st cx os := by
  have e1 : ln = 1 := hk
  subst e1
  match st, hr with
  | [], hr => cases hr
  | a :: r, hr =>
    have hr : (bif z_nn V a && (not (Nat.beq (g.1 a.2.2).1 0) && Nat.ble (g.1 a.2.2).2.1 100000) then ih d i (q_code i) tl V L ((0, 0, Nat.add 2147483648 (g.1 a.2.2).2.1) :: r) sp cx else none) = some os := hr
    obtain ⟨h1, hr⟩ := q_bifs hr
    obtain ⟨h1, h2⟩ := q_ands h1
    obtain ⟨h2, h3⟩ := q_ands h2
    have h3 := q_ble.mp h3
    have hg := hN V L _ cx os hgx hr
    intro p e s m args below meth c Q w0 t0 vs0 H locs ls sv ws tys ts vs C hp hv hL hs hx hf
    obtain ⟨va, sv1, rfl, hva, hs1⟩ := hs.cons
    obtain ⟨q, jj, rfl, v1, v2, v3⟩ := hva.nonnull hv.2.1 h1
    obtain ⟨en, he, hc⟩ := hp.1.cell v2 v3
    have hcode : z_v sa (q_ad ws) ts vs (0, 0, Nat.add 2147483648 (g.1 a.2.2).2.1) (.int (Int32.ofNat (g.1 a.2.2).2.1)) := by
      have e9 : q_qb (nI (g.1 a.2.2).2.1) = Nat.add 2147483648 (g.1 a.2.2).2.1 := by rw [Nat.add_eq]; exact z_qnI (by omega)
      rw [← e9]
      exact z_v.mkcon hv.2.1
    rcases hc with ⟨h0, _⟩ | ⟨_, cA, t, f, rfl, ht, _⟩ | ⟨_, cA, t, f, rfl, ht, _⟩ | ⟨_, cA, t, f, rfl, ht, _⟩ | ⟨_, cA, t, f, rfl, ht⟩ | ⟨_, cA, t, f, rfl, ht, _⟩
    · rw [q_beq.mpr h0] at h2
      cases h2
    all_goals exact va_alen C.1.1 C.1.2.1 hp.2.2.1 hp.2.1 jj t he ht rfl hd (z_go hg hgx C hp hv List.prefix_rfl hL (sv := .int (Int32.ofNat (g.1 a.2.2).2.1) :: sv1) ⟨hcode, hs1⟩ hx hf rfl)
theorem z_kc_v {ad ts : List Nat} {vs : List Value} (hE : z_E V vs) {k : Nat} (hk : k < 2147483648) : z_v sa ad ts vs (z_kc k) (.int (nI k)) ∧ q_qb (nI k) = 2147483648 + k := by
  have e9 := z_qnI hk
  refine ⟨?_, e9⟩
  have e8 : z_kc k = (0, 0, q_qb (nI k)) := by
    unfold z_kc
    rw [Nat.add_eq, e9]
  rw [e8]
  exact z_v.mkcon hE
theorem z_s_get {n : Nat} (hcl : q_clok) (hd : decode (q_b i) pc = .ok (.getfield n, ln)) (hk : q_lnk i pc ln (.getfield n) x y z) (hgx : z_gx cx) (hN : z_HN l base D sa g J ih d i (pc + ln) tl sp) (hr : z_step g q_code ih d i (q_code i) pc (.getfield n) x y z tl V L st sp cx = some os) : z_Ok l base D sa g J d i pc V L st cx os := by
  obtain ⟨e1, rc, hrc, hy, hlk⟩ := hk
  subst e1
  match st, hr with
  | [], hr => cases hr
  | a :: r, hr =>
    have hr : (bif z_nn V a && (Nat.beq (g.1 a.2.2).1 0 && Nat.beq (g.1 a.2.2).2.1 x) then (match z_fg V.2.2.2.1 a.2.1 (z_kc y) with
      | some c => ih d i (q_code i) tl V L (c :: r) sp cx
      | none => z_ld V (z_nth (g.1 a.2.2).2.2.1 y) (fun w c => ih d i (q_code i) tl (z_addF w (a.2.1, a.2.2, z_kc y, c)) L (c :: r) sp cx)) else none) = some os := hr
    obtain ⟨h1, hr2⟩ := q_bifs hr
    clear hr
    obtain ⟨h1, h2⟩ := q_ands h1
    obtain ⟨h2, h3⟩ := q_ands h2
    have h2 := q_beq.mp h2
    have h3 := q_beq.mp h3
    intro p e s m args below meth c Q w0 t0 vs0 H locs ls sv ws tys ts vs C hp hv hL hs hx hf
    obtain ⟨va, sv1, rfl, hva, hs1⟩ := hs.cons
    obtain ⟨q, jj, rfl, v1, v2, v3⟩ := hva.nonnull hv.2.1 h1
    obtain ⟨en, he, hc⟩ := hp.1.cell v2 v3
    obtain ⟨fs, rfl, f1, f2⟩ := hc.obj h2
    rw [h3] at he
    have hsmall : y < 2147483648 := by
      have := q_small x rc hrc
      omega
    obtain ⟨u1, u2⟩ := z_kc_v (sa := sa) (ad := q_ad ws) (ts := ts) hv.2.1 hsmall
    have hgo : ∀ (v : Value), fs[y]? = some v → W p l e (q_rm d.1 (9 * d.2) (446 * d.2)) s m args below meth c H locs (9 * V.2.2.2.2.2) (446 * V.2.2.2.2.2) Q (F0 m (pc + 3) ls (v :: sv1)) → W p l e (q_rm d.1 (9 * d.2) (446 * d.2)) s m args below meth c H locs (9 * V.2.2.2.2.2) (446 * V.2.2.2.2.2) Q (F0 m pc ls (.ref q :: sv1)) := fun v hv9 hw => va_get (D := D) (ci := x) (C := rc.1) (T := rc.2.1) (N := rc.2.2) C.1.1 C.1.2.1 C.1.2.2.2.2.2.1 (hcl x rc hrc).1 C.1.2.2.2.2.1 hp.2.2.1 hp.2.1 jj he hrc y hy (C.1.2.2.2.2.2.1 _ hlk) (fun _ h9 => h9) hv9 hd hw
    cases hf9 : z_fg V.2.2.2.1 a.2.1 (z_kc y) with
    | some c1 =>
      rw [hf9] at hr2
      obtain ⟨v, w1, w2⟩ := z_fact hv.2.2.1 hp.2.2.2.1 v1 he hf9 u1 u2
      exact hgo v w1 (z_go (hN V L (c1 :: r) cx os hgx hr2) hgx C hp hv List.prefix_rfl hL (sv := v :: sv1) ⟨w2, hs1⟩ hx hf rfl)
    | none =>
      rw [hf9] at hr2
      have hlen : y < fs.length := by
        rw [f1]
        rcases Nat.lt_or_ge y (g.1 a.2.2).2.2.1.length with h | h
        · exact h
        · have e9 : z_nth (g.1 a.2.2).2.2.1 y = (9, 0, 0) := by
            show q_nth _ _ _ = _
            rw [q_nth_eq, List.getD_eq_getElem?_getD, List.getElem?_eq_none h]
            rfl
          rw [e9] at hr2
          cases hr2
      have hfy : fs[y]? = some fs[y] := List.getElem?_eq_getElem hlen
      obtain ⟨W1, c1, vs1, k1, k2, k3, k4, k5⟩ := (z_ld_s (sa := sa) hr2 hv.2.1 (f2 y _ hfy)).rs hv
      exact hgo _ hfy (z_go (hN _ L (c1 :: r) cx os hgx k1) hgx C hp (k3.addF ⟨q, jj, y, _, nI y, _, z_gm k2 v1, he, v3, u1.mono k2 List.prefix_rfl List.prefix_rfl, rfl, u2, hfy, k5⟩) k2 (hL.mono k2 List.prefix_rfl List.prefix_rfl) (sv := fs[y] :: sv1) ⟨k5, z_Sr.mono k2 List.prefix_rfl List.prefix_rfl hs1⟩ hx hf k4)
end ZI
end
section
/-! ===== instruction by instruction: writes of the heap ===== -/
/-- a code that fits a type has a value of it -/
theorem z_fit_s {sa : Nat → Nat} {ad ts : List Nat} {V : z_V} {vs : List Value} {t c : z_C} {v : Value} (h : z_fit V t c = true) (hE : z_E V vs) (hv : z_v sa ad ts vs c v) : z_tv ad ts t v := by
  unfold z_fit at h
  cases b0 : Nat.beq t.1 0 with
  | true =>
    rw [q_ift _ _ b0] at h
    obtain ⟨h1, h2⟩ := q_ands h
    obtain ⟨h2, h3⟩ := q_ands h2
    have h2 := q_ble.mp h2
    have h3 := q_ble.mp h3
    obtain ⟨y, rfl, g1, g2⟩ := hv.bnd hE (q_beq.mp h1)
    exact Or.inl ⟨q_beq.mp b0, y, rfl, by omega, by omega⟩
  | false =>
    rw [q_iff _ _ b0] at h
    cases b1 : Nat.beq t.1 1 with
    | true =>
      rw [q_ift _ _ b1] at h
      obtain ⟨h1, h2⟩ := q_ands h
      obtain ⟨a, j, rfl, g1, g2, g3⟩ := hv.nonnull hE h1
      exact Or.inr (Or.inl ⟨q_beq.mp b1, j, a, rfl, g2, by rw [← q_beq.mp h2]; exact g3⟩)
    | false =>
      rw [q_iff _ _ b1] at h
      cases b2 : Nat.beq t.1 2 with
      | true =>
        rw [q_ift _ _ b2] at h
        refine Or.inr (Or.inr (Or.inl ⟨q_beq.mp b2, ?_⟩))
        rcases q_ors h with h | h
        · obtain ⟨h1, h2⟩ := q_ands h
          rcases (hv.ref (q_beq.mp h1)).2 with g | g
          · exact Or.inl g
          · rw [q_beq.mp h2] at g
            exact Or.inr g
        · obtain ⟨h1, h2⟩ := q_ands h
          have h2 := q_beq.mp h2
          rcases hv.two (q_beq.mp h1) with ⟨_, g⟩ | ⟨k, _, _, g, _⟩
          · exact Or.inl g
          · omega
      | false =>
        rw [q_iff _ _ b2] at h
        obtain ⟨b3, h⟩ : Nat.beq t.1 3 = true ∧ Nat.beq c.1 3 = true := by
          cases b3 : Nat.beq t.1 3 with
          | true => rw [q_ift _ _ b3] at h; exact ⟨rfl, h⟩
          | false => rw [q_iff _ _ b3] at h; cases h
        obtain ⟨x, rfl, _⟩ := hv.lng (q_beq.mp h)
        exact Or.inr (Or.inr (Or.inr ⟨q_beq.mp b3, x, rfl⟩))
theorem z_il_le {sa : Nat → Nat} {ad ts : List Nat} {V : z_V} {vs : List Value} {c : z_C} {y : Int32} (hE : z_E V vs) (hv : z_v sa ad ts vs c (.int y)) (kc : c.1 = 0) : z_il V c ≤ q_qb y ∧ q_qb y ≤ z_ih V c := by
  obtain ⟨y2, e, g1, g2⟩ := hv.bnd hE kc
  cases e
  exact ⟨g1, g2⟩
/-- one place of one cell is written: facts that stay -/
theorem z_keep {sa : Nat → Nat} {base : Nat} {V : z_V} {ws : va_W} {ts : List Nat} {vs : List Value} {F : List z_A} (hE : z_E V vs) (hF : z_Fs sa ws ts vs F) {j q n t lo hi : Nat} {e e' : va_E} {ic c : z_C} {xi : Int32} {w : Value} (hD : va_D (q_A base) ws) (he : ws[j]? = some (q, e)) (ht : ts[j]? = some t) (hic : z_v sa (q_ad ws) ts vs ic (.int xi)) (kic : ic.1 = 0) (hxi : q_qb xi = 2147483648 + n) (hlo : lo ≤ 2147483648 + n) (hhi : 2147483648 + n ≤ hi) (hs : ∀ k v, ¬ k = n → z_at e k = some v → z_at e' k = some v) (hn : ∀ v, z_at e n = some v → z_at e' n = some w) (hw : z_v sa (q_ad ws) ts vs c w ∨ c.1 = 8) : z_Fs sa (ws.set j (q, e')) ts vs (z_flt (z_kp V t ic lo hi c) F) := by
  intro f hf
  obtain ⟨hf, hk⟩ := z_flt_mem.mp hf
  obtain ⟨a, j2, k, e2, y, v, g1, g2, g3, g4, g5, g6, g7, g8⟩ := hF f hf
  unfold z_f1
  rw [q_ad_set ws j q e e' he]
  by_cases ej : j = j2
  · subst ej
    rw [he] at g2
    cases g2
    have et : f.2.1 = t := Option.some.inj (g3.symm.trans ht)
    have hset : (ws.set j (q, e'))[j]? = some (q, e') := by rw [List.getElem?_set_self (List.getElem?_eq_some_iff.mp he).1]
    by_cases ek : k = n
    · subst ek
      unfold z_kp at hk
      rw [q_ift _ _ (q_beq.mpr et)] at hk
      have hb := z_il_le hE g4 g5
      rcases q_ors hk with hk | hk
      · have ec := z_ceq_eq hk
        rcases hw with hw | hw
        · exact ⟨q, j, k, e', y, w, g1, hset, g3, g4, g5, g6, hn v g7, by rw [ec]; exact hw⟩
        · rw [ec] at g8
          rcases g8 with ⟨h, _⟩ | ⟨h, _⟩ | ⟨h, _⟩ | ⟨h, _⟩ | ⟨h, _⟩ <;> omega
      · rcases q_ors hk with hk | hk
        · obtain ⟨h1, h2⟩ := q_ands hk
          have h1 := q_beq.mp h1
          have := z_off g4 hic g5 kic h1
          have h3 : Nat.beq f.2.2.1.2.2 ic.2.2 = true := q_beq.mpr (by omega)
          rw [h3] at h2
          cases h2
        · rcases q_ors hk with hk | hk
          · have := q_blt.mp hk
            omega
          · have := q_blt.mp hk
            omega
    · exact ⟨q, j, k, e', y, v, g1, hset, g3, g4, g5, g6, hs k v ek g7, g8⟩
  · exact ⟨a, j2, k, e2, y, v, g1, by rw [List.getElem?_set_ne ej]; exact g2, g3, g4, g5, g6, g7, g8⟩
/-- writes in ranges: facts that stay -/
theorem z_keeps {sa : Nat → Nat} {V : z_V} {ws ws' : va_W} {ts ts' : List Nat} {vs : List Value} {F F' : List z_A} {ks : List z_C} (hE : z_E V vs) (hF : z_Fs sa ws ts vs F) (hfr : z_Fr ks ws ts ws' ts') (hF' : ∀ f ∈ F', f ∈ F ∧ ∀ k ∈ ks, z_kq V k f = true) : z_Fs sa ws' ts' vs F' := by
  intro f hf
  obtain ⟨hf1, hf2⟩ := hF' f hf
  obtain ⟨a, j, k, e, y, v, g1, g2, g3, g4, g5, g6, g7, g8⟩ := hF f hf1
  have hb := z_il_le hE g4 g5
  obtain ⟨e', u1, u2⟩ := hfr.2.2 j a _ k e v g2 g3 g7 (fun hw => by
    obtain ⟨e3, h1, h2, h3, h4⟩ := z_kw_iff.mp hw
    have h5 := hf2 e3 h1
    unfold z_kq at h5
    rw [q_ift _ _ (q_beq.mpr h2.symm)] at h5
    rcases q_ors h5 with h5 | h5
    · have := q_blt.mp h5
      omega
    · have := q_blt.mp h5
      omega)
  exact ⟨a, j, k, e', y, v, g1, u1, z_gm hfr.1 g3, g4.mono List.prefix_rfl hfr.2.1 hfr.1, g5, g6, u2, g8.mono List.prefix_rfl hfr.2.1 hfr.1⟩
theorem z_leq_eq : ∀ {a b : List z_C}, z_leq a b = true → a = b
  | [], [], _ => rfl
  | [], _ :: _, h => by cases h
  | _ :: _, [], h => by cases h
  | x :: a, y :: b, h => by
    have h : (z_ceq x y && z_leq a b) = true := h
    rw [z_ceq_eq (q_ands h).1, z_leq_eq (q_ands h).2]
theorem z_modeq {n k a b p : Nat} (h : n + a = k + b) (hm : a % p = b % p) : n % p = k % p := by
  have e1 := Nat.div_add_mod a p
  have e2 := Nat.div_add_mod b p
  have e3 : n + p * (a / p) = k + p * (b / p) := by omega
  rw [← Nat.add_mul_mod_self_left n p (a / p), e3, Nat.add_mul_mod_self_left]
/-- a value that may be stored lies in the bounds of its place -/
theorem z_sto_s {sa : Nat → Nat} {tt : Nat → z_T} {ad ts : List Nat} {V : z_V} {vs : List Value} {T : z_T} {ic c : z_C} {lo hi n : Nat} {xi xv : Int32} (h : z_sto tt V T ic lo hi c = true) (hE : z_E V vs) (hD : z_Ds sa tt ad ts vs V.2.2.2.2.1) (hic : z_v sa ad ts vs ic (.int xi)) (kic : ic.1 = 0) (hxi : q_qb xi = 2147483648 + n) (hlo : lo ≤ 2147483648 + n) (hhi : 2147483648 + n ≤ hi) (hc : z_v sa ad ts vs c (.int xv)) (kc : c.1 = 0) : (z_el T.2.2.1 (n % T.2.2.2.1)).1 ≤ q_qb xv ∧ q_qb xv ≤ (z_el T.2.2.1 (n % T.2.2.2.1)).2 := by
  unfold z_sto at h
  obtain ⟨x1, y1, e1, e2, e3⟩ := z_rng_s (per := T.2.2.2.1) (a := Nat.sub lo 2147483648) (b := Nat.sub hi 2147483648) (j := n) (k := fun x y => (fun r : Nat × Nat => Nat.ble r.1 (z_il V c) && Nat.ble (z_ih V c) r.2) (z_na T.2.2.1 x y)) (by rw [Nat.sub_eq]; omega) (by rw [Nat.sub_eq]; omega)
  rw [e1] at h
  have hb := z_il_le hE hc kc
  have hna := z_na_s T.2.2.1 x1 y1 (n % T.2.2.2.1) e2 e3
  have h : (bif (Nat.ble (z_na T.2.2.1 x1 y1).1 (z_il V c) && Nat.ble (z_ih V c) (z_na T.2.2.1 x1 y1).2) then true else Nat.beq c.2.2 2147483648 && z_any (fun d : z_B => Nat.beq d.1 c.2.1 && (Nat.beq d.2.2.2.1 ic.2.1 && (Nat.beq (Nat.mod d.2.2.2.2 T.2.2.2.1) (Nat.mod ic.2.2 T.2.2.2.1) && (z_leq (tt d.2.1).2.2.1 T.2.2.1 && Nat.beq (tt d.2.1).2.2.2.1 T.2.2.2.1)))) V.2.2.2.2.1) = true := h
  cases h1 : (Nat.ble (z_na T.2.2.1 x1 y1).1 (z_il V c) && Nat.ble (z_ih V c) (z_na T.2.2.1 x1 y1).2) with
  | true =>
    have g1 := q_ble.mp (q_ands h1).1
    have g2 := q_ble.mp (q_ands h1).2
    omega
  | false =>
    rw [q_iff _ _ h1] at h
    obtain ⟨g1, g2⟩ := q_ands h
    have g1 := q_beq.mp g1
    obtain ⟨b, b1, b2⟩ := z_any_iff.mp g2
    obtain ⟨b3, b2⟩ := q_ands b2
    obtain ⟨b4, b2⟩ := q_ands b2
    obtain ⟨b5, b2⟩ := q_ands b2
    obtain ⟨b6, b7⟩ := q_ands b2
    have b3 := q_beq.mp b3
    have b4 := q_beq.mp b4
    have b5 : b.2.2.2.2 % T.2.2.2.1 = ic.2.2 % T.2.2.2.1 := q_beq.mp b5
    have b6 := z_leq_eq b6
    have b7 := q_beq.mp b7
    obtain ⟨x0, y0, k0, d1, d2, d3, d4, d5, d6⟩ := hD b b1
    obtain ⟨xx, yy, f1, f2, f3⟩ := hc.int kc
    cases f2
    rw [b3, f1] at d1
    cases d1
    have ex : x0 = xv := (q_eq_iff x0 xv).mpr (by omega)
    subst ex
    have ho := z_off d2 hic d3 kic b4
    have hm : n % T.2.2.2.1 = k0 % T.2.2.2.1 := z_modeq (show n + b.2.2.2.2 = k0 + ic.2.2 by omega) b5
    rw [b6, b7] at d5 d6
    rw [hm]
    exact ⟨d5, d6⟩
/-- the world behind a write -/
theorem z_Hp.set {base : Nat} {D : va_G} {tt : Nat → z_T} {kw : List z_C} {s : State} {w0 : va_W} {t0 : List Nat} {H H1 : Heap} {locs locs1 : List Loc} {ws : va_W} {tys : List (ClassId × FieldType)} {ts : List Nat} (hp : z_Hp base D tt kw s w0 t0 H locs ws tys ts) {j a t : Nat} {e e' : va_E} (he : ws[j]? = some (a, e)) (ht : ts[j]? = some t) (hc : z_cell (q_ad ws) ts tys (tt t) e') (hs : ∀ k v, z_at e k = some v → ¬ z_wr kw t k → z_at e' k = some v) (hP1 : va_P D q_cls (ws.set j (a, e')) H1) (hD1 : va_D (q_A base) (ws.set j (a, e'))) (hS1 : va_S (q_A base) s.heap H1 locs1) : z_Hp base D tt kw s w0 t0 H1 locs1 (ws.set j (a, e')) tys ts := ⟨hp.1.set he ht hc, hP1, hp.2.2.1, hD1, hS1, hp.2.2.2.2.2.set he ht hs⟩
theorem z_setF_m (V : z_V) (F : List z_A) : (z_setF V F).2.2.2.2.2 = V.2.2.2.2.2 := rfl
theorem z_Sv.setF {sa : Nat → Nat} {tt : Nat → z_T} {vs0 : List Value} {ws ws' : va_W} {ts ts' : List Nat} {V : z_V} {vs : List Value} (h : z_Sv sa tt vs0 ws ts V vs) {F : List z_A} (hF : z_Fs sa ws' ts' vs F) (hp : q_ad ws <+: q_ad ws') (hq : ts <+: ts') : z_Sv sa tt vs0 ws' ts' (z_setF V F) vs := ⟨h.1, h.2.1.same rfl rfl rfl, hF, h.2.2.2.mono List.prefix_rfl hp hq⟩
section ZI
variable {l : Launch} {base : Nat} {D : va_G} {sa : Nat → Nat} {g : z_G} {J : va_W → List Nat → Prop} {ih : z_F} {d : Nat × Nat} {i pc ln x y z : Nat} {tl : List q_I} {V : z_V} {L st : List z_C} {sp : List Nat} {cx : List z_X} {os : List z_O}
theorem z_upd_in {cA : ClassId} {f : Nat → Int32} {n m k : Nat} {x : Int32} {v : Value} (h : z_at (.inl (cA, m, .inl f)) k = some v) (hk : ¬ k = n) : z_at (.inl (cA, m, .inl (upd f n x))) k = some v := by
  have h : (if k < m then some (Value.int (f k)) else none) = some v := h
  show (if k < m then some (Value.int (upd f n x k)) else none) = some v
  rw [pk_un hk]
  exact h
theorem z_upd_at {cA : ClassId} {f : Nat → Int32} {n m : Nat} {x : Int32} (h : n < m) : z_at (.inl (cA, m, .inl (upd f n x))) n = some (.int x) := by
  show (if n < m then some (Value.int (upd f n x n)) else none) = _
  rw [if_pos h, pk_us]
theorem z_s_iastore (hd : decode (q_b i) pc = .ok (.iastore, ln)) (hk : q_lnk i pc ln (.iastore) x y z) (hgx : z_gx cx) (hN : z_HN l base D sa g J ih d i (pc + ln) tl sp) (hr : z_step g q_code ih d i (q_code i) pc (.iastore) x y z tl V L st sp cx = some os) : z_Ok l base D sa g J d i pc V L st cx os := by
  have e1 : ln = 1 := hk
  subst e1
  match st, hr with
  | [], hr => cases hr
  | [_], hr => cases hr
  | [_, _], hr => cases hr
  | b :: j :: a :: r, hr =>
    have hr : z_ias g.1 g.2.1 V a j b (fun w => ih d i (q_code i) tl w L r sp cx) = some os := hr
    intro p e s m args below meth c Q w0 t0 vs0 H locs ls sv ws tys ts vs C hp hv hL hs hx hf
    obtain ⟨vb, sv1, rfl, hvb, hs1⟩ := hs.cons
    obtain ⟨vj, sv2, rfl, hvj, hs2⟩ := hs1.cons
    obtain ⟨va, sv3, rfl, hva, hs3⟩ := hs2.cons
    obtain ⟨g1, g2, g3, g4, g5, g6, hr2⟩ := z_ix_inv hr
    obtain ⟨q, jj, rfl, v1, v2, v3⟩ := hva.nonnull hv.2.1 g1
    obtain ⟨en, he, hc⟩ := hp.1.cell v2 v3
    obtain ⟨n, rfl, n1, n2, n3, n4, n5, n6, n7, n8⟩ := z_idx hv.2.1 hvj g2 g3 g4 g5
    clear hr
    generalize (bif Nat.beq (z_il V j) (z_ih V j) then ((0, 0, z_il V j) : z_C) else j) = ic at n7 n8 hr2
    generalize z_il V j = lo at g3 n5 hr2
    generalize z_ih V j = hi at g4 n6 hr2
    have hr2 : (bif Nat.beq (g.1 a.2.2).1 1 && (Nat.beq b.1 0 && (z_sto g.1 V (g.1 a.2.2) ic lo hi b && z_kw g.2.1 a.2.2 lo hi)) then ih d i (q_code i) tl (z_setF V (bif Nat.beq lo hi || Nat.beq (g.1 a.2.2).2.2.2.2 2 then (a.2.1, a.2.2, ic, b) :: z_flt (z_kp V a.2.2 ic lo hi b) V.2.2.2.1 else z_flt (z_kp V a.2.2 ic lo hi b) V.2.2.2.1)) L r sp cx else none) = some os := hr2
    obtain ⟨h1, hr3⟩ := q_bifs hr2
    clear hr2
    obtain ⟨h1, h2⟩ := q_ands h1
    obtain ⟨h2, h3⟩ := q_ands h2
    obtain ⟨h3, h4⟩ := q_ands h3
    have kb := q_beq.mp h2
    obtain ⟨_, xv, -, rfl, -⟩ := id (hvb.int kb)
    obtain ⟨cA, t, f, rfl, ht, hbd⟩ := hc.ints (q_beq.mp h1)
    have hst := z_sto_s h3 hv.2.1 hv.2.2.2 n7 n8 n2 n5 n6 hvb kb
    have hc2 : z_cell (q_ad ws) ts tys (g.1 a.2.2) (.inl (cA, (g.1 a.2.2).2.1, .inl (upd f n xv))) := Or.inr (Or.inl ⟨q_beq.mp h1, cA, t, _, rfl, ht, fun k hk => by
      by_cases ek : k = n
      · subst ek
        rw [pk_us]
        exact hst
      · rw [pk_un ek]
        exact hbd k hk⟩)
    refine va_iast C.1.1 C.1.2.1 hp.2.2.1 hp.2.1 hp.2.2.2.1 hp.2.2.2.2.1 jj t he ht n4 hd (fun H1 locs1 hP1 hD1 hS1 => ?_)
    rw [n3] at hP1 hD1
    have hp2 := hp.set he v3 hc2 (fun k v hk hw => z_upd_in hk (fun e9 => hw (z_wr.of h4 (by omega) (by omega)))) hP1 hD1 hS1
    have hF2 := z_keep hv.2.1 hv.2.2.1 (e' := .inl (cA, (g.1 a.2.2).2.1, .inl (upd f n xv))) (c := b) (w := .int xv) hp.2.2.2.1 he v3 n7 n8 n2 n5 n6 (fun k v ek hk => z_upd_in hk ek) (fun _ _ => z_upd_at n1) (Or.inl hvb)
    have hq : q_ad ws <+: q_ad (ws.set jj (q, .inl (cA, (g.1 a.2.2).2.1, .inl (upd f n xv)))) := by rw [q_ad_set ws jj q _ _ he]; exact List.prefix_rfl
    have hF3 : z_Fs sa (ws.set jj (q, .inl (cA, (g.1 a.2.2).2.1, .inl (upd f n xv)))) ts vs (bif Nat.beq lo hi || Nat.beq (g.1 a.2.2).2.2.2.2 2 then (a.2.1, a.2.2, ic, b) :: z_flt (z_kp V a.2.2 ic lo hi b) V.2.2.2.1 else z_flt (z_kp V a.2.2 ic lo hi b) V.2.2.2.1) := by
      cases hb9 : (Nat.beq lo hi || Nat.beq (g.1 a.2.2).2.2.2.2 2) with
      | false => exact hF2
      | true =>
        intro f9 hf9
        rcases List.mem_cons.mp hf9 with rfl | hf9
        · exact ⟨q, jj, n, .inl (cA, (g.1 a.2.2).2.1, .inl (upd f n xv)), nI n, .int xv, v1, by rw [List.getElem?_set_self (List.getElem?_eq_some_iff.mp he).1], v3, n7.mono List.prefix_rfl hq List.prefix_rfl, n8, n2, z_upd_at n1, hvb.mono List.prefix_rfl hq List.prefix_rfl⟩
        · exact hF2 f9 hf9
    exact z_go (hN _ L r cx os hgx hr3) hgx C hp2 (hv.setF hF3 hq List.prefix_rfl) List.prefix_rfl (hL.mono List.prefix_rfl hq List.prefix_rfl) (z_Sr.mono List.prefix_rfl hq List.prefix_rfl hs3) hx hf (n := V.2.2.2.2.2) (z_setF_m V _)
theorem z_bool01 {c : z_C} {vs : List Value} {ad ts : List Nat} {xv : Int32} (hE : z_E V vs) (hc : z_v sa ad ts vs c (.int xv)) (kc : c.1 = 0) (h1 : z_po V c = true) (h2 : Nat.ble (z_ih V c) 2147483649 = true) : ∃ w, w < 2 ∧ xv = nI w := by
  have hb := z_il_le hE hc kc
  have h1 := z_po_iff.mp h1
  have h2 := q_ble.mp h2
  obtain ⟨n, hn, en, en2⟩ := z_nat (x := xv) (by omega)
  exact ⟨n, by omega, en⟩
theorem z_s_bastore (hbyte : ∀ t, (g.1 t).1 = 3 → ∀ (k : Nat) (w : Int32), (z_el (g.1 t).2.2.1 (k % (g.1 t).2.2.2.1)).1 ≤ q_qb w ∧ q_qb w ≤ (z_el (g.1 t).2.2.1 (k % (g.1 t).2.2.2.1)).2) (hd : decode (q_b i) pc = .ok (.bastore, ln)) (hk : q_lnk i pc ln (.bastore) x y z) (hgx : z_gx cx) (hN : z_HN l base D sa g J ih d i (pc + ln) tl sp) (hr : z_step g q_code ih d i (q_code i) pc (.bastore) x y z tl V L st sp cx = some os) : z_Ok l base D sa g J d i pc V L st cx os := by
  have e1 : ln = 1 := hk
  subst e1
  match st, hr with
  | [], hr => cases hr
  | [_], hr => cases hr
  | [_, _], hr => cases hr
  | b :: j :: a :: r, hr =>
    have hr : z_bas g.1 g.2.1 V a j b (fun w => ih d i (q_code i) tl w L r sp cx) = some os := hr
    intro p e s m args below meth c Q w0 t0 vs0 H locs ls sv ws tys ts vs C hp hv hL hs hx hf
    obtain ⟨vb, sv1, rfl, hvb, hs1⟩ := hs.cons
    obtain ⟨vj, sv2, rfl, hvj, hs2⟩ := hs1.cons
    obtain ⟨va, sv3, rfl, hva, hs3⟩ := hs2.cons
    obtain ⟨g1, g2, g3, g4, g5, g6, hr2⟩ := z_ix_inv hr
    obtain ⟨q, jj, rfl, v1, v2, v3⟩ := hva.nonnull hv.2.1 g1
    obtain ⟨en, he, hc⟩ := hp.1.cell v2 v3
    obtain ⟨n, rfl, n1, n2, n3, n4, n5, n6, n7, n8⟩ := z_idx hv.2.1 hvj g2 g3 g4 g5
    clear hr
    generalize (bif Nat.beq (z_il V j) (z_ih V j) then ((0, 0, z_il V j) : z_C) else j) = ic at n7 n8 hr2
    generalize z_il V j = lo at g3 n5 hr2
    generalize z_ih V j = hi at g4 n6 hr2
    have hr2 : (bif (Nat.beq (g.1 a.2.2).1 3 || (Nat.beq (g.1 a.2.2).1 5 && (z_sto g.1 V (g.1 a.2.2) ic lo hi b && (z_po V b && Nat.ble (z_ih V b) 2147483649)))) && (Nat.beq b.1 0 && z_kw g.2.1 a.2.2 lo hi) then ih d i (q_code i) tl (z_setF V (bif Nat.beq lo hi && Nat.beq (g.1 a.2.2).1 5 then (a.2.1, a.2.2, ic, b) :: z_flt (z_kp V a.2.2 ic lo hi (bif Nat.beq (g.1 a.2.2).1 5 then b else (8, 0, 0))) V.2.2.2.1 else z_flt (z_kp V a.2.2 ic lo hi (bif Nat.beq (g.1 a.2.2).1 5 then b else (8, 0, 0))) V.2.2.2.1)) L r sp cx else none) = some os := hr2
    obtain ⟨h1, hr3⟩ := q_bifs hr2
    clear hr2
    obtain ⟨h1, h2⟩ := q_ands h1
    obtain ⟨h2, h4⟩ := q_ands h2
    have kb := q_beq.mp h2
    obtain ⟨_, xv, -, rfl, -⟩ := id (hvb.int kb)
    rcases q_ors h1 with h1 | h1
    · have k3 := q_beq.mp h1
      obtain ⟨cA, t, f, rfl, ht, hbd⟩ := hc.bytes k3
      have hfl : ∀ k, k < (g.1 a.2.2).2.1 → (z_el (g.1 a.2.2).2.2.1 (k % (g.1 a.2.2).2.2.2.1)).1 ≤ q_qb (upd f n (vp_nar .byte xv) k) ∧ q_qb (upd f n (vp_nar .byte xv) k) ≤ (z_el (g.1 a.2.2).2.2.1 (k % (g.1 a.2.2).2.2.2.1)).2 := fun k hk => by
        by_cases ek : k = n
        · subst ek
          rw [pk_us]
          exact hbyte a.2.2 k3 _ _
        · rw [pk_un ek]
          exact hbd k hk
      have hc2 : z_cell (q_ad ws) ts tys (g.1 a.2.2) (.inl (cA, (g.1 a.2.2).2.1, .inl (upd f n (vp_nar .byte xv)))) := Or.inr (Or.inr (Or.inl ⟨k3, cA, t, _, rfl, ht, hfl⟩))
      refine va_bast C.1.1 C.1.2.1 hp.2.2.1 hp.2.1 hp.2.2.2.1 hp.2.2.2.2.1 jj t he ht n4 hd (fun H1 locs1 hP1 hD1 hS1 => ?_)
      rw [n3] at hP1 hD1
      have hp2 := hp.set he v3 hc2 (fun k v hk hw => z_upd_in hk (fun e9 => hw (z_wr.of h4 (by omega) (by omega)))) hP1 hD1 hS1
      have h5 : Nat.beq (g.1 a.2.2).1 5 = false := q_bneq.mpr (by omega)
      rw [h5] at hr3
      have hF2 := z_keep hv.2.1 hv.2.2.1 (e' := .inl (cA, (g.1 a.2.2).2.1, .inl (upd f n (vp_nar .byte xv)))) (c := (8, 0, 0)) (w := .int (vp_nar .byte xv)) hp.2.2.2.1 he v3 n7 n8 n2 n5 n6 (fun k v ek hk => z_upd_in hk ek) (fun _ _ => z_upd_at n1) (Or.inr rfl)
      have hq : q_ad ws <+: q_ad (ws.set jj (q, .inl (cA, (g.1 a.2.2).2.1, .inl (upd f n (vp_nar .byte xv))))) := by rw [q_ad_set ws jj q _ _ he]; exact List.prefix_rfl
      have hF3 : z_Fs sa (ws.set jj (q, .inl (cA, (g.1 a.2.2).2.1, .inl (upd f n (vp_nar .byte xv))))) ts vs (bif Nat.beq lo hi && false then (a.2.1, a.2.2, ic, b) :: z_flt (z_kp V a.2.2 ic lo hi (8, 0, 0)) V.2.2.2.1 else z_flt (z_kp V a.2.2 ic lo hi (8, 0, 0)) V.2.2.2.1) := by
        rw [Bool.and_false]
        exact hF2
      exact z_go (hN _ L r cx os hgx hr3) hgx C hp2 (hv.setF hF3 hq List.prefix_rfl) List.prefix_rfl (hL.mono List.prefix_rfl hq List.prefix_rfl) (z_Sr.mono List.prefix_rfl hq List.prefix_rfl hs3) hx hf (n := V.2.2.2.2.2) (z_setF_m V _)
    · obtain ⟨h5, h6⟩ := q_ands h1
      obtain ⟨h6, h7⟩ := q_ands h6
      obtain ⟨h7, h8⟩ := q_ands h7
      have k5 := q_beq.mp h5
      obtain ⟨w9, hw9, ew9⟩ := z_bool01 hv.2.1 hvb kb h7 h8
      obtain ⟨cA, t, f, rfl, ht, hbd⟩ := hc.bools k5
      have hst := z_sto_s h6 hv.2.1 hv.2.2.2 n7 n8 n2 n5 n6 hvb kb
      have enar : vp_nar .boolean xv = xv := by rw [ew9]; exact q_nar_z w9 hw9
      have hc2 : z_cell (q_ad ws) ts tys (g.1 a.2.2) (.inl (cA, (g.1 a.2.2).2.1, .inl (upd f n xv))) := Or.inr (Or.inr (Or.inr (Or.inl ⟨k5, cA, t, _, rfl, ht, fun k hk => by
        by_cases ek : k = n
        · subst ek
          rw [pk_us]
          exact hst
        · rw [pk_un ek]
          exact hbd k hk⟩)))
      refine va_zast C.1.1 C.1.2.1 hp.2.2.1 hp.2.1 hp.2.2.2.1 hp.2.2.2.2.1 jj t he ht n4 hd (fun H1 locs1 hP1 hD1 hS1 => ?_)
      rw [n3, enar] at hP1 hD1
      have hp2 := hp.set he v3 hc2 (fun k v hk hw => z_upd_in hk (fun e9 => hw (z_wr.of h4 (by omega) (by omega)))) hP1 hD1 hS1
      rw [h5] at hr3
      have hF2 := z_keep hv.2.1 hv.2.2.1 (e' := .inl (cA, (g.1 a.2.2).2.1, .inl (upd f n xv))) (c := b) (w := .int xv) hp.2.2.2.1 he v3 n7 n8 n2 n5 n6 (fun k v ek hk => z_upd_in hk ek) (fun _ _ => z_upd_at n1) (Or.inl hvb)
      have hq : q_ad ws <+: q_ad (ws.set jj (q, .inl (cA, (g.1 a.2.2).2.1, .inl (upd f n xv)))) := by rw [q_ad_set ws jj q _ _ he]; exact List.prefix_rfl
      have hF3 : z_Fs sa (ws.set jj (q, .inl (cA, (g.1 a.2.2).2.1, .inl (upd f n xv)))) ts vs (bif Nat.beq lo hi && true then (a.2.1, a.2.2, ic, b) :: z_flt (z_kp V a.2.2 ic lo hi b) V.2.2.2.1 else z_flt (z_kp V a.2.2 ic lo hi b) V.2.2.2.1) := by
        cases hb9 : (Nat.beq lo hi && true) with
        | false => exact hF2
        | true =>
          intro f9 hf9
          rcases List.mem_cons.mp hf9 with rfl | hf9
          · exact ⟨q, jj, n, .inl (cA, (g.1 a.2.2).2.1, .inl (upd f n xv)), nI n, .int xv, v1, by rw [List.getElem?_set_self (List.getElem?_eq_some_iff.mp he).1], v3, n7.mono List.prefix_rfl hq List.prefix_rfl, n8, n2, z_upd_at n1, hvb.mono List.prefix_rfl hq List.prefix_rfl⟩
          · exact hF2 f9 hf9
      exact z_go (hN _ L r cx os hgx hr3) hgx C hp2 (hv.setF hF3 hq List.prefix_rfl) List.prefix_rfl (hL.mono List.prefix_rfl hq List.prefix_rfl) (z_Sr.mono List.prefix_rfl hq List.prefix_rfl hs3) hx hf (n := V.2.2.2.2.2) (z_setF_m V _)
end ZI
end
section
/-! ===== instruction by instruction: fields, refs and longs written; copies; ends ===== -/
theorem z_cats_s {sa : Nat → Nat} {ad ts : List Nat} {vs : List Value} : ∀ {st : List z_C} {sv : List Value}, z_Sr sa ad ts vs st sv → (sv.map fun v => v.category).sum ≤ z_cats st
  | [], [], _ => Nat.zero_le _
  | c :: st, v :: sv, h => by
    have ih := z_cats_s h.2
    have e : z_cats (c :: st) = (bif Nat.beq c.1 3 then 2 else 1) + z_cats st := rfl
    rw [e, List.map_cons, List.sum_cons]
    cases hb : Nat.beq c.1 3 with
    | true =>
      have : v.category ≤ 2 := by rcases lv_cat v with h | h <;> omega
      show _ ≤ 2 + z_cats st
      omega
    | false =>
      have := h.1.cat1 (q_bneq.mp hb)
      show _ ≤ 1 + z_cats st
      omega
  | [], _ :: _, h => h.elim
  | _ :: _, [], h => h.elim
section ZI
variable {l : Launch} {base : Nat} {D : va_G} {sa : Nat → Nat} {g : z_G} {J : va_W → List Nat → Prop} {ih : z_F} {d : Nat × Nat} {i pc ln x y z : Nat} {tl : List q_I} {V : z_V} {L st : List z_C} {sp : List Nat} {cx : List z_X} {os : List z_O}
theorem z_s_put {n : Nat} (hcl : q_clok) (hd : decode (q_b i) pc = .ok (.putfield n, ln)) (hk : q_lnk i pc ln (.putfield n) x y z) (hgx : z_gx cx) (hN : z_HN l base D sa g J ih d i (pc + ln) tl sp) (hr : z_step g q_code ih d i (q_code i) pc (.putfield n) x y z tl V L st sp cx = some os) : z_Ok l base D sa g J d i pc V L st cx os := by
  obtain ⟨e1, rc, hrc, hy, hlk, hfin, ty, hty, hz⟩ := hk
  subst e1
  match st, hr with
  | [], hr => cases hr
  | [_], hr => cases hr
  | b :: a :: r, hr =>
    have hr : (bif z_nn V a && (Nat.beq (g.1 a.2.2).1 0 && (Nat.beq (g.1 a.2.2).2.1 x && (z_fit V (z_nth (g.1 a.2.2).2.2.1 y) b && (z_kw g.2.1 a.2.2 (Nat.add 2147483648 y) (Nat.add 2147483648 y) && (bif Nat.beq z 0 then Nat.beq b.1 0 else bif Nat.beq z 1 then Nat.beq b.1 0 && (z_po V b && Nat.ble (z_ih V b) 2147483649) else bif Nat.beq z 2 then Nat.beq b.1 1 || (Nat.beq b.1 2 && Nat.beq b.2.2 0) else Nat.beq b.1 3))))) then ih d i (q_code i) tl (z_setF V ((a.2.1, a.2.2, z_kc y, b) :: z_flt (z_kp V a.2.2 (z_kc y) (Nat.add 2147483648 y) (Nat.add 2147483648 y) b) V.2.2.2.1)) L r sp cx else none) = some os := hr
    obtain ⟨h1, hr2⟩ := q_bifs hr
    clear hr
    obtain ⟨h1, h2⟩ := q_ands h1
    obtain ⟨h2, h3⟩ := q_ands h2
    obtain ⟨h3, h4⟩ := q_ands h3
    obtain ⟨h4, h5⟩ := q_ands h4
    obtain ⟨h5, h6⟩ := q_ands h5
    have h2 := q_beq.mp h2
    have h3 := q_beq.mp h3
    rw [Nat.add_eq] at h5
    intro p e s m args below meth c Q w0 t0 vs0 H locs ls sv ws tys ts vs C hp hv hL hs hx hf
    obtain ⟨vb, sv1, rfl, hvb, hs1⟩ := hs.cons
    obtain ⟨va, sv2, rfl, hva, hs2⟩ := hs1.cons
    obtain ⟨q, jj, rfl, v1, v2, v3⟩ := hva.nonnull hv.2.1 h1
    obtain ⟨en, he, hc⟩ := hp.1.cell v2 v3
    obtain ⟨fs, rfl, f1, f2⟩ := hc.obj h2
    have hsmall : y < 2147483648 := by
      have := q_small x rc hrc
      omega
    obtain ⟨u1, u2⟩ := z_kc_v (sa := sa) (ad := q_ad ws) (ts := ts) hv.2.1 hsmall
    have htv := z_fit_s h4 hv.2.1 hvb
    have hlen : y < fs.length := by
      rw [f1]
      rcases Nat.lt_or_ge y (g.1 a.2.2).2.2.1.length with h | h
      · exact h
      · have e9 : z_nth (g.1 a.2.2).2.2.1 y = (9, 0, 0) := by
          show q_nth _ _ _ = _
          rw [q_nth_eq, List.getD_eq_getElem?_getD, List.getElem?_eq_none h]
          rfl
        rw [e9] at h4
        cases h4
    have hval : narrow ty vb = vb ∧ fits ty vb = true := by
      rcases hz with ⟨rfl, rfl⟩ | ⟨rfl, rfl⟩ | ⟨rfl, ht⟩ | ⟨rfl, rfl⟩
      · have h6 : Nat.beq b.1 0 = true := h6
        obtain ⟨_, xv, -, rfl, -⟩ := id (hvb.int (q_beq.mp h6))
        exact ⟨rfl, rfl⟩
      · have h6 : (Nat.beq b.1 0 && (z_po V b && Nat.ble (z_ih V b) 2147483649)) = true := h6
        obtain ⟨k1, k2⟩ := q_ands h6
        obtain ⟨_, xv, -, rfl, -⟩ := id (hvb.int (q_beq.mp k1))
        obtain ⟨w, hw, ew⟩ := z_bool01 hv.2.1 hvb (q_beq.mp k1) (q_ands k2).1 (q_ands k2).2
        rw [ew]
        exact q_fit_z w hw
      · have h6 : (Nat.beq b.1 1 || (Nat.beq b.1 2 && Nat.beq b.2.2 0)) = true := h6
        have h6 : b.1 = 1 ∨ (b.1 = 2 ∧ b.2.2 = 0) := by
          rcases q_ors h6 with h6 | h6
          · exact Or.inl (q_beq.mp h6)
          · exact Or.inr ⟨q_beq.mp (q_ands h6).1, q_beq.mp (q_ands h6).2⟩
        rcases hvb.obj h6 with rfl | ⟨k, rfl⟩
        · rcases ht with ⟨n, rfl⟩ | ⟨t, rfl⟩ <;> exact ⟨rfl, rfl⟩
        · rcases ht with ⟨n, rfl⟩ | ⟨t, rfl⟩ <;> exact ⟨rfl, rfl⟩
      · have h6 : Nat.beq b.1 3 = true := h6
        obtain ⟨xv, rfl, _⟩ := hvb.lng (q_beq.mp h6)
        exact ⟨rfl, rfl⟩
    rw [h3] at he
    have hother : ∀ k v, ¬ k = y → z_at (.inr (x, fs)) k = some v → z_at (.inr (x, fs.set y vb)) k = some v := fun k v ek hk => by
      show (fs.set y vb)[k]? = some v
      rw [List.getElem?_set_ne (fun z => ek z.symm)]
      exact hk
    have hself : z_at (.inr (x, fs.set y vb)) y = some vb := List.getElem?_set_self hlen
    have hc2 : z_cell (q_ad ws) ts tys (g.1 a.2.2) (.inr (x, fs.set y vb)) := Or.inl ⟨h2, fs.set y vb, by rw [h3], by rw [List.length_set]; exact f1, fun k v hk => by
      by_cases ek : k = y
      · subst ek
        rw [List.getElem?_set_self hlen] at hk
        cases hk
        exact htv
      · rw [List.getElem?_set_ne (fun z => ek z.symm)] at hk
        exact f2 k v hk⟩
    have kk : ∀ (H1 : Heap) (locs1 : List Loc), va_P D q_cls (ws.set jj (q, .inr (x, fs.set y vb))) H1 → va_D (q_A base) (ws.set jj (q, .inr (x, fs.set y vb))) → va_S (q_A base) s.heap H1 locs1 → W p l e (q_rm d.1 (9 * d.2) (446 * d.2)) s m args below meth c H1 locs1 (9 * V.2.2.2.2.2) (446 * V.2.2.2.2.2) Q (F0 m (pc + 3) ls sv2) := by
      intro H1 locs1 hP1 hD1 hS1
      have hp2 := hp.set he v3 hc2 (fun k v hk hw => hother k v (fun e9 => hw (by rw [e9]; exact z_wr.of h5 (Nat.le_refl _) (Nat.le_refl _))) hk) hP1 hD1 hS1
      have hF2 := z_keep hv.2.1 hv.2.2.1 (e' := .inr (x, fs.set y vb)) (c := b) (w := vb) (lo := Nat.add 2147483648 y) (hi := Nat.add 2147483648 y) hp.2.2.2.1 he v3 u1 rfl u2 (by rw [Nat.add_eq]; exact Nat.le_refl _) (by rw [Nat.add_eq]; exact Nat.le_refl _) hother (fun _ _ => hself) (Or.inl hvb)
      have hq : q_ad ws <+: q_ad (ws.set jj (q, .inr (x, fs.set y vb))) := by rw [q_ad_set ws jj q _ _ he]; exact List.prefix_rfl
      have hF3 : z_Fs sa (ws.set jj (q, .inr (x, fs.set y vb))) ts vs ((a.2.1, a.2.2, z_kc y, b) :: z_flt (z_kp V a.2.2 (z_kc y) (Nat.add 2147483648 y) (Nat.add 2147483648 y) b) V.2.2.2.1) := by
        intro f9 hf9
        rcases List.mem_cons.mp hf9 with rfl | hf9
        · exact ⟨q, jj, y, .inr (x, fs.set y vb), nI y, vb, v1, by rw [List.getElem?_set_self (List.getElem?_eq_some_iff.mp he).1], v3, u1.mono List.prefix_rfl hq List.prefix_rfl, rfl, u2, hself, hvb.mono List.prefix_rfl hq List.prefix_rfl⟩
        · exact hF2 f9 hf9
      exact z_go (hN _ L r cx os hgx hr2) hgx C hp2 (hv.setF hF3 hq List.prefix_rfl) List.prefix_rfl (hL.mono List.prefix_rfl hq List.prefix_rfl) (z_Sr.mono List.prefix_rfl hq List.prefix_rfl hs2) hx hf (n := V.2.2.2.2.2) (z_setF_m V _)
    rcases hfin with hfin | ⟨hfin, hi1, hi2⟩
    · exact va_put (D := D) (ci := x) (C := rc.1) (T := rc.2.1) (N := rc.2.2) C.1.1 C.1.2.1 C.1.2.2.2.2.2.1 (hcl x rc hrc).1 _ (hcl x rc hrc).2.1 (hcl x rc hrc).2.2 C.1.2.2.2.2.1 hp.2.2.1 hp.2.1 hp.2.2.2.1 hp.2.2.2.2.1 jj he hrc y hy (C.1.2.2.2.2.2.1 _ hlk) (fun _ h9 => h9) hfin hty hval.1 hval.2 hlen hd kk
    · exact va_putF (D := D) (ci := x) (C := rc.1) (T := rc.2.1) (N := rc.2.2) C.1.1 C.1.2.1 C.1.2.2.2.2.2.1 (hcl x rc hrc).1 _ (hcl x rc hrc).2.1 (hcl x rc hrc).2.2 C.1.2.2.2.2.1 hp.2.2.1 hp.2.1 hp.2.2.2.1 hp.2.2.2.2.1 jj he hrc y hy (C.1.2.2.2.2.2.1 _ hlk) (fun _ h9 => h9) hfin (C.1.2.2.2.2.2.2.2.2.1.trans hi1) hi2 hty hval.1 hval.2 hlen hd kk
theorem z_s_lastore (hd : decode (q_b i) pc = .ok (.lastore, ln)) (hk : z_lnk i pc ln (.lastore) x y z) (hgx : z_gx cx) (hN : z_HN l base D sa g J ih d i (pc + ln) tl sp) (hr : z_step g q_code ih d i (q_code i) pc (.lastore) x y z tl V L st sp cx = some os) : z_Ok l base D sa g J d i pc V L st cx os := by
  have e1 : ln = 1 := hk
  subst e1
  match st, hr with
  | [], hr => cases hr
  | [_], hr => cases hr
  | [_, _], hr => cases hr
  | b :: j :: a :: r, hr =>
    have hr : z_ix g.1 V a j (fun T _ _ _ => bif Nat.beq T.1 7 && Nat.beq b.1 3 then ih d i (q_code i) tl V L r sp cx else none) = some os := hr
    intro p e s m args below meth c Q w0 t0 vs0 H locs ls sv ws tys ts vs C hp hv hL hs hx hf
    obtain ⟨vb, sv1, rfl, hvb, hs1⟩ := hs.cons
    obtain ⟨vj, sv2, rfl, hvj, hs2⟩ := hs1.cons
    obtain ⟨va, sv3, rfl, hva, hs3⟩ := hs2.cons
    obtain ⟨g1, g2, g3, g4, g5, g6, hr2⟩ := z_ix_inv hr
    obtain ⟨q, jj, rfl, v1, v2, v3⟩ := hva.nonnull hv.2.1 g1
    obtain ⟨en, he, hc⟩ := hp.1.cell v2 v3
    obtain ⟨n, rfl, n1, n2, n3, n4, n5, n6, n7, n8⟩ := z_idx hv.2.1 hvj g2 g3 g4 g5
    clear hr
    obtain ⟨h1, hr3⟩ := q_bifs hr2
    clear hr2
    obtain ⟨h1, h2⟩ := q_ands h1
    obtain ⟨xv, rfl, -⟩ := id (hvb.lng (q_beq.mp h2))
    obtain ⟨cA, t, f, rfl, ht⟩ := hc.longs (q_beq.mp h1)
    refine va_last C.1.1 C.1.2.1 hp.2.2.1 hp.2.1 hp.2.2.2.1 hp.2.2.2.2.1 jj t he ht n4 hd (fun H1 locs1 hP1 hD1 hS1 => ?_)
    rw [n3] at hP1 hD1
    have hc2 : z_cell (q_ad ws) ts tys (g.1 a.2.2) (.inl (cA, (g.1 a.2.2).2.1, .inr (.inl (vp_updL f n xv)))) := Or.inr (Or.inr (Or.inr (Or.inr (Or.inl ⟨q_beq.mp h1, cA, t, _, rfl, ht⟩))))
    have hno : ∀ (e9 : va_E) (k9 : Nat) (v9 : Value), z_at (.inl (cA, (g.1 a.2.2).2.1, .inr (.inl f))) k9 = some v9 → z_at e9 k9 = some v9 := fun _ _ _ h9 => by cases h9
    have hq : q_ad ws <+: q_ad (ws.set jj (q, .inl (cA, (g.1 a.2.2).2.1, .inr (.inl (vp_updL f n xv))))) := by rw [q_ad_set ws jj q _ _ he]; exact List.prefix_rfl
    have hp2 := hp.set he v3 hc2 (fun k v hk _ => hno _ k v hk) hP1 hD1 hS1
    have hF2 : z_Fs sa (ws.set jj (q, .inl (cA, (g.1 a.2.2).2.1, .inr (.inl (vp_updL f n xv))))) ts vs V.2.2.2.1 := by
      intro f9 hf9
      obtain ⟨a9, j9, k9, e9, y9, w9, u1, u2, u3, u4, u5, u6, u7, u8⟩ := hv.2.2.1 f9 hf9
      by_cases ej : jj = j9
      · subst ej
        rw [he] at u2
        cases u2
        cases u7
      · exact ⟨a9, j9, k9, e9, y9, w9, u1, by rw [List.getElem?_set_ne ej]; exact u2, u3, u4.mono List.prefix_rfl hq List.prefix_rfl, u5, u6, u7, u8.mono List.prefix_rfl hq List.prefix_rfl⟩
    exact z_go (hN V L r cx os hgx hr3) hgx C hp2 ⟨hv.1, hv.2.1, hF2, hv.2.2.2.mono List.prefix_rfl hq List.prefix_rfl⟩ List.prefix_rfl (hL.mono List.prefix_rfl hq List.prefix_rfl) (z_Sr.mono List.prefix_rfl hq List.prefix_rfl hs3) hx hf rfl
theorem z_s_aastore (hd : decode (q_b i) pc = .ok (.aastore, ln)) (hk : q_lnk i pc ln (.aastore) x y z) (hgx : z_gx cx) (hN : z_HN l base D sa g J ih d i (pc + ln) tl sp) (hr : z_step g q_code ih d i (q_code i) pc (.aastore) x y z tl V L st sp cx = some os) : z_Ok l base D sa g J d i pc V L st cx os := by
  have e1 : ln = 1 := hk
  subst e1
  match st, hr with
  | [], hr => cases hr
  | [_], hr => cases hr
  | [_, _], hr => cases hr
  | b :: j :: a :: r, hr =>
    have hr : z_ix g.1 V a j (fun T _ _ _ => bif Nat.beq T.1 9 && (z_nn V b && (Nat.beq b.2.2 z_tS && (Nat.beq (g.1 z_tS).1 0 && Nat.beq (g.1 z_tS).2.1 5))) then ih d i (q_code i) tl V L r sp cx else none) = some os := hr
    intro p e s m args below meth c Q w0 t0 vs0 H locs ls sv ws tys ts vs C hp hv hL hs hx hf
    obtain ⟨vb, sv1, rfl, hvb, hs1⟩ := hs.cons
    obtain ⟨vj, sv2, rfl, hvj, hs2⟩ := hs1.cons
    obtain ⟨va, sv3, rfl, hva, hs3⟩ := hs2.cons
    obtain ⟨g1, g2, g3, g4, g5, g6, hr2⟩ := z_ix_inv hr
    obtain ⟨q, jj, rfl, v1, v2, v3⟩ := hva.nonnull hv.2.1 g1
    obtain ⟨en, he, hc⟩ := hp.1.cell v2 v3
    obtain ⟨n, rfl, n1, n2, n3, n4, n5, n6, n7, n8⟩ := z_idx hv.2.1 hvj g2 g3 g4 g5
    clear hr
    obtain ⟨h1, hr3⟩ := q_bifs hr2
    clear hr2
    obtain ⟨h1, h2⟩ := q_ands h1
    obtain ⟨h2, h3⟩ := q_ands h2
    obtain ⟨h3, h4⟩ := q_ands h3
    obtain ⟨h4, h5⟩ := q_ands h4
    obtain ⟨qv, jv, rfl, w1, w2, w3⟩ := hvb.nonnull hv.2.1 h2
    rw [q_beq.mp h3] at w3
    obtain ⟨ev, hev, hcv⟩ := hp.1.cell w2 w3
    obtain ⟨fv, rfl, -, -⟩ := hcv.obj (q_beq.mp h4)
    rw [q_beq.mp h5] at hev
    obtain ⟨cA, t, f, rfl, ht, hfr⟩ := hc.refs (q_beq.mp h1)
    have e5 : ∃ r5, q_cls[5]? = some r5 ∧ r5.1 = "SandNights$Sand" := ⟨_, rfl, rfl⟩
    obtain ⟨r5, hr5, hr51⟩ := e5
    refine va_astq C.1.1 C.1.2.1 hp.2.2.1 hp.2.1 hp.2.2.2.1 hp.2.2.2.2.1 jj t jv 5 he (by rw [hr51]; exact ht) hev hr5 n4 hd (fun H1 locs1 hP1 hD1 hS1 => ?_)
    rw [n3] at hP1 hD1
    have hc2 : z_cell (q_ad ws) ts tys (g.1 a.2.2) (.inl (cA, (g.1 a.2.2).2.1, .inr (.inr (.inr (.inr (va_up f n (some qv))))))) := Or.inr (Or.inr (Or.inr (Or.inr (Or.inr ⟨q_beq.mp h1, cA, t, _, rfl, ht, fun k b9 hk hb9 => by
      by_cases ek : k = n
      · subst ek
        have hb9 : (if k = k then some qv else f k) = some b9 := hb9
        rw [if_pos rfl] at hb9
        cases hb9
        exact ⟨jv, qv, rfl, w2, w3⟩
      · have hb9 : (if k = n then some qv else f k) = some b9 := hb9
        rw [if_neg ek] at hb9
        exact hfr k b9 hk hb9⟩))))
    have hno : ∀ (e9 : va_E) (k9 : Nat) (v9 : Value), z_at (.inl (cA, (g.1 a.2.2).2.1, .inr (.inr (.inr (.inr f))))) k9 = some v9 → z_at e9 k9 = some v9 := fun _ _ _ h9 => by cases h9
    have hq : q_ad ws <+: q_ad (ws.set jj (q, .inl (cA, (g.1 a.2.2).2.1, .inr (.inr (.inr (.inr (va_up f n (some qv)))))))) := by rw [q_ad_set ws jj q _ _ he]; exact List.prefix_rfl
    have hp2 := hp.set he v3 hc2 (fun k v hk _ => hno _ k v hk) hP1 hD1 hS1
    have hF2 : z_Fs sa (ws.set jj (q, .inl (cA, (g.1 a.2.2).2.1, .inr (.inr (.inr (.inr (va_up f n (some qv)))))))) ts vs V.2.2.2.1 := by
      intro f9 hf9
      obtain ⟨a9, j9, k9, e9, y9, w9, u1, u2, u3, u4, u5, u6, u7, u8⟩ := hv.2.2.1 f9 hf9
      by_cases ej : jj = j9
      · subst ej
        rw [he] at u2
        cases u2
        cases u7
      · exact ⟨a9, j9, k9, e9, y9, w9, u1, by rw [List.getElem?_set_ne ej]; exact u2, u3, u4.mono List.prefix_rfl hq List.prefix_rfl, u5, u6, u7, u8.mono List.prefix_rfl hq List.prefix_rfl⟩
    exact z_go (hN V L r cx os hgx hr3) hgx C hp2 ⟨hv.1, hv.2.1, hF2, hv.2.2.2.mono List.prefix_rfl hq List.prefix_rfl⟩ List.prefix_rfl (hL.mono List.prefix_rfl hq List.prefix_rfl) (z_Sr.mono List.prefix_rfl hq List.prefix_rfl hs3) hx hf rfl
theorem z_s_ret (hd : decode (q_b i) pc = .ok (.return_, ln)) (hk : q_lnk i pc ln (.return_) x y z) (hgx : z_gx cx) (hN : z_HN l base D sa g J ih d i (pc + ln) tl sp) (hr : z_step g q_code ih d i (q_code i) pc (.return_) x y z tl V L st sp cx = some os) : z_Ok l base D sa g J d i pc V L st cx os := by
  match st, hr with
  | _ :: _, hr => cases hr
  | [], hr =>
    have hr : some [(pc, V, L, ([] : List z_C))] = some os := hr
    have e9 := Option.some.inj hr
    subst e9
    intro p e s m args below meth c Q w0 t0 vs0 H locs ls sv ws tys ts vs C hp hv hL hs hx hf
    exact hf _ (List.mem_singleton.mpr rfl) H locs ls sv ws tys ts vs hp hv hL hs
theorem z_s_iret (hd : decode (q_b i) pc = .ok (.ireturn, ln)) (hk : q_lnk i pc ln (.ireturn) x y z) (hgx : z_gx cx) (hN : z_HN l base D sa g J ih d i (pc + ln) tl sp) (hr : z_step g q_code ih d i (q_code i) pc (.ireturn) x y z tl V L st sp cx = some os) : z_Ok l base D sa g J d i pc V L st cx os := by
  match st, hr with
  | [], hr => cases hr
  | _ :: _ :: _, hr => cases hr
  | [b], hr =>
    have hr : (bif Nat.beq b.1 0 && (Nat.beq x 0 || (Nat.beq x 1 && (z_po V b && Nat.ble (z_ih V b) 2147483649))) then some [(pc, V, L, [b])] else none) = some os := hr
    obtain ⟨h1, hr⟩ := q_bifs hr
    have e9 := Option.some.inj hr
    subst e9
    intro p e s m args below meth c Q w0 t0 vs0 H locs ls sv ws tys ts vs C hp hv hL hs hx hf
    exact hf _ (List.mem_singleton.mpr rfl) H locs ls sv ws tys ts vs hp hv hL hs
theorem z_s_aret (hd : decode (q_b i) pc = .ok (.areturn, ln)) (hk : q_lnk i pc ln (.areturn) x y z) (hgx : z_gx cx) (hN : z_HN l base D sa g J ih d i (pc + ln) tl sp) (hr : z_step g q_code ih d i (q_code i) pc (.areturn) x y z tl V L st sp cx = some os) : z_Ok l base D sa g J d i pc V L st cx os := by
  match st, hr with
  | [], hr => cases hr
  | _ :: _ :: _, hr => cases hr
  | [b], hr =>
    have hr : (bif Nat.beq b.1 1 then some [(pc, V, L, [b])] else none) = some os := hr
    obtain ⟨h1, hr⟩ := q_bifs hr
    have e9 := Option.some.inj hr
    subst e9
    intro p e s m args below meth c Q w0 t0 vs0 H locs ls sv ws tys ts vs C hp hv hL hs hx hf
    exact hf _ (List.mem_singleton.mpr rfl) H locs ls sv ws tys ts vs hp hv hL hs
end ZI
end
section
/-! ===== contracts of methods, and a run of the evaluator as one ===== -/
def z_Pc (base : Nat) (D : va_G) (sa : Nat → Nat) (tt : Nat → z_T) (av : List Value) (w0 : va_W) (t0 : List Nat) : Array Value → State → Prop := va_Pc av (fun U => base ≤ U.heap.size ∧ q_X U ∧ z_Tx base sa U ∧ ∃ tys : List (ClassId × FieldType), z_W tt w0 tys t0 ∧ va_P D q_cls w0 U.heap ∧ va_K D q_cls tys U ∧ va_D (q_A base) w0)
def z_Qc (base : Nat) (D : va_G) (tt : Nat → z_T) (kw : List z_C) (w0 : va_W) (t0 : List Nat) (post : Option Value → va_W → List Nat → Prop) : Array Value → State → Outcome → State → Prop := fun _ st oc t => (∃ (v : Option Value) (ws : va_W) (tys : List (ClassId × FieldType)) (ts : List Nat), oc = .returned v ∧ z_W tt ws tys ts ∧ va_P D q_cls ws t.heap ∧ va_K D q_cls tys t ∧ va_D (q_A base) ws ∧ z_Fr kw w0 t0 ws ts ∧ post v ws ts) ∧ va_F (q_A base) st t
def z_Met (l : Launch) (base : Nat) (D : va_G) (sa : Nat → Nat) (tt : Nat → z_T) (kw : List z_C) (d : Nat × Nat) (x : Nat) (av : List Value) (w0 : va_W) (t0 : List Nat) (post : Option Value → va_W → List Nat → Prop) : Prop := Met l (q_y x) (q_wy x) (q_rm d.1 (9 * d.2) (446 * d.2)) (z_Pc base D sa tt av w0 t0) (z_Qc base D tt kw w0 t0 post) (9 * d.2) (446 * d.2) (q_A base)
theorem z_blind {base : Nat} {D : va_G} {sa : Nat → Nat} {tt : Nat → z_T} {av : List Value} {w0 : va_W} {t0 : List Nat} : FrameBlind (z_Pc base D sa tt av w0 t0) := by
  intro a U g mk q
  obtain ⟨q0, q1, q2, ⟨⟨adV, x1⟩, x2, x3, x4⟩, tys, q3, q4, q5, q6⟩ := q
  exact ⟨q0, q1, ⟨fun w hw => va_Nw.same rfl rfl (q2.1 w hw), va_AO.moved (Vm.Alike.refl U.vm) q2.2⟩, ⟨⟨adV, vk_S.moved (u := U) (U := U.calling g mk a) (Vm.Alike.refl U.vm) x1⟩, vk_R.same rfl x2, vk_R.same rfl x3, va_Z.moved (u := U) (U := U.calling g mk a) (Vm.Alike.refl U.vm) x4⟩, tys, q3, q4, va_K.moved (u := U) (U := U.calling g mk a) (Vm.Alike.refl U.vm) q5, q6⟩
section ZC
variable {p : Program} {l : Launch} {e : Env} {R : Room} {s : State} {m : MethodId} {args : Array Value} {below : List Frame} {meth : Method} {c : Code} {H : Heap} {locs : List Loc} {cells slots : Nat} {Q : State → Prop} {base : Nat} {D : va_G} {sa : Nat → Nat} {tt : Nat → z_T} {kw : List z_C} {w0 : va_W} {t0 : List Nat} {post : Option Value → va_W → List Nat → Prop}
theorem z_after {pc mc ms : Nat} {ls : Array Slot} {st0 rest : List Value} {a : Array Value} (hr : va_Run p l e R s m args below meth c H locs cells slots mc ms (F0 m pc ls st0) rest (z_Qc base D tt kw w0 t0 post a) (q_A base)) (hS : va_S (q_A base) s.heap H locs)
    (kk : ∀ (v : Option Value) (ws : va_W) (tys : List (ClassId × FieldType)) (ts : List Nat) (H1 : Heap) (locs1 : List Loc), z_W tt ws tys ts → va_P D q_cls ws H1 → va_K D q_cls tys s → va_D (q_A base) ws → z_Fr kw w0 t0 ws ts → post v ws ts → va_S (q_A base) s.heap H1 locs1 → W p l e R s m args below meth c H1 locs1 (cells + mc) (slots + ms) Q (F0 m (pc + 3) ls (v.toList ++ rest))) : W p l e R s m args below meth c H locs cells slots Q (F0 m pc ls st0) := by
  intro T hT X
  obtain ⟨v, st₀, t, T', L, h0, X', hL, e1, e2, ⟨⟨v2, ws, tys, ts, ho, hw, hP, hK, hD, hfr, hpost⟩, hz, hk⟩, st⟩ := hr T hT X
  cases ho
  rw [h0] at hz hk
  have hal : t.vm.Alike s.vm := by rw [← e2]; exact X'.warmed.alike.symm
  obtain ⟨t2, a1, b1⟩ := kk v ws tys ts T'.heap (locs ++ L) hw (by rw [e1]; exact hP) (va_K.moved hal hK) hD hfr hpost
    ⟨Nat.le_trans hS.1 (by rw [e1]; exact hz), fun q h1 h2 => by rw [e1, hk q (Nat.lt_of_lt_of_le h1 hS.1) h2]; exact hS.2.1 q h1 h2, fun q hq => by
      rcases List.mem_append.mp hq with h | h
      · exact hS.2.2 q h
      · exact hL q h⟩ T' rfl X'
  exact ⟨t2, st t2 a1, b1⟩
end ZC
/-! the args become the locals -/
theorem z_sl_len {sa : Nat → Nat} {ad ts : List Nat} {vs : List Value} : ∀ {as : List z_C} {av : List Value}, z_Sr sa ad ts vs as av → (lg_sl av).length = (z_sl as).length
  | [], [], _ => rfl
  | c :: as, v :: av, h => by
    have ih := z_sl_len h.2
    have e : z_sl (c :: as) = bif Nat.beq c.1 3 then c :: (9, 0, 0) :: z_sl as else c :: z_sl as := rfl
    unfold lg_sl at ih ⊢
    rw [List.flatMap_cons, List.length_append, ih, e]
    cases hb : Nat.beq c.1 3 with
    | true =>
      obtain ⟨x, rfl, _⟩ := h.1.lng (q_beq.mp hb)
      rw [q_ift _ _ rfl]
      simp [Value.category]
      omega
    | false =>
      have hc := h.1.cat1 (q_bneq.mp hb)
      rw [q_iff _ _ rfl]
      simp [hc]
      omega
  | [], _ :: _, h => h.elim
  | _ :: _, [], h => h.elim
theorem z_entry {sa : Nat → Nat} {ad ts : List Nat} {vs : List Value} : ∀ {as : List z_C} {av : List Value} (o : Nat), z_Sr sa ad ts vs as av → ∀ j c, (z_sl as)[j]? = some c → c.1 = 9 ∨ ∃ v, (o + j, v) ∈ lv_args o av ∧ z_v sa ad ts vs c v
  | [], [], _, _, j, c, hj => by cases hj
  | c0 :: as, v0 :: av, o, h, j, c, hj => by
    have e : z_sl (c0 :: as) = bif Nat.beq c0.1 3 then c0 :: (9, 0, 0) :: z_sl as else c0 :: z_sl as := rfl
    rw [e] at hj
    have el : lv_args o (v0 :: av) = (o, v0) :: lv_args (if v0.category = 2 then o + 2 else o + 1) av := rfl
    rw [el]
    cases hb : Nat.beq c0.1 3 with
    | true =>
      rw [q_ift _ _ hb] at hj
      obtain ⟨x, rfl, _⟩ := id (h.1.lng (q_beq.mp hb))
      rw [if_pos (show (Value.long x).category = 2 from rfl)]
      match j, hj with
      | 0, hj =>
        cases hj
        exact Or.inr ⟨_, List.mem_cons_self, h.1⟩
      | 1, hj =>
        cases hj
        exact Or.inl rfl
      | j + 2, hj =>
        rcases z_entry (o + 2) h.2 j c hj with h1 | ⟨v, h1, h2⟩
        · exact Or.inl h1
        · rw [show o + 2 + j = o + (j + 2) by omega] at h1
          exact Or.inr ⟨v, List.mem_cons_of_mem _ h1, h2⟩
    | false =>
      rw [q_iff _ _ hb] at hj
      have hc := h.1.cat1 (q_bneq.mp hb)
      rw [if_neg (by omega)]
      match j, hj with
      | 0, hj =>
        cases hj
        exact Or.inr ⟨_, List.mem_cons_self, h.1⟩
      | j + 1, hj =>
        rcases z_entry (o + 1) h.2 j c hj with h1 | ⟨v, h1, h2⟩
        · exact Or.inl h1
        · rw [show o + 1 + j = o + (j + 1) by omega] at h1
          exact Or.inr ⟨v, List.mem_cons_of_mem _ h1, h2⟩
  | [], _ :: _, _, h, _, _, _ => h.elim
  | _ :: _, [], _, h, _, _, _ => h.elim
theorem z_jm_mem {cd : List q_I} {t : Nat} {e : q_I} {r : List q_I} (h : q_jm cd t = e :: r) : e ∈ cd ∧ e.1 = t := by
  rcases q_jm_suf cd t with h1 | ⟨pre, e2, tl, h1, h2, h3⟩
  · rw [h1] at h
    cases h
  · rw [h2] at h h1
    cases h
    rw [h1]
    exact ⟨List.mem_append_right _ List.mem_cons_self, h3⟩
/-- behind a run: one of its ends -/
def z_Po (sa : Nat → Nat) (tt : Nat → z_T) (vs : List Value) (os : List z_O) : Option Value → va_W → List Nat → Prop := fun v ws ts => ∃ o ∈ os, ∃ vs', z_Sv sa tt vs ws ts o.2.1 vs' ∧ z_Sr sa (q_ad ws) ts vs' o.2.2.2 v.toList
section ZD
variable {l : Launch} {base : Nat} {D : va_G} {sa : Nat → Nat} {g : z_G} {J : va_W → List Nat → Prop}
/-- an end that is a return -/
theorem z_rok_s {d : Nat × Nat} {x : Nat} {o : z_O} {os : List z_O} (hmok : q_mok x) (ho : o ∈ os) (hr : z_rok q_code x d.2 o = true) {p : Program} {e : Env} {s : State} {m : MethodId} {args : Array Value} {below : List Frame} {meth : Method} {c : Code} {w0 : va_W} {t0 : List Nat} {vs0 : List Value} (C : z_Cx base sa g.2.1 J x p s m args meth c w0 t0) : z_Fi l base D sa g d x p e s m args below meth c (MQ below (z_Qc base D g.1 g.2.1 w0 t0 (z_Po sa g.1 vs0 os)) args s (9 * d.2) (446 * d.2) (q_A base)) w0 t0 vs0 o := by
  intro H locs ls sv ws tys ts vs hp hv hL hs
  unfold z_rok at hr
  cases hj : q_jm (q_code x) o.1 with
  | nil => rw [hj] at hr; cases hr
  | cons e0 rr =>
    rw [hj] at hr
    obtain ⟨hmem, hpc⟩ := z_jm_mem hj
    obtain ⟨hdec, hlk⟩ := hmok.2.2.2.2.2.2.2.2 e0 hmem
    rw [hpc] at hdec hlk
    obtain ⟨hle, hr2⟩ := q_ands hr
    have hle := q_ble.mp hle
    clear hr
    refine W.widen (k := 9 * d.2) (n := 446 * d.2) (by omega) (by omega) ?_
    have hq2 : ∀ (v : Option Value), v.toList = sv → ∀ t : State, t.heap = H → s.WarmedH t.vm → z_Qc base D g.1 g.2.1 w0 t0 (z_Po sa g.1 vs0 os) args s (.returned v) t := fun v hv9 t ht hW => ⟨⟨v, ws, tys, ts, rfl, hp.1, by rw [ht]; exact hp.2.1, va_K.moved hW.alike hp.2.2.1, hp.2.2.2.1, hp.2.2.2.2.2, o, ho, vs, hv, by rw [hv9]; exact hs⟩, hp.2.2.2.2.1.F ht⟩
    obtain ⟨pc0, V0, L0, S0⟩ := o
    obtain ⟨a0, ln0, ins0, x0, y0, z0⟩ := e0
    cases ins0 with
    | return_ =>
      match S0, hr2, hs with
      | _ :: _, hr2, _ => cases hr2
      | [], _, hs =>
        have h9 := hs.nil
        subst h9
        obtain ⟨k1, k2⟩ := hlk
        have k1 : ln0 = 1 := k1
        subst k1
        exact W.vret C.1.1 C.1.2.1 (C.1.2.2.1.trans k2) (hq2 none rfl) hp.2.2.2.2.1.2.2 hdec C.1.2.2.2.2.2.2.2.1
    | ireturn =>
      match S0, hr2, hs with
      | [], hr2, _ => cases hr2
      | _ :: _ :: _, hr2, _ => cases hr2
      | [b], hr2, hs =>
        obtain ⟨vb, sv1, rfl, hvb, hs1⟩ := hs.cons
        have h9 := hs1.nil
        subst h9
        have hr2 : (Nat.beq b.1 0 && (Nat.beq x0 0 || (Nat.beq x0 1 && (z_po V0 b && Nat.ble (z_ih V0 b) 2147483649)))) = true := hr2
        obtain ⟨kb, hr3⟩ := q_ands hr2
        have kb := q_beq.mp kb
        obtain ⟨_, xb, -, rfl, -⟩ := id (hvb.int kb)
        obtain ⟨k1, k2⟩ := hlk
        have k1 : ln0 = 1 := k1
        subst k1
        rcases q_ors hr3 with h | h
        · have h := q_beq.mp h
          rcases k2 with ⟨_, k2⟩ | ⟨k2, _⟩ | k2
          · exact W.iret C.1.1 C.1.2.1 (C.1.2.2.1.trans k2) (hq2 (some (.int xb)) rfl) hp.2.2.2.2.1.2.2 hdec C.1.2.2.2.2.2.2.2.1
          · have k2 : x0 = 1 := k2
            omega
          · have k2 : 2 ≤ x0 := k2
            omega
        · obtain ⟨h, h5⟩ := q_ands h
          have h := q_beq.mp h
          obtain ⟨w, hw, rfl⟩ := z_bool01 hv.2.1 hvb kb (q_ands h5).1 (q_ands h5).2
          rcases k2 with ⟨k2, _⟩ | ⟨_, k2⟩ | k2
          · have k2 : x0 = 0 := k2
            omega
          · exact W.zret C.1.1 C.1.2.1 (C.1.2.2.1.trans k2) (q_fit_z w hw).1 (hq2 (some (.int (nI w))) rfl) hp.2.2.2.2.1.2.2 hdec C.1.2.2.2.2.2.2.2.1
          · have k2 : 2 ≤ x0 := k2
            omega
    | areturn =>
      match S0, hr2, hs with
      | [], hr2, _ => cases hr2
      | _ :: _ :: _, hr2, _ => cases hr2
      | [b], hr2, hs =>
        obtain ⟨vb, sv1, rfl, hvb, hs1⟩ := hs.cons
        have h9 := hs1.nil
        subst h9
        have hr2 : Nat.beq b.1 1 = true := hr2
        obtain ⟨k1, rt, k2, k3⟩ := hlk
        have k1 : ln0 = 1 := k1
        subst k1
        exact W.aret C.1.1 C.1.2.1 (C.1.2.2.1.trans k2) k3 (hvb.obj (Or.inl (q_beq.mp hr2))) (hq2 (some vb) rfl) hp.2.2.2.2.1.2.2 hdec C.1.2.2.2.2.2.2.2.1
    | _ => cases hr2
/-- a run of a method from its first instruction is its contract -/
theorem z_meth {d : Nat × Nat} {x : Nat} {as : List z_C} {V : z_V} {os : List z_O} (hmok : q_mok x) (hok : z_Ok l base D sa g J d x 0 V (z_pad (q_ml x) (z_sl as)) [] [] os) (hro : z_all (z_rok q_code x d.2) os = true) (hm : V.2.2.2.2.2 = 0) (hlen : (z_sl as).length ≤ q_ml x) {ws : va_W} {ts : List Nat} {vs : List Value} {av : List Value} (hE : z_E V vs) (hF : z_Fs sa ws ts vs V.2.2.2.1) (hD9 : z_Ds sa g.1 (q_ad ws) ts vs V.2.2.2.2.1) (has : z_Sr sa (q_ad ws) ts vs as av) (hJ : ∀ ws' ts', z_Fr g.2.1 ws ts ws' ts' → J ws' ts') : z_Met l base D sa g.1 g.2.1 d x av ws ts (z_Po sa g.1 vs os) := by
  refine va_MetF (cc := q_b x) (maxL := q_ml x) (ret := q_rt x) hmok.2.1 rfl ?_
  intro p e s m args below meth c s₁ B hml hv
  obtain ⟨rfl, hbase, hX, hT, tys, hw, hP, hK, hD⟩ := hv
  have hts := atoms_spec (ws := q_wy x) B.pre
  have hown : s.vm.findClass (q_y x).cls = some m.cls := findClass_of_methodNamed B.named
  have hin : meth.name = (q_y x).name := (name_of_methodNamed B.named B.method).1
  have hll := z_sl_len has
  have hl := lv_entry av (n := q_ml x) (by omega)
  rw [lg_entry_eq]
  generalize (lg_sl av ++ List.replicate (q_ml x - (lg_sl av).length) Slot.unset).toArray = ls at hl ⊢
  have hpl : (z_pad (q_ml x) (z_sl as)).length = q_ml x := by
    show (z_sl as ++ List.replicate (Nat.sub (q_ml x) (q_len (z_sl as))) (9, 0, 0)).length = _
    rw [List.length_append, List.length_replicate, q_len_eq, Nat.sub_eq]
    omega
  have hL : z_Lr sa (q_ad ws) ts vs (z_pad (q_ml x) (z_sl as)) (q_ml x) ls := ⟨hpl, _, hl, fun i cc hc => by
    have hc : (z_sl as ++ List.replicate (Nat.sub (q_ml x) (q_len (z_sl as))) (9, 0, 0))[i]? = some cc := hc
    rcases Nat.lt_or_ge i (z_sl as).length with hi | hi
    · rw [List.getElem?_append_left hi] at hc
      have := z_entry 0 has i cc hc
      rw [Nat.zero_add] at this
      exact this
    · rw [List.getElem?_append_right hi] at hc
      have := List.mem_of_getElem? hc
      rw [(List.mem_replicate.mp this).2]
      exact Or.inl rfl⟩
  have C : z_Cx base sa g.2.1 J x p s m av.toArray meth c ws ts := ⟨⟨B.exec, B.bytes, B.returns, hml, hown, fun w hw => hts w (List.mem_cons_of_mem _ hw), hX, B.notSynchronized, hin, hbase⟩, hT, hJ⟩
  have := hok p e s m av.toArray below meth c (MQ below (z_Qc base D g.1 g.2.1 ws ts (z_Po sa g.1 vs os)) av.toArray s (9 * d.2) (446 * d.2) (q_A base)) ws ts vs s.heap [] ls [] ws tys ts vs C ⟨hw, hP, hK, hD, va_S.rf, z_Fr.rf _ _ _⟩ ⟨List.prefix_rfl, hE, hF, hD9⟩ hL trivial (fun X hX => by cases hX) (fun o ho => z_rok_s hmok ho (z_all_iff.mp hro o ho) C)
  rw [hm] at this
  exact this
end ZD
end
section
/-! ===== contracts that are known, and calls ===== -/
def z_Ta (ad ts : List Nat) : List z_C → List Value → Prop
  | [], [] => True
  | t :: ta, v :: av => z_tv ad ts t v ∧ z_Ta ad ts ta av
  | _, _ => False
/-- the facts that a contract wants: values bound one by one -/
def z_Pf (ws : va_W) (ts : List Nat) : List (Nat × Nat × z_C) → List Value → List Value → Prop
  | [], bv, out => out = bv
  | q :: ps, bv, out => ∃ (a j : Nat) (e : va_E) (r : Value), bv[q.1]? = some (.ref a) ∧ ws[j]? = some (a, e) ∧ z_at e q.2.1 = some r ∧ z_tv (q_ad ws) ts q.2.2 r ∧ z_Pf ws ts ps (bv ++ [r]) out
/-- what holds behind it -/
def z_CP (M : z_M) (bv : List Value) : Option Value → va_W → List Nat → Prop := fun v ws ts => (if M.2.2.2.2.2.2.1 = true then ∃ t ∈ M.2.2.2.2.2.2.2.1, ∃ r, v = some r ∧ z_tv (q_ad ws) ts t r else v = none) ∧ ∀ q ∈ M.2.2.2.2.2.2.2.2, ∃ (a j : Nat) (e : va_E) (r : Value), bv[q.1]? = some (.ref a) ∧ ws[j]? = some (a, e) ∧ z_at e q.2.1 = some r ∧ z_tv (q_ad ws) ts q.2.2 r
def z_Con (l : Launch) (base : Nat) (D : va_G) (sa : Nat → Nat) (tt : Nat → z_T) (J : va_W → List Nat → Prop) (M : z_M) : Prop := ∀ (ws : va_W) (ts : List Nat) (av bv : List Value), z_Ta (q_ad ws) ts M.2.1 av → z_Pf ws ts M.2.2.1 av bv → J ws ts → z_Met l base D sa tt M.2.2.2.1 (M.2.2.2.2.2.1, M.2.2.2.2.1) M.1 av ws ts (z_CP M bv)
theorem z_cA_s {sa : Nat → Nat} {ad ts : List Nat} {V : z_V} {vs : List Value} (hE : z_E V vs) : ∀ {ta as : List z_C} {av : List Value}, z_cA V ta as = true → z_Sr sa ad ts vs as av → z_Ta ad ts ta av
  | [], [], [], _, _ => trivial
  | [], _ :: _, _, h, _ => by cases h
  | _ :: _, [], _, h, _ => by cases h
  | t :: ta, c :: as, v :: av, h, hs => by
    have h : (z_fit V t c && z_cA V ta as) = true := h
    exact ⟨z_fit_s (q_ands h).1 hE hs.1, z_cA_s hE (q_ands h).2 hs.2⟩
  | [], [], _ :: _, _, hs => hs.elim
  | _ :: _, _ :: _, [], _, hs => hs.elim
theorem z_Sr.snoc {sa : Nat → Nat} {ad ts : List Nat} {vs : List Value} {c : z_C} {v : Value} (hv : z_v sa ad ts vs c v) : ∀ {as : List z_C} {av : List Value}, z_Sr sa ad ts vs as av → z_Sr sa ad ts vs (as ++ [c]) (av ++ [v])
  | [], [], _ => ⟨hv, trivial⟩
  | _ :: _, _ :: _, h => ⟨h.1, z_Sr.snoc hv h.2⟩
  | [], _ :: _, h => h.elim
  | _ :: _, [], h => h.elim
theorem z_Sr.nth {sa : Nat → Nat} {ad ts : List Nat} {vs : List Value} : ∀ {as : List z_C} {av : List Value}, z_Sr sa ad ts vs as av → ∀ k, ¬ (z_nth as k).1 = 9 → ∃ v, av[k]? = some v ∧ z_v sa ad ts vs (z_nth as k) v
  | [], [], _, k, h => absurd rfl h
  | c :: as, v :: av, h, 0, _ => ⟨v, rfl, h.1⟩
  | c :: as, v :: av, h, k + 1, hk => z_Sr.nth h.2 k hk
  | [], _ :: _, h, _, _ => h.elim
  | _ :: _, [], h, _, _ => h.elim
theorem z_cF_s {base : Nat} {sa : Nat → Nat} {V : z_V} {ws : va_W} {ts : List Nat} {vs : List Value} (hE : z_E V vs) (hF : z_Fs sa ws ts vs V.2.2.2.1) (hD : va_D (q_A base) ws) (hw : ts.length = ws.length) : ∀ (ps : List (Nat × Nat × z_C)) {cs cs' : List z_C} {bv : List Value}, z_cF V ps cs = some cs' → z_Sr sa (q_ad ws) ts vs cs bv → ∃ bv', z_Pf ws ts ps bv bv' ∧ z_Sr sa (q_ad ws) ts vs cs' bv'
  | [], cs, cs', bv, h, hs => by
    have h : some cs = some cs' := h
    cases h
    exact ⟨bv, rfl, hs⟩
  | q :: ps, cs, cs', bv, h, hs => by
    have h : (bif Nat.beq (z_nth cs q.1).1 1 && Nat.ble q.2.1 100000 then (match z_fg V.2.2.2.1 (z_nth cs q.1).2.1 (z_kc q.2.1) with
      | none => none
      | some c => bif z_fit V q.2.2 c then z_cF V ps (cs ++ [c]) else none) else none) = some cs' := h
    obtain ⟨h1, h2⟩ := q_bifs h
    obtain ⟨h1, h3⟩ := q_ands h1
    have h1 := q_beq.mp h1
    have h3 := q_ble.mp h3
    obtain ⟨v, hv1, hv2⟩ := hs.nth q.1 (by omega)
    cases hf : z_fg V.2.2.2.1 (z_nth cs q.1).2.1 (z_kc q.2.1) with
    | none => rw [hf] at h2; cases h2
    | some c =>
      rw [hf] at h2
      obtain ⟨h4, h5⟩ := q_bifs h2
      obtain ⟨f, f1, f2, f3, f4⟩ := z_fg_s hf
      obtain ⟨a, j, k, e, y, r, g1, g2, g3, g4, g5, g6, g7, g8⟩ := hF f f1
      have hva := (hv2.ref h1).1
      rw [f2, hva] at g1
      cases g1
      obtain ⟨u1, u2⟩ := z_kc_v (sa := sa) (ad := q_ad ws) (ts := ts) hE (show q.2.1 < 2147483648 by omega)
      rw [f3] at g4
      have ey := g4.inj u1 rfl
      subst ey
      have ek : k = q.2.1 := by omega
      subst ek
      rw [f4] at g8
      obtain ⟨bv', b1, b2⟩ := z_cF_s hE hF hD hw ps h5 (z_Sr.snoc g8 hs)
      exact ⟨bv', ⟨a, j, e, r, hv1, g2, g7, z_fit_s h4 hE g8, b1⟩, b2⟩
/-- facts behind a contract are added -/
theorem z_cP_s {base : Nat} {sa : Nat → Nat} {tt : Nat → z_T} {ws : va_W} {ts : List Nat} {vs0 : List Value} {cs : List z_C} {bv : List Value} {k : z_V → Option (List z_O)} {os : List z_O} {vs : List Value} (hD : va_D (q_A base) ws) (hcs : z_Sr sa (q_ad ws) ts vs cs bv) : ∀ (ps : List (Nat × Nat × z_C)) {V : z_V} {vs1 : List Value}, z_cP cs ps V k = some os → vs <+: vs1 → z_Sv sa tt vs0 ws ts V vs1 → (∀ q ∈ ps, ∃ (a j : Nat) (e : va_E) (r : Value), bv[q.1]? = some (.ref a) ∧ ws[j]? = some (a, e) ∧ z_at e q.2.1 = some r ∧ z_tv (q_ad ws) ts q.2.2 r) → ∃ U vs', k U = some os ∧ vs1 <+: vs' ∧ z_Sv sa tt vs0 ws ts U vs' ∧ U.2.2.2.2.2 = V.2.2.2.2.2
  | [], V, vs1, h, _, hv, _ => ⟨V, vs1, h, List.prefix_rfl, hv, rfl⟩
  | q :: ps, V, vs1, h, hpre, hv, hq => by
    have h : (bif Nat.beq (z_nth cs q.1).1 1 && Nat.ble q.2.1 100000 then z_ld V q.2.2 (fun w c => z_cP cs ps (z_addF w ((z_nth cs q.1).2.1, (z_nth cs q.1).2.2, z_kc q.2.1, c)) k) else none) = some os := h
    obtain ⟨h1, h2⟩ := q_bifs h
    obtain ⟨h1, h3⟩ := q_ands h1
    have h1 := q_beq.mp h1
    have h3 := q_ble.mp h3
    obtain ⟨a, j, e, r, g1, g2, g3, g4⟩ := hq q List.mem_cons_self
    obtain ⟨v, hv1, hv2⟩ := hcs.nth q.1 (by omega)
    rw [g1] at hv1
    cases hv1
    obtain ⟨w1, w2⟩ := hv2.ref h1
    obtain ⟨W1, c1, vs2, k1, k2, k3, k4, k5⟩ := (z_ld_s (sa := sa) h2 hv.2.1 g4).rs hv
    obtain ⟨u1, u2⟩ := z_kc_v (sa := sa) (ad := q_ad ws) (ts := ts) k3.2.1 (show q.2.1 < 2147483648 by omega)
    have htag : ts[j]? = some (z_nth cs q.1).2.2 := by
      rcases w2 with w2 | ⟨j2, a2, w2, w3, w4⟩
      · cases w2
      · cases w2
        have hw3 : ∃ e2, ws[j2]? = some (a, e2) := by
          rw [List.getElem?_map] at w3
          cases h9 : ws[j2]? with
          | none => rw [h9] at w3; cases w3
          | some q9 =>
            rw [h9] at w3
            obtain ⟨a9, e9⟩ := q9
            cases w3
            exact ⟨e9, rfl⟩
        obtain ⟨e2, he2⟩ := hw3
        have ej : j = j2 := hD.1 j j2 _ _ g2 he2 rfl
        rw [ej]
        exact w4
    obtain ⟨U, vs', z1, z2, z3, z4⟩ := z_cP_s hD hcs ps k1 (hpre.trans k2) (k3.addF ⟨a, j, q.2.1, e, nI q.2.1, r, z_gm (hpre.trans k2) w1, g2, htag, u1, rfl, u2, g3, k5⟩) (fun q2 hq2 => hq q2 (List.mem_cons_of_mem _ hq2))
    exact ⟨U, vs', z1, k2.trans z2, z3, z4.trans k4⟩
theorem z_find_s {α : Type} {p : α → Bool} : ∀ {l : List α} {a : α}, z_find p l = some a → a ∈ l ∧ p a = true
  | [], _, h => by cases h
  | b :: t, a, h => by
    have h : (bif p b then some b else z_find p t) = some a := h
    cases hb : p b with
    | true =>
      rw [q_ift _ _ hb] at h
      cases h
      exact ⟨List.mem_cons_self, hb⟩
    | false =>
      rw [q_iff _ _ hb] at h
      obtain ⟨h1, h2⟩ := z_find_s h
      exact ⟨List.mem_cons_of_mem _ h1, h2⟩
/-- what a call gives: a contract, and how the caller goes on behind it -/
def z_Cl (l : Launch) (base : Nat) (D : va_G) (sa : Nat → Nat) (g : z_G) (d : Nat × Nat) (x : Nat) (av : List Value) (ws : va_W) (ts : List Nat) (V : z_V) (vs vs0 : List Value) (k : z_V → List z_C → Option (List z_O)) (os : List z_O) : Prop := ∃ (dd : Nat × Nat) (kc : List z_C) (post : Option Value → va_W → List Nat → Prop), dd.1 + 1 ≤ d.1 ∧ V.2.2.2.2.2 + dd.2 ≤ d.2 ∧ (∀ t n, z_wr kc t n → z_wr g.2.1 t n) ∧ z_Met l base D sa g.1 kc dd x av ws ts post ∧ ∀ (v : Option Value) (ws' : va_W) (ts' : List Nat), va_D (q_A base) ws' → z_Fr kc ws ts ws' ts' → post v ws' ts' → ∃ U rt o1 vs', k U rt = some o1 ∧ (∀ o ∈ o1, o ∈ os) ∧ vs <+: vs' ∧ z_Sv sa g.1 vs0 ws' ts' U vs' ∧ U.2.2.2.2.2 = V.2.2.2.2.2 + dd.2 ∧ z_Sr sa (q_ad ws') ts' vs' rt v.toList
def z_HC (l : Launch) (base : Nat) (D : va_G) (sa : Nat → Nat) (g : z_G) (J : va_W → List Nat → Prop) (ih : z_F) : Prop := ∀ (d : Nat × Nat) (x : Nat) (V : z_V) (L : List z_C) (os : List z_O), x < q_nM → ih d x (q_code x) (q_code x) V L [] [] [] = some os → z_Ok l base D sa g J d x 0 V L [] [] os
theorem z_setM_E {V : z_V} {vs : List Value} {n : Nat} (h : z_E V vs) : z_E (z_setM V n) vs := h.same rfl rfl rfl
section ZK
variable {l : Launch} {base : Nat} {D : va_G} {sa : Nat → Nat} {g : z_G} {J : va_W → List Nat → Prop} {ih : z_F} {d : Nat × Nat} {x : Nat} {V : z_V} {as : List z_C} {k : z_V → List z_C → Option (List z_O)} {os : List z_O}
theorem z_inl_s {dx : Nat × Nat} {V1 : z_V} {n : Nat} (hok : ∀ i, i < q_nM → q_mok i) (hC : z_HC l base D sa g J ih) (hx : x < q_nM) (hr : z_inl q_code ih dx x as V1 (fun os => z_fold os (fun o => k (z_setM o.2.1 n) o.2.2.2)) = some os) (hm : V1.2.2.2.2.2 = 0) (hlen : (z_sl as).length ≤ q_ml x) (hd1 : dx.1 + 1 ≤ d.1) (hd2 : V.2.2.2.2.2 + dx.2 ≤ d.2) (hn : n = V.2.2.2.2.2 + dx.2) {ws : va_W} {ts : List Nat} {vs vs0 av : List Value} (hpre : vs0 <+: vs) (hE : z_E V1 vs) (hF : z_Fs sa ws ts vs V1.2.2.2.1) (hD9 : z_Ds sa g.1 (q_ad ws) ts vs V1.2.2.2.2.1) (has : z_Sr sa (q_ad ws) ts vs as av) (hJ : ∀ ws' ts', z_Fr g.2.1 ws ts ws' ts' → J ws' ts') : z_Cl l base D sa g d x av ws ts V vs vs0 k os := by
  unfold z_inl at hr
  cases h1 : ih dx x (q_code x) (q_code x) V1 (z_pad (q_ml x) (z_sl as)) [] [] [] with
  | none => rw [h1] at hr; cases hr
  | some o1 =>
    rw [h1] at hr
    obtain ⟨h2, h3⟩ := q_bifs hr
    have hM := z_meth (hok x hx) (hC dx x V1 _ o1 hx h1) h2 hm hlen hE hF hD9 has hJ
    refine ⟨dx, g.2.1, _, hd1, hd2, fun _ _ h => h, hM, fun v ws' ts' hD hfr hpost => ?_⟩
    obtain ⟨o, ho, vs', p1, p2⟩ := hpost
    obtain ⟨q, q1, q2⟩ := z_fold_inv h3 o ho
    refine ⟨z_setM o.2.1 n, o.2.2.2, q, vs', q1, q2, p1.1, ⟨hpre.trans p1.1, z_setM_E p1.2.1, p1.2.2.1, p1.2.2.2⟩, ?_, p2⟩
    show n = _
    exact hn
theorem z_cal_s (hok : ∀ i, i < q_nM → q_mok i) (hC : z_HC l base D sa g J ih) (hmem : ∀ M ∈ g.2.2.2.2, z_Con l base D sa g.1 J M) (hx : x < q_nM) (hr : z_cal g q_code ih d x as V k = some os) (hlen : (z_sl as).length ≤ q_ml x) {s : State} {w0 : va_W} {t0 : List Nat} {H : Heap} {locs : List Loc} {ws : va_W} {tys : List (ClassId × FieldType)} {ts : List Nat} {vs vs0 av : List Value} (hp : z_Hp base D g.1 g.2.1 s w0 t0 H locs ws tys ts) (hv : z_Sv sa g.1 vs0 ws ts V vs) (has : z_Sr sa (q_ad ws) ts vs as av) (hJ : ∀ ws' ts', z_Fr g.2.1 w0 t0 ws' ts' → J ws' ts') : z_Cl l base D sa g d x av ws ts V vs vs0 k os := by
  have hJ2 : ∀ ws' ts', z_Fr g.2.1 ws ts ws' ts' → J ws' ts' := fun ws' ts' h => hJ ws' ts' (hp.2.2.2.2.2.trans h)
  unfold z_cal at hr
  cases hpk : z_pick g.2.2.2.2 V x as with
  | some M =>
    rw [hpk] at hr
    obtain ⟨m1, m2⟩ := z_find_s hpk
    obtain ⟨m2, m3⟩ := q_ands m2
    have m2 := q_beq.mp m2
    obtain ⟨r1, r2⟩ := q_bifs hr
    clear hr
    have hta := z_cA_s hv.2.1 r1 has
    cases hcf : z_cF V M.2.2.1 as with
    | none => rw [hcf] at r2; cases r2
    | some cs =>
      rw [hcf] at r2
      obtain ⟨r3, r4⟩ := q_bifs r2
      clear r2
      obtain ⟨r5, r6⟩ := q_ands r3
      obtain ⟨r6, r7⟩ := q_ands r6
      have r6 := q_blt.mp r6
      have r7 : V.2.2.2.2.2 + M.2.2.2.2.1 ≤ d.2 := q_ble.mp r7
      obtain ⟨bv, b1, b2⟩ := z_cF_s hv.2.1 hv.2.2.1 hp.2.2.2.1 hp.1.1 _ hcf has
      have hM := hmem M m1 ws ts av bv hta b1 (hJ2 ws ts (z_Fr.rf _ _ _))
      rw [m2] at hM
      refine ⟨(M.2.2.2.2.2.1, M.2.2.2.2.1), M.2.2.2.1, _, by show M.2.2.2.2.2.1 + 1 ≤ d.1; omega, r7, fun t n h => ?_, hM, fun v ws' ts' hD hfr hpost => ?_⟩
      · obtain ⟨e, e1, e2, e3, e4⟩ := z_kw_iff.mp h
        have h9 := z_all_iff.mp r5 e e1
        rw [e2] at h9
        exact z_wr.of h9 e3 e4
      · have hF' := z_keeps (F' := z_kls V M.2.2.2.1 V.2.2.2.1) hv.2.1 hv.2.2.1 hfr (fun f hf => by
          obtain ⟨f1, f2⟩ := z_flt_mem.mp hf
          exact ⟨f1, fun k hk => z_all_iff.mp f2 k hk⟩)
        have hv1 : z_Sv sa g.1 vs0 ws' ts' (z_addM (z_setF V (z_kls V M.2.2.2.1 V.2.2.2.1)) M.2.2.2.2.1) vs := ⟨hv.1, hv.2.1.same rfl rfl rfl, hF', hv.2.2.2.mono List.prefix_rfl hfr.2.1 hfr.1⟩
        obtain ⟨U, vs1, z1, z2, z3, z4⟩ := z_cP_s hD (z_Sr.mono List.prefix_rfl hfr.2.1 hfr.1 b2) _ r4 List.prefix_rfl hv1 hpost.2
        have z4 : U.2.2.2.2.2 = V.2.2.2.2.2 + M.2.2.2.2.1 := z4
        have hres := hpost.1
        cases hh : M.2.2.2.2.2.2.1 with
        | true =>
          rw [hh] at z1
          rw [hh, if_pos rfl] at hres
          obtain ⟨t, t1, r, rfl, t2⟩ := hres
          have z1 : z_fold M.2.2.2.2.2.2.2.1 (fun t => z_ld U t (fun w2 c => k w2 [c])) = some os := z1
          obtain ⟨q, q1, q2⟩ := z_fold_inv z1 t t1
          obtain ⟨W1, c1, vs2, k1, k2, k3, k4, k5⟩ := (z_ld_s (sa := sa) q1 z3.2.1 t2).rs z3
          exact ⟨W1, [c1], q, vs2, k1, q2, z2.trans k2, k3, by rw [k4, z4], k5, trivial⟩
        | false =>
          rw [hh] at z1
          rw [hh, if_neg (by decide)] at hres
          subst hres
          exact ⟨U, [], os, vs1, z1, fun _ h => h, z2, z3, z4, trivial⟩
  | none =>
    rw [hpk] at hr
    cases hd : d.1 with
    | zero => rw [hd] at hr; cases hr
    | succ d' =>
      rw [hd] at hr
      cases hal : z_alm x with
      | true =>
        have hr : (bif z_alm x then (bif Nat.beq V.2.2.2.2.2 0 then z_inl q_code ih (d', d.2) x as V (fun os => z_fold os (fun o => k (z_setM o.2.1 d.2) o.2.2.2)) else none) else bif Nat.ble V.2.2.2.2.2 d.2 then z_inl q_code ih (d', 0) x as (z_setM V 0) (fun os => z_fold os (fun o => k (z_setM o.2.1 V.2.2.2.2.2) o.2.2.2)) else none) = some os := hr
        rw [q_ift _ _ hal] at hr
        obtain ⟨h1, h2⟩ := q_bifs hr
        have h1 := q_beq.mp h1
        exact z_inl_s hok hC hx h2 h1 hlen (by show d' + 1 ≤ d.1; omega) (by show V.2.2.2.2.2 + d.2 ≤ d.2; omega) (by show d.2 = V.2.2.2.2.2 + d.2; omega) hv.1 hv.2.1 hv.2.2.1 hv.2.2.2 has hJ2
      | false =>
        have hr : (bif z_alm x then (bif Nat.beq V.2.2.2.2.2 0 then z_inl q_code ih (d', d.2) x as V (fun os => z_fold os (fun o => k (z_setM o.2.1 d.2) o.2.2.2)) else none) else bif Nat.ble V.2.2.2.2.2 d.2 then z_inl q_code ih (d', 0) x as (z_setM V 0) (fun os => z_fold os (fun o => k (z_setM o.2.1 V.2.2.2.2.2) o.2.2.2)) else none) = some os := hr
        rw [q_iff _ _ hal] at hr
        obtain ⟨hle, hr2⟩ := q_bifs hr
        have hle := q_ble.mp hle
        exact z_inl_s hok hC hx hr2 rfl hlen (by show d' + 1 ≤ d.1; omega) (by show V.2.2.2.2.2 + 0 ≤ d.2; omega) rfl hv.1 (z_setM_E hv.2.1) hv.2.2.1 hv.2.2.2 has hJ2
end ZK
end
section
/-! ===== call instructions ===== -/
theorem z_Sr.app {sa : Nat → Nat} {ad ts : List Nat} {vs : List Value} : ∀ {a : List z_C} {u : List Value} {b : List z_C} {v : List Value}, z_Sr sa ad ts vs a u → z_Sr sa ad ts vs b v → z_Sr sa ad ts vs (a ++ b) (u ++ v)
  | [], [], _, _, _, h => h
  | _ :: _, _ :: _, _, _, h1, h => ⟨h1.1, z_Sr.app h1.2 h⟩
  | [], _ :: _, _, _, h1, _ => h1.elim
  | _ :: _, [], _, _, h1, _ => h1.elim
theorem z_Sr.rev {sa : Nat → Nat} {ad ts : List Nat} {vs : List Value} : ∀ {a : List z_C} {u : List Value}, z_Sr sa ad ts vs a u → z_Sr sa ad ts vs a.reverse u.reverse
  | [], [], _ => trivial
  | c :: a, v :: u, h => by
    rw [List.reverse_cons, List.reverse_cons]
    exact z_Sr.app (z_Sr.rev h.2) ⟨h.1, trivial⟩
  | [], _ :: _, h1 => h1.elim
  | _ :: _, [], h1 => h1.elim
theorem z_Sr.split {sa : Nat → Nat} {ad ts : List Nat} {vs : List Value} : ∀ {a b : List z_C} {sv : List Value}, z_Sr sa ad ts vs (a ++ b) sv → ∃ u v, sv = u ++ v ∧ z_Sr sa ad ts vs a u ∧ z_Sr sa ad ts vs b v
  | [], b, sv, h => ⟨[], sv, rfl, trivial, h⟩
  | c :: a, b, sv, h => by
    obtain ⟨v, sv', rfl, h1, h2⟩ := z_Sr.cons (st := a ++ b) h
    obtain ⟨u, w, rfl, h3, h4⟩ := z_Sr.split h2
    exact ⟨v :: u, w, rfl, ⟨h1, h3⟩, h4⟩
theorem z_Sr.len {sa : Nat → Nat} {ad ts : List Nat} {vs : List Value} {a : List z_C} {u : List Value} (h : z_Sr sa ad ts vs a u) : u.length = a.length := h.cats.1
theorem z_pp_inv : ∀ (n : Nat) (st acc as rr : List z_C), z_pp n st acc = some (as, rr) → ∃ pre, st = pre ++ rr ∧ pre.length = n ∧ as = pre.reverse ++ acc
  | 0, st, acc, as, rr, h => by
    have h : some (acc, st) = some (as, rr) := h
    obtain ⟨rfl, rfl⟩ := Prod.mk.inj (Option.some.inj h)
    exact ⟨[], rfl, rfl, rfl⟩
  | n + 1, [], acc, as, rr, h => by cases h
  | n + 1, a :: st, acc, as, rr, h => by
    have h : z_pp n st (a :: acc) = some (as, rr) := h
    obtain ⟨pre, e1, e2, e3⟩ := z_pp_inv n st (a :: acc) as rr h
    exact ⟨a :: pre, by rw [e1]; rfl, by rw [List.length_cons, e2], by rw [e3]; simp⟩
section ZI
variable {l : Launch} {base : Nat} {D : va_G} {sa : Nat → Nat} {g : z_G} {J : va_W → List Nat → Prop} {ih : z_F} {d : Nat × Nat} {i pc ln x y z : Nat} {tl : List q_I} {V : z_V} {L st : List z_C} {sp : List Nat} {cx : List z_X} {os : List z_O}
theorem z_inv_inv {virt : Bool} (hr : z_inv g q_code ih d i (q_code i) tl V L x y z st sp cx virt = some os) : ¬ z = 99 ∧ ∃ pre rr : List z_C, st = pre ++ rr ∧ pre.length = y ∧ z_cats rr ≤ 8 ∧ (z_sl pre.reverse).length ≤ q_ml x ∧ (virt = true → ∃ a t, pre.reverse = a :: t ∧ z_nn V a = true ∧ (g.1 a.2.2).1 = 0 ∧ (g.1 a.2.2).2.1 = z) ∧ z_cal g q_code ih d x pre.reverse V (fun w rt => ih d i (q_code i) tl w L (rt ++ rr) sp cx) = some os := by
  unfold z_inv at hr
  obtain ⟨hz9, hr⟩ := q_bifn hr
  refine ⟨q_bneq.mp hz9, ?_⟩
  cases hpp : z_pp y st [] with
  | none => rw [hpp] at hr; cases hr
  | some ar =>
    obtain ⟨as, rr⟩ := ar
    rw [hpp] at hr
    obtain ⟨pre, e1, e2, e3⟩ := z_pp_inv y st [] as rr hpp
    rw [List.append_nil] at e3
    subst e3
    obtain ⟨h1, h2⟩ := q_bifs hr
    obtain ⟨h1, h3⟩ := q_ands h1
    obtain ⟨h1, h4⟩ := q_ands h1
    have h1 := q_ble.mp h1
    have h4 := q_ble.mp h4
    rw [q_len_eq] at h4
    refine ⟨pre, rr, e1, e2, h1, h4, fun hv => ?_, h2⟩
    subst hv
    cases hpr : pre.reverse with
    | nil => rw [hpr] at h3; cases h3
    | cons a t =>
      rw [hpr] at h3
      have h3 : (z_nn V a && (Nat.beq (g.1 a.2.2).1 0 && Nat.beq (g.1 a.2.2).2.1 z)) = true := h3
      obtain ⟨h5, h6⟩ := q_ands h3
      obtain ⟨h6, h7⟩ := q_ands h6
      exact ⟨a, t, rfl, h5, q_beq.mp h6, q_beq.mp h7⟩
/-- behind the call: the caller goes on -/
theorem z_fin {rr : List z_C} {dd : Nat × Nat} {kc : List z_C} {post : Option Value → va_W → List Nat → Prop} {p : Program} {e : Env} {s : State} {m : MethodId} {args : Array Value} {below : List Frame} {meth : Method} {c : Code} {Q : State → Prop} {w0 : va_W} {t0 : List Nat} {vs0 : List Value} {H : Heap} {locs : List Loc} {ls : Array Slot} {sv rv : List Value} {ws : va_W} {tys : List (ClassId × FieldType)} {ts : List Nat} {vs : List Value} {a : Array Value} (hgx : z_gx cx) (hN : z_HN l base D sa g J ih d i (pc + 3) tl sp) (hkc : ∀ t n, z_wr kc t n → z_wr g.2.1 t n)
    (haf : ∀ (v : Option Value) (ws' : va_W) (ts' : List Nat), va_D (q_A base) ws' → z_Fr kc ws ts ws' ts' → post v ws' ts' → ∃ U rt o1 vs', ih d i (q_code i) tl U L (rt ++ rr) sp cx = some o1 ∧ (∀ o ∈ o1, o ∈ os) ∧ vs <+: vs' ∧ z_Sv sa g.1 vs0 ws' ts' U vs' ∧ U.2.2.2.2.2 = V.2.2.2.2.2 + dd.2 ∧ z_Sr sa (q_ad ws') ts' vs' rt v.toList)
    (C : z_Cx base sa g.2.1 J i p s m args meth c w0 t0) (hp : z_Hp base D g.1 g.2.1 s w0 t0 H locs ws tys ts) (hL : z_Lr sa (q_ad ws) ts vs L (q_ml i) ls) (hrv : z_Sr sa (q_ad ws) ts vs rr rv) (hx : ∀ X ∈ cx, z_Hy l base D sa g d i p e s m args below meth c Q w0 t0 vs0 X vs) (hf : ∀ o ∈ os, z_Fi l base D sa g d i p e s m args below meth c Q w0 t0 vs0 o)
    (hrun : va_Run p l e (q_rm d.1 (9 * d.2) (446 * d.2)) s m args below meth c H locs (9 * V.2.2.2.2.2) (446 * V.2.2.2.2.2) (9 * dd.2) (446 * dd.2) (F0 m pc ls sv) rv (z_Qc base D g.1 kc ws ts post a) (q_A base)) :
    W p l e (q_rm d.1 (9 * d.2) (446 * d.2)) s m args below meth c H locs (9 * V.2.2.2.2.2) (446 * V.2.2.2.2.2) Q (F0 m pc ls sv) := by
  refine z_after hrun hp.2.2.2.2.1 (fun v ws1 tys1 ts1 H1 locs1 h1 h2 h3 h4 h5 h6 h7 => ?_)
  obtain ⟨U, rt, o1, vs', k1, k2, k3, k4, k5, k6⟩ := haf v ws1 ts1 h4 h5 h6
  have z1 : 9 * V.2.2.2.2.2 + 9 * dd.2 = 9 * (V.2.2.2.2.2 + dd.2) := by omega
  have z2 : 446 * V.2.2.2.2.2 + 446 * dd.2 = 446 * (V.2.2.2.2.2 + dd.2) := by omega
  rw [z1, z2]
  exact z_go (hN U L (rt ++ rr) cx o1 hgx k1) hgx C ⟨h1, h2, h3, h4, h7, hp.2.2.2.2.2.trans (h5.wide hkc)⟩ k4 k3 (hL.mono k3 h5.2.1 h5.1) (k6.app (z_Sr.mono k3 h5.2.1 h5.1 hrv)) hx (fun o ho => hf o (k2 o ho)) k5
theorem z_s_virt {n : Nat} (hok : ∀ i, i < q_nM → q_mok i) (hC : z_HC l base D sa g J ih) (hmem : ∀ M ∈ g.2.2.2.2, z_Con l base D sa g.1 J M) (hd : decode (q_b i) pc = .ok (.invokevirtual n, ln)) (hk : q_lnk i pc ln (.invokevirtual n) x y z) (hgx : z_gx cx) (hN : z_HN l base D sa g J ih d i (pc + ln) tl sp) (hr : z_inv g q_code ih d i (q_code i) tl V L x y z st sp cx true = some os) : z_Ok l base D sa g J d i pc V L st cx os := by
  obtain ⟨hz9, pre, rr, e2, e3, hcat, hlen, hvirt, hcal⟩ := z_inv_inv hr
  rcases hk with hk | ⟨e1, hx, hym, hy, hdesc, hin, hsel, ⟨rc, hrc, hrc1⟩, hlk⟩
  · exact absurd hk hz9
  subst e1
  intro p e s m args below meth c Q w0 t0 vs0 H locs ls sv ws tys ts vs C hp hv hL hs hX hf
  rw [e2] at hs
  obtain ⟨pv, rv, rfl, hpv, hrv⟩ := hs.split
  have hav : z_Sr sa (q_ad ws) ts vs pre.reverse pv.reverse := hpv.rev
  obtain ⟨dd, kc, post, hd1, hd2, hkc, hM, haf⟩ := z_cal_s hok hC hmem hx hcal hlen hp hv hav C.2.2
  obtain ⟨a0, as1, eas, ha0, hk0, hk1⟩ := hvirt rfl
  have hal : pre.reverse.length = y := by rw [List.length_reverse, e3]
  rw [eas] at hav hal
  obtain ⟨va, As, eav, hva, hAs⟩ := hav.cons
  obtain ⟨b, j, rfl, v1, v2, v3⟩ := hva.nonnull hv.2.1 ha0
  obtain ⟨e9, he, hc⟩ := hp.1.cell v2 v3
  obtain ⟨fs, rfl, -⟩ := hc.obj hk0
  rw [hk1] at he
  rw [eav] at hM
  obtain ⟨k1, k2, k3, k4, k5, k6, -⟩ := hok x hx
  have hcs := z_cats_s hrv
  have hAl : As.length = y - 1 := by rw [hAs.len]; rw [List.length_cons] at hal; omega
  have hpvr : pv = As.reverse ++ [.ref b] := by
    have := congrArg List.reverse eav
    rw [List.reverse_reverse, List.reverse_cons] at this
    exact this
  obtain ⟨hll, lv, hl, -⟩ := id hL
  refine z_fin (dd := dd) hgx hN hkc haf C hp hL hrv hX hf (va_runV (Ts := q_w0) (own := (q_y i).cls) (C := (q_y x).cls) (nL := q_ml i) (As := As) (b := b) ⟨C.1.1, C.1.2.1, C.1.2.2.2.1, C.1.2.2.2.2.1, C.1.2.2.2.2.2.1⟩ hM ⟨callB_of (y - 1) C.1.2.2.2.2.2.1 (q_goodIn k1) rfl rfl rfl (C.1.2.2.2.2.2.1 _ k3) (C.1.2.2.2.2.2.1 _ hlk) ⟨k4, k5, hdesc⟩ ⟨hd1, by show 8 + (q_ml x + 11) + 40 * dd.1 ≤ 40 * d.1; omega⟩, C.1.2.2.2.2.2.1 _ hin, C.1.2.2.2.2.2.1 _ hsel⟩ ⟨z_blind, by rw [← hrc1]; exact va_recv hp.2.2.1 hp.2.1 hrc he, fun U hU hW => ⟨rfl, by rw [hU]; exact Nat.le_trans C.1.2.2.2.2.2.2.2.2.2 hp.2.2.2.2.1.1, q_X.warm hW C.1.2.2.2.2.2.2.1, C.2.1.go hW hU hp.2.2.2.2.1, tys, hp.1, by rw [hU]; exact hp.2.1, va_K.moved hW.alike hp.2.2.1, hp.2.2.2.1⟩⟩ rfl hAl hl.1 (by show pv ++ rv = _; rw [hpvr, List.append_assoc]; rfl) (lv_room (by omega)) hd ⟨?_, ?_⟩)
  · show 9 * V.2.2.2.2.2 + 9 * dd.2 ≤ 9 * d.2
    omega
  · show 446 * V.2.2.2.2.2 + 446 * dd.2 ≤ 446 * d.2
    omega
theorem z_s_stat {n : Nat} (hok : ∀ i, i < q_nM → q_mok i) (hC : z_HC l base D sa g J ih) (hmem : ∀ M ∈ g.2.2.2.2, z_Con l base D sa g.1 J M) (hz : ¬ z = 77) (hd : decode (q_b i) pc = .ok (.invokestatic n, ln)) (hk : q_lnk i pc ln (.invokestatic n) x y z) (hgx : z_gx cx) (hN : z_HN l base D sa g J ih d i (pc + ln) tl sp) (hr : z_inv g q_code ih d i (q_code i) tl V L x y z st sp cx false = some os) : z_Ok l base D sa g J d i pc V L st cx os := by
  obtain ⟨hz9, pre, rr, e2, e3, hcat, hlen, -, hcal⟩ := z_inv_inv hr
  rcases hk with hk | ⟨e1, hk | ⟨-, hx, hym, hdesc, hst, hlk⟩⟩
  · exact absurd hk hz9
  · exact absurd hk.1 hz
  subst e1
  intro p e s m args below meth c Q w0 t0 vs0 H locs ls sv ws tys ts vs C hp hv hL hs hX hf
  rw [e2] at hs
  obtain ⟨pv, rv, rfl, hpv, hrv⟩ := hs.split
  have hav : z_Sr sa (q_ad ws) ts vs pre.reverse pv.reverse := hpv.rev
  obtain ⟨dd, kc, post, hd1, hd2, hkc, hM, haf⟩ := z_cal_s hok hC hmem hx hcal hlen hp hv hav C.2.2
  have hal : pre.reverse.length = y := by rw [List.length_reverse, e3]
  obtain ⟨k1, k2, k3, k4, k5, k6, -⟩ := hok x hx
  have hcs := z_cats_s hrv
  have hAl : pv.reverse.length = y := by rw [hav.len, hal]
  obtain ⟨hll, lv, hl, -⟩ := id hL
  have hPre : PreS s H (z_Pc base D sa g.1 pv.reverse ws ts) pv.reverse := ⟨z_blind, fun U hU hW => ⟨rfl, by rw [hU]; exact Nat.le_trans C.1.2.2.2.2.2.2.2.2.2 hp.2.2.2.2.1.1, q_X.warm hW C.1.2.2.2.2.2.2.1, C.2.1.go hW hU hp.2.2.2.2.1, tys, hp.1, by rw [hU]; exact hp.2.1, va_K.moved hW.alike hp.2.2.1, hp.2.2.2.1⟩⟩
  have hrm : (q_rm dd.1 (9 * dd.2) (446 * dd.2)).frames + 1 ≤ (q_rm d.1 (9 * d.2) (446 * d.2)).frames ∧ 8 + (q_ml x + 11) + (q_rm dd.1 (9 * dd.2) (446 * dd.2)).locals ≤ (q_rm d.1 (9 * d.2) (446 * d.2)).locals := ⟨hd1, by show 8 + (q_ml x + 11) + 40 * dd.1 ≤ 40 * d.1; omega⟩
  have hfc : 9 * V.2.2.2.2.2 + 9 * dd.2 ≤ (q_rm d.1 (9 * d.2) (446 * d.2)).cells ∧ 446 * V.2.2.2.2.2 + 446 * dd.2 ≤ (q_rm d.1 (9 * d.2) (446 * d.2)).slots := ⟨by show 9 * V.2.2.2.2.2 + 9 * dd.2 ≤ 9 * d.2; omega, by show 446 * V.2.2.2.2.2 + 446 * dd.2 ≤ 446 * d.2; omega⟩
  rcases hlk with hlk | ⟨host, hlk⟩
  · exact z_fin (dd := dd) hgx hN hkc haf C hp hL hrv hX hf (va_runS (Ts := q_w0) (own := (q_y i).cls) (nL := q_ml i) (As := pv.reverse) ⟨C.1.1, C.1.2.1, C.1.2.2.2.1, C.1.2.2.2.2.1, C.1.2.2.2.2.2.1⟩ hM ⟨callB_of y C.1.2.2.2.2.2.1 (q_goodIn k1) rfl rfl rfl (C.1.2.2.2.2.2.1 _ k3) (C.1.2.2.2.2.2.1 _ hlk) ⟨k4, k5, hdesc⟩ hrm, C.1.2.2.2.2.2.1 _ hst⟩ hPre rfl hAl hl.1 (by show pv ++ rv = _; rw [List.reverse_reverse]) (lv_room (by omega)) hd hfc)
  · exact z_fin (dd := dd) hgx hN hkc haf C hp hL hrv hX hf (va_runSN (Ts := q_w0) (own := (q_y i).cls) (nL := q_ml i) (As := pv.reverse) ⟨C.1.1, C.1.2.1, C.1.2.2.2.1, C.1.2.2.2.2.1, C.1.2.2.2.2.2.1⟩ hM ⟨va_cnB y C.1.2.2.2.2.2.1 (q_goodIn k1) rfl rfl rfl (C.1.2.2.2.2.2.2.1.1 _ hlk) (C.1.2.2.2.2.2.1 _ k3) ⟨k4, k5, hdesc⟩ hrm, C.1.2.2.2.2.2.1 _ hst, trivial⟩ hPre rfl hAl hl.1 (by show pv ++ rv = _; rw [List.reverse_reverse]) (lv_room (by omega)) hd hfc)
end ZI
end
section
/-! ===== arraycopy ===== -/
section ZI
variable {l : Launch} {base : Nat} {D : va_G} {sa : Nat → Nat} {g : z_G} {J : va_W → List Nat → Prop} {ih : z_F} {d : Nat × Nat} {i pc ln x y z : Nat} {tl : List q_I} {V : z_V} {L st : List z_C} {sp : List Nat} {cx : List z_X} {os : List z_O}
theorem z_zero {ad ts : List Nat} {vs : List Value} {c : z_C} {v : Value} (hE : z_E V vs) (h : z_v sa ad ts vs c v) (hc : z_ceq c (0, 0, 2147483648) = true) : v = .int 0 := by
  have h5 := z_ceq_eq hc
  subst h5
  obtain ⟨y0, ey, ey2⟩ := h.con hE
  have e0 : y0 = 0 := (q_eq_iff y0 0).mpr (by rw [ey2, z_qb0])
  rw [ey, e0]
theorem z_s_copy {n : Nat} (hz : z = 77) (ho : Cond.native arraycopyName ∈ q_w0 ∧ Cond.static arraycopyName ∈ q_w0 ∧ Cond.initialized "java/lang/System" ∈ q_w0) (hd : decode (q_b i) pc = .ok (.invokestatic n, ln)) (hk : q_lnk i pc ln (.invokestatic n) x y z) (hgx : z_gx cx) (hN : z_HN l base D sa g J ih d i (pc + ln) tl sp) (hr : z_cpy g ih d i (q_code i) tl V L st sp cx = some os) : z_Ok l base D sa g J d i pc V L st cx os := by
  rcases hk with hk | ⟨e1, hk | hk⟩
  · omega
  · subst e1
    subst hz
    match st, hr with
    | [], hr => cases hr
    | [_], hr => cases hr
    | [_, _], hr => cases hr
    | [_, _, _], hr => cases hr
    | [_, _, _, _], hr => cases hr
    | nn :: dp :: b :: s0 :: a :: rr, hr =>
      have hr : (bif z_cpk g V nn dp b s0 a && (z_cpt g b a && (Nat.ble (z_cats rr) 8 && Nat.ble 1 d.1)) then ih d i (q_code i) tl (z_setF V (z_flt (z_kq V (b.2.2, 2147483648, Nat.add 2147483647 (g.1 b.2.2).2.1)) V.2.2.2.1)) L rr sp cx else none) = some os := hr
      obtain ⟨h1, hr2⟩ := q_bifs hr
      clear hr
      obtain ⟨h1, h2⟩ := q_ands h1
      obtain ⟨h2, h3⟩ := q_ands h2
      obtain ⟨h3, h4⟩ := q_ands h3
      have h3 := q_ble.mp h3
      have h4 := q_ble.mp h4
      unfold z_cpk at h1
      obtain ⟨a1, h1⟩ := q_ands h1
      obtain ⟨b1, h1⟩ := q_ands h1
      obtain ⟨a2, h1⟩ := q_ands h1
      obtain ⟨b2, h1⟩ := q_ands h1
      obtain ⟨d1, h1⟩ := q_ands h1
      obtain ⟨s1, h1⟩ := q_ands h1
      obtain ⟨n1, h1⟩ := q_ands h1
      obtain ⟨n2, h1⟩ := q_ands h1
      obtain ⟨n3, n4⟩ := q_ands h1
      have a2 := q_beq.mp a2
      have b2 := q_beq.mp b2
      have n1 := q_beq.mp n1
      have n2 := z_po_iff.mp n2
      have n3 := q_ble.mp n3
      have n4 := q_ble.mp n4
      clear h1
      unfold z_cpt at h2
      obtain ⟨c1, h2⟩ := q_ands h2
      obtain ⟨c2, h2⟩ := q_ands h2
      obtain ⟨c3, h2⟩ := q_ands h2
      obtain ⟨c4, h2⟩ := q_ands h2
      obtain ⟨c5, h2⟩ := q_ands h2
      obtain ⟨c6, c7⟩ := q_ands h2
      have c1 := q_ble.mp c1
      have c2 := q_ble.mp c2
      have c3 := q_ble.mp c3
      have c4 := q_ble.mp c4
      have c6 := q_ble.mp c6
      have c7 := q_ble.mp c7
      clear h2
      intro p e s m args below meth c Q w0 t0 vs0 H locs ls sv ws tys ts vs C hp hv hL hs hx hf
      obtain ⟨vn, sv1, rfl, hvn, hs1⟩ := hs.cons
      obtain ⟨vd, sv2, rfl, hvd, hs2⟩ := hs1.cons
      obtain ⟨vb, sv3, rfl, hvb, hs3⟩ := hs2.cons
      obtain ⟨v9, sv4, rfl, hv9, hs4⟩ := hs3.cons
      obtain ⟨va, sv5, rfl, hva, hs5⟩ := hs4.cons
      have hz1 := z_zero hv.2.1 hvd d1
      have hz2 := z_zero hv.2.1 hv9 s1
      subst hz1
      subst hz2
      obtain ⟨q, ja, rfl, u1, u2, u3⟩ := hva.nonnull hv.2.1 a1
      obtain ⟨r, jb, rfl, w1, w2, w3⟩ := hvb.nonnull hv.2.1 b1
      obtain ⟨ea, hea, hca⟩ := hp.1.cell u2 u3
      obtain ⟨eb, heb, hcb⟩ := hp.1.cell w2 w3
      obtain ⟨cA, t, f, rfl, ht, hbd⟩ := hca.ints a2
      obtain ⟨cB, t2, f2, rfl, ht2, hbd2⟩ := hcb.ints b2
      obtain ⟨_, xn, -, rfl, -⟩ := id (hvn.int n1)
      have hb := z_il_le hv.2.1 hvn n1
      obtain ⟨k0, hk0, rfl, ek0⟩ := z_nat (x := xn) (by omega)
      generalize hLa : (g.1 a.2.2).2.1 = La at *
      generalize hLb : (g.1 b.2.2).2.1 = Lb at *
      have c5 : z_kw g.2.1 b.2.2 2147483648 (2147483647 + Lb) = true := c5
      have hr3 : ih d i (q_code i) tl (z_setF V (z_flt (z_kq V (b.2.2, 2147483648, 2147483647 + Lb)) V.2.2.2.1)) L rr sp cx = some os := hr2
      have n3 : z_ih V nn ≤ 2147483648 + La := n3
      have n4 : z_ih V nn ≤ 2147483648 + Lb := n4
      have k1 : k0 ≤ La := by omega
      have k2 : k0 ≤ Lb := by omega
      have z0 : (0 : Int32).toNatClampNeg = 0 := by decide
      have zn : (nI k0).toNatClampNeg = k0 := nI_clamp (by omega)
      have hc2 : z_cell (q_ad ws) ts tys (g.1 b.2.2) (.inl (cB, Lb, .inl (va_cpy f f2 0 0 k0))) := Or.inr (Or.inl ⟨b2, cB, t2, _, by rw [hLb], ht2, fun j hj => by
        rcases Nat.lt_or_ge j k0 with hj2 | hj2
        · have e9 : va_cpy f f2 0 0 k0 j = f j := by rw [pk_cpy_in (Nat.zero_le _) (by omega)]; simp
          rw [e9]
          have hj3 := hbd j (by omega)
          have p1 := z_hu_s (g.1 a.2.2).2.2.1 0 ((g.1 a.2.2).2.2.2.1 - 1) (j % (g.1 a.2.2).2.2.2.1) (Nat.zero_le _) (by have := Nat.mod_lt j (show (g.1 a.2.2).2.2.2.1 > 0 by omega); omega)
          have p2 := z_na_s (g.1 b.2.2).2.2.1 0 ((g.1 b.2.2).2.2.2.1 - 1) (j % (g.1 b.2.2).2.2.2.1) (Nat.zero_le _) (by have := Nat.mod_lt j (show (g.1 b.2.2).2.2.2.1 > 0 by omega); omega)
          exact ⟨Nat.le_trans p2.1 (Nat.le_trans c6 (Nat.le_trans p1.1 hj3.1)), Nat.le_trans hj3.2 (Nat.le_trans p1.2 (Nat.le_trans c7 p2.2))⟩
        · have e9 : va_cpy f f2 0 0 k0 j = f2 j := pk_cpy_out (by omega)
          rw [e9]
          exact hbd2 j (by rw [hLb] at hj; exact hj)⟩)
      obtain ⟨hll, lv, hl, -⟩ := id hL
      have hcs := z_cats_s hs5
      refine va_copyi (ty := .int) C.1.1 C.1.2.1 (C.1.2.2.2.1.trans hl.1.symm) C.1.2.2.2.2.1 (C.1.2.2.2.2.2.1 _ hk.2) (C.1.2.2.2.2.2.1 _ ho.1) (C.1.2.2.2.2.2.1 _ ho.2.1) (C.1.2.2.2.2.2.1 _ ho.2.2) hp.2.2.1 hp.2.1 hp.2.2.2.1 hp.2.2.2.2.1 ja jb t t2 hea heb ht ht2 rfl (by decide) (by decide) (nI_pos (by omega)) (by rw [z0, zn]; omega) (by rw [z0, zn]; omega) (fun _ _ => rfl) (by show 1 ≤ d.1; exact h4) ?_ hd (fun H1 locs1 hP1 hD1 hS1 => ?_)
      · have e8 : nativeFrameWords "java/lang/System" "arraycopy" 5 = 7 := by decide +kernel
        rw [e8]
        show _ ≤ 40 * d.1
        omega
      · rw [z0, zn] at hP1 hD1
        have hin : ∀ (kw : List z_C), z_kw kw b.2.2 2147483648 (2147483647 + Lb) = true → ∀ k v, z_at (.inl (cB, Lb, .inl f2)) k = some v → ¬ z_wr kw b.2.2 k → z_at (.inl (cB, Lb, .inl (va_cpy f f2 0 0 k0))) k = some v := fun kw hkw k v hk9 hw9 => by
          have hk9 : (if k < Lb then some (Value.int (f2 k)) else none) = some v := hk9
          have hlt : k < Lb := by
            rcases Nat.lt_or_ge k Lb with h | h
            · exact h
            · rw [if_neg (by omega)] at hk9; cases hk9
          exact absurd (z_wr.of hkw (by omega) (by omega)) hw9
        have hp2 := hp.set heb w3 hc2 (hin g.2.1 c5) hP1 hD1 hS1
        have hfr : z_Fr [(b.2.2, 2147483648, 2147483647 + Lb)] ws ts (ws.set jb (r, .inl (cB, Lb, .inl (va_cpy f f2 0 0 k0)))) ts := (z_Fr.rf _ ws ts).set heb w3 (hin _ (z_kw_iff.mpr ⟨_, List.mem_singleton.mpr rfl, rfl, Nat.le_refl _, Nat.le_refl _⟩))
        have hF3 := z_keeps (F' := z_flt (z_kq V (b.2.2, 2147483648, 2147483647 + Lb)) V.2.2.2.1) hv.2.1 hv.2.2.1 hfr (fun f9 hf9 => by
          obtain ⟨f1, f2⟩ := z_flt_mem.mp hf9
          exact ⟨f1, fun k hk => by rw [List.mem_singleton.mp hk]; exact f2⟩)
        exact z_go (hN _ L rr cx os hgx hr3) hgx C hp2 (hv.setF hF3 hfr.2.1 List.prefix_rfl) List.prefix_rfl (hL.mono List.prefix_rfl hfr.2.1 List.prefix_rfl) (z_Sr.mono List.prefix_rfl hfr.2.1 List.prefix_rfl hs5) hx hf (n := V.2.2.2.2.2) (z_setF_m V _)
  · exact absurd hz hk.1
end ZI
end
section
/-! ===== loops ===== -/
section ZT
variable {sa : Nat → Nat} {ad ts : List Nat} {vs vs' : List Value}
theorem z_v.low {n : Nat} {c : z_C} {v : Value} (h : z_v sa ad ts vs c v) (hv : ∀ k, k < n → vs'[k]? = vs[k]?) (hc : c.2.1 < n) : z_v sa ad ts vs' c v := by
  have e := hv _ hc
  unfold z_v
  rw [e]
  exact h
theorem z_v.one {c : z_C} {u v : Value} (h : z_v sa ad ts vs c u) (h2 : z_v sa ad ts vs c v) (hc : c.1 = 0 ∨ c.1 = 3) : u = v := by
  rcases hc with hc | hc
  · obtain ⟨_, x, -, rfl, -⟩ := id (h.int hc)
    obtain ⟨_, y, -, rfl, -⟩ := id (h2.int hc)
    rw [h.inj h2 hc]
  · obtain ⟨x, rfl, h3⟩ := h.lng hc
    obtain ⟨y, rfl, h4⟩ := h2.lng hc
    rcases h3 with ⟨h5, h6⟩ | ⟨h5, h6⟩
    · rcases h4 with ⟨h7, h8⟩ | ⟨h7, h8⟩
      · rw [h6, h8]
      · omega
    · rcases h4 with ⟨h7, h8⟩ | ⟨h7, h8⟩
      · omega
      · rw [h6] at h8
        cases h8
        rfl
/-- a code of the template, back -/
theorem z_sb_s {n m : Nat} {th : List z_C} {u : List Value} {c : z_C} {v : Value} (hn : 1 ≤ n) (hm : th.length = m) (hu : z_Sr sa ad ts vs th u) (hlow : ∀ k, k < n → vs'[k]? = vs[k]?) (hnew : ∀ q, q < m → vs'[n + q]? = u[q]?) (h : z_v sa ad ts vs (z_sb n m th c) v) : z_v sa ad ts vs' c v := by
  unfold z_sb at h
  cases h1 : Nat.blt c.2.1 n with
  | true =>
    rw [q_ift _ _ h1] at h
    exact h.low hlow (q_blt.mp h1)
  | false =>
    rw [q_iff _ _ h1] at h
    have h1 : ¬ c.2.1 < n := fun h9 => by rw [q_blt.mpr h9] at h1; cases h1
    have h8 : ∀ v, ¬ z_v sa ad ts vs (8, 0, 0) v := fun v hv => by
      rcases hv with ⟨h9, _⟩ | ⟨h9, _⟩ | ⟨h9, _⟩ | ⟨h9, _⟩ | ⟨h9, _⟩ <;> cases h9
    cases h2 : (Nat.blt c.2.1 (Nat.add n m) && (z_ceq c (0, c.2.1, 2147483648) || z_ceq c (3, c.2.1, 0))) with
    | false =>
      rw [q_iff _ _ h2] at h
      exact absurd h (h8 v)
    | true =>
      rw [q_ift _ _ h2] at h
      obtain ⟨h2, h3⟩ := q_ands h2
      have h2 : c.2.1 < n + m := q_blt.mp h2
      generalize hq : Nat.sub c.2.1 n = q at h
      have hq : c.2.1 - n = q := hq
      have hq2 : c.2.1 = n + q := by omega
      have h : z_v sa ad ts vs (bif Nat.beq (z_nth th q).1 c.1 then z_nth th q else (8, 0, 0)) v := h
      cases h4 : Nat.beq (z_nth th q).1 c.1 with
      | false =>
        rw [q_iff _ _ h4] at h
        exact absurd h (h8 v)
      | true =>
        rw [q_ift _ _ h4] at h
        have h4 := q_beq.mp h4
        have hc03 : c.1 = 0 ∨ c.1 = 3 := by
          rcases q_ors h3 with h5 | h5
          · rw [z_ceq_eq h5]; exact Or.inl rfl
          · rw [z_ceq_eq h5]; exact Or.inr rfl
        obtain ⟨w, hw1, hw2⟩ := hu.nth q (by omega)
        have ew := h.one hw2 (by omega)
        subst ew
        have hv9 : vs'[c.2.1]? = some v := by rw [hq2, hnew q (by omega)]; exact hw1
        rcases q_ors h3 with h5 | h5
        · have h5 := z_ceq_eq h5
          rw [h5] at h4 ⊢
          obtain ⟨_, y, -, rfl, -⟩ := id (h.int h4)
          exact Or.inl ⟨rfl, y, y, hv9, rfl, rfl⟩
        · have h5 := z_ceq_eq h5
          rw [h5] at h4 ⊢
          obtain ⟨x, rfl, -⟩ := h.lng h4
          exact Or.inr (Or.inr (Or.inr (Or.inl ⟨rfl, Or.inr ⟨by show ¬ c.2.1 = 0; omega, hv9, x, rfl⟩⟩)))
theorem z_mL_s {n m : Nat} {th : List z_C} : ∀ {T L : List z_C}, z_mL n m th T L = true → T.length = L.length ∧ ∀ (j : Nat) (c : z_C), T[j]? = some c → c.1 = 9 ∨ L[j]? = some (z_sb n m th c)
  | [], [], _ => ⟨rfl, fun j c h => by cases h⟩
  | [], _ :: _, h => by cases h
  | _ :: _, [], h => by cases h
  | t :: T, d :: L, h => by
    have h : ((Nat.beq t.1 9 || z_ceq (z_sb n m th t) d) && z_mL n m th T L) = true := h
    obtain ⟨h1, h2⟩ := q_ands h
    obtain ⟨h3, h4⟩ := z_mL_s h2
    refine ⟨by rw [List.length_cons, List.length_cons, h3], fun j c hj => ?_⟩
    match j, hj with
    | 0, hj =>
      cases hj
      rcases q_ors h1 with h5 | h5
      · exact Or.inl (q_beq.mp h5)
      · exact Or.inr (by rw [z_ceq_eq h5]; rfl)
    | j + 1, hj => exact h4 j c hj
end ZT
end
